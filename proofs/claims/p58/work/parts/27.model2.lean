noncomputable section
def C317_21 (x1 : Int) (x2 : Int) (d3 : Option AV) (d4 : Option AV) (σ : Sg) (o : Rs) : Prop := Gd 317 21 [(some (.inr (.inr (some 682)))), (some (.inl x1)), (some (.inl x2)), d3, d4] [(.inr (.inr (some 682)))] σ 0 0 o
def C317_22 (x1 : Int) (x2 : Int) (d3 : Option AV) (d4 : Option AV) (y1 : Int) (σ : Sg) (o : Rs) : Prop := Gd 317 22 [(some (.inr (.inr (some 682)))), (some (.inl x1)), (some (.inl x2)), d3, d4] [(.inl y1), (.inr (.inr (some 682)))] σ 0 0 o
def C317_65 (x1 : Int) (x2 : Int) (d3 : Option AV) (d4 : Option AV) (y0 : Int) (σ : Sg) (o : Rs) : Prop := Gd 317 65 [(some (.inr (.inr (some 682)))), (some (.inl x1)), (some (.inl x2)), d3, d4] [(.inl y0)] σ 0 0 o
def C317_64 (x1 : Int) (x2 : Int) (d3 : Option AV) (d4 : Option AV) (σ : Sg) (o : Rs) : Prop := Gd 317 64 [(some (.inr (.inr (some 682)))), (some (.inl x1)), (some (.inl x2)), d3, d4] [] σ 0 0 o
def C317_69 (x1 : Int) (x2 : Int) (x3 : Int) (x4 : Int) (σ : Sg) (o : Rs) : Prop := Gd 317 69 [(some (.inr (.inr (some 682)))), (some (.inl x1)), (some (.inl x2)), (some (.inl x3)), (some (.inl x4))] [] σ 0 0 o
def C317_150 (x1 : Int) (x2 : Int) (x3 : Int) (d4 : Option AV) (σ : Sg) (o : Rs) : Prop := Gd 317 150 [(some (.inr (.inr (some 682)))), (some (.inl x1)), (some (.inl x2)), (some (.inl x3)), d4] [] σ 0 0 o
def C317_143 (x1 : Int) (x2 : Int) (d3 : Option AV) (x4 : Int) (y0 : Int) (σ : Sg) (o : Rs) : Prop := Gd 317 143 [(some (.inr (.inr (some 682)))), (some (.inl x1)), (some (.inl x2)), d3, (some (.inl x4))] [(.inl y0)] σ 0 0 o
def C317_142 (x1 : Int) (x2 : Int) (d3 : Option AV) (x4 : Int) (σ : Sg) (o : Rs) : Prop := Gd 317 142 [(some (.inr (.inr (some 682)))), (some (.inl x1)), (some (.inl x2)), d3, (some (.inl x4))] [] σ 0 0 o
def C317_153 (x1 : Int) (x2 : Int) (x3 : Int) (x4 : Int) (σ : Sg) (o : Rs) : Prop := Gd 317 153 [(some (.inr (.inr (some 682)))), (some (.inl x1)), (some (.inl x2)), (some (.inl x3)), (some (.inl x4))] [] σ 0 0 o
def C317_200 (x1 : Int) (x2 : Int) (d3 : Option AV) (x4 : Int) (y0 : Int) (σ : Sg) (o : Rs) : Prop := Gd 317 200 [(some (.inr (.inr (some 682)))), (some (.inl x1)), (some (.inl x2)), d3, (some (.inl x4))] [(.inl y0)] σ 0 0 o
theorem b317_21 {x1 : Int} {x2 : Int} {d3 : Option AV} {d4 : Option AV} {σ : Sg} {o : Rs}   (h : C317_22 x1 x2 d3 d4 1 σ o) : C317_21 x1 x2 d3 d4 σ o := by
  show Gd 317 21 [(some (.inr (.inr (some 682)))), (some (.inl x1)), (some (.inl x2)), d3, d4] [(.inr (.inr (some 682)))] σ 0 0 o
  refine g_iconst 22 (show op 317 21 = some (.iconst 1, 1) by decide +kernel) rfl rfl ?_
  exact h
theorem b317_22 {x1 : Int} {x2 : Int} {d3 : Option AV} {d4 : Option AV} {y1 : Int} {σ : Sg} {o : Rs}   (h : (∃ (v2 : Int) (s1 : Sg), Dd 245 [(.inr (.inr (some 682))), (.inl y1)] σ (.inl (some (.inl v2)), s1) ∧ (if v2 = 0 then o = (.inl (some (.inl 0)), s1) else (0 ≤ x1 ∧ x1 < 44) ∧ (0 ≤ x2 ∧ x2 < 44) ∧ (if (s1 688 (x1).toNat) = (s1 688 (x2).toNat) then (0 ≤ x1 ∧ x1 < 44) ∧ (0 ≤ x2 ∧ x2 < 44) ∧ (if (s1 689 (x1).toNat) = (s1 689 (x2).toNat) then C317_65 x1 x2 d3 d4 1 s1 o else C317_64 x1 x2 d3 d4 s1 o) else C317_64 x1 x2 d3 d4 s1 o)))) : C317_22 x1 x2 d3 d4 y1 σ o := by
  show Gd 317 22 [(some (.inr (.inr (some 682)))), (some (.inl x1)), (some (.inl x2)), d3, d4] [(.inl y1), (.inr (.inr (some 682)))] σ 0 0 o
  obtain ⟨v2, s1, hD3, h⟩ := h
  refine g_call 25 [(.inl v2)] (show op 317 22 = some (.invokevirtual 172, 3) by decide +kernel) (call_vi' (k' := 0) (n' := 0) (nj := 2) (j := 245) (k9 := 21) (t := []) (as := [(.inr (.inr (some 682))), (.inl y1)]) (by decide +kernel) rfl (by decide +kernel) rfl rfl rfl rfl rfl rfl (by decide +kernel) (by decide +kernel)) hD3 rfl ?_
  by_cases hc8 : v2 = 0
  · rw [if_pos hc8] at h
    refine g_ifF 28 30 (show op 317 25 = some (.ifCond .ne 5, 3) by decide +kernel) rfl rfl (decide_eq_false (fun h9 => h9 hc8)) ?_
    refine g_iconst 29 (show op 317 28 = some (.iconst 0, 1) by decide +kernel) rfl rfl ?_
    exact (g_zret (show op 317 29 = some (.ireturn, 1) by decide +kernel) (by decide +kernel) (by decide) h)
  · rw [if_neg hc8] at h
    refine g_ifT 30 (show op 317 25 = some (.ifCond .ne 5, 3) by decide +kernel) rfl (decide_eq_true hc8) ?_
    refine g_aload_n 31 (show op 317 30 = some (.aload_n 0, 1) by decide +kernel) rfl rfl ?_
    refine g_getR (ci := 11) (f := 7) (fin := true) (isR := true) 34 688 (show op 317 31 = some (.getfield 25, 3) by decide +kernel) rfl (by decide +kernel) (by decide +kernel) ?_
    refine g_iload_n 35 (show op 317 34 = some (.iload_n 1, 1) by decide +kernel) rfl rfl ?_
    obtain ⟨g4, h⟩ := h
    refine g_iaload 36 44 (show op 317 35 = some (.iaload, 1) by decide +kernel) rfl (by decide +kernel) g4 ?_
    refine g_aload_n 37 (show op 317 36 = some (.aload_n 0, 1) by decide +kernel) rfl rfl ?_
    refine g_getR (ci := 11) (f := 7) (fin := true) (isR := true) 40 688 (show op 317 37 = some (.getfield 25, 3) by decide +kernel) rfl (by decide +kernel) (by decide +kernel) ?_
    refine g_iload_n 41 (show op 317 40 = some (.iload_n 2, 1) by decide +kernel) rfl rfl ?_
    obtain ⟨g5, h⟩ := h
    refine g_iaload 42 44 (show op 317 41 = some (.iaload, 1) by decide +kernel) rfl (by decide +kernel) g5 ?_
    by_cases hc9 : (s1 688 (x1).toNat) = (s1 688 (x2).toNat)
    · rw [if_pos hc9] at h
      refine g_icmpF 45 64 (show op 317 42 = some (.if_icmp .ne 22, 3) by decide +kernel) rfl rfl (decide_eq_false (fun h9 => h9 hc9)) ?_
      refine g_aload_n 46 (show op 317 45 = some (.aload_n 0, 1) by decide +kernel) rfl rfl ?_
      refine g_getR (ci := 11) (f := 8) (fin := true) (isR := true) 49 689 (show op 317 46 = some (.getfield 28, 3) by decide +kernel) rfl (by decide +kernel) (by decide +kernel) ?_
      refine g_iload_n 50 (show op 317 49 = some (.iload_n 1, 1) by decide +kernel) rfl rfl ?_
      obtain ⟨g6, h⟩ := h
      refine g_iaload 51 44 (show op 317 50 = some (.iaload, 1) by decide +kernel) rfl (by decide +kernel) g6 ?_
      refine g_aload_n 52 (show op 317 51 = some (.aload_n 0, 1) by decide +kernel) rfl rfl ?_
      refine g_getR (ci := 11) (f := 8) (fin := true) (isR := true) 55 689 (show op 317 52 = some (.getfield 28, 3) by decide +kernel) rfl (by decide +kernel) (by decide +kernel) ?_
      refine g_iload_n 56 (show op 317 55 = some (.iload_n 2, 1) by decide +kernel) rfl rfl ?_
      obtain ⟨g7, h⟩ := h
      refine g_iaload 57 44 (show op 317 56 = some (.iaload, 1) by decide +kernel) rfl (by decide +kernel) g7 ?_
      by_cases hc10 : (s1 689 (x1).toNat) = (s1 689 (x2).toNat)
      · rw [if_pos hc10] at h
        refine g_icmpF 60 64 (show op 317 57 = some (.if_icmp .ne 7, 3) by decide +kernel) rfl rfl (decide_eq_false (fun h9 => h9 hc10)) ?_
        refine g_iconst 61 (show op 317 60 = some (.iconst 1, 1) by decide +kernel) rfl rfl ?_
        refine g_goto 65 (show op 317 61 = some (.goto 4, 3) by decide +kernel) rfl ?_
        exact h
      · rw [if_neg hc10] at h
        refine g_icmpT 64 (show op 317 57 = some (.if_icmp .ne 7, 3) by decide +kernel) rfl (decide_eq_true hc10) ?_
        exact h
    · rw [if_neg hc9] at h
      refine g_icmpT 64 (show op 317 42 = some (.if_icmp .ne 22, 3) by decide +kernel) rfl (decide_eq_true hc9) ?_
      exact h
theorem b317_65 {x1 : Int} {x2 : Int} {d3 : Option AV} {d4 : Option AV} {y0 : Int} {σ : Sg} {o : Rs}   (h : C317_69 x1 x2 y0 0 σ o) : C317_65 x1 x2 d3 d4 y0 σ o := by
  show Gd 317 65 [(some (.inr (.inr (some 682)))), (some (.inl x1)), (some (.inl x2)), d3, d4] [(.inl y0)] σ 0 0 o
  refine g_istore_n 66 [(some (.inr (.inr (some 682)))), (some (.inl x1)), (some (.inl x2)), (some (.inl y0)), d4] (show op 317 65 = some (.istore_n 3, 1) by decide +kernel) rfl rfl rfl ?_
  refine g_iconst 67 (show op 317 66 = some (.iconst 0, 1) by decide +kernel) rfl rfl ?_
  refine g_istore 69 [(some (.inr (.inr (some 682)))), (some (.inl x1)), (some (.inl x2)), (some (.inl y0)), (some (.inl 0))] (show op 317 67 = some (.istore 4, 2) by decide +kernel) rfl rfl rfl ?_
  exact h
theorem b317_64 {x1 : Int} {x2 : Int} {d3 : Option AV} {d4 : Option AV} {σ : Sg} {o : Rs}   (h : C317_65 x1 x2 d3 d4 0 σ o) : C317_64 x1 x2 d3 d4 σ o := by
  show Gd 317 64 [(some (.inr (.inr (some 682)))), (some (.inl x1)), (some (.inl x2)), d3, d4] [] σ 0 0 o
  refine g_iconst 65 (show op 317 64 = some (.iconst 0, 1) by decide +kernel) rfl rfl ?_
  exact h
theorem b317_69 {x1 : Int} {x2 : Int} {x3 : Int} {x4 : Int} {σ : Sg} {o : Rs}   (h : (0 ≤ x1 ∧ x1 < 44) ∧ (if x4 < (σ 688 (x1).toNat) then (if x3 = 0 then C317_150 x1 x2 x3 (some (.inl x4)) σ o else (-2147483648 ≤ (100 * x1) ∧ (100 * x1) ≤ 2147483647) ∧ (-2147483648 ≤ ((100 * x1) + x4) ∧ ((100 * x1) + x4) ≤ 2147483647) ∧ (0 ≤ ((100 * x1) + x4) ∧ ((100 * x1) + x4) < 4400) ∧ (-2147483648 ≤ (100 * x2) ∧ (100 * x2) ≤ 2147483647) ∧ (-2147483648 ≤ ((100 * x2) + x4) ∧ ((100 * x2) + x4) ≤ 2147483647) ∧ (0 ≤ ((100 * x2) + x4) ∧ ((100 * x2) + x4) < 4400) ∧ (if (σ 685 (((100 * x1) + x4)).toNat) = (σ 685 (((100 * x2) + x4)).toNat) then (-2147483648 ≤ (100 * x1) ∧ (100 * x1) ≤ 2147483647) ∧ (-2147483648 ≤ ((100 * x1) + x4) ∧ ((100 * x1) + x4) ≤ 2147483647) ∧ (0 ≤ ((100 * x1) + x4) ∧ ((100 * x1) + x4) < 4400) ∧ (-2147483648 ≤ (100 * x2) ∧ (100 * x2) ≤ 2147483647) ∧ (-2147483648 ≤ ((100 * x2) + x4) ∧ ((100 * x2) + x4) ≤ 2147483647) ∧ (0 ≤ ((100 * x2) + x4) ∧ ((100 * x2) + x4) < 4400) ∧ (if (σ 687 (((100 * x1) + x4)).toNat) = (σ 687 (((100 * x2) + x4)).toNat) then C317_143 x1 x2 (some (.inl x3)) x4 1 σ o else C317_142 x1 x2 (some (.inl x3)) x4 σ o) else C317_142 x1 x2 (some (.inl x3)) x4 σ o)) else C317_150 x1 x2 x3 (some (.inl x4)) σ o)) : C317_69 x1 x2 x3 x4 σ o := by
  show Gd 317 69 [(some (.inr (.inr (some 682)))), (some (.inl x1)), (some (.inl x2)), (some (.inl x3)), (some (.inl x4))] [] σ 0 0 o
  refine g_iload 71 (show op 317 69 = some (.iload 4, 2) by decide +kernel) rfl rfl ?_
  refine g_aload_n 72 (show op 317 71 = some (.aload_n 0, 1) by decide +kernel) rfl rfl ?_
  refine g_getR (ci := 11) (f := 7) (fin := true) (isR := true) 75 688 (show op 317 72 = some (.getfield 25, 3) by decide +kernel) rfl (by decide +kernel) (by decide +kernel) ?_
  refine g_iload_n 76 (show op 317 75 = some (.iload_n 1, 1) by decide +kernel) rfl rfl ?_
  obtain ⟨g1, h⟩ := h
  refine g_iaload 77 44 (show op 317 76 = some (.iaload, 1) by decide +kernel) rfl (by decide +kernel) g1 ?_
  by_cases hc14 : x4 < (σ 688 (x1).toNat)
  · rw [if_pos hc14] at h
    refine g_icmpF 80 150 (show op 317 77 = some (.if_icmp .ge 73, 3) by decide +kernel) rfl rfl (decide_eq_false (Int.not_le.mpr hc14)) ?_
    refine g_iload_n 81 (show op 317 80 = some (.iload_n 3, 1) by decide +kernel) rfl rfl ?_
    by_cases hc15 : x3 = 0
    · rw [if_pos hc15] at h
      refine g_ifT 150 (show op 317 81 = some (.ifCond .eq 69, 3) by decide +kernel) rfl (decide_eq_true hc15) ?_
      exact h
    · rw [if_neg hc15] at h
      refine g_ifF 84 150 (show op 317 81 = some (.ifCond .eq 69, 3) by decide +kernel) rfl rfl (decide_eq_false hc15) ?_
      refine g_aload_n 85 (show op 317 84 = some (.aload_n 0, 1) by decide +kernel) rfl rfl ?_
      refine g_getR (ci := 11) (f := 4) (fin := true) (isR := true) 88 685 (show op 317 85 = some (.getfield 16, 3) by decide +kernel) rfl (by decide +kernel) (by decide +kernel) ?_
      refine g_bipush 90 (show op 317 88 = some (.bipush 100, 2) by decide +kernel) rfl (by decide) ?_
      refine g_iload_n 91 (show op 317 90 = some (.iload_n 1, 1) by decide +kernel) rfl rfl ?_
      obtain ⟨g2, h⟩ := h
      refine g_imul 92 (show op 317 91 = some (.imul, 1) by decide +kernel) rfl g2 ?_
      refine g_iload 94 (show op 317 92 = some (.iload 4, 2) by decide +kernel) rfl rfl ?_
      obtain ⟨g3, h⟩ := h
      refine g_iadd 95 (show op 317 94 = some (.iadd, 1) by decide +kernel) rfl g3 ?_
      obtain ⟨g4, h⟩ := h
      refine g_iaload 96 4400 (show op 317 95 = some (.iaload, 1) by decide +kernel) rfl (by decide +kernel) g4 ?_
      refine g_aload_n 97 (show op 317 96 = some (.aload_n 0, 1) by decide +kernel) rfl rfl ?_
      refine g_getR (ci := 11) (f := 4) (fin := true) (isR := true) 100 685 (show op 317 97 = some (.getfield 16, 3) by decide +kernel) rfl (by decide +kernel) (by decide +kernel) ?_
      refine g_bipush 102 (show op 317 100 = some (.bipush 100, 2) by decide +kernel) rfl (by decide) ?_
      refine g_iload_n 103 (show op 317 102 = some (.iload_n 2, 1) by decide +kernel) rfl rfl ?_
      obtain ⟨g5, h⟩ := h
      refine g_imul 104 (show op 317 103 = some (.imul, 1) by decide +kernel) rfl g5 ?_
      refine g_iload 106 (show op 317 104 = some (.iload 4, 2) by decide +kernel) rfl rfl ?_
      obtain ⟨g6, h⟩ := h
      refine g_iadd 107 (show op 317 106 = some (.iadd, 1) by decide +kernel) rfl g6 ?_
      obtain ⟨g7, h⟩ := h
      refine g_iaload 108 4400 (show op 317 107 = some (.iaload, 1) by decide +kernel) rfl (by decide +kernel) g7 ?_
      by_cases hc16 : (σ 685 (((100 * x1) + x4)).toNat) = (σ 685 (((100 * x2) + x4)).toNat)
      · rw [if_pos hc16] at h
        refine g_icmpF 111 142 (show op 317 108 = some (.if_icmp .ne 34, 3) by decide +kernel) rfl rfl (decide_eq_false (fun h9 => h9 hc16)) ?_
        refine g_aload_n 112 (show op 317 111 = some (.aload_n 0, 1) by decide +kernel) rfl rfl ?_
        refine g_getR (ci := 11) (f := 6) (fin := true) (isR := true) 115 687 (show op 317 112 = some (.getfield 22, 3) by decide +kernel) rfl (by decide +kernel) (by decide +kernel) ?_
        refine g_bipush 117 (show op 317 115 = some (.bipush 100, 2) by decide +kernel) rfl (by decide) ?_
        refine g_iload_n 118 (show op 317 117 = some (.iload_n 1, 1) by decide +kernel) rfl rfl ?_
        obtain ⟨g8, h⟩ := h
        refine g_imul 119 (show op 317 118 = some (.imul, 1) by decide +kernel) rfl g8 ?_
        refine g_iload 121 (show op 317 119 = some (.iload 4, 2) by decide +kernel) rfl rfl ?_
        obtain ⟨g9, h⟩ := h
        refine g_iadd 122 (show op 317 121 = some (.iadd, 1) by decide +kernel) rfl g9 ?_
        obtain ⟨g10, h⟩ := h
        refine g_iaload 123 4400 (show op 317 122 = some (.iaload, 1) by decide +kernel) rfl (by decide +kernel) g10 ?_
        refine g_aload_n 124 (show op 317 123 = some (.aload_n 0, 1) by decide +kernel) rfl rfl ?_
        refine g_getR (ci := 11) (f := 6) (fin := true) (isR := true) 127 687 (show op 317 124 = some (.getfield 22, 3) by decide +kernel) rfl (by decide +kernel) (by decide +kernel) ?_
        refine g_bipush 129 (show op 317 127 = some (.bipush 100, 2) by decide +kernel) rfl (by decide) ?_
        refine g_iload_n 130 (show op 317 129 = some (.iload_n 2, 1) by decide +kernel) rfl rfl ?_
        obtain ⟨g11, h⟩ := h
        refine g_imul 131 (show op 317 130 = some (.imul, 1) by decide +kernel) rfl g11 ?_
        refine g_iload 133 (show op 317 131 = some (.iload 4, 2) by decide +kernel) rfl rfl ?_
        obtain ⟨g12, h⟩ := h
        refine g_iadd 134 (show op 317 133 = some (.iadd, 1) by decide +kernel) rfl g12 ?_
        obtain ⟨g13, h⟩ := h
        refine g_iaload 135 4400 (show op 317 134 = some (.iaload, 1) by decide +kernel) rfl (by decide +kernel) g13 ?_
        by_cases hc17 : (σ 687 (((100 * x1) + x4)).toNat) = (σ 687 (((100 * x2) + x4)).toNat)
        · rw [if_pos hc17] at h
          refine g_icmpF 138 142 (show op 317 135 = some (.if_icmp .ne 7, 3) by decide +kernel) rfl rfl (decide_eq_false (fun h9 => h9 hc17)) ?_
          refine g_iconst 139 (show op 317 138 = some (.iconst 1, 1) by decide +kernel) rfl rfl ?_
          refine g_goto 143 (show op 317 139 = some (.goto 4, 3) by decide +kernel) rfl ?_
          exact h
        · rw [if_neg hc17] at h
          refine g_icmpT 142 (show op 317 135 = some (.if_icmp .ne 7, 3) by decide +kernel) rfl (decide_eq_true hc17) ?_
          exact h
      · rw [if_neg hc16] at h
        refine g_icmpT 142 (show op 317 108 = some (.if_icmp .ne 34, 3) by decide +kernel) rfl (decide_eq_true hc16) ?_
        exact h
  · rw [if_neg hc14] at h
    refine g_icmpT 150 (show op 317 77 = some (.if_icmp .ge 73, 3) by decide +kernel) rfl (decide_eq_true (Int.not_lt.mp hc14)) ?_
    exact h
theorem b317_150 {x1 : Int} {x2 : Int} {x3 : Int} {d4 : Option AV} {σ : Sg} {o : Rs}   (h : C317_153 x1 x2 x3 0 σ o) : C317_150 x1 x2 x3 d4 σ o := by
  show Gd 317 150 [(some (.inr (.inr (some 682)))), (some (.inl x1)), (some (.inl x2)), (some (.inl x3)), d4] [] σ 0 0 o
  refine g_iconst 151 (show op 317 150 = some (.iconst 0, 1) by decide +kernel) rfl rfl ?_
  refine g_istore 153 [(some (.inr (.inr (some 682)))), (some (.inl x1)), (some (.inl x2)), (some (.inl x3)), (some (.inl 0))] (show op 317 151 = some (.istore 4, 2) by decide +kernel) rfl rfl rfl ?_
  exact h
theorem b317_143 {x1 : Int} {x2 : Int} {d3 : Option AV} {x4 : Int} {y0 : Int} {σ : Sg} {o : Rs}   (h : (-2147483648 ≤ (x4 + 1) ∧ (x4 + 1) ≤ 2147483647) ∧ C317_69 x1 x2 y0 (x4 + 1) σ o) : C317_143 x1 x2 d3 x4 y0 σ o := by
  show Gd 317 143 [(some (.inr (.inr (some 682)))), (some (.inl x1)), (some (.inl x2)), d3, (some (.inl x4))] [(.inl y0)] σ 0 0 o
  refine g_istore_n 144 [(some (.inr (.inr (some 682)))), (some (.inl x1)), (some (.inl x2)), (some (.inl y0)), (some (.inl x4))] (show op 317 143 = some (.istore_n 3, 1) by decide +kernel) rfl rfl rfl ?_
  obtain ⟨g1, h⟩ := h
  refine g_iinc 147 [(some (.inr (.inr (some 682)))), (some (.inl x1)), (some (.inl x2)), (some (.inl y0)), (some (.inl (x4 + 1)))] (show op 317 144 = some (.iinc 4 1, 3) by decide +kernel) rfl rfl g1 rfl ?_
  refine g_goto 69 (show op 317 147 = some (.goto (-78), 3) by decide +kernel) rfl ?_
  exact h
theorem b317_142 {x1 : Int} {x2 : Int} {d3 : Option AV} {x4 : Int} {σ : Sg} {o : Rs}   (h : C317_143 x1 x2 d3 x4 0 σ o) : C317_142 x1 x2 d3 x4 σ o := by
  show Gd 317 142 [(some (.inr (.inr (some 682)))), (some (.inl x1)), (some (.inl x2)), d3, (some (.inl x4))] [] σ 0 0 o
  refine g_iconst 143 (show op 317 142 = some (.iconst 0, 1) by decide +kernel) rfl rfl ?_
  exact h
theorem b317_153 {x1 : Int} {x2 : Int} {x3 : Int} {x4 : Int} {σ : Sg} {o : Rs}   (h : (0 ≤ x1 ∧ x1 < 44) ∧ (if x4 < (σ 689 (x1).toNat) then (if x3 = 0 then (x3 = 0 ∨ x3 = 1) ∧ o = (.inl (some (.inl x3)), σ) else (-2147483648 ≤ (100 * x1) ∧ (100 * x1) ≤ 2147483647) ∧ (-2147483648 ≤ ((100 * x1) + x4) ∧ ((100 * x1) + x4) ≤ 2147483647) ∧ (0 ≤ ((100 * x1) + x4) ∧ ((100 * x1) + x4) < 4400) ∧ (-2147483648 ≤ (100 * x2) ∧ (100 * x2) ≤ 2147483647) ∧ (-2147483648 ≤ ((100 * x2) + x4) ∧ ((100 * x2) + x4) ≤ 2147483647) ∧ (0 ≤ ((100 * x2) + x4) ∧ ((100 * x2) + x4) < 4400) ∧ C317_200 x1 x2 (some (.inl x3)) x4 (if (σ 686 (((100 * x1) + x4)).toNat) = (σ 686 (((100 * x2) + x4)).toNat) then 1 else 0) σ o) else (x3 = 0 ∨ x3 = 1) ∧ o = (.inl (some (.inl x3)), σ))) : C317_153 x1 x2 x3 x4 σ o := by
  show Gd 317 153 [(some (.inr (.inr (some 682)))), (some (.inl x1)), (some (.inl x2)), (some (.inl x3)), (some (.inl x4))] [] σ 0 0 o
  refine g_iload 155 (show op 317 153 = some (.iload 4, 2) by decide +kernel) rfl rfl ?_
  refine g_aload_n 156 (show op 317 155 = some (.aload_n 0, 1) by decide +kernel) rfl rfl ?_
  refine g_getR (ci := 11) (f := 8) (fin := true) (isR := true) 159 689 (show op 317 156 = some (.getfield 28, 3) by decide +kernel) rfl (by decide +kernel) (by decide +kernel) ?_
  refine g_iload_n 160 (show op 317 159 = some (.iload_n 1, 1) by decide +kernel) rfl rfl ?_
  obtain ⟨g1, h⟩ := h
  refine g_iaload 161 44 (show op 317 160 = some (.iaload, 1) by decide +kernel) rfl (by decide +kernel) g1 ?_
  by_cases hc10 : x4 < (σ 689 (x1).toNat)
  · rw [if_pos hc10] at h
    refine g_icmpF 164 207 (show op 317 161 = some (.if_icmp .ge 46, 3) by decide +kernel) rfl rfl (decide_eq_false (Int.not_le.mpr hc10)) ?_
    refine g_iload_n 165 (show op 317 164 = some (.iload_n 3, 1) by decide +kernel) rfl rfl ?_
    by_cases hc11 : x3 = 0
    · rw [if_pos hc11] at h
      refine g_ifT 207 (show op 317 165 = some (.ifCond .eq 42, 3) by decide +kernel) rfl (decide_eq_true hc11) ?_
      refine g_iload_n 208 (show op 317 207 = some (.iload_n 3, 1) by decide +kernel) rfl rfl ?_
      obtain ⟨g2, h⟩ := h
      exact (g_zret (show op 317 208 = some (.ireturn, 1) by decide +kernel) (by decide +kernel) g2 h)
    · rw [if_neg hc11] at h
      refine g_ifF 168 207 (show op 317 165 = some (.ifCond .eq 42, 3) by decide +kernel) rfl rfl (decide_eq_false hc11) ?_
      refine g_aload_n 169 (show op 317 168 = some (.aload_n 0, 1) by decide +kernel) rfl rfl ?_
      refine g_getR (ci := 11) (f := 5) (fin := true) (isR := true) 172 686 (show op 317 169 = some (.getfield 19, 3) by decide +kernel) rfl (by decide +kernel) (by decide +kernel) ?_
      refine g_bipush 174 (show op 317 172 = some (.bipush 100, 2) by decide +kernel) rfl (by decide) ?_
      refine g_iload_n 175 (show op 317 174 = some (.iload_n 1, 1) by decide +kernel) rfl rfl ?_
      obtain ⟨g3, h⟩ := h
      refine g_imul 176 (show op 317 175 = some (.imul, 1) by decide +kernel) rfl g3 ?_
      refine g_iload 178 (show op 317 176 = some (.iload 4, 2) by decide +kernel) rfl rfl ?_
      obtain ⟨g4, h⟩ := h
      refine g_iadd 179 (show op 317 178 = some (.iadd, 1) by decide +kernel) rfl g4 ?_
      obtain ⟨g5, h⟩ := h
      refine g_iaload 180 4400 (show op 317 179 = some (.iaload, 1) by decide +kernel) rfl (by decide +kernel) g5 ?_
      refine g_aload_n 181 (show op 317 180 = some (.aload_n 0, 1) by decide +kernel) rfl rfl ?_
      refine g_getR (ci := 11) (f := 5) (fin := true) (isR := true) 184 686 (show op 317 181 = some (.getfield 19, 3) by decide +kernel) rfl (by decide +kernel) (by decide +kernel) ?_
      refine g_bipush 186 (show op 317 184 = some (.bipush 100, 2) by decide +kernel) rfl (by decide) ?_
      refine g_iload_n 187 (show op 317 186 = some (.iload_n 2, 1) by decide +kernel) rfl rfl ?_
      obtain ⟨g6, h⟩ := h
      refine g_imul 188 (show op 317 187 = some (.imul, 1) by decide +kernel) rfl g6 ?_
      refine g_iload 190 (show op 317 188 = some (.iload 4, 2) by decide +kernel) rfl rfl ?_
      obtain ⟨g7, h⟩ := h
      refine g_iadd 191 (show op 317 190 = some (.iadd, 1) by decide +kernel) rfl g7 ?_
      obtain ⟨g8, h⟩ := h
      refine g_iaload 192 4400 (show op 317 191 = some (.iaload, 1) by decide +kernel) rfl (by decide +kernel) g8 ?_
      by_cases hc12 : (σ 686 (((100 * x1) + x4)).toNat) = (σ 686 (((100 * x2) + x4)).toNat)
      · refine g_icmpF 195 199 (show op 317 192 = some (.if_icmp .ne 7, 3) by decide +kernel) rfl rfl (decide_eq_false (fun h9 => h9 hc12)) ?_
        refine g_iconst 196 (show op 317 195 = some (.iconst 1, 1) by decide +kernel) rfl rfl ?_
        refine g_goto 200 (show op 317 196 = some (.goto 4, 3) by decide +kernel) rfl ?_
        have h9 := h; simp only [if_pos hc12] at h9; exact h9
      · refine g_icmpT 199 (show op 317 192 = some (.if_icmp .ne 7, 3) by decide +kernel) rfl (decide_eq_true hc12) ?_
        refine g_iconst 200 (show op 317 199 = some (.iconst 0, 1) by decide +kernel) rfl rfl ?_
        have h9 := h; simp only [if_neg hc12] at h9; exact h9
  · rw [if_neg hc10] at h
    refine g_icmpT 207 (show op 317 161 = some (.if_icmp .ge 46, 3) by decide +kernel) rfl (decide_eq_true (Int.not_lt.mp hc10)) ?_
    refine g_iload_n 208 (show op 317 207 = some (.iload_n 3, 1) by decide +kernel) rfl rfl ?_
    obtain ⟨g9, h⟩ := h
    exact (g_zret (show op 317 208 = some (.ireturn, 1) by decide +kernel) (by decide +kernel) g9 h)
theorem b317_200 {x1 : Int} {x2 : Int} {d3 : Option AV} {x4 : Int} {y0 : Int} {σ : Sg} {o : Rs}   (h : (-2147483648 ≤ (x4 + 1) ∧ (x4 + 1) ≤ 2147483647) ∧ C317_153 x1 x2 y0 (x4 + 1) σ o) : C317_200 x1 x2 d3 x4 y0 σ o := by
  show Gd 317 200 [(some (.inr (.inr (some 682)))), (some (.inl x1)), (some (.inl x2)), d3, (some (.inl x4))] [(.inl y0)] σ 0 0 o
  refine g_istore_n 201 [(some (.inr (.inr (some 682)))), (some (.inl x1)), (some (.inl x2)), (some (.inl y0)), (some (.inl x4))] (show op 317 200 = some (.istore_n 3, 1) by decide +kernel) rfl rfl rfl ?_
  obtain ⟨g1, h⟩ := h
  refine g_iinc 204 [(some (.inr (.inr (some 682)))), (some (.inl x1)), (some (.inl x2)), (some (.inl y0)), (some (.inl (x4 + 1)))] (show op 317 201 = some (.iinc 4 1, 3) by decide +kernel) rfl rfl g1 rfl ?_
  refine g_goto 153 (show op 317 204 = some (.goto (-51), 3) by decide +kernel) rfl ?_
  exact h
/-- PatchBenchModel.areEqual (II)Z -/
theorem b317 {x1 : Int} {x2 : Int} {σ : Sg} {o : Rs}   (h : (∃ (v2 : Int) (s1 : Sg), Dd 248 [(.inr (.inr (some 682))), (.inl x1)] σ (.inl (some (.inl v2)), s1) ∧ (if v2 = 0 then C317_21 x1 x2 none none s1 o else (∃ (v5 : Int) (s4 : Sg), Dd 248 [(.inr (.inr (some 682))), (.inl x2)] s1 (.inl (some (.inl v5)), s4) ∧ (if v5 = 0 then C317_21 x1 x2 none none s4 o else C317_22 x1 x2 none none 0 s4 o))))) : Dd 317 [(.inr (.inr (some 682))), (.inl x1), (.inl x2)] σ o := by
  refine Dd_of (l := 5) (by decide +kernel) ?_
  show Gd 317 0 [(some (.inr (.inr (some 682)))), (some (.inl x1)), (some (.inl x2)), none, none] [] σ 0 0 o
  refine g_aload_n 1 (show op 317 0 = some (.aload_n 0, 1) by decide +kernel) rfl rfl ?_
  refine g_aload_n 2 (show op 317 1 = some (.aload_n 0, 1) by decide +kernel) rfl rfl ?_
  refine g_iload_n 3 (show op 317 2 = some (.iload_n 1, 1) by decide +kernel) rfl rfl ?_
  obtain ⟨v2, s1, hD3, h⟩ := h
  refine g_call 6 [(.inl v2), (.inr (.inr (some 682)))] (show op 317 3 = some (.invokevirtual 290, 3) by decide +kernel) (call_vi' (k' := 0) (n' := 0) (nj := 2) (j := 248) (k9 := 21) (t := [(.inr (.inr (some 682)))]) (as := [(.inr (.inr (some 682))), (.inl x1)]) (by decide +kernel) rfl (by decide +kernel) rfl rfl rfl rfl rfl rfl (by decide +kernel) (by decide +kernel)) hD3 rfl ?_
  by_cases hc7 : v2 = 0
  · rw [if_pos hc7] at h
    refine g_ifT 21 (show op 317 6 = some (.ifCond .eq 15, 3) by decide +kernel) rfl (decide_eq_true hc7) ?_
    exact h
  · rw [if_neg hc7] at h
    refine g_ifF 9 21 (show op 317 6 = some (.ifCond .eq 15, 3) by decide +kernel) rfl rfl (decide_eq_false hc7) ?_
    refine g_aload_n 10 (show op 317 9 = some (.aload_n 0, 1) by decide +kernel) rfl rfl ?_
    refine g_iload_n 11 (show op 317 10 = some (.iload_n 2, 1) by decide +kernel) rfl rfl ?_
    obtain ⟨v5, s4, hD6, h⟩ := h
    refine g_call 14 [(.inl v5), (.inr (.inr (some 682)))] (show op 317 11 = some (.invokevirtual 290, 3) by decide +kernel) (call_vi' (k' := 0) (n' := 0) (nj := 2) (j := 248) (k9 := 21) (t := [(.inr (.inr (some 682)))]) (as := [(.inr (.inr (some 682))), (.inl x2)]) (by decide +kernel) rfl (by decide +kernel) rfl rfl rfl rfl rfl rfl (by decide +kernel) (by decide +kernel)) hD6 rfl ?_
    by_cases hc8 : v5 = 0
    · rw [if_pos hc8] at h
      refine g_ifT 21 (show op 317 14 = some (.ifCond .eq 7, 3) by decide +kernel) rfl (decide_eq_true hc8) ?_
      exact h
    · rw [if_neg hc8] at h
      refine g_ifF 17 21 (show op 317 14 = some (.ifCond .eq 7, 3) by decide +kernel) rfl rfl (decide_eq_false hc8) ?_
      refine g_iconst 18 (show op 317 17 = some (.iconst 0, 1) by decide +kernel) rfl rfl ?_
      refine g_goto 22 (show op 317 18 = some (.goto 4, 3) by decide +kernel) rfl ?_
      exact h
def C318_14 (x1 : Int) (x2 : Int) (x3 : Int) (d4 : Option AV) (σ : Sg) (o : Rs) : Prop := Gd 318 14 [(some (.inr (.inr (some 682)))), (some (.inl x1)), (some (.inl x2)), (some (.inl x3)), d4] [] σ 0 0 o
def C318_34 (x1 : Int) (x2 : Int) (x3 : Int) (x4 : Int) (σ : Sg) (o : Rs) : Prop := Gd 318 34 [(some (.inr (.inr (some 682)))), (some (.inl x1)), (some (.inl x2)), (some (.inl x3)), (some (.inl x4))] [] σ 0 0 o
def C318_73 (x1 : Int) (x2 : Int) (x3 : Int) (x4 : Int) (σ : Sg) (o : Rs) : Prop := Gd 318 73 [(some (.inr (.inr (some 682)))), (some (.inl x1)), (some (.inl x2)), (some (.inl x3)), (some (.inl x4))] [] σ 0 0 o
theorem b318_14 {x1 : Int} {x2 : Int} {x3 : Int} {d4 : Option AV} {σ : Sg} {o : Rs}   (h : (if x3 < x2 then (∃ (s1 : Sg), Dd 319 [(.inr (.inr (some 682))), (.inl 300000)] σ (.inl none, s1) ∧ (0 ≤ x3 ∧ x3 < 256) ∧ C318_34 x1 x2 x3 (s1 700 (x3).toNat) s1 o) else o = (.inl none, σ))) : C318_14 x1 x2 x3 d4 σ o := by
  show Gd 318 14 [(some (.inr (.inr (some 682)))), (some (.inl x1)), (some (.inl x2)), (some (.inl x3)), d4] [] σ 0 0 o
  refine g_iload_n 15 (show op 318 14 = some (.iload_n 3, 1) by decide +kernel) rfl rfl ?_
  refine g_iload_n 16 (show op 318 15 = some (.iload_n 2, 1) by decide +kernel) rfl rfl ?_
  by_cases hc4 : x3 < x2
  · rw [if_pos hc4] at h
    refine g_icmpF 19 123 (show op 318 16 = some (.if_icmp .ge 107, 3) by decide +kernel) rfl rfl (decide_eq_false (Int.not_le.mpr hc4)) ?_
    refine g_aload_n 20 (show op 318 19 = some (.aload_n 0, 1) by decide +kernel) rfl rfl ?_
    refine g_ldc_w (v := 300000) 23 (show op 318 20 = some (.ldc_w 338, 3) by decide +kernel) rfl (by decide +kernel) rfl ?_
    obtain ⟨s1, hD2, h⟩ := h
    refine g_call 26 [] (show op 318 23 = some (.invokevirtual 339, 3) by decide +kernel) (call_vi' (k' := 0) (n' := 0) (nj := 2) (j := 319) (k9 := 21) (t := []) (as := [(.inr (.inr (some 682))), (.inl 300000)]) (by decide +kernel) rfl (by decide +kernel) rfl rfl rfl rfl rfl rfl (by decide +kernel) (by decide +kernel)) hD2 rfl ?_
    refine g_aload_n 27 (show op 318 26 = some (.aload_n 0, 1) by decide +kernel) rfl rfl ?_
    refine g_getR (ci := 11) (f := 26) (fin := true) (isR := true) 30 700 (show op 318 27 = some (.getfield 61, 3) by decide +kernel) rfl (by decide +kernel) (by decide +kernel) ?_
    refine g_iload_n 31 (show op 318 30 = some (.iload_n 3, 1) by decide +kernel) rfl rfl ?_
    obtain ⟨g3, h⟩ := h
    refine g_iaload 32 256 (show op 318 31 = some (.iaload, 1) by decide +kernel) rfl (by decide +kernel) g3 ?_
    refine g_istore 34 [(some (.inr (.inr (some 682)))), (some (.inl x1)), (some (.inl x2)), (some (.inl x3)), (some (.inl (s1 700 (x3).toNat)))] (show op 318 32 = some (.istore 4, 2) by decide +kernel) rfl rfl rfl ?_
    exact h
  · rw [if_neg hc4] at h
    refine g_icmpT 123 (show op 318 16 = some (.if_icmp .ge 107, 3) by decide +kernel) rfl (decide_eq_true (Int.not_lt.mp hc4)) ?_
    exact g_vret (show op 318 123 = some (.return_, 1) by decide +kernel) (by decide +kernel) h
theorem b318_34 {x1 : Int} {x2 : Int} {x3 : Int} {x4 : Int} {σ : Sg} {o : Rs}   (h : (∃ (v2 : Int) (s1 : Sg), Dd 281 [(.inr (.inr (some 682))), (.inl x3)] σ (.inl (some (.inl v2)), s1) ∧ (if x4 < v2 then (-2147483648 ≤ (100 * x1) ∧ (100 * x1) ≤ 2147483647) ∧ (-2147483648 ≤ ((100 * x1) + x4) ∧ ((100 * x1) + x4) ≤ 2147483647) ∧ (0 ≤ ((100 * x1) + x4) ∧ ((100 * x1) + x4) < 4400) ∧ (-2147483648 ≤ (100000 + (s1 685 (((100 * x1) + x4)).toNat)) ∧ (100000 + (s1 685 (((100 * x1) + x4)).toNat)) ≤ 2147483647) ∧ (∃ (s8 : Sg), Dd 319 [(.inr (.inr (some 682))), (.inl (100000 + (s1 685 (((100 * x1) + x4)).toNat)))] s1 (.inl none, s8) ∧ (-2147483648 ≤ (x4 + 1) ∧ (x4 + 1) ≤ 2147483647) ∧ C318_34 x1 x2 x3 (x4 + 1) s8 o) else C318_73 x1 x2 x3 0 s1 o))) : C318_34 x1 x2 x3 x4 σ o := by
  show Gd 318 34 [(some (.inr (.inr (some 682)))), (some (.inl x1)), (some (.inl x2)), (some (.inl x3)), (some (.inl x4))] [] σ 0 0 o
  refine g_iload 36 (show op 318 34 = some (.iload 4, 2) by decide +kernel) rfl rfl ?_
  refine g_aload_n 37 (show op 318 36 = some (.aload_n 0, 1) by decide +kernel) rfl rfl ?_
  refine g_iload_n 38 (show op 318 37 = some (.iload_n 3, 1) by decide +kernel) rfl rfl ?_
  obtain ⟨v2, s1, hD3, h⟩ := h
  refine g_call 41 [(.inl v2), (.inl x4)] (show op 318 38 = some (.invokevirtual 247, 3) by decide +kernel) (call_vi' (k' := 0) (n' := 0) (nj := 2) (j := 281) (k9 := 21) (t := [(.inl x4)]) (as := [(.inr (.inr (some 682))), (.inl x3)]) (by decide +kernel) rfl (by decide +kernel) rfl rfl rfl rfl rfl rfl (by decide +kernel) (by decide +kernel)) hD3 rfl ?_
  by_cases hc11 : x4 < v2
  · rw [if_pos hc11] at h
    refine g_icmpF 44 70 (show op 318 41 = some (.if_icmp .ge 29, 3) by decide +kernel) rfl rfl (decide_eq_false (Int.not_le.mpr hc11)) ?_
    refine g_aload_n 45 (show op 318 44 = some (.aload_n 0, 1) by decide +kernel) rfl rfl ?_
    refine g_ldc_w (v := 100000) 48 (show op 318 45 = some (.ldc_w 342, 3) by decide +kernel) rfl (by decide +kernel) rfl ?_
    refine g_aload_n 49 (show op 318 48 = some (.aload_n 0, 1) by decide +kernel) rfl rfl ?_
    refine g_getR (ci := 11) (f := 4) (fin := true) (isR := true) 52 685 (show op 318 49 = some (.getfield 16, 3) by decide +kernel) rfl (by decide +kernel) (by decide +kernel) ?_
    refine g_bipush 54 (show op 318 52 = some (.bipush 100, 2) by decide +kernel) rfl (by decide) ?_
    refine g_iload_n 55 (show op 318 54 = some (.iload_n 1, 1) by decide +kernel) rfl rfl ?_
    obtain ⟨g4, h⟩ := h
    refine g_imul 56 (show op 318 55 = some (.imul, 1) by decide +kernel) rfl g4 ?_
    refine g_iload 58 (show op 318 56 = some (.iload 4, 2) by decide +kernel) rfl rfl ?_
    obtain ⟨g5, h⟩ := h
    refine g_iadd 59 (show op 318 58 = some (.iadd, 1) by decide +kernel) rfl g5 ?_
    obtain ⟨g6, h⟩ := h
    refine g_iaload 60 4400 (show op 318 59 = some (.iaload, 1) by decide +kernel) rfl (by decide +kernel) g6 ?_
    obtain ⟨g7, h⟩ := h
    refine g_iadd 61 (show op 318 60 = some (.iadd, 1) by decide +kernel) rfl g7 ?_
    obtain ⟨s8, hD9, h⟩ := h
    refine g_call 64 [] (show op 318 61 = some (.invokevirtual 339, 3) by decide +kernel) (call_vi' (k' := 0) (n' := 0) (nj := 2) (j := 319) (k9 := 21) (t := []) (as := [(.inr (.inr (some 682))), (.inl (100000 + (s1 685 (((100 * x1) + x4)).toNat)))]) (by decide +kernel) rfl (by decide +kernel) rfl rfl rfl rfl rfl rfl (by decide +kernel) (by decide +kernel)) hD9 rfl ?_
    obtain ⟨g10, h⟩ := h
    refine g_iinc 67 [(some (.inr (.inr (some 682)))), (some (.inl x1)), (some (.inl x2)), (some (.inl x3)), (some (.inl (x4 + 1)))] (show op 318 64 = some (.iinc 4 1, 3) by decide +kernel) rfl rfl g10 rfl ?_
    refine g_goto 34 (show op 318 67 = some (.goto (-33), 3) by decide +kernel) rfl ?_
    exact h
  · rw [if_neg hc11] at h
    refine g_icmpT 70 (show op 318 41 = some (.if_icmp .ge 29, 3) by decide +kernel) rfl (decide_eq_true (Int.not_lt.mp hc11)) ?_
    refine g_iconst 71 (show op 318 70 = some (.iconst 0, 1) by decide +kernel) rfl rfl ?_
    refine g_istore 73 [(some (.inr (.inr (some 682)))), (some (.inl x1)), (some (.inl x2)), (some (.inl x3)), (some (.inl 0))] (show op 318 71 = some (.istore 4, 2) by decide +kernel) rfl rfl rfl ?_
    exact h
theorem b318_73 {x1 : Int} {x2 : Int} {x3 : Int} {x4 : Int} {σ : Sg} {o : Rs}   (h : (0 ≤ x3 ∧ x3 < 256) ∧ (if x4 < (σ 703 (x3).toNat) then (-2147483648 ≤ (100 * x1) ∧ (100 * x1) ≤ 2147483647) ∧ (0 ≤ x3 ∧ x3 < 256) ∧ (-2147483648 ≤ ((100 * x1) + (σ 702 (x3).toNat)) ∧ ((100 * x1) + (σ 702 (x3).toNat)) ≤ 2147483647) ∧ (-2147483648 ≤ (((100 * x1) + (σ 702 (x3).toNat)) + x4) ∧ (((100 * x1) + (σ 702 (x3).toNat)) + x4) ≤ 2147483647) ∧ (0 ≤ (((100 * x1) + (σ 702 (x3).toNat)) + x4) ∧ (((100 * x1) + (σ 702 (x3).toNat)) + x4) < 4400) ∧ (-2147483648 ≤ (200000 + (σ 686 ((((100 * x1) + (σ 702 (x3).toNat)) + x4)).toNat)) ∧ (200000 + (σ 686 ((((100 * x1) + (σ 702 (x3).toNat)) + x4)).toNat)) ≤ 2147483647) ∧ (∃ (s8 : Sg), Dd 319 [(.inr (.inr (some 682))), (.inl (200000 + (σ 686 ((((100 * x1) + (σ 702 (x3).toNat)) + x4)).toNat)))] σ (.inl none, s8) ∧ (-2147483648 ≤ (x4 + 1) ∧ (x4 + 1) ≤ 2147483647) ∧ C318_73 x1 x2 x3 (x4 + 1) s8 o) else (-2147483648 ≤ (x3 + 1) ∧ (x3 + 1) ≤ 2147483647) ∧ C318_14 x1 x2 (x3 + 1) (some (.inl x4)) σ o)) : C318_73 x1 x2 x3 x4 σ o := by
  show Gd 318 73 [(some (.inr (.inr (some 682)))), (some (.inl x1)), (some (.inl x2)), (some (.inl x3)), (some (.inl x4))] [] σ 0 0 o
  refine g_iload 75 (show op 318 73 = some (.iload 4, 2) by decide +kernel) rfl rfl ?_
  refine g_aload_n 76 (show op 318 75 = some (.aload_n 0, 1) by decide +kernel) rfl rfl ?_
  refine g_getR (ci := 11) (f := 29) (fin := true) (isR := true) 79 703 (show op 318 76 = some (.getfield 70, 3) by decide +kernel) rfl (by decide +kernel) (by decide +kernel) ?_
  refine g_iload_n 80 (show op 318 79 = some (.iload_n 3, 1) by decide +kernel) rfl rfl ?_
  obtain ⟨g1, h⟩ := h
  refine g_iaload 81 256 (show op 318 80 = some (.iaload, 1) by decide +kernel) rfl (by decide +kernel) g1 ?_
  by_cases hc12 : x4 < (σ 703 (x3).toNat)
  · rw [if_pos hc12] at h
    refine g_icmpF 84 117 (show op 318 81 = some (.if_icmp .ge 36, 3) by decide +kernel) rfl rfl (decide_eq_false (Int.not_le.mpr hc12)) ?_
    refine g_aload_n 85 (show op 318 84 = some (.aload_n 0, 1) by decide +kernel) rfl rfl ?_
    refine g_ldc_w (v := 200000) 88 (show op 318 85 = some (.ldc_w 343, 3) by decide +kernel) rfl (by decide +kernel) rfl ?_
    refine g_aload_n 89 (show op 318 88 = some (.aload_n 0, 1) by decide +kernel) rfl rfl ?_
    refine g_getR (ci := 11) (f := 5) (fin := true) (isR := true) 92 686 (show op 318 89 = some (.getfield 19, 3) by decide +kernel) rfl (by decide +kernel) (by decide +kernel) ?_
    refine g_bipush 94 (show op 318 92 = some (.bipush 100, 2) by decide +kernel) rfl (by decide) ?_
    refine g_iload_n 95 (show op 318 94 = some (.iload_n 1, 1) by decide +kernel) rfl rfl ?_
    obtain ⟨g2, h⟩ := h
    refine g_imul 96 (show op 318 95 = some (.imul, 1) by decide +kernel) rfl g2 ?_
    refine g_aload_n 97 (show op 318 96 = some (.aload_n 0, 1) by decide +kernel) rfl rfl ?_
    refine g_getR (ci := 11) (f := 28) (fin := true) (isR := true) 100 702 (show op 318 97 = some (.getfield 67, 3) by decide +kernel) rfl (by decide +kernel) (by decide +kernel) ?_
    refine g_iload_n 101 (show op 318 100 = some (.iload_n 3, 1) by decide +kernel) rfl rfl ?_
    obtain ⟨g3, h⟩ := h
    refine g_iaload 102 256 (show op 318 101 = some (.iaload, 1) by decide +kernel) rfl (by decide +kernel) g3 ?_
    obtain ⟨g4, h⟩ := h
    refine g_iadd 103 (show op 318 102 = some (.iadd, 1) by decide +kernel) rfl g4 ?_
    refine g_iload 105 (show op 318 103 = some (.iload 4, 2) by decide +kernel) rfl rfl ?_
    obtain ⟨g5, h⟩ := h
    refine g_iadd 106 (show op 318 105 = some (.iadd, 1) by decide +kernel) rfl g5 ?_
    obtain ⟨g6, h⟩ := h
    refine g_iaload 107 4400 (show op 318 106 = some (.iaload, 1) by decide +kernel) rfl (by decide +kernel) g6 ?_
    obtain ⟨g7, h⟩ := h
    refine g_iadd 108 (show op 318 107 = some (.iadd, 1) by decide +kernel) rfl g7 ?_
    obtain ⟨s8, hD9, h⟩ := h
    refine g_call 111 [] (show op 318 108 = some (.invokevirtual 339, 3) by decide +kernel) (call_vi' (k' := 0) (n' := 0) (nj := 2) (j := 319) (k9 := 21) (t := []) (as := [(.inr (.inr (some 682))), (.inl (200000 + (σ 686 ((((100 * x1) + (σ 702 (x3).toNat)) + x4)).toNat)))]) (by decide +kernel) rfl (by decide +kernel) rfl rfl rfl rfl rfl rfl (by decide +kernel) (by decide +kernel)) hD9 rfl ?_
    obtain ⟨g10, h⟩ := h
    refine g_iinc 114 [(some (.inr (.inr (some 682)))), (some (.inl x1)), (some (.inl x2)), (some (.inl x3)), (some (.inl (x4 + 1)))] (show op 318 111 = some (.iinc 4 1, 3) by decide +kernel) rfl rfl g10 rfl ?_
    refine g_goto 73 (show op 318 114 = some (.goto (-41), 3) by decide +kernel) rfl ?_
    exact h
  · rw [if_neg hc12] at h
    refine g_icmpT 117 (show op 318 81 = some (.if_icmp .ge 36, 3) by decide +kernel) rfl (decide_eq_true (Int.not_lt.mp hc12)) ?_
    obtain ⟨g11, h⟩ := h
    refine g_iinc 120 [(some (.inr (.inr (some 682)))), (some (.inl x1)), (some (.inl x2)), (some (.inl (x3 + 1))), (some (.inl x4))] (show op 318 117 = some (.iinc 3 1, 3) by decide +kernel) rfl rfl g11 rfl ?_
    refine g_goto 14 (show op 318 120 = some (.goto (-106), 3) by decide +kernel) rfl ?_
    exact h
/-- PatchBenchModel.laysChanges (I)V -/
theorem b318 {x1 : Int} {σ : Sg} {o : Rs}   (h : (∃ (v2 : Int) (s1 : Sg), Dd 280 [(.inr (.inr (some 682))), (.inl x1), (.inl 0)] σ (.inl (some (.inl v2)), s1) ∧ C318_14 x1 v2 0 none (upS s1 682 32 0) o)) : Dd 318 [(.inr (.inr (some 682))), (.inl x1)] σ o := by
  refine Dd_of (l := 5) (by decide +kernel) ?_
  show Gd 318 0 [(some (.inr (.inr (some 682)))), (some (.inl x1)), none, none, none] [] σ 0 0 o
  refine g_aload_n 1 (show op 318 0 = some (.aload_n 0, 1) by decide +kernel) rfl rfl ?_
  refine g_iload_n 2 (show op 318 1 = some (.iload_n 1, 1) by decide +kernel) rfl rfl ?_
  refine g_iconst 3 (show op 318 2 = some (.iconst 0, 1) by decide +kernel) rfl rfl ?_
  obtain ⟨v2, s1, hD3, h⟩ := h
  refine g_call 6 [(.inl v2)] (show op 318 3 = some (.invokevirtual 267, 3) by decide +kernel) (call_vi' (k' := 0) (n' := 0) (nj := 3) (j := 280) (k9 := 21) (t := []) (as := [(.inr (.inr (some 682))), (.inl x1), (.inl 0)]) (by decide +kernel) rfl (by decide +kernel) rfl rfl rfl rfl rfl rfl (by decide +kernel) (by decide +kernel)) hD3 rfl ?_
  refine g_istore_n 7 [(some (.inr (.inr (some 682)))), (some (.inl x1)), (some (.inl v2)), none, none] (show op 318 6 = some (.istore_n 2, 1) by decide +kernel) rfl rfl rfl ?_
  refine g_aload_n 8 (show op 318 7 = some (.aload_n 0, 1) by decide +kernel) rfl rfl ?_
  refine g_iconst 9 (show op 318 8 = some (.iconst 0, 1) by decide +kernel) rfl rfl ?_
  refine g_putI (ci := 11) (f := 32) 12 (show op 318 9 = some (.putfield 335, 3) by decide +kernel) rfl (by decide +kernel) (by decide +kernel) ?_
  refine g_iconst 13 (show op 318 12 = some (.iconst 0, 1) by decide +kernel) rfl rfl ?_
  refine g_istore_n 14 [(some (.inr (.inr (some 682)))), (some (.inl x1)), (some (.inl v2)), (some (.inl 0)), none] (show op 318 13 = some (.istore_n 3, 1) by decide +kernel) rfl rfl rfl ?_
  exact h
/-- PatchBenchModel.adds (I)V -/
theorem b319 {x1 : Int} {σ : Sg} {o : Rs}   (h : (0 ≤ (σ 682 32) ∧ (σ 682 32) < 160) ∧ (-2147483648 ≤ (((upS σ 705 (((σ 682 32)).toNat) x1) 682 32) + 1) ∧ (((upS σ 705 (((σ 682 32)).toNat) x1) 682 32) + 1) ≤ 2147483647) ∧ o = (.inl none, (upS (upS σ 705 (((σ 682 32)).toNat) x1) 682 32 (((upS σ 705 (((σ 682 32)).toNat) x1) 682 32) + 1)))) : Dd 319 [(.inr (.inr (some 682))), (.inl x1)] σ o := by
  refine Dd_of (l := 2) (by decide +kernel) ?_
  show Gd 319 0 [(some (.inr (.inr (some 682)))), (some (.inl x1))] [] σ 0 0 o
  refine g_aload_n 1 (show op 319 0 = some (.aload_n 0, 1) by decide +kernel) rfl rfl ?_
  refine g_getR (ci := 11) (f := 31) (fin := true) (isR := true) 4 705 (show op 319 1 = some (.getfield 76, 3) by decide +kernel) rfl (by decide +kernel) (by decide +kernel) ?_
  refine g_aload_n 5 (show op 319 4 = some (.aload_n 0, 1) by decide +kernel) rfl rfl ?_
  refine g_getI (ci := 11) (f := 32) (fin := false) (isR := false) 8 (show op 319 5 = some (.getfield 335, 3) by decide +kernel) rfl (by decide +kernel) (by decide +kernel) ?_
  refine g_iload_n 9 (show op 319 8 = some (.iload_n 1, 1) by decide +kernel) rfl rfl ?_
  obtain ⟨g1, h⟩ := h
  refine g_iastore 10 160 (show op 319 9 = some (.iastore, 1) by decide +kernel) rfl (by decide +kernel) g1 ?_
  refine g_aload_n 11 (show op 319 10 = some (.aload_n 0, 1) by decide +kernel) rfl rfl ?_
  refine g_dup 12 (show op 319 11 = some (.dup, 1) by decide +kernel) rfl rfl ?_
  refine g_getI (ci := 11) (f := 32) (fin := false) (isR := false) 15 (show op 319 12 = some (.getfield 335, 3) by decide +kernel) rfl (by decide +kernel) (by decide +kernel) ?_
  refine g_iconst 16 (show op 319 15 = some (.iconst 1, 1) by decide +kernel) rfl rfl ?_
  obtain ⟨g2, h⟩ := h
  refine g_iadd 17 (show op 319 16 = some (.iadd, 1) by decide +kernel) rfl g2 ?_
  refine g_putI (ci := 11) (f := 32) 20 (show op 319 17 = some (.putfield 335, 3) by decide +kernel) rfl (by decide +kernel) (by decide +kernel) ?_
  exact g_vret (show op 319 20 = some (.return_, 1) by decide +kernel) (by decide +kernel) h
def C320_21 (x1 : Int) (x2 : Int) (σ : Sg) (o : Rs) : Prop := Gd 320 21 [(some (.inr (.inr (some 682)))), (some (.inl x1)), (some (.inl x2))] [(.inr (.inr (some 682)))] σ 0 0 o
def C320_22 (x1 : Int) (x2 : Int) (y1 : Int) (σ : Sg) (o : Rs) : Prop := Gd 320 22 [(some (.inr (.inr (some 682)))), (some (.inl x1)), (some (.inl x2))] [(.inl y1), (.inr (.inr (some 682)))] σ 0 0 o
theorem b320_21 {x1 : Int} {x2 : Int} {σ : Sg} {o : Rs}   (h : C320_22 x1 x2 1 σ o) : C320_21 x1 x2 σ o := by
  show Gd 320 21 [(some (.inr (.inr (some 682)))), (some (.inl x1)), (some (.inl x2))] [(.inr (.inr (some 682)))] σ 0 0 o
  refine g_iconst 22 (show op 320 21 = some (.iconst 1, 1) by decide +kernel) rfl rfl ?_
  exact h
theorem b320_22 {x1 : Int} {x2 : Int} {y1 : Int} {σ : Sg} {o : Rs}   (h : (∃ (v2 : Int) (s1 : Sg), Dd 245 [(.inr (.inr (some 682))), (.inl y1)] σ (.inl (some (.inl v2)), s1) ∧ (if v2 = 0 then o = (.inl (some (.inl 0)), s1) else (∃ (s4 : Sg), Dd 318 [(.inr (.inr (some 682))), (.inl x1)] s1 (.inl none, s4) ∧ (∃ (s6 : Sg), Dd 263 [(.inr (.inr (some 682))), (.inr (.inr (some 705))), (.inl 0), (.inl (s4 682 32))] s4 (.inl none, s6) ∧ (∃ (s8 : Sg), Dd 318 [(.inr (.inr (some 682))), (.inl x2)] s6 (.inl none, s8) ∧ (∃ (s10 : Sg), Dd 264 [(.inr (.inr (some 682))), (.inr (.inr (some 705))), (.inl 0), (.inl (s8 682 32))] s8 (.inl none, s10) ∧ (∃ (s12 : Sg), Dd 265 [(.inr (.inr (some 682))), (.inl 0), (.inl (s10 682 12)), (.inl 0), (.inl (s10 682 13))] s10 (.inl none, s12) ∧ (-2147483648 ≤ ((s12 682 12) + (s12 682 13)) ∧ ((s12 682 12) + (s12 682 13)) ≤ 2147483647) ∧ (-2147483648 ≤ (2 * (s12 694 (0 : Int).toNat)) ∧ (2 * (s12 694 (0 : Int).toNat)) ≤ 2147483647) ∧ (-2147483648 ≤ (((s12 682 12) + (s12 682 13)) - (2 * (s12 694 (0 : Int).toNat))) ∧ (((s12 682 12) + (s12 682 13)) - (2 * (s12 694 (0 : Int).toNat))) ≤ 2147483647) ∧ o = (.inl (some (.inl (((s12 682 12) + (s12 682 13)) - (2 * (s12 694 (0 : Int).toNat))))), s12))))))))) : C320_22 x1 x2 y1 σ o := by
  show Gd 320 22 [(some (.inr (.inr (some 682)))), (some (.inl x1)), (some (.inl x2))] [(.inl y1), (.inr (.inr (some 682)))] σ 0 0 o
  obtain ⟨v2, s1, hD3, h⟩ := h
  refine g_call 25 [(.inl v2)] (show op 320 22 = some (.invokevirtual 172, 3) by decide +kernel) (call_vi' (k' := 0) (n' := 0) (nj := 2) (j := 245) (k9 := 21) (t := []) (as := [(.inr (.inr (some 682))), (.inl y1)]) (by decide +kernel) rfl (by decide +kernel) rfl rfl rfl rfl rfl rfl (by decide +kernel) (by decide +kernel)) hD3 rfl ?_
  by_cases hc17 : v2 = 0
  · rw [if_pos hc17] at h
    refine g_ifF 28 30 (show op 320 25 = some (.ifCond .ne 5, 3) by decide +kernel) rfl rfl (decide_eq_false (fun h9 => h9 hc17)) ?_
    refine g_iconst 29 (show op 320 28 = some (.iconst 0, 1) by decide +kernel) rfl rfl ?_
    exact (g_iret (show op 320 29 = some (.ireturn, 1) by decide +kernel) (by decide +kernel) h)
  · rw [if_neg hc17] at h
    refine g_ifT 30 (show op 320 25 = some (.ifCond .ne 5, 3) by decide +kernel) rfl (decide_eq_true hc17) ?_
    refine g_aload_n 31 (show op 320 30 = some (.aload_n 0, 1) by decide +kernel) rfl rfl ?_
    refine g_iload_n 32 (show op 320 31 = some (.iload_n 1, 1) by decide +kernel) rfl rfl ?_
    obtain ⟨s4, hD5, h⟩ := h
    refine g_call 35 [] (show op 320 32 = some (.invokevirtual 344, 3) by decide +kernel) (call_vi' (k' := 0) (n' := 0) (nj := 2) (j := 318) (k9 := 21) (t := []) (as := [(.inr (.inr (some 682))), (.inl x1)]) (by decide +kernel) rfl (by decide +kernel) rfl rfl rfl rfl rfl rfl (by decide +kernel) (by decide +kernel)) hD5 rfl ?_
    refine g_aload_n 36 (show op 320 35 = some (.aload_n 0, 1) by decide +kernel) rfl rfl ?_
    refine g_aload_n 37 (show op 320 36 = some (.aload_n 0, 1) by decide +kernel) rfl rfl ?_
    refine g_getR (ci := 11) (f := 31) (fin := true) (isR := true) 40 705 (show op 320 37 = some (.getfield 76, 3) by decide +kernel) rfl (by decide +kernel) (by decide +kernel) ?_
    refine g_iconst 41 (show op 320 40 = some (.iconst 0, 1) by decide +kernel) rfl rfl ?_
    refine g_aload_n 42 (show op 320 41 = some (.aload_n 0, 1) by decide +kernel) rfl rfl ?_
    refine g_getI (ci := 11) (f := 32) (fin := false) (isR := false) 45 (show op 320 42 = some (.getfield 335, 3) by decide +kernel) rfl (by decide +kernel) (by decide +kernel) ?_
    obtain ⟨s6, hD7, h⟩ := h
    refine g_call 48 [] (show op 320 45 = some (.invokevirtual 230, 3) by decide +kernel) (call_vi' (k' := 0) (n' := 0) (nj := 4) (j := 263) (k9 := 21) (t := []) (as := [(.inr (.inr (some 682))), (.inr (.inr (some 705))), (.inl 0), (.inl (s4 682 32))]) (by decide +kernel) rfl (by decide +kernel) rfl rfl rfl rfl rfl rfl (by decide +kernel) (by decide +kernel)) hD7 rfl ?_
    refine g_aload_n 49 (show op 320 48 = some (.aload_n 0, 1) by decide +kernel) rfl rfl ?_
    refine g_iload_n 50 (show op 320 49 = some (.iload_n 2, 1) by decide +kernel) rfl rfl ?_
    obtain ⟨s8, hD9, h⟩ := h
    refine g_call 53 [] (show op 320 50 = some (.invokevirtual 344, 3) by decide +kernel) (call_vi' (k' := 0) (n' := 0) (nj := 2) (j := 318) (k9 := 21) (t := []) (as := [(.inr (.inr (some 682))), (.inl x2)]) (by decide +kernel) rfl (by decide +kernel) rfl rfl rfl rfl rfl rfl (by decide +kernel) (by decide +kernel)) hD9 rfl ?_
    refine g_aload_n 54 (show op 320 53 = some (.aload_n 0, 1) by decide +kernel) rfl rfl ?_
    refine g_aload_n 55 (show op 320 54 = some (.aload_n 0, 1) by decide +kernel) rfl rfl ?_
    refine g_getR (ci := 11) (f := 31) (fin := true) (isR := true) 58 705 (show op 320 55 = some (.getfield 76, 3) by decide +kernel) rfl (by decide +kernel) (by decide +kernel) ?_
    refine g_iconst 59 (show op 320 58 = some (.iconst 0, 1) by decide +kernel) rfl rfl ?_
    refine g_aload_n 60 (show op 320 59 = some (.aload_n 0, 1) by decide +kernel) rfl rfl ?_
    refine g_getI (ci := 11) (f := 32) (fin := false) (isR := false) 63 (show op 320 60 = some (.getfield 335, 3) by decide +kernel) rfl (by decide +kernel) (by decide +kernel) ?_
    obtain ⟨s10, hD11, h⟩ := h
    refine g_call 66 [] (show op 320 63 = some (.invokevirtual 234, 3) by decide +kernel) (call_vi' (k' := 0) (n' := 0) (nj := 4) (j := 264) (k9 := 21) (t := []) (as := [(.inr (.inr (some 682))), (.inr (.inr (some 705))), (.inl 0), (.inl (s8 682 32))]) (by decide +kernel) rfl (by decide +kernel) rfl rfl rfl rfl rfl rfl (by decide +kernel) (by decide +kernel)) hD11 rfl ?_
    refine g_aload_n 67 (show op 320 66 = some (.aload_n 0, 1) by decide +kernel) rfl rfl ?_
    refine g_iconst 68 (show op 320 67 = some (.iconst 0, 1) by decide +kernel) rfl rfl ?_
    refine g_aload_n 69 (show op 320 68 = some (.aload_n 0, 1) by decide +kernel) rfl rfl ?_
    refine g_getI (ci := 11) (f := 12) (fin := false) (isR := false) 72 (show op 320 69 = some (.getfield 181, 3) by decide +kernel) rfl (by decide +kernel) (by decide +kernel) ?_
    refine g_iconst 73 (show op 320 72 = some (.iconst 0, 1) by decide +kernel) rfl rfl ?_
    refine g_aload_n 74 (show op 320 73 = some (.aload_n 0, 1) by decide +kernel) rfl rfl ?_
    refine g_getI (ci := 11) (f := 13) (fin := false) (isR := false) 77 (show op 320 74 = some (.getfield 184, 3) by decide +kernel) rfl (by decide +kernel) (by decide +kernel) ?_
    obtain ⟨s12, hD13, h⟩ := h
    refine g_call 80 [] (show op 320 77 = some (.invokevirtual 199, 3) by decide +kernel) (call_vi' (k' := 0) (n' := 0) (nj := 5) (j := 265) (k9 := 21) (t := []) (as := [(.inr (.inr (some 682))), (.inl 0), (.inl (s10 682 12)), (.inl 0), (.inl (s10 682 13))]) (by decide +kernel) rfl (by decide +kernel) rfl rfl rfl rfl rfl rfl (by decide +kernel) (by decide +kernel)) hD13 rfl ?_
    refine g_aload_n 81 (show op 320 80 = some (.aload_n 0, 1) by decide +kernel) rfl rfl ?_
    refine g_getI (ci := 11) (f := 12) (fin := false) (isR := false) 84 (show op 320 81 = some (.getfield 181, 3) by decide +kernel) rfl (by decide +kernel) (by decide +kernel) ?_
    refine g_aload_n 85 (show op 320 84 = some (.aload_n 0, 1) by decide +kernel) rfl rfl ?_
    refine g_getI (ci := 11) (f := 13) (fin := false) (isR := false) 88 (show op 320 85 = some (.getfield 184, 3) by decide +kernel) rfl (by decide +kernel) (by decide +kernel) ?_
    obtain ⟨g14, h⟩ := h
    refine g_iadd 89 (show op 320 88 = some (.iadd, 1) by decide +kernel) rfl g14 ?_
    refine g_iconst 90 (show op 320 89 = some (.iconst 2, 1) by decide +kernel) rfl rfl ?_
    refine g_aload_n 91 (show op 320 90 = some (.aload_n 0, 1) by decide +kernel) rfl rfl ?_
    refine g_getR (ci := 11) (f := 15) (fin := true) (isR := true) 94 694 (show op 320 91 = some (.getfield 43, 3) by decide +kernel) rfl (by decide +kernel) (by decide +kernel) ?_
    refine g_iconst 95 (show op 320 94 = some (.iconst 0, 1) by decide +kernel) rfl rfl ?_
    refine g_iaload 96 4225 (show op 320 95 = some (.iaload, 1) by decide +kernel) rfl (by decide +kernel) (by decide) ?_
    obtain ⟨g15, h⟩ := h
    refine g_imul 97 (show op 320 96 = some (.imul, 1) by decide +kernel) rfl g15 ?_
    obtain ⟨g16, h⟩ := h
    refine g_isub 98 (show op 320 97 = some (.isub, 1) by decide +kernel) rfl g16 ?_
    exact (g_iret (show op 320 98 = some (.ireturn, 1) by decide +kernel) (by decide +kernel) h)
/-- PatchBenchModel.distance (II)I -/
theorem b320 {x1 : Int} {x2 : Int} {σ : Sg} {o : Rs}   (h : (∃ (v2 : Int) (s1 : Sg), Dd 248 [(.inr (.inr (some 682))), (.inl x1)] σ (.inl (some (.inl v2)), s1) ∧ (if v2 = 0 then C320_21 x1 x2 s1 o else (∃ (v5 : Int) (s4 : Sg), Dd 248 [(.inr (.inr (some 682))), (.inl x2)] s1 (.inl (some (.inl v5)), s4) ∧ (if v5 = 0 then C320_21 x1 x2 s4 o else C320_22 x1 x2 0 s4 o))))) : Dd 320 [(.inr (.inr (some 682))), (.inl x1), (.inl x2)] σ o := by
  refine Dd_of (l := 3) (by decide +kernel) ?_
  show Gd 320 0 [(some (.inr (.inr (some 682)))), (some (.inl x1)), (some (.inl x2))] [] σ 0 0 o
  refine g_aload_n 1 (show op 320 0 = some (.aload_n 0, 1) by decide +kernel) rfl rfl ?_
  refine g_aload_n 2 (show op 320 1 = some (.aload_n 0, 1) by decide +kernel) rfl rfl ?_
  refine g_iload_n 3 (show op 320 2 = some (.iload_n 1, 1) by decide +kernel) rfl rfl ?_
  obtain ⟨v2, s1, hD3, h⟩ := h
  refine g_call 6 [(.inl v2), (.inr (.inr (some 682)))] (show op 320 3 = some (.invokevirtual 290, 3) by decide +kernel) (call_vi' (k' := 0) (n' := 0) (nj := 2) (j := 248) (k9 := 21) (t := [(.inr (.inr (some 682)))]) (as := [(.inr (.inr (some 682))), (.inl x1)]) (by decide +kernel) rfl (by decide +kernel) rfl rfl rfl rfl rfl rfl (by decide +kernel) (by decide +kernel)) hD3 rfl ?_
  by_cases hc7 : v2 = 0
  · rw [if_pos hc7] at h
    refine g_ifT 21 (show op 320 6 = some (.ifCond .eq 15, 3) by decide +kernel) rfl (decide_eq_true hc7) ?_
    exact h
  · rw [if_neg hc7] at h
    refine g_ifF 9 21 (show op 320 6 = some (.ifCond .eq 15, 3) by decide +kernel) rfl rfl (decide_eq_false hc7) ?_
    refine g_aload_n 10 (show op 320 9 = some (.aload_n 0, 1) by decide +kernel) rfl rfl ?_
    refine g_iload_n 11 (show op 320 10 = some (.iload_n 2, 1) by decide +kernel) rfl rfl ?_
    obtain ⟨v5, s4, hD6, h⟩ := h
    refine g_call 14 [(.inl v5), (.inr (.inr (some 682)))] (show op 320 11 = some (.invokevirtual 290, 3) by decide +kernel) (call_vi' (k' := 0) (n' := 0) (nj := 2) (j := 248) (k9 := 21) (t := [(.inr (.inr (some 682)))]) (as := [(.inr (.inr (some 682))), (.inl x2)]) (by decide +kernel) rfl (by decide +kernel) rfl rfl rfl rfl rfl rfl (by decide +kernel) (by decide +kernel)) hD6 rfl ?_
    by_cases hc8 : v5 = 0
    · rw [if_pos hc8] at h
      refine g_ifT 21 (show op 320 14 = some (.ifCond .eq 7, 3) by decide +kernel) rfl (decide_eq_true hc8) ?_
      exact h
    · rw [if_neg hc8] at h
      refine g_ifF 17 21 (show op 320 14 = some (.ifCond .eq 7, 3) by decide +kernel) rfl rfl (decide_eq_false hc8) ?_
      refine g_iconst 18 (show op 320 17 = some (.iconst 0, 1) by decide +kernel) rfl rfl ?_
      refine g_goto 22 (show op 320 18 = some (.goto 4, 3) by decide +kernel) rfl ?_
      exact h
def C321_45 (x1 : Int) (x2 : Int) (x3 : Int) (x4 : Int) (x5 : Int) (d6 : Option AV) (d7 : Option AV) (x8 : Int) (d9 : Option AV) (d10 : Option AV) (y0 : Int) (σ : Sg) (o : Rs) : Prop := Gd 321 45 [(some (.inr (.inr (some 682)))), (some (.inl x1)), (some (.inl x2)), (some (.inl x3)), (some (.inl x4)), (some (.inl x5)), d6, d7, (some (.inl x8)), d9, d10] [(.inl y0)] σ 0 0 o
def C321_44 (x1 : Int) (x2 : Int) (x3 : Int) (x4 : Int) (x5 : Int) (d6 : Option AV) (d7 : Option AV) (x8 : Int) (d9 : Option AV) (d10 : Option AV) (σ : Sg) (o : Rs) : Prop := Gd 321 44 [(some (.inr (.inr (some 682)))), (some (.inl x1)), (some (.inl x2)), (some (.inl x3)), (some (.inl x4)), (some (.inl x5)), d6, d7, (some (.inl x8)), d9, d10] [] σ 0 0 o
def C321_54 (x1 : Int) (x2 : Int) (x3 : Int) (x4 : Int) (d5 : Option AV) (d6 : Option AV) (d7 : Option AV) (x8 : Int) (x9 : Int) (x10 : Int) (σ : Sg) (o : Rs) : Prop := Gd 321 54 [(some (.inr (.inr (some 682)))), (some (.inl x1)), (some (.inl x2)), (some (.inl x3)), (some (.inl x4)), d5, d6, d7, (some (.inl x8)), (some (.inl x9)), (some (.inl x10))] [] σ 0 0 o
def C321_108 (x1 : Int) (x2 : Int) (x3 : Int) (x4 : Int) (d5 : Option AV) (d6 : Option AV) (d7 : Option AV) (x8 : Int) (d9 : Option AV) (x10 : Int) (y0 : Int) (σ : Sg) (o : Rs) : Prop := Gd 321 108 [(some (.inr (.inr (some 682)))), (some (.inl x1)), (some (.inl x2)), (some (.inl x3)), (some (.inl x4)), d5, d6, d7, (some (.inl x8)), d9, (some (.inl x10))] [(.inl y0)] σ 0 0 o
theorem b321_45 {x1 : Int} {x2 : Int} {x3 : Int} {x4 : Int} {x5 : Int} {d6 : Option AV} {d7 : Option AV} {x8 : Int} {d9 : Option AV} {d10 : Option AV} {y0 : Int} {σ : Sg} {o : Rs}   (h : (-2147483648 ≤ (x4 - x5) ∧ (x4 - x5) ≤ 2147483647) ∧ C321_54 x1 x2 x3 x4 (some (.inl x5)) d6 d7 x8 y0 (x4 - x5) σ o) : C321_45 x1 x2 x3 x4 x5 d6 d7 x8 d9 d10 y0 σ o := by
  show Gd 321 45 [(some (.inr (.inr (some 682)))), (some (.inl x1)), (some (.inl x2)), (some (.inl x3)), (some (.inl x4)), (some (.inl x5)), d6, d7, (some (.inl x8)), d9, d10] [(.inl y0)] σ 0 0 o
  refine g_istore 47 [(some (.inr (.inr (some 682)))), (some (.inl x1)), (some (.inl x2)), (some (.inl x3)), (some (.inl x4)), (some (.inl x5)), d6, d7, (some (.inl x8)), (some (.inl y0)), d10] (show op 321 45 = some (.istore 9, 2) by decide +kernel) rfl rfl rfl ?_
  refine g_iload 49 (show op 321 47 = some (.iload 4, 2) by decide +kernel) rfl rfl ?_
  refine g_iload 51 (show op 321 49 = some (.iload 5, 2) by decide +kernel) rfl rfl ?_
  obtain ⟨g1, h⟩ := h
  refine g_isub 52 (show op 321 51 = some (.isub, 1) by decide +kernel) rfl g1 ?_
  refine g_istore 54 [(some (.inr (.inr (some 682)))), (some (.inl x1)), (some (.inl x2)), (some (.inl x3)), (some (.inl x4)), (some (.inl x5)), d6, d7, (some (.inl x8)), (some (.inl y0)), (some (.inl (x4 - x5)))] (show op 321 52 = some (.istore 10, 2) by decide +kernel) rfl rfl rfl ?_
  exact h
theorem b321_44 {x1 : Int} {x2 : Int} {x3 : Int} {x4 : Int} {x5 : Int} {d6 : Option AV} {d7 : Option AV} {x8 : Int} {d9 : Option AV} {d10 : Option AV} {σ : Sg} {o : Rs}   (h : C321_45 x1 x2 x3 x4 x5 d6 d7 x8 d9 d10 0 σ o) : C321_44 x1 x2 x3 x4 x5 d6 d7 x8 d9 d10 σ o := by
  show Gd 321 44 [(some (.inr (.inr (some 682)))), (some (.inl x1)), (some (.inl x2)), (some (.inl x3)), (some (.inl x4)), (some (.inl x5)), d6, d7, (some (.inl x8)), d9, d10] [] σ 0 0 o
  refine g_iconst 45 (show op 321 44 = some (.iconst 0, 1) by decide +kernel) rfl rfl ?_
  exact h
theorem b321_54 {x1 : Int} {x2 : Int} {x3 : Int} {x4 : Int} {d5 : Option AV} {d6 : Option AV} {d7 : Option AV} {x8 : Int} {x9 : Int} {x10 : Int} {σ : Sg} {o : Rs}   (h : (if x10 < x8 then (if x9 = 0 then (x9 = 0 ∨ x9 = 1) ∧ o = (.inl (some (.inl x9)), σ) else (-2147483648 ≤ (16 * x3) ∧ (16 * x3) ≤ 2147483647) ∧ (-2147483648 ≤ ((16 * x3) + x10) ∧ ((16 * x3) + x10) ≤ 2147483647) ∧ (0 ≤ ((16 * x3) + x10) ∧ ((16 * x3) + x10) < 64) ∧ (-2147483648 ≤ (100 * x1) ∧ (100 * x1) ≤ 2147483647) ∧ (0 ≤ x2 ∧ x2 < 256) ∧ (-2147483648 ≤ ((100 * x1) + (σ 700 (x2).toNat)) ∧ ((100 * x1) + (σ 700 (x2).toNat)) ≤ 2147483647) ∧ (-2147483648 ≤ (((100 * x1) + (σ 700 (x2).toNat)) + x10) ∧ (((100 * x1) + (σ 700 (x2).toNat)) + x10) ≤ 2147483647) ∧ (-2147483648 ≤ ((((100 * x1) + (σ 700 (x2).toNat)) + x10) - x4) ∧ ((((100 * x1) + (σ 700 (x2).toNat)) + x10) - x4) ≤ 2147483647) ∧ (0 ≤ ((((100 * x1) + (σ 700 (x2).toNat)) + x10) - x4) ∧ ((((100 * x1) + (σ 700 (x2).toNat)) + x10) - x4) < 4400) ∧ C321_108 x1 x2 x3 x4 d5 d6 d7 x8 (some (.inl x9)) x10 (if (σ 683 (((16 * x3) + x10)).toNat) = (σ 685 (((((100 * x1) + (σ 700 (x2).toNat)) + x10) - x4)).toNat) then 1 else 0) σ o) else (x9 = 0 ∨ x9 = 1) ∧ o = (.inl (some (.inl x9)), σ))) : C321_54 x1 x2 x3 x4 d5 d6 d7 x8 x9 x10 σ o := by
  show Gd 321 54 [(some (.inr (.inr (some 682)))), (some (.inl x1)), (some (.inl x2)), (some (.inl x3)), (some (.inl x4)), d5, d6, d7, (some (.inl x8)), (some (.inl x9)), (some (.inl x10))] [] σ 0 0 o
  refine g_iload 56 (show op 321 54 = some (.iload 10, 2) by decide +kernel) rfl rfl ?_
  refine g_iload 58 (show op 321 56 = some (.iload 8, 2) by decide +kernel) rfl rfl ?_
  by_cases hc12 : x10 < x8
  · rw [if_pos hc12] at h
    refine g_icmpF 61 116 (show op 321 58 = some (.if_icmp .ge 58, 3) by decide +kernel) rfl rfl (decide_eq_false (Int.not_le.mpr hc12)) ?_
    refine g_iload 63 (show op 321 61 = some (.iload 9, 2) by decide +kernel) rfl rfl ?_
    by_cases hc13 : x9 = 0
    · rw [if_pos hc13] at h
      refine g_ifT 116 (show op 321 63 = some (.ifCond .eq 53, 3) by decide +kernel) rfl (decide_eq_true hc13) ?_
      refine g_iload 118 (show op 321 116 = some (.iload 9, 2) by decide +kernel) rfl rfl ?_
      obtain ⟨g1, h⟩ := h
      exact (g_zret (show op 321 118 = some (.ireturn, 1) by decide +kernel) (by decide +kernel) g1 h)
    · rw [if_neg hc13] at h
      refine g_ifF 66 116 (show op 321 63 = some (.ifCond .eq 53, 3) by decide +kernel) rfl rfl (decide_eq_false hc13) ?_
      refine g_aload_n 67 (show op 321 66 = some (.aload_n 0, 1) by decide +kernel) rfl rfl ?_
      refine g_getR (ci := 11) (f := 1) (fin := true) (isR := true) 70 683 (show op 321 67 = some (.getfield 7, 3) by decide +kernel) rfl (by decide +kernel) (by decide +kernel) ?_
      refine g_bipush 72 (show op 321 70 = some (.bipush 16, 2) by decide +kernel) rfl (by decide) ?_
      refine g_iload_n 73 (show op 321 72 = some (.iload_n 3, 1) by decide +kernel) rfl rfl ?_
      obtain ⟨g2, h⟩ := h
      refine g_imul 74 (show op 321 73 = some (.imul, 1) by decide +kernel) rfl g2 ?_
      refine g_iload 76 (show op 321 74 = some (.iload 10, 2) by decide +kernel) rfl rfl ?_
      obtain ⟨g3, h⟩ := h
      refine g_iadd 77 (show op 321 76 = some (.iadd, 1) by decide +kernel) rfl g3 ?_
      obtain ⟨g4, h⟩ := h
      refine g_iaload 78 64 (show op 321 77 = some (.iaload, 1) by decide +kernel) rfl (by decide +kernel) g4 ?_
      refine g_aload_n 79 (show op 321 78 = some (.aload_n 0, 1) by decide +kernel) rfl rfl ?_
      refine g_getR (ci := 11) (f := 4) (fin := true) (isR := true) 82 685 (show op 321 79 = some (.getfield 16, 3) by decide +kernel) rfl (by decide +kernel) (by decide +kernel) ?_
      refine g_bipush 84 (show op 321 82 = some (.bipush 100, 2) by decide +kernel) rfl (by decide) ?_
      refine g_iload_n 85 (show op 321 84 = some (.iload_n 1, 1) by decide +kernel) rfl rfl ?_
      obtain ⟨g5, h⟩ := h
      refine g_imul 86 (show op 321 85 = some (.imul, 1) by decide +kernel) rfl g5 ?_
      refine g_aload_n 87 (show op 321 86 = some (.aload_n 0, 1) by decide +kernel) rfl rfl ?_
      refine g_getR (ci := 11) (f := 26) (fin := true) (isR := true) 90 700 (show op 321 87 = some (.getfield 61, 3) by decide +kernel) rfl (by decide +kernel) (by decide +kernel) ?_
      refine g_iload_n 91 (show op 321 90 = some (.iload_n 2, 1) by decide +kernel) rfl rfl ?_
      obtain ⟨g6, h⟩ := h
      refine g_iaload 92 256 (show op 321 91 = some (.iaload, 1) by decide +kernel) rfl (by decide +kernel) g6 ?_
      obtain ⟨g7, h⟩ := h
      refine g_iadd 93 (show op 321 92 = some (.iadd, 1) by decide +kernel) rfl g7 ?_
      refine g_iload 95 (show op 321 93 = some (.iload 10, 2) by decide +kernel) rfl rfl ?_
      obtain ⟨g8, h⟩ := h
      refine g_iadd 96 (show op 321 95 = some (.iadd, 1) by decide +kernel) rfl g8 ?_
      refine g_iload 98 (show op 321 96 = some (.iload 4, 2) by decide +kernel) rfl rfl ?_
      obtain ⟨g9, h⟩ := h
      refine g_isub 99 (show op 321 98 = some (.isub, 1) by decide +kernel) rfl g9 ?_
      obtain ⟨g10, h⟩ := h
      refine g_iaload 100 4400 (show op 321 99 = some (.iaload, 1) by decide +kernel) rfl (by decide +kernel) g10 ?_
      by_cases hc14 : (σ 683 (((16 * x3) + x10)).toNat) = (σ 685 (((((100 * x1) + (σ 700 (x2).toNat)) + x10) - x4)).toNat)
      · refine g_icmpF 103 107 (show op 321 100 = some (.if_icmp .ne 7, 3) by decide +kernel) rfl rfl (decide_eq_false (fun h9 => h9 hc14)) ?_
        refine g_iconst 104 (show op 321 103 = some (.iconst 1, 1) by decide +kernel) rfl rfl ?_
        refine g_goto 108 (show op 321 104 = some (.goto 4, 3) by decide +kernel) rfl ?_
        have h9 := h; simp only [if_pos hc14] at h9; exact h9
      · refine g_icmpT 107 (show op 321 100 = some (.if_icmp .ne 7, 3) by decide +kernel) rfl (decide_eq_true hc14) ?_
        refine g_iconst 108 (show op 321 107 = some (.iconst 0, 1) by decide +kernel) rfl rfl ?_
        have h9 := h; simp only [if_neg hc14] at h9; exact h9
  · rw [if_neg hc12] at h
    refine g_icmpT 116 (show op 321 58 = some (.if_icmp .ge 58, 3) by decide +kernel) rfl (decide_eq_true (Int.not_lt.mp hc12)) ?_
    refine g_iload 118 (show op 321 116 = some (.iload 9, 2) by decide +kernel) rfl rfl ?_
    obtain ⟨g11, h⟩ := h
    exact (g_zret (show op 321 118 = some (.ireturn, 1) by decide +kernel) (by decide +kernel) g11 h)
theorem b321_108 {x1 : Int} {x2 : Int} {x3 : Int} {x4 : Int} {d5 : Option AV} {d6 : Option AV} {d7 : Option AV} {x8 : Int} {d9 : Option AV} {x10 : Int} {y0 : Int} {σ : Sg} {o : Rs}   (h : (-2147483648 ≤ (x10 + 1) ∧ (x10 + 1) ≤ 2147483647) ∧ C321_54 x1 x2 x3 x4 d5 d6 d7 x8 y0 (x10 + 1) σ o) : C321_108 x1 x2 x3 x4 d5 d6 d7 x8 d9 x10 y0 σ o := by
  show Gd 321 108 [(some (.inr (.inr (some 682)))), (some (.inl x1)), (some (.inl x2)), (some (.inl x3)), (some (.inl x4)), d5, d6, d7, (some (.inl x8)), d9, (some (.inl x10))] [(.inl y0)] σ 0 0 o
  refine g_istore 110 [(some (.inr (.inr (some 682)))), (some (.inl x1)), (some (.inl x2)), (some (.inl x3)), (some (.inl x4)), d5, d6, d7, (some (.inl x8)), (some (.inl y0)), (some (.inl x10))] (show op 321 108 = some (.istore 9, 2) by decide +kernel) rfl rfl rfl ?_
  obtain ⟨g1, h⟩ := h
  refine g_iinc 113 [(some (.inr (.inr (some 682)))), (some (.inl x1)), (some (.inl x2)), (some (.inl x3)), (some (.inl x4)), d5, d6, d7, (some (.inl x8)), (some (.inl y0)), (some (.inl (x10 + 1)))] (show op 321 110 = some (.iinc 10 1, 3) by decide +kernel) rfl rfl g1 rfl ?_
  refine g_goto 54 (show op 321 113 = some (.goto (-59), 3) by decide +kernel) rfl ?_
  exact h
/-- PatchBenchModel.fits (IIIIIII)Z -/
theorem b321 {x1 : Int} {x2 : Int} {x3 : Int} {x4 : Int} {x5 : Int} {x6 : Int} {x7 : Int} {σ : Sg} {o : Rs}   (h : (0 ≤ x2 ∧ x2 < 256) ∧ (-2147483648 ≤ (x4 + (σ 701 (x2).toNat)) ∧ (x4 + (σ 701 (x2).toNat)) ≤ 2147483647) ∧ (-2147483648 ≤ ((x4 + (σ 701 (x2).toNat)) + x6) ∧ ((x4 + (σ 701 (x2).toNat)) + x6) ≤ 2147483647) ∧ (if x7 ≤ x4 then (-2147483648 ≤ (x4 - x5) ∧ (x4 - x5) ≤ 2147483647) ∧ (if 0 ≤ (x4 - x5) then (0 ≤ x3 ∧ x3 < 4) ∧ (if ((x4 + (σ 701 (x2).toNat)) + x6) ≤ (σ 684 (x3).toNat) then C321_45 x1 x2 x3 x4 x5 (some (.inl x6)) (some (.inl x7)) ((x4 + (σ 701 (x2).toNat)) + x6) none none 1 σ o else C321_44 x1 x2 x3 x4 x5 (some (.inl x6)) (some (.inl x7)) ((x4 + (σ 701 (x2).toNat)) + x6) none none σ o) else C321_44 x1 x2 x3 x4 x5 (some (.inl x6)) (some (.inl x7)) ((x4 + (σ 701 (x2).toNat)) + x6) none none σ o) else C321_44 x1 x2 x3 x4 x5 (some (.inl x6)) (some (.inl x7)) ((x4 + (σ 701 (x2).toNat)) + x6) none none σ o)) : Dd 321 [(.inr (.inr (some 682))), (.inl x1), (.inl x2), (.inl x3), (.inl x4), (.inl x5), (.inl x6), (.inl x7)] σ o := by
  refine Dd_of (l := 11) (by decide +kernel) ?_
  show Gd 321 0 [(some (.inr (.inr (some 682)))), (some (.inl x1)), (some (.inl x2)), (some (.inl x3)), (some (.inl x4)), (some (.inl x5)), (some (.inl x6)), (some (.inl x7)), none, none, none] [] σ 0 0 o
  refine g_iload 2 (show op 321 0 = some (.iload 4, 2) by decide +kernel) rfl rfl ?_
  refine g_aload_n 3 (show op 321 2 = some (.aload_n 0, 1) by decide +kernel) rfl rfl ?_
  refine g_getR (ci := 11) (f := 27) (fin := true) (isR := true) 6 701 (show op 321 3 = some (.getfield 64, 3) by decide +kernel) rfl (by decide +kernel) (by decide +kernel) ?_
  refine g_iload_n 7 (show op 321 6 = some (.iload_n 2, 1) by decide +kernel) rfl rfl ?_
  obtain ⟨g1, h⟩ := h
  refine g_iaload 8 256 (show op 321 7 = some (.iaload, 1) by decide +kernel) rfl (by decide +kernel) g1 ?_
  obtain ⟨g2, h⟩ := h
  refine g_iadd 9 (show op 321 8 = some (.iadd, 1) by decide +kernel) rfl g2 ?_
  refine g_iload 11 (show op 321 9 = some (.iload 6, 2) by decide +kernel) rfl rfl ?_
  obtain ⟨g3, h⟩ := h
  refine g_iadd 12 (show op 321 11 = some (.iadd, 1) by decide +kernel) rfl g3 ?_
  refine g_istore 14 [(some (.inr (.inr (some 682)))), (some (.inl x1)), (some (.inl x2)), (some (.inl x3)), (some (.inl x4)), (some (.inl x5)), (some (.inl x6)), (some (.inl x7)), (some (.inl ((x4 + (σ 701 (x2).toNat)) + x6))), none, none] (show op 321 12 = some (.istore 8, 2) by decide +kernel) rfl rfl rfl ?_
  refine g_iload 16 (show op 321 14 = some (.iload 4, 2) by decide +kernel) rfl rfl ?_
  refine g_iload 18 (show op 321 16 = some (.iload 7, 2) by decide +kernel) rfl rfl ?_
  by_cases hc6 : x7 ≤ x4
  · rw [if_pos hc6] at h
    refine g_icmpF 21 44 (show op 321 18 = some (.if_icmp .lt 26, 3) by decide +kernel) rfl rfl (decide_eq_false (Int.not_lt.mpr hc6)) ?_
    refine g_iload 23 (show op 321 21 = some (.iload 4, 2) by decide +kernel) rfl rfl ?_
    refine g_iload 25 (show op 321 23 = some (.iload 5, 2) by decide +kernel) rfl rfl ?_
    obtain ⟨g4, h⟩ := h
    refine g_isub 26 (show op 321 25 = some (.isub, 1) by decide +kernel) rfl g4 ?_
    by_cases hc7 : 0 ≤ (x4 - x5)
    · rw [if_pos hc7] at h
      refine g_ifF 29 44 (show op 321 26 = some (.ifCond .lt 18, 3) by decide +kernel) rfl rfl (decide_eq_false (Int.not_lt.mpr hc7)) ?_
      refine g_iload 31 (show op 321 29 = some (.iload 8, 2) by decide +kernel) rfl rfl ?_
      refine g_aload_n 32 (show op 321 31 = some (.aload_n 0, 1) by decide +kernel) rfl rfl ?_
      refine g_getR (ci := 11) (f := 2) (fin := true) (isR := true) 35 684 (show op 321 32 = some (.getfield 13, 3) by decide +kernel) rfl (by decide +kernel) (by decide +kernel) ?_
      refine g_iload_n 36 (show op 321 35 = some (.iload_n 3, 1) by decide +kernel) rfl rfl ?_
      obtain ⟨g5, h⟩ := h
      refine g_iaload 37 4 (show op 321 36 = some (.iaload, 1) by decide +kernel) rfl (by decide +kernel) g5 ?_
      by_cases hc8 : ((x4 + (σ 701 (x2).toNat)) + x6) ≤ (σ 684 (x3).toNat)
      · rw [if_pos hc8] at h
        refine g_icmpF 40 44 (show op 321 37 = some (.if_icmp .gt 7, 3) by decide +kernel) rfl rfl (decide_eq_false (Int.not_lt.mpr hc8)) ?_
        refine g_iconst 41 (show op 321 40 = some (.iconst 1, 1) by decide +kernel) rfl rfl ?_
        refine g_goto 45 (show op 321 41 = some (.goto 4, 3) by decide +kernel) rfl ?_
        exact h
      · rw [if_neg hc8] at h
        refine g_icmpT 44 (show op 321 37 = some (.if_icmp .gt 7, 3) by decide +kernel) rfl (decide_eq_true (Int.not_le.mp hc8)) ?_
        exact h
    · rw [if_neg hc7] at h
      refine g_ifT 44 (show op 321 26 = some (.ifCond .lt 18, 3) by decide +kernel) rfl (decide_eq_true (Int.not_le.mp hc7)) ?_
      exact h
  · rw [if_neg hc6] at h
    refine g_icmpT 44 (show op 321 18 = some (.if_icmp .lt 26, 3) by decide +kernel) rfl (decide_eq_true (Int.not_le.mp hc6)) ?_
    exact h
def C322_3 (x1 : Int) (x2 : Int) (x3 : Int) (x4 : Int) (x5 : Int) (x6 : Int) (x7 : Int) (x8 : Int) (σ : Sg) (o : Rs) : Prop := Gd 322 3 [(some (.inr (.inr (some 682)))), (some (.inl x1)), (some (.inl x2)), (some (.inl x3)), (some (.inl x4)), (some (.inl x5)), (some (.inl x6)), (some (.inl x7)), (some (.inl x8))] [] σ 0 0 o
theorem b322_3 {x1 : Int} {x2 : Int} {x3 : Int} {x4 : Int} {x5 : Int} {x6 : Int} {x7 : Int} {x8 : Int} {σ : Sg} {o : Rs}   (h : (if x8 < 48 then (-2147483648 ≤ (x4 - x8) ∧ (x4 - x8) ≤ 2147483647) ∧ (∃ (v3 : Int) (s2 : Sg), Dd 321 [(.inr (.inr (some 682))), (.inl x1), (.inl x2), (.inl x3), (.inl (x4 - x8)), (.inl x5), (.inl x6), (.inl x7)] σ (.inl (some (.inl v3)), s2) ∧ (if v3 = 0 then (-2147483648 ≤ (x4 + x8) ∧ (x4 + x8) ≤ 2147483647) ∧ (∃ (v7 : Int) (s6 : Sg), Dd 321 [(.inr (.inr (some 682))), (.inl x1), (.inl x2), (.inl x3), (.inl (x4 + x8)), (.inl x5), (.inl x6), (.inl x7)] s2 (.inl (some (.inl v7)), s6) ∧ (if v7 = 0 then (-2147483648 ≤ (x8 + 1) ∧ (x8 + 1) ≤ 2147483647) ∧ C322_3 x1 x2 x3 x4 x5 x6 x7 (x8 + 1) s6 o else (-2147483648 ≤ (x4 + x8) ∧ (x4 + x8) ≤ 2147483647) ∧ o = (.inl (some (.inl (x4 + x8))), s6))) else (-2147483648 ≤ (x4 - x8) ∧ (x4 - x8) ≤ 2147483647) ∧ o = (.inl (some (.inl (x4 - x8))), s2))) else o = (.inl (some (.inl (-1))), σ))) : C322_3 x1 x2 x3 x4 x5 x6 x7 x8 σ o := by
  show Gd 322 3 [(some (.inr (.inr (some 682)))), (some (.inl x1)), (some (.inl x2)), (some (.inl x3)), (some (.inl x4)), (some (.inl x5)), (some (.inl x6)), (some (.inl x7)), (some (.inl x8))] [] σ 0 0 o
  refine g_iload 5 (show op 322 3 = some (.iload 8, 2) by decide +kernel) rfl rfl ?_
  refine g_bipush 7 (show op 322 5 = some (.bipush 48, 2) by decide +kernel) rfl (by decide) ?_
  by_cases hc12 : x8 < 48
  · rw [if_pos hc12] at h
    refine g_icmpF 10 70 (show op 322 7 = some (.if_icmp .ge 63, 3) by decide +kernel) rfl rfl (decide_eq_false (Int.not_le.mpr hc12)) ?_
    refine g_aload_n 11 (show op 322 10 = some (.aload_n 0, 1) by decide +kernel) rfl rfl ?_
    refine g_iload_n 12 (show op 322 11 = some (.iload_n 1, 1) by decide +kernel) rfl rfl ?_
    refine g_iload_n 13 (show op 322 12 = some (.iload_n 2, 1) by decide +kernel) rfl rfl ?_
    refine g_iload_n 14 (show op 322 13 = some (.iload_n 3, 1) by decide +kernel) rfl rfl ?_
    refine g_iload 16 (show op 322 14 = some (.iload 4, 2) by decide +kernel) rfl rfl ?_
    refine g_iload 18 (show op 322 16 = some (.iload 8, 2) by decide +kernel) rfl rfl ?_
    obtain ⟨g1, h⟩ := h
    refine g_isub 19 (show op 322 18 = some (.isub, 1) by decide +kernel) rfl g1 ?_
    refine g_iload 21 (show op 322 19 = some (.iload 5, 2) by decide +kernel) rfl rfl ?_
    refine g_iload 23 (show op 322 21 = some (.iload 6, 2) by decide +kernel) rfl rfl ?_
    refine g_iload 25 (show op 322 23 = some (.iload 7, 2) by decide +kernel) rfl rfl ?_
    obtain ⟨v3, s2, hD4, h⟩ := h
    refine g_call 28 [(.inl v3)] (show op 322 25 = some (.invokevirtual 347, 3) by decide +kernel) (call_vi' (k' := 0) (n' := 0) (nj := 8) (j := 321) (k9 := 21) (t := []) (as := [(.inr (.inr (some 682))), (.inl x1), (.inl x2), (.inl x3), (.inl (x4 - x8)), (.inl x5), (.inl x6), (.inl x7)]) (by decide +kernel) rfl (by decide +kernel) rfl rfl rfl rfl rfl rfl (by decide +kernel) (by decide +kernel)) hD4 rfl ?_
    by_cases hc13 : v3 = 0
    · rw [if_pos hc13] at h
      refine g_ifT 37 (show op 322 28 = some (.ifCond .eq 9, 3) by decide +kernel) rfl (decide_eq_true hc13) ?_
      refine g_aload_n 38 (show op 322 37 = some (.aload_n 0, 1) by decide +kernel) rfl rfl ?_
      refine g_iload_n 39 (show op 322 38 = some (.iload_n 1, 1) by decide +kernel) rfl rfl ?_
      refine g_iload_n 40 (show op 322 39 = some (.iload_n 2, 1) by decide +kernel) rfl rfl ?_
      refine g_iload_n 41 (show op 322 40 = some (.iload_n 3, 1) by decide +kernel) rfl rfl ?_
      refine g_iload 43 (show op 322 41 = some (.iload 4, 2) by decide +kernel) rfl rfl ?_
      refine g_iload 45 (show op 322 43 = some (.iload 8, 2) by decide +kernel) rfl rfl ?_
      obtain ⟨g5, h⟩ := h
      refine g_iadd 46 (show op 322 45 = some (.iadd, 1) by decide +kernel) rfl g5 ?_
      refine g_iload 48 (show op 322 46 = some (.iload 5, 2) by decide +kernel) rfl rfl ?_
      refine g_iload 50 (show op 322 48 = some (.iload 6, 2) by decide +kernel) rfl rfl ?_
      refine g_iload 52 (show op 322 50 = some (.iload 7, 2) by decide +kernel) rfl rfl ?_
      obtain ⟨v7, s6, hD8, h⟩ := h
      refine g_call 55 [(.inl v7)] (show op 322 52 = some (.invokevirtual 347, 3) by decide +kernel) (call_vi' (k' := 0) (n' := 0) (nj := 8) (j := 321) (k9 := 21) (t := []) (as := [(.inr (.inr (some 682))), (.inl x1), (.inl x2), (.inl x3), (.inl (x4 + x8)), (.inl x5), (.inl x6), (.inl x7)]) (by decide +kernel) rfl (by decide +kernel) rfl rfl rfl rfl rfl rfl (by decide +kernel) (by decide +kernel)) hD8 rfl ?_
      by_cases hc14 : v7 = 0
      · rw [if_pos hc14] at h
        refine g_ifT 64 (show op 322 55 = some (.ifCond .eq 9, 3) by decide +kernel) rfl (decide_eq_true hc14) ?_
        obtain ⟨g9, h⟩ := h
        refine g_iinc 67 [(some (.inr (.inr (some 682)))), (some (.inl x1)), (some (.inl x2)), (some (.inl x3)), (some (.inl x4)), (some (.inl x5)), (some (.inl x6)), (some (.inl x7)), (some (.inl (x8 + 1)))] (show op 322 64 = some (.iinc 8 1, 3) by decide +kernel) rfl rfl g9 rfl ?_
        refine g_goto 3 (show op 322 67 = some (.goto (-64), 3) by decide +kernel) rfl ?_
        exact h
      · rw [if_neg hc14] at h
        refine g_ifF 58 64 (show op 322 55 = some (.ifCond .eq 9, 3) by decide +kernel) rfl rfl (decide_eq_false hc14) ?_
        refine g_iload 60 (show op 322 58 = some (.iload 4, 2) by decide +kernel) rfl rfl ?_
        refine g_iload 62 (show op 322 60 = some (.iload 8, 2) by decide +kernel) rfl rfl ?_
        obtain ⟨g10, h⟩ := h
        refine g_iadd 63 (show op 322 62 = some (.iadd, 1) by decide +kernel) rfl g10 ?_
        exact (g_iret (show op 322 63 = some (.ireturn, 1) by decide +kernel) (by decide +kernel) h)
    · rw [if_neg hc13] at h
      refine g_ifF 31 37 (show op 322 28 = some (.ifCond .eq 9, 3) by decide +kernel) rfl rfl (decide_eq_false hc13) ?_
      refine g_iload 33 (show op 322 31 = some (.iload 4, 2) by decide +kernel) rfl rfl ?_
      refine g_iload 35 (show op 322 33 = some (.iload 8, 2) by decide +kernel) rfl rfl ?_
      obtain ⟨g11, h⟩ := h
      refine g_isub 36 (show op 322 35 = some (.isub, 1) by decide +kernel) rfl g11 ?_
      exact (g_iret (show op 322 36 = some (.ireturn, 1) by decide +kernel) (by decide +kernel) h)
  · rw [if_neg hc12] at h
    refine g_icmpT 70 (show op 322 7 = some (.if_icmp .ge 63, 3) by decide +kernel) rfl (decide_eq_true (Int.not_lt.mp hc12)) ?_
    refine g_iconst 71 (show op 322 70 = some (.iconst (-1), 1) by decide +kernel) rfl rfl ?_
    exact (g_iret (show op 322 71 = some (.ireturn, 1) by decide +kernel) (by decide +kernel) h)
/-- PatchBenchModel.seeks (IIIIIII)I -/
theorem b322 {x1 : Int} {x2 : Int} {x3 : Int} {x4 : Int} {x5 : Int} {x6 : Int} {x7 : Int} {σ : Sg} {o : Rs}   (h : C322_3 x1 x2 x3 x4 x5 x6 x7 0 σ o) : Dd 322 [(.inr (.inr (some 682))), (.inl x1), (.inl x2), (.inl x3), (.inl x4), (.inl x5), (.inl x6), (.inl x7)] σ o := by
  refine Dd_of (l := 9) (by decide +kernel) ?_
  show Gd 322 0 [(some (.inr (.inr (some 682)))), (some (.inl x1)), (some (.inl x2)), (some (.inl x3)), (some (.inl x4)), (some (.inl x5)), (some (.inl x6)), (some (.inl x7)), none] [] σ 0 0 o
  refine g_iconst 1 (show op 322 0 = some (.iconst 0, 1) by decide +kernel) rfl rfl ?_
  refine g_istore 3 [(some (.inr (.inr (some 682)))), (some (.inl x1)), (some (.inl x2)), (some (.inl x3)), (some (.inl x4)), (some (.inl x5)), (some (.inl x6)), (some (.inl x7)), (some (.inl 0))] (show op 322 1 = some (.istore 8, 2) by decide +kernel) rfl rfl rfl ?_
  exact h
/-- PatchBenchModel.lessTo (II)I -/
theorem b323 {x0 : Int} {x1 : Int} {σ : Sg} {o : Rs}   (h : ((x1 < x0) → -2147483648 ≤ (x0 - x1) ∧ (x0 - x1) ≤ 2147483647) ∧ o = (.inl (some (.inl (if x1 < x0 then (x0 - x1) else 0))), σ)) : Dd 323 [(.inl x0), (.inl x1)] σ o := by
  refine Dd_of (l := 2) (by decide +kernel) ?_
  show Gd 323 0 [(some (.inl x0)), (some (.inl x1))] [] σ 0 0 o
  refine g_iload_n 1 (show op 323 0 = some (.iload_n 0, 1) by decide +kernel) rfl rfl ?_
  refine g_iload_n 2 (show op 323 1 = some (.iload_n 1, 1) by decide +kernel) rfl rfl ?_
  obtain ⟨G3, h⟩ := h
  by_cases hc2 : x1 < x0
  · refine g_icmpF 5 11 (show op 323 2 = some (.if_icmp .le 9, 3) by decide +kernel) rfl rfl (decide_eq_false (Int.not_le.mpr hc2)) ?_
    refine g_iload_n 6 (show op 323 5 = some (.iload_n 0, 1) by decide +kernel) rfl rfl ?_
    refine g_iload_n 7 (show op 323 6 = some (.iload_n 1, 1) by decide +kernel) rfl rfl ?_
    have g1 := G3 hc2
    refine g_isub 8 (show op 323 7 = some (.isub, 1) by decide +kernel) rfl g1 ?_
    refine g_goto 12 (show op 323 8 = some (.goto 4, 3) by decide +kernel) rfl ?_
    have h9 := h; simp only [if_pos hc2] at h9; exact (g_iret (show op 323 12 = some (.ireturn, 1) by decide +kernel) (by decide +kernel) h9)
  · refine g_icmpT 11 (show op 323 2 = some (.if_icmp .le 9, 3) by decide +kernel) rfl (decide_eq_true (Int.not_lt.mp hc2)) ?_
    refine g_iconst 12 (show op 323 11 = some (.iconst 0, 1) by decide +kernel) rfl rfl ?_
    have h9 := h; simp only [if_neg hc2] at h9; exact (g_iret (show op 323 12 = some (.ireturn, 1) by decide +kernel) (by decide +kernel) h9)
def C324_25 (x1 : Int) (x2 : Int) (x3 : Int) (x4 : Int) (x5 : Int) (x6 : Int) (x7 : Int) (x8 : Int) (d9 : Option AV) (d10 : Option AV) (d11 : Option AV) (σ : Sg) (o : Rs) : Prop := Gd 324 25 [(some (.inr (.inr (some 682)))), (some (.inl x1)), (some (.inl x2)), (some (.inl x3)), (some (.inl x4)), (some (.inl x5)), (some (.inl x6)), (some (.inl x7)), (some (.inl x8)), d9, d10, d11] [] σ 0 0 o
def C324_52 (x1 : Int) (x2 : Int) (x3 : Int) (x4 : Int) (x5 : Int) (x6 : Int) (x7 : Int) (x8 : Int) (d9 : Option AV) (d10 : Option AV) (d11 : Option AV) (y0 : Int) (σ : Sg) (o : Rs) : Prop := Gd 324 52 [(some (.inr (.inr (some 682)))), (some (.inl x1)), (some (.inl x2)), (some (.inl x3)), (some (.inl x4)), (some (.inl x5)), (some (.inl x6)), (some (.inl x7)), (some (.inl x8)), d9, d10, d11] [(.inl y0)] σ 0 0 o
def C324_312 (d1 : Option AV) (x2 : Int) (d3 : Option AV) (d4 : Option AV) (x5 : Int) (d6 : Option AV) (d7 : Option AV) (x8 : Int) (d9 : Option AV) (d10 : Option AV) (d11 : Option AV) (σ : Sg) (o : Rs) : Prop := Gd 324 312 [(some (.inr (.inr (some 682)))), d1, (some (.inl x2)), d3, d4, (some (.inl x5)), d6, d7, (some (.inl x8)), d9, d10, d11] [] σ 0 0 o
def C324_76 (x1 : Int) (x2 : Int) (x3 : Int) (x4 : Int) (x5 : Int) (x6 : Int) (x7 : Int) (x8 : Int) (x9 : Int) (d10 : Option AV) (d11 : Option AV) (y0 : Int) (σ : Sg) (o : Rs) : Prop := Gd 324 76 [(some (.inr (.inr (some 682)))), (some (.inl x1)), (some (.inl x2)), (some (.inl x3)), (some (.inl x4)), (some (.inl x5)), (some (.inl x6)), (some (.inl x7)), (some (.inl x8)), (some (.inl x9)), d10, d11] [(.inl y0)] σ 0 0 o
def C324_89 (x1 : Int) (x2 : Int) (x3 : Int) (x4 : Int) (x5 : Int) (x6 : Int) (x7 : Int) (x8 : Int) (x9 : Int) (x10 : Int) (x11 : Int) (σ : Sg) (o : Rs) : Prop := Gd 324 89 [(some (.inr (.inr (some 682)))), (some (.inl x1)), (some (.inl x2)), (some (.inl x3)), (some (.inl x4)), (some (.inl x5)), (some (.inl x6)), (some (.inl x7)), (some (.inl x8)), (some (.inl x9)), (some (.inl x10)), (some (.inl x11))] [] σ 0 0 o
def C324_162 (x1 : Int) (x2 : Int) (x3 : Int) (x4 : Int) (x5 : Int) (x6 : Int) (x7 : Int) (x8 : Int) (d9 : Option AV) (d10 : Option AV) (d11 : Option AV) (σ : Sg) (o : Rs) : Prop := Gd 324 162 [(some (.inr (.inr (some 682)))), (some (.inl x1)), (some (.inl x2)), (some (.inl x3)), (some (.inl x4)), (some (.inl x5)), (some (.inl x6)), (some (.inl x7)), (some (.inl x8)), d9, d10, d11] [] σ 0 0 o
def C324_302 (x1 : Int) (x2 : Int) (x3 : Int) (x4 : Int) (x5 : Int) (x6 : Int) (x7 : Int) (x8 : Int) (d9 : Option AV) (d10 : Option AV) (d11 : Option AV) (σ : Sg) (o : Rs) : Prop := Gd 324 302 [(some (.inr (.inr (some 682)))), (some (.inl x1)), (some (.inl x2)), (some (.inl x3)), (some (.inl x4)), (some (.inl x5)), (some (.inl x6)), (some (.inl x7)), (some (.inl x8)), d9, d10, d11] [] σ 0 0 o
def C324_189 (x1 : Int) (x2 : Int) (x3 : Int) (x4 : Int) (x5 : Int) (d6 : Option AV) (d7 : Option AV) (x8 : Int) (d9 : Option AV) (d10 : Option AV) (x11 : Int) (σ : Sg) (o : Rs) : Prop := Gd 324 189 [(some (.inr (.inr (some 682)))), (some (.inl x1)), (some (.inl x2)), (some (.inl x3)), (some (.inl x4)), (some (.inl x5)), d6, d7, (some (.inl x8)), d9, d10, (some (.inl x11))] [] σ 0 0 o
def C324_226 (x1 : Int) (x2 : Int) (x3 : Int) (x4 : Int) (x5 : Int) (d6 : Option AV) (d7 : Option AV) (x8 : Int) (d9 : Option AV) (d10 : Option AV) (x11 : Int) (σ : Sg) (o : Rs) : Prop := Gd 324 226 [(some (.inr (.inr (some 682)))), (some (.inl x1)), (some (.inl x2)), (some (.inl x3)), (some (.inl x4)), (some (.inl x5)), d6, d7, (some (.inl x8)), d9, d10, (some (.inl x11))] [] σ 0 0 o
theorem b324_25 {x1 : Int} {x2 : Int} {x3 : Int} {x4 : Int} {x5 : Int} {x6 : Int} {x7 : Int} {x8 : Int} {d9 : Option AV} {d10 : Option AV} {d11 : Option AV} {σ : Sg} {o : Rs}   (h : (if x8 < x4 then (∃ (v2 : Int) (s1 : Sg), Dd 282 [(.inr (.inr (some 682))), (.inl x8)] σ (.inl (some (.inl v2)), s1) ∧ (if 3 < v2 then C324_52 x1 x2 x3 x4 x5 x6 x7 x8 d9 d10 d11 3 s1 o else (∃ (v5 : Int) (s4 : Sg), Dd 282 [(.inr (.inr (some 682))), (.inl x8)] s1 (.inl (some (.inl v5)), s4) ∧ C324_52 x1 x2 x3 x4 x5 x6 x7 x8 d9 d10 d11 v5 s4 o))) else C324_312 (some (.inl x1)) x2 (some (.inl x3)) (some (.inl x4)) x5 (some (.inl x6)) (some (.inl x7)) x6 d9 d10 d11 σ o)) : C324_25 x1 x2 x3 x4 x5 x6 x7 x8 d9 d10 d11 σ o := by
  show Gd 324 25 [(some (.inr (.inr (some 682)))), (some (.inl x1)), (some (.inl x2)), (some (.inl x3)), (some (.inl x4)), (some (.inl x5)), (some (.inl x6)), (some (.inl x7)), (some (.inl x8)), d9, d10, d11] [] σ 0 0 o
  refine g_iload 27 (show op 324 25 = some (.iload 8, 2) by decide +kernel) rfl rfl ?_
  refine g_iload 29 (show op 324 27 = some (.iload 4, 2) by decide +kernel) rfl rfl ?_
  by_cases hc7 : x8 < x4
  · rw [if_pos hc7] at h
    refine g_icmpF 32 308 (show op 324 29 = some (.if_icmp .ge 279, 3) by decide +kernel) rfl rfl (decide_eq_false (Int.not_le.mpr hc7)) ?_
    refine g_aload_n 33 (show op 324 32 = some (.aload_n 0, 1) by decide +kernel) rfl rfl ?_
    refine g_iload 35 (show op 324 33 = some (.iload 8, 2) by decide +kernel) rfl rfl ?_
    obtain ⟨v2, s1, hD3, h⟩ := h
    refine g_call 38 [(.inl v2)] (show op 324 35 = some (.invokevirtual 250, 3) by decide +kernel) (call_vi' (k' := 0) (n' := 0) (nj := 2) (j := 282) (k9 := 21) (t := []) (as := [(.inr (.inr (some 682))), (.inl x8)]) (by decide +kernel) rfl (by decide +kernel) rfl rfl rfl rfl rfl rfl (by decide +kernel) (by decide +kernel)) hD3 rfl ?_
    refine g_iconst 39 (show op 324 38 = some (.iconst 3, 1) by decide +kernel) rfl rfl ?_
    by_cases hc8 : 3 < v2
    · rw [if_pos hc8] at h
      refine g_icmpF 42 46 (show op 324 39 = some (.if_icmp .le 7, 3) by decide +kernel) rfl rfl (decide_eq_false (Int.not_le.mpr hc8)) ?_
      refine g_iconst 43 (show op 324 42 = some (.iconst 3, 1) by decide +kernel) rfl rfl ?_
      refine g_goto 52 (show op 324 43 = some (.goto 9, 3) by decide +kernel) rfl ?_
      exact h
    · rw [if_neg hc8] at h
      refine g_icmpT 46 (show op 324 39 = some (.if_icmp .le 7, 3) by decide +kernel) rfl (decide_eq_true (Int.not_lt.mp hc8)) ?_
      refine g_aload_n 47 (show op 324 46 = some (.aload_n 0, 1) by decide +kernel) rfl rfl ?_
      refine g_iload 49 (show op 324 47 = some (.iload 8, 2) by decide +kernel) rfl rfl ?_
      obtain ⟨v5, s4, hD6, h⟩ := h
      refine g_call 52 [(.inl v5)] (show op 324 49 = some (.invokevirtual 250, 3) by decide +kernel) (call_vi' (k' := 0) (n' := 0) (nj := 2) (j := 282) (k9 := 21) (t := []) (as := [(.inr (.inr (some 682))), (.inl x8)]) (by decide +kernel) rfl (by decide +kernel) rfl rfl rfl rfl rfl rfl (by decide +kernel) (by decide +kernel)) hD6 rfl ?_
      exact h
  · rw [if_neg hc7] at h
    refine g_icmpT 308 (show op 324 29 = some (.if_icmp .ge 279, 3) by decide +kernel) rfl (decide_eq_true (Int.not_lt.mp hc7)) ?_
    refine g_iload 310 (show op 324 308 = some (.iload 6, 2) by decide +kernel) rfl rfl ?_
    refine g_istore 312 [(some (.inr (.inr (some 682)))), (some (.inl x1)), (some (.inl x2)), (some (.inl x3)), (some (.inl x4)), (some (.inl x5)), (some (.inl x6)), (some (.inl x7)), (some (.inl x6)), d9, d10, d11] (show op 324 310 = some (.istore 8, 2) by decide +kernel) rfl rfl rfl ?_
    exact h
theorem b324_52 {x1 : Int} {x2 : Int} {x3 : Int} {x4 : Int} {x5 : Int} {x6 : Int} {x7 : Int} {x8 : Int} {d9 : Option AV} {d10 : Option AV} {d11 : Option AV} {y0 : Int} {σ : Sg} {o : Rs}   (h : (∃ (v2 : Int) (s1 : Sg), Dd 283 [(.inr (.inr (some 682))), (.inl x1), (.inl x8)] σ (.inl (some (.inl v2)), s1) ∧ (if 3 < v2 then C324_76 x1 x2 x3 x4 x5 x6 x7 x8 y0 d10 d11 3 s1 o else (∃ (v5 : Int) (s4 : Sg), Dd 283 [(.inr (.inr (some 682))), (.inl x1), (.inl x8)] s1 (.inl (some (.inl v5)), s4) ∧ C324_76 x1 x2 x3 x4 x5 x6 x7 x8 y0 d10 d11 v5 s4 o)))) : C324_52 x1 x2 x3 x4 x5 x6 x7 x8 d9 d10 d11 y0 σ o := by
  show Gd 324 52 [(some (.inr (.inr (some 682)))), (some (.inl x1)), (some (.inl x2)), (some (.inl x3)), (some (.inl x4)), (some (.inl x5)), (some (.inl x6)), (some (.inl x7)), (some (.inl x8)), d9, d10, d11] [(.inl y0)] σ 0 0 o
  refine g_istore 54 [(some (.inr (.inr (some 682)))), (some (.inl x1)), (some (.inl x2)), (some (.inl x3)), (some (.inl x4)), (some (.inl x5)), (some (.inl x6)), (some (.inl x7)), (some (.inl x8)), (some (.inl y0)), d10, d11] (show op 324 52 = some (.istore 9, 2) by decide +kernel) rfl rfl rfl ?_
  refine g_aload_n 55 (show op 324 54 = some (.aload_n 0, 1) by decide +kernel) rfl rfl ?_
  refine g_iload_n 56 (show op 324 55 = some (.iload_n 1, 1) by decide +kernel) rfl rfl ?_
  refine g_iload 58 (show op 324 56 = some (.iload 8, 2) by decide +kernel) rfl rfl ?_
  obtain ⟨v2, s1, hD3, h⟩ := h
  refine g_call 61 [(.inl v2)] (show op 324 58 = some (.invokevirtual 253, 3) by decide +kernel) (call_vi' (k' := 0) (n' := 0) (nj := 3) (j := 283) (k9 := 21) (t := []) (as := [(.inr (.inr (some 682))), (.inl x1), (.inl x8)]) (by decide +kernel) rfl (by decide +kernel) rfl rfl rfl rfl rfl rfl (by decide +kernel) (by decide +kernel)) hD3 rfl ?_
  refine g_iconst 62 (show op 324 61 = some (.iconst 3, 1) by decide +kernel) rfl rfl ?_
  by_cases hc7 : 3 < v2
  · rw [if_pos hc7] at h
    refine g_icmpF 65 69 (show op 324 62 = some (.if_icmp .le 7, 3) by decide +kernel) rfl rfl (decide_eq_false (Int.not_le.mpr hc7)) ?_
    refine g_iconst 66 (show op 324 65 = some (.iconst 3, 1) by decide +kernel) rfl rfl ?_
    refine g_goto 76 (show op 324 66 = some (.goto 10, 3) by decide +kernel) rfl ?_
    exact h
  · rw [if_neg hc7] at h
    refine g_icmpT 69 (show op 324 62 = some (.if_icmp .le 7, 3) by decide +kernel) rfl (decide_eq_true (Int.not_lt.mp hc7)) ?_
    refine g_aload_n 70 (show op 324 69 = some (.aload_n 0, 1) by decide +kernel) rfl rfl ?_
    refine g_iload_n 71 (show op 324 70 = some (.iload_n 1, 1) by decide +kernel) rfl rfl ?_
    refine g_iload 73 (show op 324 71 = some (.iload 8, 2) by decide +kernel) rfl rfl ?_
    obtain ⟨v5, s4, hD6, h⟩ := h
    refine g_call 76 [(.inl v5)] (show op 324 73 = some (.invokevirtual 253, 3) by decide +kernel) (call_vi' (k' := 0) (n' := 0) (nj := 3) (j := 283) (k9 := 21) (t := []) (as := [(.inr (.inr (some 682))), (.inl x1), (.inl x8)]) (by decide +kernel) rfl (by decide +kernel) rfl rfl rfl rfl rfl rfl (by decide +kernel) (by decide +kernel)) hD6 rfl ?_
    exact h
theorem b324_312 {d1 : Option AV} {x2 : Int} {d3 : Option AV} {d4 : Option AV} {x5 : Int} {d6 : Option AV} {d7 : Option AV} {x8 : Int} {d9 : Option AV} {d10 : Option AV} {d11 : Option AV} {σ : Sg} {o : Rs}   (h : (0 ≤ x2 ∧ x2 < 4) ∧ (if x8 < (σ 684 (x2).toNat) then (-2147483648 ≤ (16 * x2) ∧ (16 * x2) ≤ 2147483647) ∧ (-2147483648 ≤ ((16 * x2) + x8) ∧ ((16 * x2) + x8) ≤ 2147483647) ∧ (0 ≤ ((16 * x2) + x8) ∧ ((16 * x2) + x8) < 64) ∧ (∃ (s5 : Sg), Dd 319 [(.inr (.inr (some 682))), (.inl (σ 683 (((16 * x2) + x8)).toNat))] σ (.inl none, s5) ∧ (-2147483648 ≤ (x8 + 1) ∧ (x8 + 1) ≤ 2147483647) ∧ C324_312 d1 x2 d3 d4 x5 d6 d7 (x8 + 1) d9 d10 d11 s5 o) else o = (.inl (some (.inl x5)), σ))) : C324_312 d1 x2 d3 d4 x5 d6 d7 x8 d9 d10 d11 σ o := by
  show Gd 324 312 [(some (.inr (.inr (some 682)))), d1, (some (.inl x2)), d3, d4, (some (.inl x5)), d6, d7, (some (.inl x8)), d9, d10, d11] [] σ 0 0 o
  refine g_iload 314 (show op 324 312 = some (.iload 8, 2) by decide +kernel) rfl rfl ?_
  refine g_aload_n 315 (show op 324 314 = some (.aload_n 0, 1) by decide +kernel) rfl rfl ?_
  refine g_getR (ci := 11) (f := 2) (fin := true) (isR := true) 318 684 (show op 324 315 = some (.getfield 13, 3) by decide +kernel) rfl (by decide +kernel) (by decide +kernel) ?_
  refine g_iload_n 319 (show op 324 318 = some (.iload_n 2, 1) by decide +kernel) rfl rfl ?_
  obtain ⟨g1, h⟩ := h
  refine g_iaload 320 4 (show op 324 319 = some (.iaload, 1) by decide +kernel) rfl (by decide +kernel) g1 ?_
  by_cases hc8 : x8 < (σ 684 (x2).toNat)
  · rw [if_pos hc8] at h
    refine g_icmpF 323 345 (show op 324 320 = some (.if_icmp .ge 25, 3) by decide +kernel) rfl rfl (decide_eq_false (Int.not_le.mpr hc8)) ?_
    refine g_aload_n 324 (show op 324 323 = some (.aload_n 0, 1) by decide +kernel) rfl rfl ?_
    refine g_aload_n 325 (show op 324 324 = some (.aload_n 0, 1) by decide +kernel) rfl rfl ?_
    refine g_getR (ci := 11) (f := 1) (fin := true) (isR := true) 328 683 (show op 324 325 = some (.getfield 7, 3) by decide +kernel) rfl (by decide +kernel) (by decide +kernel) ?_
    refine g_bipush 330 (show op 324 328 = some (.bipush 16, 2) by decide +kernel) rfl (by decide) ?_
    refine g_iload_n 331 (show op 324 330 = some (.iload_n 2, 1) by decide +kernel) rfl rfl ?_
    obtain ⟨g2, h⟩ := h
    refine g_imul 332 (show op 324 331 = some (.imul, 1) by decide +kernel) rfl g2 ?_
    refine g_iload 334 (show op 324 332 = some (.iload 8, 2) by decide +kernel) rfl rfl ?_
    obtain ⟨g3, h⟩ := h
    refine g_iadd 335 (show op 324 334 = some (.iadd, 1) by decide +kernel) rfl g3 ?_
    obtain ⟨g4, h⟩ := h
    refine g_iaload 336 64 (show op 324 335 = some (.iaload, 1) by decide +kernel) rfl (by decide +kernel) g4 ?_
    obtain ⟨s5, hD6, h⟩ := h
    refine g_call 339 [] (show op 324 336 = some (.invokevirtual 339, 3) by decide +kernel) (call_vi' (k' := 0) (n' := 0) (nj := 2) (j := 319) (k9 := 21) (t := []) (as := [(.inr (.inr (some 682))), (.inl (σ 683 (((16 * x2) + x8)).toNat))]) (by decide +kernel) rfl (by decide +kernel) rfl rfl rfl rfl rfl rfl (by decide +kernel) (by decide +kernel)) hD6 rfl ?_
    obtain ⟨g7, h⟩ := h
    refine g_iinc 342 [(some (.inr (.inr (some 682)))), d1, (some (.inl x2)), d3, d4, (some (.inl x5)), d6, d7, (some (.inl (x8 + 1))), d9, d10, d11] (show op 324 339 = some (.iinc 8 1, 3) by decide +kernel) rfl rfl g7 rfl ?_
    refine g_goto 312 (show op 324 342 = some (.goto (-30), 3) by decide +kernel) rfl ?_
    exact h
  · rw [if_neg hc8] at h
    refine g_icmpT 345 (show op 324 320 = some (.if_icmp .ge 25, 3) by decide +kernel) rfl (decide_eq_true (Int.not_lt.mp hc8)) ?_
    refine g_iload 347 (show op 324 345 = some (.iload 5, 2) by decide +kernel) rfl rfl ?_
    exact (g_iret (show op 324 347 = some (.ireturn, 1) by decide +kernel) (by decide +kernel) h)
theorem b324_76 {x1 : Int} {x2 : Int} {x3 : Int} {x4 : Int} {x5 : Int} {x6 : Int} {x7 : Int} {x8 : Int} {x9 : Int} {d10 : Option AV} {d11 : Option AV} {y0 : Int} {σ : Sg} {o : Rs}   (h : (0 ≤ x8 ∧ x8 < 32) ∧ C324_89 x1 x2 x3 x4 x5 x6 x7 x8 x9 y0 0 (upS σ 708 ((x8).toNat) (-1)) o) : C324_76 x1 x2 x3 x4 x5 x6 x7 x8 x9 d10 d11 y0 σ o := by
  show Gd 324 76 [(some (.inr (.inr (some 682)))), (some (.inl x1)), (some (.inl x2)), (some (.inl x3)), (some (.inl x4)), (some (.inl x5)), (some (.inl x6)), (some (.inl x7)), (some (.inl x8)), (some (.inl x9)), d10, d11] [(.inl y0)] σ 0 0 o
  refine g_istore 78 [(some (.inr (.inr (some 682)))), (some (.inl x1)), (some (.inl x2)), (some (.inl x3)), (some (.inl x4)), (some (.inl x5)), (some (.inl x6)), (some (.inl x7)), (some (.inl x8)), (some (.inl x9)), (some (.inl y0)), d11] (show op 324 76 = some (.istore 10, 2) by decide +kernel) rfl rfl rfl ?_
  refine g_aload_n 79 (show op 324 78 = some (.aload_n 0, 1) by decide +kernel) rfl rfl ?_
  refine g_getR (ci := 11) (f := 36) (fin := true) (isR := true) 82 708 (show op 324 79 = some (.getfield 85, 3) by decide +kernel) rfl (by decide +kernel) (by decide +kernel) ?_
  refine g_iload 84 (show op 324 82 = some (.iload 8, 2) by decide +kernel) rfl rfl ?_
  refine g_iconst 85 (show op 324 84 = some (.iconst (-1), 1) by decide +kernel) rfl rfl ?_
  obtain ⟨g1, h⟩ := h
  refine g_iastore 86 32 (show op 324 85 = some (.iastore, 1) by decide +kernel) rfl (by decide +kernel) g1 ?_
  refine g_iconst 87 (show op 324 86 = some (.iconst 0, 1) by decide +kernel) rfl rfl ?_
  refine g_istore 89 [(some (.inr (.inr (some 682)))), (some (.inl x1)), (some (.inl x2)), (some (.inl x3)), (some (.inl x4)), (some (.inl x5)), (some (.inl x6)), (some (.inl x7)), (some (.inl x8)), (some (.inl x9)), (some (.inl y0)), (some (.inl 0))] (show op 324 87 = some (.istore 11, 2) by decide +kernel) rfl rfl rfl ?_
  exact h
theorem b324_89 {x1 : Int} {x2 : Int} {x3 : Int} {x4 : Int} {x5 : Int} {x6 : Int} {x7 : Int} {x8 : Int} {x9 : Int} {x10 : Int} {x11 : Int} {σ : Sg} {o : Rs}   (h : (if x11 ≤ x3 then (0 ≤ x8 ∧ x8 < 32) ∧ (if (σ 708 (x8).toNat) = (-1) then (0 ≤ x8 ∧ x8 < 256) ∧ (-2147483648 ≤ ((σ 700 (x8).toNat) + x7) ∧ ((σ 700 (x8).toNat) + x7) ≤ 2147483647) ∧ (∃ (v5 : Int) (s4 : Sg), Dd 323 [(.inl x9), (.inl x11)] σ (.inl (some (.inl v5)), s4) ∧ (∃ (v8 : Int) (s7 : Sg), Dd 323 [(.inl x10), (.inl x11)] s4 (.inl (some (.inl v8)), s7) ∧ (∃ (v11 : Int) (s10 : Sg), Dd 322 [(.inr (.inr (some 682))), (.inl x1), (.inl x8), (.inl x2), (.inl ((σ 700 (x8).toNat) + x7)), (.inl v5), (.inl v8), (.inl x6)] s7 (.inl (some (.inl v11)), s10) ∧ (0 ≤ x8 ∧ x8 < 32) ∧ (0 ≤ x8 ∧ x8 < 32) ∧ (-2147483648 ≤ (x11 + 1) ∧ (x11 + 1) ≤ 2147483647) ∧ C324_89 x1 x2 x3 x4 x5 x6 x7 x8 x9 x10 (x11 + 1) (upS (upS s10 708 ((x8).toNat) v11) 709 ((x8).toNat) x11) o))) else C324_162 x1 x2 x3 x4 x5 x6 x7 x8 (some (.inl x9)) (some (.inl x10)) (some (.inl x11)) σ o) else C324_162 x1 x2 x3 x4 x5 x6 x7 x8 (some (.inl x9)) (some (.inl x10)) (some (.inl x11)) σ o)) : C324_89 x1 x2 x3 x4 x5 x6 x7 x8 x9 x10 x11 σ o := by
  show Gd 324 89 [(some (.inr (.inr (some 682)))), (some (.inl x1)), (some (.inl x2)), (some (.inl x3)), (some (.inl x4)), (some (.inl x5)), (some (.inl x6)), (some (.inl x7)), (some (.inl x8)), (some (.inl x9)), (some (.inl x10)), (some (.inl x11))] [] σ 0 0 o
  refine g_iload 91 (show op 324 89 = some (.iload 11, 2) by decide +kernel) rfl rfl ?_
  refine g_iload_n 92 (show op 324 91 = some (.iload_n 3, 1) by decide +kernel) rfl rfl ?_
  by_cases hc16 : x11 ≤ x3
  · rw [if_pos hc16] at h
    refine g_icmpF 95 162 (show op 324 92 = some (.if_icmp .gt 70, 3) by decide +kernel) rfl rfl (decide_eq_false (Int.not_lt.mpr hc16)) ?_
    refine g_aload_n 96 (show op 324 95 = some (.aload_n 0, 1) by decide +kernel) rfl rfl ?_
    refine g_getR (ci := 11) (f := 36) (fin := true) (isR := true) 99 708 (show op 324 96 = some (.getfield 85, 3) by decide +kernel) rfl (by decide +kernel) (by decide +kernel) ?_
    refine g_iload 101 (show op 324 99 = some (.iload 8, 2) by decide +kernel) rfl rfl ?_
    obtain ⟨g1, h⟩ := h
    refine g_iaload 102 32 (show op 324 101 = some (.iaload, 1) by decide +kernel) rfl (by decide +kernel) g1 ?_
    refine g_iconst 103 (show op 324 102 = some (.iconst (-1), 1) by decide +kernel) rfl rfl ?_
    by_cases hc17 : (σ 708 (x8).toNat) = (-1)
    · rw [if_pos hc17] at h
      refine g_icmpF 106 162 (show op 324 103 = some (.if_icmp .ne 59, 3) by decide +kernel) rfl rfl (decide_eq_false (fun h9 => h9 hc17)) ?_
      refine g_aload_n 107 (show op 324 106 = some (.aload_n 0, 1) by decide +kernel) rfl rfl ?_
      refine g_getR (ci := 11) (f := 36) (fin := true) (isR := true) 110 708 (show op 324 107 = some (.getfield 85, 3) by decide +kernel) rfl (by decide +kernel) (by decide +kernel) ?_
      refine g_iload 112 (show op 324 110 = some (.iload 8, 2) by decide +kernel) rfl rfl ?_
      refine g_aload_n 113 (show op 324 112 = some (.aload_n 0, 1) by decide +kernel) rfl rfl ?_
      refine g_iload_n 114 (show op 324 113 = some (.iload_n 1, 1) by decide +kernel) rfl rfl ?_
      refine g_iload 116 (show op 324 114 = some (.iload 8, 2) by decide +kernel) rfl rfl ?_
      refine g_iload_n 117 (show op 324 116 = some (.iload_n 2, 1) by decide +kernel) rfl rfl ?_
      refine g_aload_n 118 (show op 324 117 = some (.aload_n 0, 1) by decide +kernel) rfl rfl ?_
      refine g_getR (ci := 11) (f := 26) (fin := true) (isR := true) 121 700 (show op 324 118 = some (.getfield 61, 3) by decide +kernel) rfl (by decide +kernel) (by decide +kernel) ?_
      refine g_iload 123 (show op 324 121 = some (.iload 8, 2) by decide +kernel) rfl rfl ?_
      obtain ⟨g2, h⟩ := h
      refine g_iaload 124 256 (show op 324 123 = some (.iaload, 1) by decide +kernel) rfl (by decide +kernel) g2 ?_
      refine g_iload 126 (show op 324 124 = some (.iload 7, 2) by decide +kernel) rfl rfl ?_
      obtain ⟨g3, h⟩ := h
      refine g_iadd 127 (show op 324 126 = some (.iadd, 1) by decide +kernel) rfl g3 ?_
      refine g_iload 129 (show op 324 127 = some (.iload 9, 2) by decide +kernel) rfl rfl ?_
      refine g_iload 131 (show op 324 129 = some (.iload 11, 2) by decide +kernel) rfl rfl ?_
      obtain ⟨v5, s4, hD6, h⟩ := h
      refine g_call 134 [(.inl v5), (.inl ((σ 700 (x8).toNat) + x7)), (.inl x2), (.inl x8), (.inl x1), (.inr (.inr (some 682))), (.inl x8), (.inr (.inr (some 708)))] (show op 324 131 = some (.invokestatic 351, 3) by decide +kernel) (call_st' (k' := 0) (n' := 0) (nj := 2) (j := 323) (t := [(.inl ((σ 700 (x8).toNat) + x7)), (.inl x2), (.inl x8), (.inl x1), (.inr (.inr (some 682))), (.inl x8), (.inr (.inr (some 708)))]) (as := [(.inl x9), (.inl x11)]) (by decide +kernel) rfl (by decide +kernel) rfl rfl rfl rfl rfl) hD6 rfl ?_
      refine g_iload 136 (show op 324 134 = some (.iload 10, 2) by decide +kernel) rfl rfl ?_
      refine g_iload 138 (show op 324 136 = some (.iload 11, 2) by decide +kernel) rfl rfl ?_
      obtain ⟨v8, s7, hD9, h⟩ := h
      refine g_call 141 [(.inl v8), (.inl v5), (.inl ((σ 700 (x8).toNat) + x7)), (.inl x2), (.inl x8), (.inl x1), (.inr (.inr (some 682))), (.inl x8), (.inr (.inr (some 708)))] (show op 324 138 = some (.invokestatic 351, 3) by decide +kernel) (call_st' (k' := 0) (n' := 0) (nj := 2) (j := 323) (t := [(.inl v5), (.inl ((σ 700 (x8).toNat) + x7)), (.inl x2), (.inl x8), (.inl x1), (.inr (.inr (some 682))), (.inl x8), (.inr (.inr (some 708)))]) (as := [(.inl x10), (.inl x11)]) (by decide +kernel) rfl (by decide +kernel) rfl rfl rfl rfl rfl) hD9 rfl ?_
      refine g_iload 143 (show op 324 141 = some (.iload 6, 2) by decide +kernel) rfl rfl ?_
      obtain ⟨v11, s10, hD12, h⟩ := h
      refine g_call 146 [(.inl v11), (.inl x8), (.inr (.inr (some 708)))] (show op 324 143 = some (.invokevirtual 354, 3) by decide +kernel) (call_vi' (k' := 0) (n' := 0) (nj := 8) (j := 322) (k9 := 21) (t := [(.inl x8), (.inr (.inr (some 708)))]) (as := [(.inr (.inr (some 682))), (.inl x1), (.inl x8), (.inl x2), (.inl ((σ 700 (x8).toNat) + x7)), (.inl v5), (.inl v8), (.inl x6)]) (by decide +kernel) rfl (by decide +kernel) rfl rfl rfl rfl rfl rfl (by decide +kernel) (by decide +kernel)) hD12 rfl ?_
      obtain ⟨g13, h⟩ := h
      refine g_iastore 147 32 (show op 324 146 = some (.iastore, 1) by decide +kernel) rfl (by decide +kernel) g13 ?_
      refine g_aload_n 148 (show op 324 147 = some (.aload_n 0, 1) by decide +kernel) rfl rfl ?_
      refine g_getR (ci := 11) (f := 37) (fin := true) (isR := true) 151 709 (show op 324 148 = some (.getfield 88, 3) by decide +kernel) rfl (by decide +kernel) (by decide +kernel) ?_
      refine g_iload 153 (show op 324 151 = some (.iload 8, 2) by decide +kernel) rfl rfl ?_
      refine g_iload 155 (show op 324 153 = some (.iload 11, 2) by decide +kernel) rfl rfl ?_
      obtain ⟨g14, h⟩ := h
      refine g_iastore 156 32 (show op 324 155 = some (.iastore, 1) by decide +kernel) rfl (by decide +kernel) g14 ?_
      obtain ⟨g15, h⟩ := h
      refine g_iinc 159 [(some (.inr (.inr (some 682)))), (some (.inl x1)), (some (.inl x2)), (some (.inl x3)), (some (.inl x4)), (some (.inl x5)), (some (.inl x6)), (some (.inl x7)), (some (.inl x8)), (some (.inl x9)), (some (.inl x10)), (some (.inl (x11 + 1)))] (show op 324 156 = some (.iinc 11 1, 3) by decide +kernel) rfl rfl g15 rfl ?_
      refine g_goto 89 (show op 324 159 = some (.goto (-70), 3) by decide +kernel) rfl ?_
      exact h
    · rw [if_neg hc17] at h
      refine g_icmpT 162 (show op 324 103 = some (.if_icmp .ne 59, 3) by decide +kernel) rfl (decide_eq_true hc17) ?_
      exact h
  · rw [if_neg hc16] at h
    refine g_icmpT 162 (show op 324 92 = some (.if_icmp .gt 70, 3) by decide +kernel) rfl (decide_eq_true (Int.not_le.mp hc16)) ?_
    exact h
theorem b324_162 {x1 : Int} {x2 : Int} {x3 : Int} {x4 : Int} {x5 : Int} {x6 : Int} {x7 : Int} {x8 : Int} {d9 : Option AV} {d10 : Option AV} {d11 : Option AV} {σ : Sg} {o : Rs}   (h : (0 ≤ x8 ∧ x8 < 32) ∧ (if (σ 708 (x8).toNat) = (-1) then C324_302 x1 x2 x3 x4 (iOr x5 (iShl 1 x8)) x6 x7 x8 d9 d10 d11 σ o else C324_189 x1 x2 x3 x4 x5 (some (.inl x6)) (some (.inl x7)) x8 d9 d10 x6 σ o)) : C324_162 x1 x2 x3 x4 x5 x6 x7 x8 d9 d10 d11 σ o := by
  show Gd 324 162 [(some (.inr (.inr (some 682)))), (some (.inl x1)), (some (.inl x2)), (some (.inl x3)), (some (.inl x4)), (some (.inl x5)), (some (.inl x6)), (some (.inl x7)), (some (.inl x8)), d9, d10, d11] [] σ 0 0 o
  refine g_aload_n 163 (show op 324 162 = some (.aload_n 0, 1) by decide +kernel) rfl rfl ?_
  refine g_getR (ci := 11) (f := 36) (fin := true) (isR := true) 166 708 (show op 324 163 = some (.getfield 85, 3) by decide +kernel) rfl (by decide +kernel) (by decide +kernel) ?_
  refine g_iload 168 (show op 324 166 = some (.iload 8, 2) by decide +kernel) rfl rfl ?_
  obtain ⟨g1, h⟩ := h
  refine g_iaload 169 32 (show op 324 168 = some (.iaload, 1) by decide +kernel) rfl (by decide +kernel) g1 ?_
  refine g_iconst 170 (show op 324 169 = some (.iconst (-1), 1) by decide +kernel) rfl rfl ?_
  by_cases hc2 : (σ 708 (x8).toNat) = (-1)
  · rw [if_pos hc2] at h
    refine g_icmpF 173 185 (show op 324 170 = some (.if_icmp .ne 15, 3) by decide +kernel) rfl rfl (decide_eq_false (fun h9 => h9 hc2)) ?_
    refine g_iload 175 (show op 324 173 = some (.iload 5, 2) by decide +kernel) rfl rfl ?_
    refine g_iconst 176 (show op 324 175 = some (.iconst 1, 1) by decide +kernel) rfl rfl ?_
    refine g_iload 178 (show op 324 176 = some (.iload 8, 2) by decide +kernel) rfl rfl ?_
    refine g_ishl 179 (show op 324 178 = some (.ishl, 1) by decide +kernel) rfl ?_
    refine g_ior 180 (show op 324 179 = some (.ior, 1) by decide +kernel) rfl ?_
    refine g_istore 182 [(some (.inr (.inr (some 682)))), (some (.inl x1)), (some (.inl x2)), (some (.inl x3)), (some (.inl x4)), (some (.inl (iOr x5 (iShl 1 x8)))), (some (.inl x6)), (some (.inl x7)), (some (.inl x8)), d9, d10, d11] (show op 324 180 = some (.istore 5, 2) by decide +kernel) rfl rfl rfl ?_
    refine g_goto 302 (show op 324 182 = some (.goto 120, 3) by decide +kernel) rfl ?_
    exact h
  · rw [if_neg hc2] at h
    refine g_icmpT 185 (show op 324 170 = some (.if_icmp .ne 15, 3) by decide +kernel) rfl (decide_eq_true hc2) ?_
    refine g_iload 187 (show op 324 185 = some (.iload 6, 2) by decide +kernel) rfl rfl ?_
    refine g_istore 189 [(some (.inr (.inr (some 682)))), (some (.inl x1)), (some (.inl x2)), (some (.inl x3)), (some (.inl x4)), (some (.inl x5)), (some (.inl x6)), (some (.inl x7)), (some (.inl x8)), d9, d10, (some (.inl x6))] (show op 324 187 = some (.istore 11, 2) by decide +kernel) rfl rfl rfl ?_
    exact h
theorem b324_302 {x1 : Int} {x2 : Int} {x3 : Int} {x4 : Int} {x5 : Int} {x6 : Int} {x7 : Int} {x8 : Int} {d9 : Option AV} {d10 : Option AV} {d11 : Option AV} {σ : Sg} {o : Rs}   (h : (-2147483648 ≤ (x8 + 1) ∧ (x8 + 1) ≤ 2147483647) ∧ C324_25 x1 x2 x3 x4 x5 x6 x7 (x8 + 1) d9 d10 d11 σ o) : C324_302 x1 x2 x3 x4 x5 x6 x7 x8 d9 d10 d11 σ o := by
  show Gd 324 302 [(some (.inr (.inr (some 682)))), (some (.inl x1)), (some (.inl x2)), (some (.inl x3)), (some (.inl x4)), (some (.inl x5)), (some (.inl x6)), (some (.inl x7)), (some (.inl x8)), d9, d10, d11] [] σ 0 0 o
  obtain ⟨g1, h⟩ := h
  refine g_iinc 305 [(some (.inr (.inr (some 682)))), (some (.inl x1)), (some (.inl x2)), (some (.inl x3)), (some (.inl x4)), (some (.inl x5)), (some (.inl x6)), (some (.inl x7)), (some (.inl (x8 + 1))), d9, d10, d11] (show op 324 302 = some (.iinc 8 1, 3) by decide +kernel) rfl rfl g1 rfl ?_
  refine g_goto 25 (show op 324 305 = some (.goto (-280), 3) by decide +kernel) rfl ?_
  exact h
theorem b324_189 {x1 : Int} {x2 : Int} {x3 : Int} {x4 : Int} {x5 : Int} {d6 : Option AV} {d7 : Option AV} {x8 : Int} {d9 : Option AV} {d10 : Option AV} {x11 : Int} {σ : Sg} {o : Rs}   (h : (0 ≤ x8 ∧ x8 < 32) ∧ (if x11 < (σ 708 (x8).toNat) then (-2147483648 ≤ (16 * x2) ∧ (16 * x2) ≤ 2147483647) ∧ (-2147483648 ≤ ((16 * x2) + x11) ∧ ((16 * x2) + x11) ≤ 2147483647) ∧ (0 ≤ ((16 * x2) + x11) ∧ ((16 * x2) + x11) < 64) ∧ (∃ (s5 : Sg), Dd 319 [(.inr (.inr (some 682))), (.inl (σ 683 (((16 * x2) + x11)).toNat))] σ (.inl none, s5) ∧ (-2147483648 ≤ (x11 + 1) ∧ (x11 + 1) ≤ 2147483647) ∧ C324_189 x1 x2 x3 x4 x5 d6 d7 x8 d9 d10 (x11 + 1) s5 o) else C324_226 x1 x2 x3 x4 x5 d6 d7 x8 d9 d10 0 σ o)) : C324_189 x1 x2 x3 x4 x5 d6 d7 x8 d9 d10 x11 σ o := by
  show Gd 324 189 [(some (.inr (.inr (some 682)))), (some (.inl x1)), (some (.inl x2)), (some (.inl x3)), (some (.inl x4)), (some (.inl x5)), d6, d7, (some (.inl x8)), d9, d10, (some (.inl x11))] [] σ 0 0 o
  refine g_iload 191 (show op 324 189 = some (.iload 11, 2) by decide +kernel) rfl rfl ?_
  refine g_aload_n 192 (show op 324 191 = some (.aload_n 0, 1) by decide +kernel) rfl rfl ?_
  refine g_getR (ci := 11) (f := 36) (fin := true) (isR := true) 195 708 (show op 324 192 = some (.getfield 85, 3) by decide +kernel) rfl (by decide +kernel) (by decide +kernel) ?_
  refine g_iload 197 (show op 324 195 = some (.iload 8, 2) by decide +kernel) rfl rfl ?_
  obtain ⟨g1, h⟩ := h
  refine g_iaload 198 32 (show op 324 197 = some (.iaload, 1) by decide +kernel) rfl (by decide +kernel) g1 ?_
  by_cases hc8 : x11 < (σ 708 (x8).toNat)
  · rw [if_pos hc8] at h
    refine g_icmpF 201 223 (show op 324 198 = some (.if_icmp .ge 25, 3) by decide +kernel) rfl rfl (decide_eq_false (Int.not_le.mpr hc8)) ?_
    refine g_aload_n 202 (show op 324 201 = some (.aload_n 0, 1) by decide +kernel) rfl rfl ?_
    refine g_aload_n 203 (show op 324 202 = some (.aload_n 0, 1) by decide +kernel) rfl rfl ?_
    refine g_getR (ci := 11) (f := 1) (fin := true) (isR := true) 206 683 (show op 324 203 = some (.getfield 7, 3) by decide +kernel) rfl (by decide +kernel) (by decide +kernel) ?_
    refine g_bipush 208 (show op 324 206 = some (.bipush 16, 2) by decide +kernel) rfl (by decide) ?_
    refine g_iload_n 209 (show op 324 208 = some (.iload_n 2, 1) by decide +kernel) rfl rfl ?_
    obtain ⟨g2, h⟩ := h
    refine g_imul 210 (show op 324 209 = some (.imul, 1) by decide +kernel) rfl g2 ?_
    refine g_iload 212 (show op 324 210 = some (.iload 11, 2) by decide +kernel) rfl rfl ?_
    obtain ⟨g3, h⟩ := h
    refine g_iadd 213 (show op 324 212 = some (.iadd, 1) by decide +kernel) rfl g3 ?_
    obtain ⟨g4, h⟩ := h
    refine g_iaload 214 64 (show op 324 213 = some (.iaload, 1) by decide +kernel) rfl (by decide +kernel) g4 ?_
    obtain ⟨s5, hD6, h⟩ := h
    refine g_call 217 [] (show op 324 214 = some (.invokevirtual 339, 3) by decide +kernel) (call_vi' (k' := 0) (n' := 0) (nj := 2) (j := 319) (k9 := 21) (t := []) (as := [(.inr (.inr (some 682))), (.inl (σ 683 (((16 * x2) + x11)).toNat))]) (by decide +kernel) rfl (by decide +kernel) rfl rfl rfl rfl rfl rfl (by decide +kernel) (by decide +kernel)) hD6 rfl ?_
    obtain ⟨g7, h⟩ := h
    refine g_iinc 220 [(some (.inr (.inr (some 682)))), (some (.inl x1)), (some (.inl x2)), (some (.inl x3)), (some (.inl x4)), (some (.inl x5)), d6, d7, (some (.inl x8)), d9, d10, (some (.inl (x11 + 1)))] (show op 324 217 = some (.iinc 11 1, 3) by decide +kernel) rfl rfl g7 rfl ?_
    refine g_goto 189 (show op 324 220 = some (.goto (-31), 3) by decide +kernel) rfl ?_
    exact h
  · rw [if_neg hc8] at h
    refine g_icmpT 223 (show op 324 198 = some (.if_icmp .ge 25, 3) by decide +kernel) rfl (decide_eq_true (Int.not_lt.mp hc8)) ?_
    refine g_iconst 224 (show op 324 223 = some (.iconst 0, 1) by decide +kernel) rfl rfl ?_
    refine g_istore 226 [(some (.inr (.inr (some 682)))), (some (.inl x1)), (some (.inl x2)), (some (.inl x3)), (some (.inl x4)), (some (.inl x5)), d6, d7, (some (.inl x8)), d9, d10, (some (.inl 0))] (show op 324 224 = some (.istore 11, 2) by decide +kernel) rfl rfl rfl ?_
    exact h
theorem b324_226 {x1 : Int} {x2 : Int} {x3 : Int} {x4 : Int} {x5 : Int} {d6 : Option AV} {d7 : Option AV} {x8 : Int} {d9 : Option AV} {d10 : Option AV} {x11 : Int} {σ : Sg} {o : Rs}   (h : (0 ≤ x8 ∧ x8 < 256) ∧ (if x11 < (σ 703 (x8).toNat) then (-2147483648 ≤ (100 * x1) ∧ (100 * x1) ≤ 2147483647) ∧ (0 ≤ x8 ∧ x8 < 256) ∧ (-2147483648 ≤ ((100 * x1) + (σ 702 (x8).toNat)) ∧ ((100 * x1) + (σ 702 (x8).toNat)) ≤ 2147483647) ∧ (-2147483648 ≤ (((100 * x1) + (σ 702 (x8).toNat)) + x11) ∧ (((100 * x1) + (σ 702 (x8).toNat)) + x11) ≤ 2147483647) ∧ (0 ≤ (((100 * x1) + (σ 702 (x8).toNat)) + x11) ∧ (((100 * x1) + (σ 702 (x8).toNat)) + x11) < 4400) ∧ (∃ (s7 : Sg), Dd 319 [(.inr (.inr (some 682))), (.inl (σ 686 ((((100 * x1) + (σ 702 (x8).toNat)) + x11)).toNat))] σ (.inl none, s7) ∧ (-2147483648 ≤ (x11 + 1) ∧ (x11 + 1) ≤ 2147483647) ∧ C324_226 x1 x2 x3 x4 x5 d6 d7 x8 d9 d10 (x11 + 1) s7 o) else (0 ≤ x8 ∧ x8 < 32) ∧ (0 ≤ x8 ∧ x8 < 256) ∧ (-2147483648 ≤ ((σ 708 (x8).toNat) - (σ 700 (x8).toNat)) ∧ ((σ 708 (x8).toNat) - (σ 700 (x8).toNat)) ≤ 2147483647) ∧ (0 ≤ x8 ∧ x8 < 32) ∧ (0 ≤ x8 ∧ x8 < 256) ∧ (-2147483648 ≤ ((σ 708 (x8).toNat) + (σ 701 (x8).toNat)) ∧ ((σ 708 (x8).toNat) + (σ 701 (x8).toNat)) ≤ 2147483647) ∧ C324_302 x1 x2 x3 x4 x5 ((σ 708 (x8).toNat) + (σ 701 (x8).toNat)) ((σ 708 (x8).toNat) - (σ 700 (x8).toNat)) x8 d9 d10 (some (.inl x11)) σ o)) : C324_226 x1 x2 x3 x4 x5 d6 d7 x8 d9 d10 x11 σ o := by
  show Gd 324 226 [(some (.inr (.inr (some 682)))), (some (.inl x1)), (some (.inl x2)), (some (.inl x3)), (some (.inl x4)), (some (.inl x5)), d6, d7, (some (.inl x8)), d9, d10, (some (.inl x11))] [] σ 0 0 o
  refine g_iload 228 (show op 324 226 = some (.iload 11, 2) by decide +kernel) rfl rfl ?_
  refine g_aload_n 229 (show op 324 228 = some (.aload_n 0, 1) by decide +kernel) rfl rfl ?_
  refine g_getR (ci := 11) (f := 29) (fin := true) (isR := true) 232 703 (show op 324 229 = some (.getfield 70, 3) by decide +kernel) rfl (by decide +kernel) (by decide +kernel) ?_
  refine g_iload 234 (show op 324 232 = some (.iload 8, 2) by decide +kernel) rfl rfl ?_
  obtain ⟨g1, h⟩ := h
  refine g_iaload 235 256 (show op 324 234 = some (.iaload, 1) by decide +kernel) rfl (by decide +kernel) g1 ?_
  by_cases hc16 : x11 < (σ 703 (x8).toNat)
  · rw [if_pos hc16] at h
    refine g_icmpF 238 268 (show op 324 235 = some (.if_icmp .ge 33, 3) by decide +kernel) rfl rfl (decide_eq_false (Int.not_le.mpr hc16)) ?_
    refine g_aload_n 239 (show op 324 238 = some (.aload_n 0, 1) by decide +kernel) rfl rfl ?_
    refine g_aload_n 240 (show op 324 239 = some (.aload_n 0, 1) by decide +kernel) rfl rfl ?_
    refine g_getR (ci := 11) (f := 5) (fin := true) (isR := true) 243 686 (show op 324 240 = some (.getfield 19, 3) by decide +kernel) rfl (by decide +kernel) (by decide +kernel) ?_
    refine g_bipush 245 (show op 324 243 = some (.bipush 100, 2) by decide +kernel) rfl (by decide) ?_
    refine g_iload_n 246 (show op 324 245 = some (.iload_n 1, 1) by decide +kernel) rfl rfl ?_
    obtain ⟨g2, h⟩ := h
    refine g_imul 247 (show op 324 246 = some (.imul, 1) by decide +kernel) rfl g2 ?_
    refine g_aload_n 248 (show op 324 247 = some (.aload_n 0, 1) by decide +kernel) rfl rfl ?_
    refine g_getR (ci := 11) (f := 28) (fin := true) (isR := true) 251 702 (show op 324 248 = some (.getfield 67, 3) by decide +kernel) rfl (by decide +kernel) (by decide +kernel) ?_
    refine g_iload 253 (show op 324 251 = some (.iload 8, 2) by decide +kernel) rfl rfl ?_
    obtain ⟨g3, h⟩ := h
    refine g_iaload 254 256 (show op 324 253 = some (.iaload, 1) by decide +kernel) rfl (by decide +kernel) g3 ?_
    obtain ⟨g4, h⟩ := h
    refine g_iadd 255 (show op 324 254 = some (.iadd, 1) by decide +kernel) rfl g4 ?_
    refine g_iload 257 (show op 324 255 = some (.iload 11, 2) by decide +kernel) rfl rfl ?_
    obtain ⟨g5, h⟩ := h
    refine g_iadd 258 (show op 324 257 = some (.iadd, 1) by decide +kernel) rfl g5 ?_
    obtain ⟨g6, h⟩ := h
    refine g_iaload 259 4400 (show op 324 258 = some (.iaload, 1) by decide +kernel) rfl (by decide +kernel) g6 ?_
    obtain ⟨s7, hD8, h⟩ := h
    refine g_call 262 [] (show op 324 259 = some (.invokevirtual 339, 3) by decide +kernel) (call_vi' (k' := 0) (n' := 0) (nj := 2) (j := 319) (k9 := 21) (t := []) (as := [(.inr (.inr (some 682))), (.inl (σ 686 ((((100 * x1) + (σ 702 (x8).toNat)) + x11)).toNat))]) (by decide +kernel) rfl (by decide +kernel) rfl rfl rfl rfl rfl rfl (by decide +kernel) (by decide +kernel)) hD8 rfl ?_
    obtain ⟨g9, h⟩ := h
    refine g_iinc 265 [(some (.inr (.inr (some 682)))), (some (.inl x1)), (some (.inl x2)), (some (.inl x3)), (some (.inl x4)), (some (.inl x5)), d6, d7, (some (.inl x8)), d9, d10, (some (.inl (x11 + 1)))] (show op 324 262 = some (.iinc 11 1, 3) by decide +kernel) rfl rfl g9 rfl ?_
    refine g_goto 226 (show op 324 265 = some (.goto (-39), 3) by decide +kernel) rfl ?_
    exact h
  · rw [if_neg hc16] at h
    refine g_icmpT 268 (show op 324 235 = some (.if_icmp .ge 33, 3) by decide +kernel) rfl (decide_eq_true (Int.not_lt.mp hc16)) ?_
    refine g_aload_n 269 (show op 324 268 = some (.aload_n 0, 1) by decide +kernel) rfl rfl ?_
    refine g_getR (ci := 11) (f := 36) (fin := true) (isR := true) 272 708 (show op 324 269 = some (.getfield 85, 3) by decide +kernel) rfl (by decide +kernel) (by decide +kernel) ?_
    refine g_iload 274 (show op 324 272 = some (.iload 8, 2) by decide +kernel) rfl rfl ?_
    obtain ⟨g10, h⟩ := h
    refine g_iaload 275 32 (show op 324 274 = some (.iaload, 1) by decide +kernel) rfl (by decide +kernel) g10 ?_
    refine g_aload_n 276 (show op 324 275 = some (.aload_n 0, 1) by decide +kernel) rfl rfl ?_
    refine g_getR (ci := 11) (f := 26) (fin := true) (isR := true) 279 700 (show op 324 276 = some (.getfield 61, 3) by decide +kernel) rfl (by decide +kernel) (by decide +kernel) ?_
    refine g_iload 281 (show op 324 279 = some (.iload 8, 2) by decide +kernel) rfl rfl ?_
    obtain ⟨g11, h⟩ := h
    refine g_iaload 282 256 (show op 324 281 = some (.iaload, 1) by decide +kernel) rfl (by decide +kernel) g11 ?_
    obtain ⟨g12, h⟩ := h
    refine g_isub 283 (show op 324 282 = some (.isub, 1) by decide +kernel) rfl g12 ?_
    refine g_istore 285 [(some (.inr (.inr (some 682)))), (some (.inl x1)), (some (.inl x2)), (some (.inl x3)), (some (.inl x4)), (some (.inl x5)), d6, (some (.inl ((σ 708 (x8).toNat) - (σ 700 (x8).toNat)))), (some (.inl x8)), d9, d10, (some (.inl x11))] (show op 324 283 = some (.istore 7, 2) by decide +kernel) rfl rfl rfl ?_
    refine g_aload_n 286 (show op 324 285 = some (.aload_n 0, 1) by decide +kernel) rfl rfl ?_
    refine g_getR (ci := 11) (f := 36) (fin := true) (isR := true) 289 708 (show op 324 286 = some (.getfield 85, 3) by decide +kernel) rfl (by decide +kernel) (by decide +kernel) ?_
    refine g_iload 291 (show op 324 289 = some (.iload 8, 2) by decide +kernel) rfl rfl ?_
    obtain ⟨g13, h⟩ := h
    refine g_iaload 292 32 (show op 324 291 = some (.iaload, 1) by decide +kernel) rfl (by decide +kernel) g13 ?_
    refine g_aload_n 293 (show op 324 292 = some (.aload_n 0, 1) by decide +kernel) rfl rfl ?_
    refine g_getR (ci := 11) (f := 27) (fin := true) (isR := true) 296 701 (show op 324 293 = some (.getfield 64, 3) by decide +kernel) rfl (by decide +kernel) (by decide +kernel) ?_
    refine g_iload 298 (show op 324 296 = some (.iload 8, 2) by decide +kernel) rfl rfl ?_
    obtain ⟨g14, h⟩ := h
    refine g_iaload 299 256 (show op 324 298 = some (.iaload, 1) by decide +kernel) rfl (by decide +kernel) g14 ?_
    obtain ⟨g15, h⟩ := h
    refine g_iadd 300 (show op 324 299 = some (.iadd, 1) by decide +kernel) rfl g15 ?_
    refine g_istore 302 [(some (.inr (.inr (some 682)))), (some (.inl x1)), (some (.inl x2)), (some (.inl x3)), (some (.inl x4)), (some (.inl x5)), (some (.inl ((σ 708 (x8).toNat) + (σ 701 (x8).toNat)))), (some (.inl ((σ 708 (x8).toNat) - (σ 700 (x8).toNat)))), (some (.inl x8)), d9, d10, (some (.inl x11))] (show op 324 300 = some (.istore 6, 2) by decide +kernel) rfl rfl rfl ?_
    exact h
/-- PatchBenchModel.tries (III)I -/
theorem b324 {x1 : Int} {x2 : Int} {x3 : Int} {σ : Sg} {o : Rs}   (h : (∃ (v2 : Int) (s1 : Sg), Dd 280 [(.inr (.inr (some 682))), (.inl x1), (.inl 0)] σ (.inl (some (.inl v2)), s1) ∧ C324_25 x1 x2 x3 v2 0 0 0 0 none none none (upS s1 682 32 0) o)) : Dd 324 [(.inr (.inr (some 682))), (.inl x1), (.inl x2), (.inl x3)] σ o := by
  refine Dd_of (l := 12) (by decide +kernel) ?_
  show Gd 324 0 [(some (.inr (.inr (some 682)))), (some (.inl x1)), (some (.inl x2)), (some (.inl x3)), none, none, none, none, none, none, none, none] [] σ 0 0 o
  refine g_aload_n 1 (show op 324 0 = some (.aload_n 0, 1) by decide +kernel) rfl rfl ?_
  refine g_iload_n 2 (show op 324 1 = some (.iload_n 1, 1) by decide +kernel) rfl rfl ?_
  refine g_iconst 3 (show op 324 2 = some (.iconst 0, 1) by decide +kernel) rfl rfl ?_
  obtain ⟨v2, s1, hD3, h⟩ := h
  refine g_call 6 [(.inl v2)] (show op 324 3 = some (.invokevirtual 267, 3) by decide +kernel) (call_vi' (k' := 0) (n' := 0) (nj := 3) (j := 280) (k9 := 21) (t := []) (as := [(.inr (.inr (some 682))), (.inl x1), (.inl 0)]) (by decide +kernel) rfl (by decide +kernel) rfl rfl rfl rfl rfl rfl (by decide +kernel) (by decide +kernel)) hD3 rfl ?_
  refine g_istore 8 [(some (.inr (.inr (some 682)))), (some (.inl x1)), (some (.inl x2)), (some (.inl x3)), (some (.inl v2)), none, none, none, none, none, none, none] (show op 324 6 = some (.istore 4, 2) by decide +kernel) rfl rfl rfl ?_
  refine g_iconst 9 (show op 324 8 = some (.iconst 0, 1) by decide +kernel) rfl rfl ?_
  refine g_istore 11 [(some (.inr (.inr (some 682)))), (some (.inl x1)), (some (.inl x2)), (some (.inl x3)), (some (.inl v2)), (some (.inl 0)), none, none, none, none, none, none] (show op 324 9 = some (.istore 5, 2) by decide +kernel) rfl rfl rfl ?_
  refine g_iconst 12 (show op 324 11 = some (.iconst 0, 1) by decide +kernel) rfl rfl ?_
  refine g_istore 14 [(some (.inr (.inr (some 682)))), (some (.inl x1)), (some (.inl x2)), (some (.inl x3)), (some (.inl v2)), (some (.inl 0)), (some (.inl 0)), none, none, none, none, none] (show op 324 12 = some (.istore 6, 2) by decide +kernel) rfl rfl rfl ?_
  refine g_iconst 15 (show op 324 14 = some (.iconst 0, 1) by decide +kernel) rfl rfl ?_
  refine g_istore 17 [(some (.inr (.inr (some 682)))), (some (.inl x1)), (some (.inl x2)), (some (.inl x3)), (some (.inl v2)), (some (.inl 0)), (some (.inl 0)), (some (.inl 0)), none, none, none, none] (show op 324 15 = some (.istore 7, 2) by decide +kernel) rfl rfl rfl ?_
  refine g_aload_n 18 (show op 324 17 = some (.aload_n 0, 1) by decide +kernel) rfl rfl ?_
  refine g_iconst 19 (show op 324 18 = some (.iconst 0, 1) by decide +kernel) rfl rfl ?_
  refine g_putI (ci := 11) (f := 32) 22 (show op 324 19 = some (.putfield 335, 3) by decide +kernel) rfl (by decide +kernel) (by decide +kernel) ?_
  refine g_iconst 23 (show op 324 22 = some (.iconst 0, 1) by decide +kernel) rfl rfl ?_
  refine g_istore 25 [(some (.inr (.inr (some 682)))), (some (.inl x1)), (some (.inl x2)), (some (.inl x3)), (some (.inl v2)), (some (.inl 0)), (some (.inl 0)), (some (.inl 0)), (some (.inl 0)), none, none, none] (show op 324 23 = some (.istore 8, 2) by decide +kernel) rfl rfl rfl ?_
  exact h
def C325_12 (x1 : Int) (x2 : Int) (σ : Sg) (o : Rs) : Prop := Gd 325 12 [(some (.inr (.inr (some 682)))), (some (.inl x1)), (some (.inl x2))] [] σ 0 0 o
theorem b325_12 {x1 : Int} {x2 : Int} {σ : Sg} {o : Rs}   (h : (if x2 < (σ 682 32) then (-2147483648 ≤ (16 * x1) ∧ (16 * x1) ≤ 2147483647) ∧ (-2147483648 ≤ ((16 * x1) + x2) ∧ ((16 * x1) + x2) ≤ 2147483647) ∧ (0 ≤ x2 ∧ x2 < 160) ∧ (0 ≤ ((16 * x1) + x2) ∧ ((16 * x1) + x2) < 64) ∧ (-2147483648 ≤ (x2 + 1) ∧ (x2 + 1) ≤ 2147483647) ∧ C325_12 x1 (x2 + 1) (upS σ 683 ((((16 * x1) + x2)).toNat) (σ 705 (x2).toNat)) o else o = (.inl none, σ))) : C325_12 x1 x2 σ o := by
  show Gd 325 12 [(some (.inr (.inr (some 682)))), (some (.inl x1)), (some (.inl x2))] [] σ 0 0 o
  refine g_iload_n 13 (show op 325 12 = some (.iload_n 2, 1) by decide +kernel) rfl rfl ?_
  refine g_aload_n 14 (show op 325 13 = some (.aload_n 0, 1) by decide +kernel) rfl rfl ?_
  refine g_getI (ci := 11) (f := 32) (fin := false) (isR := false) 17 (show op 325 14 = some (.getfield 335, 3) by decide +kernel) rfl (by decide +kernel) (by decide +kernel) ?_
  by_cases hc6 : x2 < (σ 682 32)
  · rw [if_pos hc6] at h
    refine g_icmpF 20 43 (show op 325 17 = some (.if_icmp .ge 26, 3) by decide +kernel) rfl rfl (decide_eq_false (Int.not_le.mpr hc6)) ?_
    refine g_aload_n 21 (show op 325 20 = some (.aload_n 0, 1) by decide +kernel) rfl rfl ?_
    refine g_getR (ci := 11) (f := 1) (fin := true) (isR := true) 24 683 (show op 325 21 = some (.getfield 7, 3) by decide +kernel) rfl (by decide +kernel) (by decide +kernel) ?_
    refine g_bipush 26 (show op 325 24 = some (.bipush 16, 2) by decide +kernel) rfl (by decide) ?_
    refine g_iload_n 27 (show op 325 26 = some (.iload_n 1, 1) by decide +kernel) rfl rfl ?_
    obtain ⟨g1, h⟩ := h
    refine g_imul 28 (show op 325 27 = some (.imul, 1) by decide +kernel) rfl g1 ?_
    refine g_iload_n 29 (show op 325 28 = some (.iload_n 2, 1) by decide +kernel) rfl rfl ?_
    obtain ⟨g2, h⟩ := h
    refine g_iadd 30 (show op 325 29 = some (.iadd, 1) by decide +kernel) rfl g2 ?_
    refine g_aload_n 31 (show op 325 30 = some (.aload_n 0, 1) by decide +kernel) rfl rfl ?_
    refine g_getR (ci := 11) (f := 31) (fin := true) (isR := true) 34 705 (show op 325 31 = some (.getfield 76, 3) by decide +kernel) rfl (by decide +kernel) (by decide +kernel) ?_
    refine g_iload_n 35 (show op 325 34 = some (.iload_n 2, 1) by decide +kernel) rfl rfl ?_
    obtain ⟨g3, h⟩ := h
    refine g_iaload 36 160 (show op 325 35 = some (.iaload, 1) by decide +kernel) rfl (by decide +kernel) g3 ?_
    obtain ⟨g4, h⟩ := h
    refine g_iastore 37 64 (show op 325 36 = some (.iastore, 1) by decide +kernel) rfl (by decide +kernel) g4 ?_
    obtain ⟨g5, h⟩ := h
    refine g_iinc 40 [(some (.inr (.inr (some 682)))), (some (.inl x1)), (some (.inl (x2 + 1)))] (show op 325 37 = some (.iinc 2 1, 3) by decide +kernel) rfl rfl g5 rfl ?_
    refine g_goto 12 (show op 325 40 = some (.goto (-28), 3) by decide +kernel) rfl ?_
    exact h
  · rw [if_neg hc6] at h
    refine g_icmpT 43 (show op 325 17 = some (.if_icmp .ge 26, 3) by decide +kernel) rfl (decide_eq_true (Int.not_lt.mp hc6)) ?_
    exact g_vret (show op 325 43 = some (.return_, 1) by decide +kernel) (by decide +kernel) h
/-- PatchBenchModel.laysMade (I)V -/
theorem b325 {x1 : Int} {σ : Sg} {o : Rs}   (h : (0 ≤ x1 ∧ x1 < 4) ∧ C325_12 x1 0 (upS σ 684 ((x1).toNat) (σ 682 32)) o) : Dd 325 [(.inr (.inr (some 682))), (.inl x1)] σ o := by
  refine Dd_of (l := 3) (by decide +kernel) ?_
  show Gd 325 0 [(some (.inr (.inr (some 682)))), (some (.inl x1)), none] [] σ 0 0 o
  refine g_aload_n 1 (show op 325 0 = some (.aload_n 0, 1) by decide +kernel) rfl rfl ?_
  refine g_getR (ci := 11) (f := 2) (fin := true) (isR := true) 4 684 (show op 325 1 = some (.getfield 13, 3) by decide +kernel) rfl (by decide +kernel) (by decide +kernel) ?_
  refine g_iload_n 5 (show op 325 4 = some (.iload_n 1, 1) by decide +kernel) rfl rfl ?_
  refine g_aload_n 6 (show op 325 5 = some (.aload_n 0, 1) by decide +kernel) rfl rfl ?_
  refine g_getI (ci := 11) (f := 32) (fin := false) (isR := false) 9 (show op 325 6 = some (.getfield 335, 3) by decide +kernel) rfl (by decide +kernel) (by decide +kernel) ?_
  obtain ⟨g1, h⟩ := h
  refine g_iastore 10 4 (show op 325 9 = some (.iastore, 1) by decide +kernel) rfl (by decide +kernel) g1 ?_
  refine g_iconst 11 (show op 325 10 = some (.iconst 0, 1) by decide +kernel) rfl rfl ?_
  refine g_istore_n 12 [(some (.inr (.inr (some 682)))), (some (.inl x1)), (some (.inl 0))] (show op 325 11 = some (.istore_n 2, 1) by decide +kernel) rfl rfl rfl ?_
  exact h
def C326_19 (x1 : Int) (x2 : Int) (x3 : Int) (d4 : Option AV) (d5 : Option AV) (d6 : Option AV) (d7 : Option AV) (σ : Sg) (o : Rs) : Prop := Gd 326 19 [(some (.inr (.inr (some 682)))), (some (.inl x1)), (some (.inl x2)), (some (.inl x3)), d4, d5, d6, d7] [] σ 0 0 o
def C326_20 (x1 : Int) (x2 : Int) (x3 : Int) (d4 : Option AV) (d5 : Option AV) (d6 : Option AV) (d7 : Option AV) (y0 : Int) (σ : Sg) (o : Rs) : Prop := Gd 326 20 [(some (.inr (.inr (some 682)))), (some (.inl x1)), (some (.inl x2)), (some (.inl x3)), d4, d5, d6, d7] [(.inl y0)] σ 0 0 o
def C326_39 (x1 : Int) (x2 : Int) (x3 : Int) (x4 : Int) (d5 : Option AV) (d6 : Option AV) (d7 : Option AV) (σ : Sg) (o : Rs) : Prop := Gd 326 39 [(some (.inr (.inr (some 682)))), (some (.inl x1)), (some (.inl x2)), (some (.inl x3)), (some (.inl x4)), d5, d6, d7] [] σ 0 0 o
def C326_40 (x1 : Int) (x2 : Int) (x3 : Int) (x4 : Int) (d5 : Option AV) (d6 : Option AV) (d7 : Option AV) (y0 : Int) (σ : Sg) (o : Rs) : Prop := Gd 326 40 [(some (.inr (.inr (some 682)))), (some (.inl x1)), (some (.inl x2)), (some (.inl x3)), (some (.inl x4)), d5, d6, d7] [(.inl y0)] σ 0 0 o
def C326_58 (d1 : Option AV) (x2 : Int) (d3 : Option AV) (x4 : Int) (x5 : Int) (d6 : Option AV) (d7 : Option AV) (y0 : Int) (σ : Sg) (o : Rs) : Prop := Gd 326 58 [(some (.inr (.inr (some 682)))), d1, (some (.inl x2)), d3, (some (.inl x4)), (some (.inl x5)), d6, d7] [(.inl y0)] σ 0 0 o
def C326_93 (d1 : Option AV) (x2 : Int) (d3 : Option AV) (d4 : Option AV) (d5 : Option AV) (x6 : Int) (d7 : Option AV) (y1 : Int) (σ : Sg) (o : Rs) : Prop := Gd 326 93 [(some (.inr (.inr (some 682)))), d1, (some (.inl x2)), d3, d4, d5, (some (.inl x6)), d7] [(.inl y1), (.inr (.inr (some 682)))] σ 0 0 o
def C326_119 (d1 : Option AV) (d2 : Option AV) (d3 : Option AV) (d4 : Option AV) (d5 : Option AV) (x6 : Int) (x7 : Int) (σ : Sg) (o : Rs) : Prop := Gd 326 119 [(some (.inr (.inr (some 682)))), d1, d2, d3, d4, d5, (some (.inl x6)), (some (.inl x7))] [] σ 0 0 o
theorem b326_19 {x1 : Int} {x2 : Int} {x3 : Int} {d4 : Option AV} {d5 : Option AV} {d6 : Option AV} {d7 : Option AV} {σ : Sg} {o : Rs}   (h : C326_20 x1 x2 x3 d4 d5 d6 d7 0 σ o) : C326_19 x1 x2 x3 d4 d5 d6 d7 σ o := by
  show Gd 326 19 [(some (.inr (.inr (some 682)))), (some (.inl x1)), (some (.inl x2)), (some (.inl x3)), d4, d5, d6, d7] [] σ 0 0 o
  refine g_iconst 20 (show op 326 19 = some (.iconst 0, 1) by decide +kernel) rfl rfl ?_
  exact h
theorem b326_20 {x1 : Int} {x2 : Int} {x3 : Int} {d4 : Option AV} {d5 : Option AV} {d6 : Option AV} {d7 : Option AV} {y0 : Int} {σ : Sg} {o : Rs}   (h : (if y0 = 0 then C326_39 x1 x2 x3 y0 d5 d6 d7 σ o else (∃ (v2 : Int) (s1 : Sg), Dd 246 [(.inl x3), (.inl 4)] σ (.inl (some (.inl v2)), s1) ∧ (if v2 = 0 then C326_39 x1 x2 x3 y0 d5 d6 d7 s1 o else C326_40 x1 x2 x3 y0 d5 d6 d7 1 s1 o)))) : C326_20 x1 x2 x3 d4 d5 d6 d7 y0 σ o := by
  show Gd 326 20 [(some (.inr (.inr (some 682)))), (some (.inl x1)), (some (.inl x2)), (some (.inl x3)), d4, d5, d6, d7] [(.inl y0)] σ 0 0 o
  refine g_istore 22 [(some (.inr (.inr (some 682)))), (some (.inl x1)), (some (.inl x2)), (some (.inl x3)), (some (.inl y0)), d5, d6, d7] (show op 326 20 = some (.istore 4, 2) by decide +kernel) rfl rfl rfl ?_
  refine g_iload 24 (show op 326 22 = some (.iload 4, 2) by decide +kernel) rfl rfl ?_
  by_cases hc4 : y0 = 0
  · rw [if_pos hc4] at h
    refine g_ifT 39 (show op 326 24 = some (.ifCond .eq 15, 3) by decide +kernel) rfl (decide_eq_true hc4) ?_
    exact h
  · rw [if_neg hc4] at h
    refine g_ifF 27 39 (show op 326 24 = some (.ifCond .eq 15, 3) by decide +kernel) rfl rfl (decide_eq_false hc4) ?_
    refine g_iload_n 28 (show op 326 27 = some (.iload_n 3, 1) by decide +kernel) rfl rfl ?_
    refine g_iconst 29 (show op 326 28 = some (.iconst 4, 1) by decide +kernel) rfl rfl ?_
    obtain ⟨v2, s1, hD3, h⟩ := h
    refine g_call 32 [(.inl v2)] (show op 326 29 = some (.invokestatic 144, 3) by decide +kernel) (call_st' (k' := 0) (n' := 0) (nj := 2) (j := 246) (t := []) (as := [(.inl x3), (.inl 4)]) (by decide +kernel) rfl (by decide +kernel) rfl rfl rfl rfl rfl) hD3 rfl ?_
    by_cases hc5 : v2 = 0
    · rw [if_pos hc5] at h
      refine g_ifT 39 (show op 326 32 = some (.ifCond .eq 7, 3) by decide +kernel) rfl (decide_eq_true hc5) ?_
      exact h
    · rw [if_neg hc5] at h
      refine g_ifF 35 39 (show op 326 32 = some (.ifCond .eq 7, 3) by decide +kernel) rfl rfl (decide_eq_false hc5) ?_
      refine g_iconst 36 (show op 326 35 = some (.iconst 1, 1) by decide +kernel) rfl rfl ?_
      refine g_goto 40 (show op 326 36 = some (.goto 4, 3) by decide +kernel) rfl ?_
      exact h
theorem b326_39 {x1 : Int} {x2 : Int} {x3 : Int} {x4 : Int} {d5 : Option AV} {d6 : Option AV} {d7 : Option AV} {σ : Sg} {o : Rs}   (h : C326_40 x1 x2 x3 x4 d5 d6 d7 0 σ o) : C326_39 x1 x2 x3 x4 d5 d6 d7 σ o := by
  show Gd 326 39 [(some (.inr (.inr (some 682)))), (some (.inl x1)), (some (.inl x2)), (some (.inl x3)), (some (.inl x4)), d5, d6, d7] [] σ 0 0 o
  refine g_iconst 40 (show op 326 39 = some (.iconst 0, 1) by decide +kernel) rfl rfl ?_
  exact h
theorem b326_40 {x1 : Int} {x2 : Int} {x3 : Int} {x4 : Int} {d5 : Option AV} {d6 : Option AV} {d7 : Option AV} {y0 : Int} {σ : Sg} {o : Rs}   (h : (if y0 = 0 then C326_58 (some (.inl x1)) x2 (some (.inl x3)) x4 y0 d6 d7 0 σ o else (∃ (v2 : Int) (s1 : Sg), Dd 324 [(.inr (.inr (some 682))), (.inl x1), (.inl x2), (.inl x3)] σ (.inl (some (.inl v2)), s1) ∧ C326_58 (some (.inl x1)) x2 (some (.inl x3)) x4 y0 d6 d7 v2 s1 o))) : C326_40 x1 x2 x3 x4 d5 d6 d7 y0 σ o := by
  show Gd 326 40 [(some (.inr (.inr (some 682)))), (some (.inl x1)), (some (.inl x2)), (some (.inl x3)), (some (.inl x4)), d5, d6, d7] [(.inl y0)] σ 0 0 o
  refine g_istore 42 [(some (.inr (.inr (some 682)))), (some (.inl x1)), (some (.inl x2)), (some (.inl x3)), (some (.inl x4)), (some (.inl y0)), d6, d7] (show op 326 40 = some (.istore 5, 2) by decide +kernel) rfl rfl rfl ?_
  refine g_iload 44 (show op 326 42 = some (.iload 5, 2) by decide +kernel) rfl rfl ?_
  by_cases hc4 : y0 = 0
  · rw [if_pos hc4] at h
    refine g_ifT 57 (show op 326 44 = some (.ifCond .eq 13, 3) by decide +kernel) rfl (decide_eq_true hc4) ?_
    refine g_iconst 58 (show op 326 57 = some (.iconst 0, 1) by decide +kernel) rfl rfl ?_
    exact h
  · rw [if_neg hc4] at h
    refine g_ifF 47 57 (show op 326 44 = some (.ifCond .eq 13, 3) by decide +kernel) rfl rfl (decide_eq_false hc4) ?_
    refine g_aload_n 48 (show op 326 47 = some (.aload_n 0, 1) by decide +kernel) rfl rfl ?_
    refine g_iload_n 49 (show op 326 48 = some (.iload_n 1, 1) by decide +kernel) rfl rfl ?_
    refine g_iload_n 50 (show op 326 49 = some (.iload_n 2, 1) by decide +kernel) rfl rfl ?_
    refine g_iload_n 51 (show op 326 50 = some (.iload_n 3, 1) by decide +kernel) rfl rfl ?_
    obtain ⟨v2, s1, hD3, h⟩ := h
    refine g_call 54 [(.inl v2)] (show op 326 51 = some (.invokevirtual 358, 3) by decide +kernel) (call_vi' (k' := 0) (n' := 0) (nj := 4) (j := 324) (k9 := 21) (t := []) (as := [(.inr (.inr (some 682))), (.inl x1), (.inl x2), (.inl x3)]) (by decide +kernel) rfl (by decide +kernel) rfl rfl rfl rfl rfl rfl (by decide +kernel) (by decide +kernel)) hD3 rfl ?_
    refine g_goto 58 (show op 326 54 = some (.goto 4, 3) by decide +kernel) rfl ?_
    exact h
theorem b326_58 {d1 : Option AV} {x2 : Int} {d3 : Option AV} {x4 : Int} {x5 : Int} {d6 : Option AV} {d7 : Option AV} {y0 : Int} {σ : Sg} {o : Rs}   (h : C326_93 d1 x2 d3 (some (.inl x4)) (some (.inl x5)) y0 d7 (if x4 = 0 then 1 else (if x5 = 0 then 2 else (if 16 < (σ 682 32) then 3 else 0))) σ o) : C326_58 d1 x2 d3 x4 x5 d6 d7 y0 σ o := by
  show Gd 326 58 [(some (.inr (.inr (some 682)))), d1, (some (.inl x2)), d3, (some (.inl x4)), (some (.inl x5)), d6, d7] [(.inl y0)] σ 0 0 o
  refine g_istore 60 [(some (.inr (.inr (some 682)))), d1, (some (.inl x2)), d3, (some (.inl x4)), (some (.inl x5)), (some (.inl y0)), d7] (show op 326 58 = some (.istore 6, 2) by decide +kernel) rfl rfl rfl ?_
  refine g_aload_n 61 (show op 326 60 = some (.aload_n 0, 1) by decide +kernel) rfl rfl ?_
  refine g_iload 63 (show op 326 61 = some (.iload 4, 2) by decide +kernel) rfl rfl ?_
  by_cases hc1 : x4 = 0
  · refine g_ifF 66 70 (show op 326 63 = some (.ifCond .ne 7, 3) by decide +kernel) rfl rfl (decide_eq_false (fun h9 => h9 hc1)) ?_
    refine g_iconst 67 (show op 326 66 = some (.iconst 1, 1) by decide +kernel) rfl rfl ?_
    refine g_goto 93 (show op 326 67 = some (.goto 26, 3) by decide +kernel) rfl ?_
    have h9 := h; simp only [if_pos hc1] at h9; exact h9
  · refine g_ifT 70 (show op 326 63 = some (.ifCond .ne 7, 3) by decide +kernel) rfl (decide_eq_true hc1) ?_
    refine g_iload 72 (show op 326 70 = some (.iload 5, 2) by decide +kernel) rfl rfl ?_
    by_cases hc2 : x5 = 0
    · refine g_ifF 75 79 (show op 326 72 = some (.ifCond .ne 7, 3) by decide +kernel) rfl rfl (decide_eq_false (fun h9 => h9 hc2)) ?_
      refine g_iconst 76 (show op 326 75 = some (.iconst 2, 1) by decide +kernel) rfl rfl ?_
      refine g_goto 93 (show op 326 76 = some (.goto 17, 3) by decide +kernel) rfl ?_
      have h9 := h; simp only [if_neg hc1, if_pos hc2] at h9; exact h9
    · refine g_ifT 79 (show op 326 72 = some (.ifCond .ne 7, 3) by decide +kernel) rfl (decide_eq_true hc2) ?_
      refine g_aload_n 80 (show op 326 79 = some (.aload_n 0, 1) by decide +kernel) rfl rfl ?_
      refine g_getI (ci := 11) (f := 32) (fin := false) (isR := false) 83 (show op 326 80 = some (.getfield 335, 3) by decide +kernel) rfl (by decide +kernel) (by decide +kernel) ?_
      refine g_bipush 85 (show op 326 83 = some (.bipush 16, 2) by decide +kernel) rfl (by decide) ?_
      by_cases hc3 : 16 < (σ 682 32)
      · refine g_icmpF 88 92 (show op 326 85 = some (.if_icmp .le 7, 3) by decide +kernel) rfl rfl (decide_eq_false (Int.not_le.mpr hc3)) ?_
        refine g_iconst 89 (show op 326 88 = some (.iconst 3, 1) by decide +kernel) rfl rfl ?_
        refine g_goto 93 (show op 326 89 = some (.goto 4, 3) by decide +kernel) rfl ?_
        have h9 := h; simp only [if_neg hc1, if_neg hc2, if_pos hc3] at h9; exact h9
      · refine g_icmpT 92 (show op 326 85 = some (.if_icmp .le 7, 3) by decide +kernel) rfl (decide_eq_true (Int.not_lt.mp hc3)) ?_
        refine g_iconst 93 (show op 326 92 = some (.iconst 0, 1) by decide +kernel) rfl rfl ?_
        have h9 := h; simp only [if_neg hc1, if_neg hc2, if_neg hc3] at h9; exact h9
theorem b326_93 {d1 : Option AV} {x2 : Int} {d3 : Option AV} {d4 : Option AV} {d5 : Option AV} {x6 : Int} {d7 : Option AV} {y1 : Int} {σ : Sg} {o : Rs}   (h : (∃ (v2 : Int) (s1 : Sg), Dd 245 [(.inr (.inr (some 682))), (.inl y1)] σ (.inl (some (.inl v2)), s1) ∧ (if v2 = 0 then o = (.inl (some (.inl 0)), s1) else (∃ (s4 : Sg), Dd 325 [(.inr (.inr (some 682))), (.inl x2)] s1 (.inl none, s4) ∧ C326_119 d1 (some (.inl x2)) d3 d4 d5 x6 0 (upS s4 682 33 (s4 704 (0 : Int).toNat)) o)))) : C326_93 d1 x2 d3 d4 d5 x6 d7 y1 σ o := by
  show Gd 326 93 [(some (.inr (.inr (some 682)))), d1, (some (.inl x2)), d3, d4, d5, (some (.inl x6)), d7] [(.inl y1), (.inr (.inr (some 682)))] σ 0 0 o
  obtain ⟨v2, s1, hD3, h⟩ := h
  refine g_call 96 [(.inl v2)] (show op 326 93 = some (.invokevirtual 172, 3) by decide +kernel) (call_vi' (k' := 0) (n' := 0) (nj := 2) (j := 245) (k9 := 21) (t := []) (as := [(.inr (.inr (some 682))), (.inl y1)]) (by decide +kernel) rfl (by decide +kernel) rfl rfl rfl rfl rfl rfl (by decide +kernel) (by decide +kernel)) hD3 rfl ?_
  by_cases hc6 : v2 = 0
  · rw [if_pos hc6] at h
    refine g_ifF 99 101 (show op 326 96 = some (.ifCond .ne 5, 3) by decide +kernel) rfl rfl (decide_eq_false (fun h9 => h9 hc6)) ?_
    refine g_iconst 100 (show op 326 99 = some (.iconst 0, 1) by decide +kernel) rfl rfl ?_
    exact (g_iret (show op 326 100 = some (.ireturn, 1) by decide +kernel) (by decide +kernel) h)
  · rw [if_neg hc6] at h
    refine g_ifT 101 (show op 326 96 = some (.ifCond .ne 5, 3) by decide +kernel) rfl (decide_eq_true hc6) ?_
    refine g_aload_n 102 (show op 326 101 = some (.aload_n 0, 1) by decide +kernel) rfl rfl ?_
    refine g_iload_n 103 (show op 326 102 = some (.iload_n 2, 1) by decide +kernel) rfl rfl ?_
    obtain ⟨s4, hD5, h⟩ := h
    refine g_call 106 [] (show op 326 103 = some (.invokevirtual 362, 3) by decide +kernel) (call_vi' (k' := 0) (n' := 0) (nj := 2) (j := 325) (k9 := 21) (t := []) (as := [(.inr (.inr (some 682))), (.inl x2)]) (by decide +kernel) rfl (by decide +kernel) rfl rfl rfl rfl rfl rfl (by decide +kernel) (by decide +kernel)) hD5 rfl ?_
    refine g_aload_n 107 (show op 326 106 = some (.aload_n 0, 1) by decide +kernel) rfl rfl ?_
    refine g_aload_n 108 (show op 326 107 = some (.aload_n 0, 1) by decide +kernel) rfl rfl ?_
    refine g_getR (ci := 11) (f := 30) (fin := true) (isR := true) 111 704 (show op 326 108 = some (.getfield 73, 3) by decide +kernel) rfl (by decide +kernel) (by decide +kernel) ?_
    refine g_iconst 112 (show op 326 111 = some (.iconst 0, 1) by decide +kernel) rfl rfl ?_
    refine g_iaload 113 2 (show op 326 112 = some (.iaload, 1) by decide +kernel) rfl (by decide +kernel) (by decide) ?_
    refine g_putI (ci := 11) (f := 33) 116 (show op 326 113 = some (.putfield 365, 3) by decide +kernel) rfl (by decide +kernel) (by decide +kernel) ?_
    refine g_iconst 117 (show op 326 116 = some (.iconst 0, 1) by decide +kernel) rfl rfl ?_
    refine g_istore 119 [(some (.inr (.inr (some 682)))), d1, (some (.inl x2)), d3, d4, d5, (some (.inl x6)), (some (.inl 0))] (show op 326 117 = some (.istore 7, 2) by decide +kernel) rfl rfl rfl ?_
    exact h
theorem b326_119 {d1 : Option AV} {d2 : Option AV} {d3 : Option AV} {d4 : Option AV} {d5 : Option AV} {x6 : Int} {x7 : Int} {σ : Sg} {o : Rs}   (h : (if x7 < (σ 682 33) then (0 ≤ x7 ∧ x7 < 32) ∧ (0 ≤ x7 ∧ x7 < 32) ∧ (0 ≤ x7 ∧ x7 < 32) ∧ (0 ≤ x7 ∧ x7 < 32) ∧ (-2147483648 ≤ (x7 + 1) ∧ (x7 + 1) ≤ 2147483647) ∧ C326_119 d1 d2 d3 d4 d5 x6 (x7 + 1) (upS (upS σ 706 ((x7).toNat) (σ 708 (x7).toNat)) 707 ((x7).toNat) ((upS σ 706 ((x7).toNat) (σ 708 (x7).toNat)) 709 (x7).toNat)) o else o = (.inl (some (.inl x6)), σ))) : C326_119 d1 d2 d3 d4 d5 x6 x7 σ o := by
  show Gd 326 119 [(some (.inr (.inr (some 682)))), d1, d2, d3, d4, d5, (some (.inl x6)), (some (.inl x7))] [] σ 0 0 o
  refine g_iload 121 (show op 326 119 = some (.iload 7, 2) by decide +kernel) rfl rfl ?_
  refine g_aload_n 122 (show op 326 121 = some (.aload_n 0, 1) by decide +kernel) rfl rfl ?_
  refine g_getI (ci := 11) (f := 33) (fin := false) (isR := false) 125 (show op 326 122 = some (.getfield 365, 3) by decide +kernel) rfl (by decide +kernel) (by decide +kernel) ?_
  by_cases hc6 : x7 < (σ 682 33)
  · rw [if_pos hc6] at h
    refine g_icmpF 128 162 (show op 326 125 = some (.if_icmp .ge 37, 3) by decide +kernel) rfl rfl (decide_eq_false (Int.not_le.mpr hc6)) ?_
    refine g_aload_n 129 (show op 326 128 = some (.aload_n 0, 1) by decide +kernel) rfl rfl ?_
    refine g_getR (ci := 11) (f := 34) (fin := true) (isR := true) 132 706 (show op 326 129 = some (.getfield 79, 3) by decide +kernel) rfl (by decide +kernel) (by decide +kernel) ?_
    refine g_iload 134 (show op 326 132 = some (.iload 7, 2) by decide +kernel) rfl rfl ?_
    refine g_aload_n 135 (show op 326 134 = some (.aload_n 0, 1) by decide +kernel) rfl rfl ?_
    refine g_getR (ci := 11) (f := 36) (fin := true) (isR := true) 138 708 (show op 326 135 = some (.getfield 85, 3) by decide +kernel) rfl (by decide +kernel) (by decide +kernel) ?_
    refine g_iload 140 (show op 326 138 = some (.iload 7, 2) by decide +kernel) rfl rfl ?_
    obtain ⟨g1, h⟩ := h
    refine g_iaload 141 32 (show op 326 140 = some (.iaload, 1) by decide +kernel) rfl (by decide +kernel) g1 ?_
    obtain ⟨g2, h⟩ := h
    refine g_iastore 142 32 (show op 326 141 = some (.iastore, 1) by decide +kernel) rfl (by decide +kernel) g2 ?_
    refine g_aload_n 143 (show op 326 142 = some (.aload_n 0, 1) by decide +kernel) rfl rfl ?_
    refine g_getR (ci := 11) (f := 35) (fin := true) (isR := true) 146 707 (show op 326 143 = some (.getfield 82, 3) by decide +kernel) rfl (by decide +kernel) (by decide +kernel) ?_
    refine g_iload 148 (show op 326 146 = some (.iload 7, 2) by decide +kernel) rfl rfl ?_
    refine g_aload_n 149 (show op 326 148 = some (.aload_n 0, 1) by decide +kernel) rfl rfl ?_
    refine g_getR (ci := 11) (f := 37) (fin := true) (isR := true) 152 709 (show op 326 149 = some (.getfield 88, 3) by decide +kernel) rfl (by decide +kernel) (by decide +kernel) ?_
    refine g_iload 154 (show op 326 152 = some (.iload 7, 2) by decide +kernel) rfl rfl ?_
    obtain ⟨g3, h⟩ := h
    refine g_iaload 155 32 (show op 326 154 = some (.iaload, 1) by decide +kernel) rfl (by decide +kernel) g3 ?_
    obtain ⟨g4, h⟩ := h
    refine g_iastore 156 32 (show op 326 155 = some (.iastore, 1) by decide +kernel) rfl (by decide +kernel) g4 ?_
    obtain ⟨g5, h⟩ := h
    refine g_iinc 159 [(some (.inr (.inr (some 682)))), d1, d2, d3, d4, d5, (some (.inl x6)), (some (.inl (x7 + 1)))] (show op 326 156 = some (.iinc 7 1, 3) by decide +kernel) rfl rfl g5 rfl ?_
    refine g_goto 119 (show op 326 159 = some (.goto (-40), 3) by decide +kernel) rfl ?_
    exact h
  · rw [if_neg hc6] at h
    refine g_icmpT 162 (show op 326 125 = some (.if_icmp .ge 37, 3) by decide +kernel) rfl (decide_eq_true (Int.not_lt.mp hc6)) ?_
    refine g_iload 164 (show op 326 162 = some (.iload 6, 2) by decide +kernel) rfl rfl ?_
    exact (g_iret (show op 326 164 = some (.ireturn, 1) by decide +kernel) (by decide +kernel) h)
/-- PatchBenchModel.putOn (III)I -/
theorem b326 {x1 : Int} {x2 : Int} {x3 : Int} {σ : Sg} {o : Rs}   (h : (∃ (v2 : Int) (s1 : Sg), Dd 248 [(.inr (.inr (some 682))), (.inl x1)] σ (.inl (some (.inl v2)), s1) ∧ (if v2 = 0 then C326_19 x1 x2 x3 none none none none s1 o else (∃ (v5 : Int) (s4 : Sg), Dd 247 [(.inl x2)] s1 (.inl (some (.inl v5)), s4) ∧ (if v5 = 0 then C326_19 x1 x2 x3 none none none none s4 o else C326_20 x1 x2 x3 none none none none 1 s4 o))))) : Dd 326 [(.inr (.inr (some 682))), (.inl x1), (.inl x2), (.inl x3)] σ o := by
  refine Dd_of (l := 8) (by decide +kernel) ?_
  show Gd 326 0 [(some (.inr (.inr (some 682)))), (some (.inl x1)), (some (.inl x2)), (some (.inl x3)), none, none, none, none] [] σ 0 0 o
  refine g_aload_n 1 (show op 326 0 = some (.aload_n 0, 1) by decide +kernel) rfl rfl ?_
  refine g_iload_n 2 (show op 326 1 = some (.iload_n 1, 1) by decide +kernel) rfl rfl ?_
  obtain ⟨v2, s1, hD3, h⟩ := h
  refine g_call 5 [(.inl v2)] (show op 326 2 = some (.invokevirtual 290, 3) by decide +kernel) (call_vi' (k' := 0) (n' := 0) (nj := 2) (j := 248) (k9 := 21) (t := []) (as := [(.inr (.inr (some 682))), (.inl x1)]) (by decide +kernel) rfl (by decide +kernel) rfl rfl rfl rfl rfl rfl (by decide +kernel) (by decide +kernel)) hD3 rfl ?_
  by_cases hc7 : v2 = 0
  · rw [if_pos hc7] at h
    refine g_ifT 19 (show op 326 5 = some (.ifCond .eq 14, 3) by decide +kernel) rfl (decide_eq_true hc7) ?_
    exact h
  · rw [if_neg hc7] at h
    refine g_ifF 8 19 (show op 326 5 = some (.ifCond .eq 14, 3) by decide +kernel) rfl rfl (decide_eq_false hc7) ?_
    refine g_iload_n 9 (show op 326 8 = some (.iload_n 2, 1) by decide +kernel) rfl rfl ?_
    obtain ⟨v5, s4, hD6, h⟩ := h
    refine g_call 12 [(.inl v5)] (show op 326 9 = some (.invokestatic 166, 3) by decide +kernel) (call_st' (k' := 0) (n' := 0) (nj := 1) (j := 247) (t := []) (as := [(.inl x2)]) (by decide +kernel) rfl (by decide +kernel) rfl rfl rfl rfl rfl) hD6 rfl ?_
    by_cases hc8 : v5 = 0
    · rw [if_pos hc8] at h
      refine g_ifT 19 (show op 326 12 = some (.ifCond .eq 7, 3) by decide +kernel) rfl (decide_eq_true hc8) ?_
      exact h
    · rw [if_neg hc8] at h
      refine g_ifF 15 19 (show op 326 12 = some (.ifCond .eq 7, 3) by decide +kernel) rfl rfl (decide_eq_false hc8) ?_
      refine g_iconst 16 (show op 326 15 = some (.iconst 1, 1) by decide +kernel) rfl rfl ?_
      refine g_goto 20 (show op 326 16 = some (.goto 4, 3) by decide +kernel) rfl ?_
      exact h
def C327_17 (x1 : Int) (y1 : Int) (σ : Sg) (o : Rs) : Prop := Gd 327 17 [(some (.inr (.inr (some 682)))), (some (.inl x1))] [(.inl y1), (.inr (.inr (some 682)))] σ 0 0 o
theorem b327_17 {x1 : Int} {y1 : Int} {σ : Sg} {o : Rs}   (h : (∃ (v2 : Int) (s1 : Sg), Dd 245 [(.inr (.inr (some 682))), (.inl y1)] σ (.inl (some (.inl v2)), s1) ∧ (¬ (v2 = 0) → 0 ≤ x1 ∧ x1 < 32) ∧ (¬ (v2 = 0) → ¬ ((s1 706 (x1).toNat) = (-1)) → 0 ≤ x1 ∧ x1 < 32) ∧ (¬ (v2 = 0) → ¬ ((s1 706 (x1).toNat) = (-1)) → -2147483648 ≤ (10 * (s1 706 (x1).toNat)) ∧ (10 * (s1 706 (x1).toNat)) ≤ 2147483647) ∧ (¬ (v2 = 0) → ¬ ((s1 706 (x1).toNat) = (-1)) → 0 ≤ x1 ∧ x1 < 32) ∧ (¬ (v2 = 0) → ¬ ((s1 706 (x1).toNat) = (-1)) → -2147483648 ≤ ((10 * (s1 706 (x1).toNat)) + (s1 707 (x1).toNat)) ∧ ((10 * (s1 706 (x1).toNat)) + (s1 707 (x1).toNat)) ≤ 2147483647) ∧ o = (.inl (some (.inl (if v2 = 0 then 0 else (if (s1 706 (x1).toNat) = (-1) then (-1) else ((10 * (s1 706 (x1).toNat)) + (s1 707 (x1).toNat)))))), s1))) : C327_17 x1 y1 σ o := by
  show Gd 327 17 [(some (.inr (.inr (some 682)))), (some (.inl x1))] [(.inl y1), (.inr (.inr (some 682)))] σ 0 0 o
  obtain ⟨v2, s1, hD3, h⟩ := h
  refine g_call 20 [(.inl v2)] (show op 327 17 = some (.invokevirtual 172, 3) by decide +kernel) (call_vi' (k' := 0) (n' := 0) (nj := 2) (j := 245) (k9 := 21) (t := []) (as := [(.inr (.inr (some 682))), (.inl y1)]) (by decide +kernel) rfl (by decide +kernel) rfl rfl rfl rfl rfl rfl (by decide +kernel) (by decide +kernel)) hD3 rfl ?_
  obtain ⟨G10, G11, G12, G13, G14, h⟩ := h
  by_cases hc9 : v2 = 0
  · refine g_ifF 23 25 (show op 327 20 = some (.ifCond .ne 5, 3) by decide +kernel) rfl rfl (decide_eq_false (fun h9 => h9 hc9)) ?_
    refine g_iconst 24 (show op 327 23 = some (.iconst 0, 1) by decide +kernel) rfl rfl ?_
    have h9 := h; simp only [if_pos hc9] at h9; exact (g_iret (show op 327 24 = some (.ireturn, 1) by decide +kernel) (by decide +kernel) h9)
  · refine g_ifT 25 (show op 327 20 = some (.ifCond .ne 5, 3) by decide +kernel) rfl (decide_eq_true hc9) ?_
    refine g_aload_n 26 (show op 327 25 = some (.aload_n 0, 1) by decide +kernel) rfl rfl ?_
    refine g_getR (ci := 11) (f := 34) (fin := true) (isR := true) 29 706 (show op 327 26 = some (.getfield 79, 3) by decide +kernel) rfl (by decide +kernel) (by decide +kernel) ?_
    refine g_iload_n 30 (show op 327 29 = some (.iload_n 1, 1) by decide +kernel) rfl rfl ?_
    have g4 := G10 hc9
    refine g_iaload 31 32 (show op 327 30 = some (.iaload, 1) by decide +kernel) rfl (by decide +kernel) g4 ?_
    refine g_iconst 32 (show op 327 31 = some (.iconst (-1), 1) by decide +kernel) rfl rfl ?_
    by_cases hc15 : (s1 706 (x1).toNat) = (-1)
    · refine g_icmpF 35 39 (show op 327 32 = some (.if_icmp .ne 7, 3) by decide +kernel) rfl rfl (decide_eq_false (fun h9 => h9 hc15)) ?_
      refine g_iconst 36 (show op 327 35 = some (.iconst (-1), 1) by decide +kernel) rfl rfl ?_
      refine g_goto 55 (show op 327 36 = some (.goto 19, 3) by decide +kernel) rfl ?_
      have h9 := h; simp only [if_neg hc9, if_pos hc15] at h9; exact (g_iret (show op 327 55 = some (.ireturn, 1) by decide +kernel) (by decide +kernel) h9)
    · refine g_icmpT 39 (show op 327 32 = some (.if_icmp .ne 7, 3) by decide +kernel) rfl (decide_eq_true hc15) ?_
      refine g_bipush 41 (show op 327 39 = some (.bipush 10, 2) by decide +kernel) rfl (by decide) ?_
      refine g_aload_n 42 (show op 327 41 = some (.aload_n 0, 1) by decide +kernel) rfl rfl ?_
      refine g_getR (ci := 11) (f := 34) (fin := true) (isR := true) 45 706 (show op 327 42 = some (.getfield 79, 3) by decide +kernel) rfl (by decide +kernel) (by decide +kernel) ?_
      refine g_iload_n 46 (show op 327 45 = some (.iload_n 1, 1) by decide +kernel) rfl rfl ?_
      have g5 := G11 hc9 hc15
      refine g_iaload 47 32 (show op 327 46 = some (.iaload, 1) by decide +kernel) rfl (by decide +kernel) g5 ?_
      have g6 := G12 hc9 hc15
      refine g_imul 48 (show op 327 47 = some (.imul, 1) by decide +kernel) rfl g6 ?_
      refine g_aload_n 49 (show op 327 48 = some (.aload_n 0, 1) by decide +kernel) rfl rfl ?_
      refine g_getR (ci := 11) (f := 35) (fin := true) (isR := true) 52 707 (show op 327 49 = some (.getfield 82, 3) by decide +kernel) rfl (by decide +kernel) (by decide +kernel) ?_
      refine g_iload_n 53 (show op 327 52 = some (.iload_n 1, 1) by decide +kernel) rfl rfl ?_
      have g7 := G13 hc9 hc15
      refine g_iaload 54 32 (show op 327 53 = some (.iaload, 1) by decide +kernel) rfl (by decide +kernel) g7 ?_
      have g8 := G14 hc9 hc15
      refine g_iadd 55 (show op 327 54 = some (.iadd, 1) by decide +kernel) rfl g8 ?_
      have h9 := h; simp only [if_neg hc9, if_neg hc15] at h9; exact (g_iret (show op 327 55 = some (.ireturn, 1) by decide +kernel) (by decide +kernel) h9)
/-- PatchBenchModel.putAt (I)I -/
theorem b327 {x1 : Int} {σ : Sg} {o : Rs}   (h : (∃ (v2 : Int) (s1 : Sg), Dd 246 [(.inl x1), (.inl (σ 682 33))] σ (.inl (some (.inl v2)), s1) ∧ C327_17 x1 (if v2 = 0 then 1 else 0) s1 o)) : Dd 327 [(.inr (.inr (some 682))), (.inl x1)] σ o := by
  refine Dd_of (l := 2) (by decide +kernel) ?_
  show Gd 327 0 [(some (.inr (.inr (some 682)))), (some (.inl x1))] [] σ 0 0 o
  refine g_aload_n 1 (show op 327 0 = some (.aload_n 0, 1) by decide +kernel) rfl rfl ?_
  refine g_iload_n 2 (show op 327 1 = some (.iload_n 1, 1) by decide +kernel) rfl rfl ?_
  refine g_aload_n 3 (show op 327 2 = some (.aload_n 0, 1) by decide +kernel) rfl rfl ?_
  refine g_getI (ci := 11) (f := 33) (fin := false) (isR := false) 6 (show op 327 3 = some (.getfield 365, 3) by decide +kernel) rfl (by decide +kernel) (by decide +kernel) ?_
  obtain ⟨v2, s1, hD3, h⟩ := h
  refine g_call 9 [(.inl v2), (.inr (.inr (some 682)))] (show op 327 6 = some (.invokestatic 144, 3) by decide +kernel) (call_st' (k' := 0) (n' := 0) (nj := 2) (j := 246) (t := [(.inr (.inr (some 682)))]) (as := [(.inl x1), (.inl (σ 682 33))]) (by decide +kernel) rfl (by decide +kernel) rfl rfl rfl rfl rfl) hD3 rfl ?_
  by_cases hc4 : v2 = 0
  · refine g_ifT 16 (show op 327 9 = some (.ifCond .eq 7, 3) by decide +kernel) rfl (decide_eq_true hc4) ?_
    refine g_iconst 17 (show op 327 16 = some (.iconst 1, 1) by decide +kernel) rfl rfl ?_
    have h9 := h; simp only [if_pos hc4] at h9; exact h9
  · refine g_ifF 12 16 (show op 327 9 = some (.ifCond .eq 7, 3) by decide +kernel) rfl rfl (decide_eq_false hc4) ?_
    refine g_iconst 13 (show op 327 12 = some (.iconst 0, 1) by decide +kernel) rfl rfl ?_
    refine g_goto 17 (show op 327 13 = some (.goto 4, 3) by decide +kernel) rfl ?_
    have h9 := h; simp only [if_neg hc4] at h9; exact h9
def C328_7 (x1 : Int) (d2 : Option AV) (x3 : Int) (d4 : Option AV) (x5 : Int) (x6 : Int) (x7 : Int) (σ : Sg) (o : Rs) : Prop := Gd 328 7 [(some (.inr (.inr (some 682)))), (some (.inl x1)), d2, (some (.inl x3)), d4, (some (.inl x5)), (some (.inl x6)), (some (.inl x7))] [] σ 0 0 o
def C328_48 (x1 : Int) (d2 : Option AV) (d3 : Option AV) (d4 : Option AV) (x5 : Int) (x6 : Int) (d7 : Option AV) (σ : Sg) (o : Rs) : Prop := Gd 328 48 [(some (.inr (.inr (some 682)))), (some (.inl x1)), d2, d3, d4, (some (.inl x5)), (some (.inl x6)), d7] [] σ 0 0 o
def C328_52 (x1 : Int) (d2 : Option AV) (d3 : Option AV) (d4 : Option AV) (x5 : Int) (d6 : Option AV) (x7 : Int) (σ : Sg) (o : Rs) : Prop := Gd 328 52 [(some (.inr (.inr (some 682)))), (some (.inl x1)), d2, d3, d4, (some (.inl x5)), d6, (some (.inl x7))] [] σ 0 0 o
theorem b328_7 {x1 : Int} {d2 : Option AV} {x3 : Int} {d4 : Option AV} {x5 : Int} {x6 : Int} {x7 : Int} {σ : Sg} {o : Rs}   (h : (if x7 < x3 then (0 ≤ x7 ∧ x7 < 256) ∧ (if (σ 700 (x7).toNat) ≤ x5 then (∃ (s2 : Sg), Dd 329 [(.inr (.inr (some 682))), (.inl x1), (.inl x7), (.inl x6)] σ (.inl none, s2) ∧ (∃ (v5 : Int) (s4 : Sg), Dd 281 [(.inr (.inr (some 682))), (.inl x7)] s2 (.inl (some (.inl v5)), s4) ∧ (-2147483648 ≤ (x7 + 1) ∧ (x7 + 1) ≤ 2147483647) ∧ C328_7 x1 d2 x3 d4 x5 v5 (x7 + 1) s4 o)) else C328_48 x1 d2 (some (.inl x3)) d4 x5 x6 (some (.inl x7)) σ o) else C328_48 x1 d2 (some (.inl x3)) d4 x5 x6 (some (.inl x7)) σ o)) : C328_7 x1 d2 x3 d4 x5 x6 x7 σ o := by
  show Gd 328 7 [(some (.inr (.inr (some 682)))), (some (.inl x1)), d2, (some (.inl x3)), d4, (some (.inl x5)), (some (.inl x6)), (some (.inl x7))] [] σ 0 0 o
  refine g_iload 9 (show op 328 7 = some (.iload 7, 2) by decide +kernel) rfl rfl ?_
  refine g_iload_n 10 (show op 328 9 = some (.iload_n 3, 1) by decide +kernel) rfl rfl ?_
  by_cases hc8 : x7 < x3
  · rw [if_pos hc8] at h
    refine g_icmpF 13 48 (show op 328 10 = some (.if_icmp .ge 38, 3) by decide +kernel) rfl rfl (decide_eq_false (Int.not_le.mpr hc8)) ?_
    refine g_aload_n 14 (show op 328 13 = some (.aload_n 0, 1) by decide +kernel) rfl rfl ?_
    refine g_getR (ci := 11) (f := 26) (fin := true) (isR := true) 17 700 (show op 328 14 = some (.getfield 61, 3) by decide +kernel) rfl (by decide +kernel) (by decide +kernel) ?_
    refine g_iload 19 (show op 328 17 = some (.iload 7, 2) by decide +kernel) rfl rfl ?_
    obtain ⟨g1, h⟩ := h
    refine g_iaload 20 256 (show op 328 19 = some (.iaload, 1) by decide +kernel) rfl (by decide +kernel) g1 ?_
    refine g_iload 22 (show op 328 20 = some (.iload 5, 2) by decide +kernel) rfl rfl ?_
    by_cases hc9 : (σ 700 (x7).toNat) ≤ x5
    · rw [if_pos hc9] at h
      refine g_icmpF 25 48 (show op 328 22 = some (.if_icmp .gt 26, 3) by decide +kernel) rfl rfl (decide_eq_false (Int.not_lt.mpr hc9)) ?_
      refine g_aload_n 26 (show op 328 25 = some (.aload_n 0, 1) by decide +kernel) rfl rfl ?_
      refine g_iload_n 27 (show op 328 26 = some (.iload_n 1, 1) by decide +kernel) rfl rfl ?_
      refine g_iload 29 (show op 328 27 = some (.iload 7, 2) by decide +kernel) rfl rfl ?_
      refine g_iload 31 (show op 328 29 = some (.iload 6, 2) by decide +kernel) rfl rfl ?_
      obtain ⟨s2, hD3, h⟩ := h
      refine g_call 34 [] (show op 328 31 = some (.invokevirtual 368, 3) by decide +kernel) (call_vi' (k' := 0) (n' := 0) (nj := 4) (j := 329) (k9 := 21) (t := []) (as := [(.inr (.inr (some 682))), (.inl x1), (.inl x7), (.inl x6)]) (by decide +kernel) rfl (by decide +kernel) rfl rfl rfl rfl rfl rfl (by decide +kernel) (by decide +kernel)) hD3 rfl ?_
      refine g_aload_n 35 (show op 328 34 = some (.aload_n 0, 1) by decide +kernel) rfl rfl ?_
      refine g_iload 37 (show op 328 35 = some (.iload 7, 2) by decide +kernel) rfl rfl ?_
      obtain ⟨v5, s4, hD6, h⟩ := h
      refine g_call 40 [(.inl v5)] (show op 328 37 = some (.invokevirtual 247, 3) by decide +kernel) (call_vi' (k' := 0) (n' := 0) (nj := 2) (j := 281) (k9 := 21) (t := []) (as := [(.inr (.inr (some 682))), (.inl x7)]) (by decide +kernel) rfl (by decide +kernel) rfl rfl rfl rfl rfl rfl (by decide +kernel) (by decide +kernel)) hD6 rfl ?_
      refine g_istore 42 [(some (.inr (.inr (some 682)))), (some (.inl x1)), d2, (some (.inl x3)), d4, (some (.inl x5)), (some (.inl v5)), (some (.inl x7))] (show op 328 40 = some (.istore 6, 2) by decide +kernel) rfl rfl rfl ?_
      obtain ⟨g7, h⟩ := h
      refine g_iinc 45 [(some (.inr (.inr (some 682)))), (some (.inl x1)), d2, (some (.inl x3)), d4, (some (.inl x5)), (some (.inl v5)), (some (.inl (x7 + 1)))] (show op 328 42 = some (.iinc 7 1, 3) by decide +kernel) rfl rfl g7 rfl ?_
      refine g_goto 7 (show op 328 45 = some (.goto (-38), 3) by decide +kernel) rfl ?_
      exact h
    · rw [if_neg hc9] at h
      refine g_icmpT 48 (show op 328 22 = some (.if_icmp .gt 26, 3) by decide +kernel) rfl (decide_eq_true (Int.not_le.mp hc9)) ?_
      exact h
  · rw [if_neg hc8] at h
    refine g_icmpT 48 (show op 328 10 = some (.if_icmp .ge 38, 3) by decide +kernel) rfl (decide_eq_true (Int.not_lt.mp hc8)) ?_
    exact h
theorem b328_48 {x1 : Int} {d2 : Option AV} {d3 : Option AV} {d4 : Option AV} {x5 : Int} {x6 : Int} {d7 : Option AV} {σ : Sg} {o : Rs}   (h : C328_52 x1 d2 d3 d4 x5 (some (.inl x6)) x6 σ o) : C328_48 x1 d2 d3 d4 x5 x6 d7 σ o := by
  show Gd 328 48 [(some (.inr (.inr (some 682)))), (some (.inl x1)), d2, d3, d4, (some (.inl x5)), (some (.inl x6)), d7] [] σ 0 0 o
  refine g_iload 50 (show op 328 48 = some (.iload 6, 2) by decide +kernel) rfl rfl ?_
  refine g_istore 52 [(some (.inr (.inr (some 682)))), (some (.inl x1)), d2, d3, d4, (some (.inl x5)), (some (.inl x6)), (some (.inl x6))] (show op 328 50 = some (.istore 7, 2) by decide +kernel) rfl rfl rfl ?_
  exact h
theorem b328_52 {x1 : Int} {d2 : Option AV} {d3 : Option AV} {d4 : Option AV} {x5 : Int} {d6 : Option AV} {x7 : Int} {σ : Sg} {o : Rs}   (h : (if x7 < x5 then (-2147483648 ≤ (100 * x1) ∧ (100 * x1) ≤ 2147483647) ∧ (-2147483648 ≤ ((100 * x1) + x7) ∧ ((100 * x1) + x7) ≤ 2147483647) ∧ (0 ≤ ((100 * x1) + x7) ∧ ((100 * x1) + x7) < 4400) ∧ (∃ (s4 : Sg), Dd 319 [(.inr (.inr (some 682))), (.inl (σ 685 (((100 * x1) + x7)).toNat))] σ (.inl none, s4) ∧ (-2147483648 ≤ (x7 + 1) ∧ (x7 + 1) ≤ 2147483647) ∧ C328_52 x1 d2 d3 d4 x5 d6 (x7 + 1) s4 o) else o = (.inl none, σ))) : C328_52 x1 d2 d3 d4 x5 d6 x7 σ o := by
  show Gd 328 52 [(some (.inr (.inr (some 682)))), (some (.inl x1)), d2, d3, d4, (some (.inl x5)), d6, (some (.inl x7))] [] σ 0 0 o
  refine g_iload 54 (show op 328 52 = some (.iload 7, 2) by decide +kernel) rfl rfl ?_
  refine g_iload 56 (show op 328 54 = some (.iload 5, 2) by decide +kernel) rfl rfl ?_
  by_cases hc7 : x7 < x5
  · rw [if_pos hc7] at h
    refine g_icmpF 59 81 (show op 328 56 = some (.if_icmp .ge 25, 3) by decide +kernel) rfl rfl (decide_eq_false (Int.not_le.mpr hc7)) ?_
    refine g_aload_n 60 (show op 328 59 = some (.aload_n 0, 1) by decide +kernel) rfl rfl ?_
    refine g_aload_n 61 (show op 328 60 = some (.aload_n 0, 1) by decide +kernel) rfl rfl ?_
    refine g_getR (ci := 11) (f := 4) (fin := true) (isR := true) 64 685 (show op 328 61 = some (.getfield 16, 3) by decide +kernel) rfl (by decide +kernel) (by decide +kernel) ?_
    refine g_bipush 66 (show op 328 64 = some (.bipush 100, 2) by decide +kernel) rfl (by decide) ?_
    refine g_iload_n 67 (show op 328 66 = some (.iload_n 1, 1) by decide +kernel) rfl rfl ?_
    obtain ⟨g1, h⟩ := h
    refine g_imul 68 (show op 328 67 = some (.imul, 1) by decide +kernel) rfl g1 ?_
    refine g_iload 70 (show op 328 68 = some (.iload 7, 2) by decide +kernel) rfl rfl ?_
    obtain ⟨g2, h⟩ := h
    refine g_iadd 71 (show op 328 70 = some (.iadd, 1) by decide +kernel) rfl g2 ?_
    obtain ⟨g3, h⟩ := h
    refine g_iaload 72 4400 (show op 328 71 = some (.iaload, 1) by decide +kernel) rfl (by decide +kernel) g3 ?_
    obtain ⟨s4, hD5, h⟩ := h
    refine g_call 75 [] (show op 328 72 = some (.invokevirtual 339, 3) by decide +kernel) (call_vi' (k' := 0) (n' := 0) (nj := 2) (j := 319) (k9 := 21) (t := []) (as := [(.inr (.inr (some 682))), (.inl (σ 685 (((100 * x1) + x7)).toNat))]) (by decide +kernel) rfl (by decide +kernel) rfl rfl rfl rfl rfl rfl (by decide +kernel) (by decide +kernel)) hD5 rfl ?_
    obtain ⟨g6, h⟩ := h
    refine g_iinc 78 [(some (.inr (.inr (some 682)))), (some (.inl x1)), d2, d3, d4, (some (.inl x5)), d6, (some (.inl (x7 + 1)))] (show op 328 75 = some (.iinc 7 1, 3) by decide +kernel) rfl rfl g6 rfl ?_
    refine g_goto 52 (show op 328 78 = some (.goto (-26), 3) by decide +kernel) rfl ?_
    exact h
  · rw [if_neg hc7] at h
    refine g_icmpT 81 (show op 328 56 = some (.if_icmp .ge 25, 3) by decide +kernel) rfl (decide_eq_true (Int.not_lt.mp hc7)) ?_
    exact g_vret (show op 328 81 = some (.return_, 1) by decide +kernel) (by decide +kernel) h
/-- PatchBenchModel.addsStretch (IIIII)V -/
theorem b328 {x1 : Int} {x2 : Int} {x3 : Int} {x4 : Int} {x5 : Int} {σ : Sg} {o : Rs}   (h : C328_7 x1 (some (.inl x2)) x3 (some (.inl x4)) x5 x4 x2 σ o) : Dd 328 [(.inr (.inr (some 682))), (.inl x1), (.inl x2), (.inl x3), (.inl x4), (.inl x5)] σ o := by
  refine Dd_of (l := 8) (by decide +kernel) ?_
  show Gd 328 0 [(some (.inr (.inr (some 682)))), (some (.inl x1)), (some (.inl x2)), (some (.inl x3)), (some (.inl x4)), (some (.inl x5)), none, none] [] σ 0 0 o
  refine g_iload 2 (show op 328 0 = some (.iload 4, 2) by decide +kernel) rfl rfl ?_
  refine g_istore 4 [(some (.inr (.inr (some 682)))), (some (.inl x1)), (some (.inl x2)), (some (.inl x3)), (some (.inl x4)), (some (.inl x5)), (some (.inl x4)), none] (show op 328 2 = some (.istore 6, 2) by decide +kernel) rfl rfl rfl ?_
  refine g_iload_n 5 (show op 328 4 = some (.iload_n 2, 1) by decide +kernel) rfl rfl ?_
  refine g_istore 7 [(some (.inr (.inr (some 682)))), (some (.inl x1)), (some (.inl x2)), (some (.inl x3)), (some (.inl x4)), (some (.inl x5)), (some (.inl x4)), (some (.inl x2))] (show op 328 5 = some (.istore 7, 2) by decide +kernel) rfl rfl rfl ?_
  exact h
def C329_3 (x1 : Int) (x2 : Int) (d3 : Option AV) (x4 : Int) (σ : Sg) (o : Rs) : Prop := Gd 329 3 [(some (.inr (.inr (some 682)))), (some (.inl x1)), (some (.inl x2)), d3, (some (.inl x4))] [] σ 0 0 o
def C329_39 (x1 : Int) (x2 : Int) (d3 : Option AV) (x4 : Int) (σ : Sg) (o : Rs) : Prop := Gd 329 39 [(some (.inr (.inr (some 682)))), (some (.inl x1)), (some (.inl x2)), d3, (some (.inl x4))] [] σ 0 0 o
theorem b329_3 {x1 : Int} {x2 : Int} {d3 : Option AV} {x4 : Int} {σ : Sg} {o : Rs}   (h : (0 ≤ x2 ∧ x2 < 256) ∧ (if x4 < (σ 700 (x2).toNat) then (-2147483648 ≤ (100 * x1) ∧ (100 * x1) ≤ 2147483647) ∧ (-2147483648 ≤ ((100 * x1) + x4) ∧ ((100 * x1) + x4) ≤ 2147483647) ∧ (0 ≤ ((100 * x1) + x4) ∧ ((100 * x1) + x4) < 4400) ∧ (∃ (s5 : Sg), Dd 319 [(.inr (.inr (some 682))), (.inl (σ 685 (((100 * x1) + x4)).toNat))] σ (.inl none, s5) ∧ (-2147483648 ≤ (x4 + 1) ∧ (x4 + 1) ≤ 2147483647) ∧ C329_3 x1 x2 d3 (x4 + 1) s5 o) else C329_39 x1 x2 d3 0 σ o)) : C329_3 x1 x2 d3 x4 σ o := by
  show Gd 329 3 [(some (.inr (.inr (some 682)))), (some (.inl x1)), (some (.inl x2)), d3, (some (.inl x4))] [] σ 0 0 o
  refine g_iload 5 (show op 329 3 = some (.iload 4, 2) by decide +kernel) rfl rfl ?_
  refine g_aload_n 6 (show op 329 5 = some (.aload_n 0, 1) by decide +kernel) rfl rfl ?_
  refine g_getR (ci := 11) (f := 26) (fin := true) (isR := true) 9 700 (show op 329 6 = some (.getfield 61, 3) by decide +kernel) rfl (by decide +kernel) (by decide +kernel) ?_
  refine g_iload_n 10 (show op 329 9 = some (.iload_n 2, 1) by decide +kernel) rfl rfl ?_
  obtain ⟨g1, h⟩ := h
  refine g_iaload 11 256 (show op 329 10 = some (.iaload, 1) by decide +kernel) rfl (by decide +kernel) g1 ?_
  by_cases hc8 : x4 < (σ 700 (x2).toNat)
  · rw [if_pos hc8] at h
    refine g_icmpF 14 36 (show op 329 11 = some (.if_icmp .ge 25, 3) by decide +kernel) rfl rfl (decide_eq_false (Int.not_le.mpr hc8)) ?_
    refine g_aload_n 15 (show op 329 14 = some (.aload_n 0, 1) by decide +kernel) rfl rfl ?_
    refine g_aload_n 16 (show op 329 15 = some (.aload_n 0, 1) by decide +kernel) rfl rfl ?_
    refine g_getR (ci := 11) (f := 4) (fin := true) (isR := true) 19 685 (show op 329 16 = some (.getfield 16, 3) by decide +kernel) rfl (by decide +kernel) (by decide +kernel) ?_
    refine g_bipush 21 (show op 329 19 = some (.bipush 100, 2) by decide +kernel) rfl (by decide) ?_
    refine g_iload_n 22 (show op 329 21 = some (.iload_n 1, 1) by decide +kernel) rfl rfl ?_
    obtain ⟨g2, h⟩ := h
    refine g_imul 23 (show op 329 22 = some (.imul, 1) by decide +kernel) rfl g2 ?_
    refine g_iload 25 (show op 329 23 = some (.iload 4, 2) by decide +kernel) rfl rfl ?_
    obtain ⟨g3, h⟩ := h
    refine g_iadd 26 (show op 329 25 = some (.iadd, 1) by decide +kernel) rfl g3 ?_
    obtain ⟨g4, h⟩ := h
    refine g_iaload 27 4400 (show op 329 26 = some (.iaload, 1) by decide +kernel) rfl (by decide +kernel) g4 ?_
    obtain ⟨s5, hD6, h⟩ := h
    refine g_call 30 [] (show op 329 27 = some (.invokevirtual 339, 3) by decide +kernel) (call_vi' (k' := 0) (n' := 0) (nj := 2) (j := 319) (k9 := 21) (t := []) (as := [(.inr (.inr (some 682))), (.inl (σ 685 (((100 * x1) + x4)).toNat))]) (by decide +kernel) rfl (by decide +kernel) rfl rfl rfl rfl rfl rfl (by decide +kernel) (by decide +kernel)) hD6 rfl ?_
    obtain ⟨g7, h⟩ := h
    refine g_iinc 33 [(some (.inr (.inr (some 682)))), (some (.inl x1)), (some (.inl x2)), d3, (some (.inl (x4 + 1)))] (show op 329 30 = some (.iinc 4 1, 3) by decide +kernel) rfl rfl g7 rfl ?_
    refine g_goto 3 (show op 329 33 = some (.goto (-30), 3) by decide +kernel) rfl ?_
    exact h
  · rw [if_neg hc8] at h
    refine g_icmpT 36 (show op 329 11 = some (.if_icmp .ge 25, 3) by decide +kernel) rfl (decide_eq_true (Int.not_lt.mp hc8)) ?_
    refine g_iconst 37 (show op 329 36 = some (.iconst 0, 1) by decide +kernel) rfl rfl ?_
    refine g_istore 39 [(some (.inr (.inr (some 682)))), (some (.inl x1)), (some (.inl x2)), d3, (some (.inl 0))] (show op 329 37 = some (.istore 4, 2) by decide +kernel) rfl rfl rfl ?_
    exact h
theorem b329_39 {x1 : Int} {x2 : Int} {d3 : Option AV} {x4 : Int} {σ : Sg} {o : Rs}   (h : (0 ≤ x2 ∧ x2 < 256) ∧ (if x4 < (σ 703 (x2).toNat) then (-2147483648 ≤ (100 * x1) ∧ (100 * x1) ≤ 2147483647) ∧ (0 ≤ x2 ∧ x2 < 256) ∧ (-2147483648 ≤ ((100 * x1) + (σ 702 (x2).toNat)) ∧ ((100 * x1) + (σ 702 (x2).toNat)) ≤ 2147483647) ∧ (-2147483648 ≤ (((100 * x1) + (σ 702 (x2).toNat)) + x4) ∧ (((100 * x1) + (σ 702 (x2).toNat)) + x4) ≤ 2147483647) ∧ (0 ≤ (((100 * x1) + (σ 702 (x2).toNat)) + x4) ∧ (((100 * x1) + (σ 702 (x2).toNat)) + x4) < 4400) ∧ (∃ (s7 : Sg), Dd 319 [(.inr (.inr (some 682))), (.inl (σ 686 ((((100 * x1) + (σ 702 (x2).toNat)) + x4)).toNat))] σ (.inl none, s7) ∧ (-2147483648 ≤ (x4 + 1) ∧ (x4 + 1) ≤ 2147483647) ∧ C329_39 x1 x2 d3 (x4 + 1) s7 o) else o = (.inl none, σ))) : C329_39 x1 x2 d3 x4 σ o := by
  show Gd 329 39 [(some (.inr (.inr (some 682)))), (some (.inl x1)), (some (.inl x2)), d3, (some (.inl x4))] [] σ 0 0 o
  refine g_iload 41 (show op 329 39 = some (.iload 4, 2) by decide +kernel) rfl rfl ?_
  refine g_aload_n 42 (show op 329 41 = some (.aload_n 0, 1) by decide +kernel) rfl rfl ?_
  refine g_getR (ci := 11) (f := 29) (fin := true) (isR := true) 45 703 (show op 329 42 = some (.getfield 70, 3) by decide +kernel) rfl (by decide +kernel) (by decide +kernel) ?_
  refine g_iload_n 46 (show op 329 45 = some (.iload_n 2, 1) by decide +kernel) rfl rfl ?_
  obtain ⟨g1, h⟩ := h
  refine g_iaload 47 256 (show op 329 46 = some (.iaload, 1) by decide +kernel) rfl (by decide +kernel) g1 ?_
  by_cases hc10 : x4 < (σ 703 (x2).toNat)
  · rw [if_pos hc10] at h
    refine g_icmpF 50 79 (show op 329 47 = some (.if_icmp .ge 32, 3) by decide +kernel) rfl rfl (decide_eq_false (Int.not_le.mpr hc10)) ?_
    refine g_aload_n 51 (show op 329 50 = some (.aload_n 0, 1) by decide +kernel) rfl rfl ?_
    refine g_aload_n 52 (show op 329 51 = some (.aload_n 0, 1) by decide +kernel) rfl rfl ?_
    refine g_getR (ci := 11) (f := 5) (fin := true) (isR := true) 55 686 (show op 329 52 = some (.getfield 19, 3) by decide +kernel) rfl (by decide +kernel) (by decide +kernel) ?_
    refine g_bipush 57 (show op 329 55 = some (.bipush 100, 2) by decide +kernel) rfl (by decide) ?_
    refine g_iload_n 58 (show op 329 57 = some (.iload_n 1, 1) by decide +kernel) rfl rfl ?_
    obtain ⟨g2, h⟩ := h
    refine g_imul 59 (show op 329 58 = some (.imul, 1) by decide +kernel) rfl g2 ?_
    refine g_aload_n 60 (show op 329 59 = some (.aload_n 0, 1) by decide +kernel) rfl rfl ?_
    refine g_getR (ci := 11) (f := 28) (fin := true) (isR := true) 63 702 (show op 329 60 = some (.getfield 67, 3) by decide +kernel) rfl (by decide +kernel) (by decide +kernel) ?_
    refine g_iload_n 64 (show op 329 63 = some (.iload_n 2, 1) by decide +kernel) rfl rfl ?_
    obtain ⟨g3, h⟩ := h
    refine g_iaload 65 256 (show op 329 64 = some (.iaload, 1) by decide +kernel) rfl (by decide +kernel) g3 ?_
    obtain ⟨g4, h⟩ := h
    refine g_iadd 66 (show op 329 65 = some (.iadd, 1) by decide +kernel) rfl g4 ?_
    refine g_iload 68 (show op 329 66 = some (.iload 4, 2) by decide +kernel) rfl rfl ?_
    obtain ⟨g5, h⟩ := h
    refine g_iadd 69 (show op 329 68 = some (.iadd, 1) by decide +kernel) rfl g5 ?_
    obtain ⟨g6, h⟩ := h
    refine g_iaload 70 4400 (show op 329 69 = some (.iaload, 1) by decide +kernel) rfl (by decide +kernel) g6 ?_
    obtain ⟨s7, hD8, h⟩ := h
    refine g_call 73 [] (show op 329 70 = some (.invokevirtual 339, 3) by decide +kernel) (call_vi' (k' := 0) (n' := 0) (nj := 2) (j := 319) (k9 := 21) (t := []) (as := [(.inr (.inr (some 682))), (.inl (σ 686 ((((100 * x1) + (σ 702 (x2).toNat)) + x4)).toNat))]) (by decide +kernel) rfl (by decide +kernel) rfl rfl rfl rfl rfl rfl (by decide +kernel) (by decide +kernel)) hD8 rfl ?_
    obtain ⟨g9, h⟩ := h
    refine g_iinc 76 [(some (.inr (.inr (some 682)))), (some (.inl x1)), (some (.inl x2)), d3, (some (.inl (x4 + 1)))] (show op 329 73 = some (.iinc 4 1, 3) by decide +kernel) rfl rfl g9 rfl ?_
    refine g_goto 39 (show op 329 76 = some (.goto (-37), 3) by decide +kernel) rfl ?_
    exact h
  · rw [if_neg hc10] at h
    refine g_icmpT 79 (show op 329 47 = some (.if_icmp .ge 32, 3) by decide +kernel) rfl (decide_eq_true (Int.not_lt.mp hc10)) ?_
    exact g_vret (show op 329 79 = some (.return_, 1) by decide +kernel) (by decide +kernel) h
/-- PatchBenchModel.addsHunk (III)V -/
theorem b329 {x1 : Int} {x2 : Int} {x3 : Int} {σ : Sg} {o : Rs}   (h : C329_3 x1 x2 (some (.inl x3)) x3 σ o) : Dd 329 [(.inr (.inr (some 682))), (.inl x1), (.inl x2), (.inl x3)] σ o := by
  refine Dd_of (l := 5) (by decide +kernel) ?_
  show Gd 329 0 [(some (.inr (.inr (some 682)))), (some (.inl x1)), (some (.inl x2)), (some (.inl x3)), none] [] σ 0 0 o
  refine g_iload_n 1 (show op 329 0 = some (.iload_n 3, 1) by decide +kernel) rfl rfl ?_
  refine g_istore 3 [(some (.inr (.inr (some 682)))), (some (.inl x1)), (some (.inl x2)), (some (.inl x3)), (some (.inl x3))] (show op 329 1 = some (.istore 4, 2) by decide +kernel) rfl rfl rfl ?_
  exact h
def C330_53 (x1 : Int) (x2 : Int) (x3 : Int) (x4 : Int) (d5 : Option AV) (d6 : Option AV) (y0 : Int) (σ : Sg) (o : Rs) : Prop := Gd 330 53 [(some (.inr (.inr (some 682)))), (some (.inl x1)), (some (.inl x2)), (some (.inl x3)), (some (.inl x4)), d5, d6] [(.inl y0)] σ 0 0 o
def C330_52 (x1 : Int) (x2 : Int) (x3 : Int) (x4 : Int) (d5 : Option AV) (d6 : Option AV) (σ : Sg) (o : Rs) : Prop := Gd 330 52 [(some (.inr (.inr (some 682)))), (some (.inl x1)), (some (.inl x2)), (some (.inl x3)), (some (.inl x4)), d5, d6] [] σ 0 0 o
def C330_58 (x1 : Int) (x2 : Int) (x3 : Int) (x4 : Int) (x5 : Int) (x6 : Int) (σ : Sg) (o : Rs) : Prop := Gd 330 58 [(some (.inr (.inr (some 682)))), (some (.inl x1)), (some (.inl x2)), (some (.inl x3)), (some (.inl x4)), (some (.inl x5)), (some (.inl x6))] [] σ 0 0 o
def C330_121 (x1 : Int) (x2 : Int) (x3 : Int) (x4 : Int) (d5 : Option AV) (x6 : Int) (y0 : Int) (σ : Sg) (o : Rs) : Prop := Gd 330 121 [(some (.inr (.inr (some 682)))), (some (.inl x1)), (some (.inl x2)), (some (.inl x3)), (some (.inl x4)), d5, (some (.inl x6))] [(.inl y0)] σ 0 0 o
theorem b330_53 {x1 : Int} {x2 : Int} {x3 : Int} {x4 : Int} {d5 : Option AV} {d6 : Option AV} {y0 : Int} {σ : Sg} {o : Rs}   (h : C330_58 x1 x2 x3 x4 y0 0 σ o) : C330_53 x1 x2 x3 x4 d5 d6 y0 σ o := by
  show Gd 330 53 [(some (.inr (.inr (some 682)))), (some (.inl x1)), (some (.inl x2)), (some (.inl x3)), (some (.inl x4)), d5, d6] [(.inl y0)] σ 0 0 o
  refine g_istore 55 [(some (.inr (.inr (some 682)))), (some (.inl x1)), (some (.inl x2)), (some (.inl x3)), (some (.inl x4)), (some (.inl y0)), d6] (show op 330 53 = some (.istore 5, 2) by decide +kernel) rfl rfl rfl ?_
  refine g_iconst 56 (show op 330 55 = some (.iconst 0, 1) by decide +kernel) rfl rfl ?_
  refine g_istore 58 [(some (.inr (.inr (some 682)))), (some (.inl x1)), (some (.inl x2)), (some (.inl x3)), (some (.inl x4)), (some (.inl y0)), (some (.inl 0))] (show op 330 56 = some (.istore 6, 2) by decide +kernel) rfl rfl rfl ?_
  exact h
theorem b330_52 {x1 : Int} {x2 : Int} {x3 : Int} {x4 : Int} {d5 : Option AV} {d6 : Option AV} {σ : Sg} {o : Rs}   (h : C330_53 x1 x2 x3 x4 d5 d6 0 σ o) : C330_52 x1 x2 x3 x4 d5 d6 σ o := by
  show Gd 330 52 [(some (.inr (.inr (some 682)))), (some (.inl x1)), (some (.inl x2)), (some (.inl x3)), (some (.inl x4)), d5, d6] [] σ 0 0 o
  refine g_iconst 53 (show op 330 52 = some (.iconst 0, 1) by decide +kernel) rfl rfl ?_
  exact h
theorem b330_58 {x1 : Int} {x2 : Int} {x3 : Int} {x4 : Int} {x5 : Int} {x6 : Int} {σ : Sg} {o : Rs}   (h : (0 ≤ x2 ∧ x2 < 256) ∧ (if x6 < (σ 703 (x2).toNat) then (if x5 = 0 then (x5 = 0 ∨ x5 = 1) ∧ o = (.inl (some (.inl x5)), σ) else (-2147483648 ≤ (100 * x1) ∧ (100 * x1) ≤ 2147483647) ∧ (0 ≤ x2 ∧ x2 < 256) ∧ (-2147483648 ≤ ((100 * x1) + (σ 702 (x2).toNat)) ∧ ((100 * x1) + (σ 702 (x2).toNat)) ≤ 2147483647) ∧ (-2147483648 ≤ (((100 * x1) + (σ 702 (x2).toNat)) + x6) ∧ (((100 * x1) + (σ 702 (x2).toNat)) + x6) ≤ 2147483647) ∧ (0 ≤ (((100 * x1) + (σ 702 (x2).toNat)) + x6) ∧ (((100 * x1) + (σ 702 (x2).toNat)) + x6) < 4400) ∧ (-2147483648 ≤ (100 * x3) ∧ (100 * x3) ≤ 2147483647) ∧ (0 ≤ x4 ∧ x4 < 256) ∧ (-2147483648 ≤ ((100 * x3) + (σ 702 (x4).toNat)) ∧ ((100 * x3) + (σ 702 (x4).toNat)) ≤ 2147483647) ∧ (-2147483648 ≤ (((100 * x3) + (σ 702 (x4).toNat)) + x6) ∧ (((100 * x3) + (σ 702 (x4).toNat)) + x6) ≤ 2147483647) ∧ (0 ≤ (((100 * x3) + (σ 702 (x4).toNat)) + x6) ∧ (((100 * x3) + (σ 702 (x4).toNat)) + x6) < 4400) ∧ C330_121 x1 x2 x3 x4 (some (.inl x5)) x6 (if (σ 686 ((((100 * x1) + (σ 702 (x2).toNat)) + x6)).toNat) = (σ 686 ((((100 * x3) + (σ 702 (x4).toNat)) + x6)).toNat) then 1 else 0) σ o) else (x5 = 0 ∨ x5 = 1) ∧ o = (.inl (some (.inl x5)), σ))) : C330_58 x1 x2 x3 x4 x5 x6 σ o := by
  show Gd 330 58 [(some (.inr (.inr (some 682)))), (some (.inl x1)), (some (.inl x2)), (some (.inl x3)), (some (.inl x4)), (some (.inl x5)), (some (.inl x6))] [] σ 0 0 o
  refine g_iload 60 (show op 330 58 = some (.iload 6, 2) by decide +kernel) rfl rfl ?_
  refine g_aload_n 61 (show op 330 60 = some (.aload_n 0, 1) by decide +kernel) rfl rfl ?_
  refine g_getR (ci := 11) (f := 29) (fin := true) (isR := true) 64 703 (show op 330 61 = some (.getfield 70, 3) by decide +kernel) rfl (by decide +kernel) (by decide +kernel) ?_
  refine g_iload_n 65 (show op 330 64 = some (.iload_n 2, 1) by decide +kernel) rfl rfl ?_
  obtain ⟨g1, h⟩ := h
  refine g_iaload 66 256 (show op 330 65 = some (.iaload, 1) by decide +kernel) rfl (by decide +kernel) g1 ?_
  by_cases hc14 : x6 < (σ 703 (x2).toNat)
  · rw [if_pos hc14] at h
    refine g_icmpF 69 129 (show op 330 66 = some (.if_icmp .ge 63, 3) by decide +kernel) rfl rfl (decide_eq_false (Int.not_le.mpr hc14)) ?_
    refine g_iload 71 (show op 330 69 = some (.iload 5, 2) by decide +kernel) rfl rfl ?_
    by_cases hc15 : x5 = 0
    · rw [if_pos hc15] at h
      refine g_ifT 129 (show op 330 71 = some (.ifCond .eq 58, 3) by decide +kernel) rfl (decide_eq_true hc15) ?_
      refine g_iload 131 (show op 330 129 = some (.iload 5, 2) by decide +kernel) rfl rfl ?_
      obtain ⟨g2, h⟩ := h
      exact (g_zret (show op 330 131 = some (.ireturn, 1) by decide +kernel) (by decide +kernel) g2 h)
    · rw [if_neg hc15] at h
      refine g_ifF 74 129 (show op 330 71 = some (.ifCond .eq 58, 3) by decide +kernel) rfl rfl (decide_eq_false hc15) ?_
      refine g_aload_n 75 (show op 330 74 = some (.aload_n 0, 1) by decide +kernel) rfl rfl ?_
      refine g_getR (ci := 11) (f := 5) (fin := true) (isR := true) 78 686 (show op 330 75 = some (.getfield 19, 3) by decide +kernel) rfl (by decide +kernel) (by decide +kernel) ?_
      refine g_bipush 80 (show op 330 78 = some (.bipush 100, 2) by decide +kernel) rfl (by decide) ?_
      refine g_iload_n 81 (show op 330 80 = some (.iload_n 1, 1) by decide +kernel) rfl rfl ?_
      obtain ⟨g3, h⟩ := h
      refine g_imul 82 (show op 330 81 = some (.imul, 1) by decide +kernel) rfl g3 ?_
      refine g_aload_n 83 (show op 330 82 = some (.aload_n 0, 1) by decide +kernel) rfl rfl ?_
      refine g_getR (ci := 11) (f := 28) (fin := true) (isR := true) 86 702 (show op 330 83 = some (.getfield 67, 3) by decide +kernel) rfl (by decide +kernel) (by decide +kernel) ?_
      refine g_iload_n 87 (show op 330 86 = some (.iload_n 2, 1) by decide +kernel) rfl rfl ?_
      obtain ⟨g4, h⟩ := h
      refine g_iaload 88 256 (show op 330 87 = some (.iaload, 1) by decide +kernel) rfl (by decide +kernel) g4 ?_
      obtain ⟨g5, h⟩ := h
      refine g_iadd 89 (show op 330 88 = some (.iadd, 1) by decide +kernel) rfl g5 ?_
      refine g_iload 91 (show op 330 89 = some (.iload 6, 2) by decide +kernel) rfl rfl ?_
      obtain ⟨g6, h⟩ := h
      refine g_iadd 92 (show op 330 91 = some (.iadd, 1) by decide +kernel) rfl g6 ?_
      obtain ⟨g7, h⟩ := h
      refine g_iaload 93 4400 (show op 330 92 = some (.iaload, 1) by decide +kernel) rfl (by decide +kernel) g7 ?_
      refine g_aload_n 94 (show op 330 93 = some (.aload_n 0, 1) by decide +kernel) rfl rfl ?_
      refine g_getR (ci := 11) (f := 5) (fin := true) (isR := true) 97 686 (show op 330 94 = some (.getfield 19, 3) by decide +kernel) rfl (by decide +kernel) (by decide +kernel) ?_
      refine g_bipush 99 (show op 330 97 = some (.bipush 100, 2) by decide +kernel) rfl (by decide) ?_
      refine g_iload_n 100 (show op 330 99 = some (.iload_n 3, 1) by decide +kernel) rfl rfl ?_
      obtain ⟨g8, h⟩ := h
      refine g_imul 101 (show op 330 100 = some (.imul, 1) by decide +kernel) rfl g8 ?_
      refine g_aload_n 102 (show op 330 101 = some (.aload_n 0, 1) by decide +kernel) rfl rfl ?_
      refine g_getR (ci := 11) (f := 28) (fin := true) (isR := true) 105 702 (show op 330 102 = some (.getfield 67, 3) by decide +kernel) rfl (by decide +kernel) (by decide +kernel) ?_
      refine g_iload 107 (show op 330 105 = some (.iload 4, 2) by decide +kernel) rfl rfl ?_
      obtain ⟨g9, h⟩ := h
      refine g_iaload 108 256 (show op 330 107 = some (.iaload, 1) by decide +kernel) rfl (by decide +kernel) g9 ?_
      obtain ⟨g10, h⟩ := h
      refine g_iadd 109 (show op 330 108 = some (.iadd, 1) by decide +kernel) rfl g10 ?_
      refine g_iload 111 (show op 330 109 = some (.iload 6, 2) by decide +kernel) rfl rfl ?_
      obtain ⟨g11, h⟩ := h
      refine g_iadd 112 (show op 330 111 = some (.iadd, 1) by decide +kernel) rfl g11 ?_
      obtain ⟨g12, h⟩ := h
      refine g_iaload 113 4400 (show op 330 112 = some (.iaload, 1) by decide +kernel) rfl (by decide +kernel) g12 ?_
      by_cases hc16 : (σ 686 ((((100 * x1) + (σ 702 (x2).toNat)) + x6)).toNat) = (σ 686 ((((100 * x3) + (σ 702 (x4).toNat)) + x6)).toNat)
      · refine g_icmpF 116 120 (show op 330 113 = some (.if_icmp .ne 7, 3) by decide +kernel) rfl rfl (decide_eq_false (fun h9 => h9 hc16)) ?_
        refine g_iconst 117 (show op 330 116 = some (.iconst 1, 1) by decide +kernel) rfl rfl ?_
        refine g_goto 121 (show op 330 117 = some (.goto 4, 3) by decide +kernel) rfl ?_
        have h9 := h; simp only [if_pos hc16] at h9; exact h9
      · refine g_icmpT 120 (show op 330 113 = some (.if_icmp .ne 7, 3) by decide +kernel) rfl (decide_eq_true hc16) ?_
        refine g_iconst 121 (show op 330 120 = some (.iconst 0, 1) by decide +kernel) rfl rfl ?_
        have h9 := h; simp only [if_neg hc16] at h9; exact h9
  · rw [if_neg hc14] at h
    refine g_icmpT 129 (show op 330 66 = some (.if_icmp .ge 63, 3) by decide +kernel) rfl (decide_eq_true (Int.not_lt.mp hc14)) ?_
    refine g_iload 131 (show op 330 129 = some (.iload 5, 2) by decide +kernel) rfl rfl ?_
    obtain ⟨g13, h⟩ := h
    exact (g_zret (show op 330 131 = some (.ireturn, 1) by decide +kernel) (by decide +kernel) g13 h)
theorem b330_121 {x1 : Int} {x2 : Int} {x3 : Int} {x4 : Int} {d5 : Option AV} {x6 : Int} {y0 : Int} {σ : Sg} {o : Rs}   (h : (-2147483648 ≤ (x6 + 1) ∧ (x6 + 1) ≤ 2147483647) ∧ C330_58 x1 x2 x3 x4 y0 (x6 + 1) σ o) : C330_121 x1 x2 x3 x4 d5 x6 y0 σ o := by
  show Gd 330 121 [(some (.inr (.inr (some 682)))), (some (.inl x1)), (some (.inl x2)), (some (.inl x3)), (some (.inl x4)), d5, (some (.inl x6))] [(.inl y0)] σ 0 0 o
  refine g_istore 123 [(some (.inr (.inr (some 682)))), (some (.inl x1)), (some (.inl x2)), (some (.inl x3)), (some (.inl x4)), (some (.inl y0)), (some (.inl x6))] (show op 330 121 = some (.istore 5, 2) by decide +kernel) rfl rfl rfl ?_
  obtain ⟨g1, h⟩ := h
  refine g_iinc 126 [(some (.inr (.inr (some 682)))), (some (.inl x1)), (some (.inl x2)), (some (.inl x3)), (some (.inl x4)), (some (.inl y0)), (some (.inl (x6 + 1)))] (show op 330 123 = some (.iinc 6 1, 3) by decide +kernel) rfl rfl g1 rfl ?_
  refine g_goto 58 (show op 330 126 = some (.goto (-68), 3) by decide +kernel) rfl ?_
  exact h
/-- PatchBenchModel.areSame (IIII)Z -/
theorem b330 {x1 : Int} {x2 : Int} {x3 : Int} {x4 : Int} {σ : Sg} {o : Rs}   (h : (0 ≤ x2 ∧ x2 < 256) ∧ (0 ≤ x4 ∧ x4 < 256) ∧ (if (σ 700 (x2).toNat) = (σ 700 (x4).toNat) then (0 ≤ x2 ∧ x2 < 256) ∧ (0 ≤ x4 ∧ x4 < 256) ∧ (if (σ 701 (x2).toNat) = (σ 701 (x4).toNat) then (0 ≤ x2 ∧ x2 < 256) ∧ (0 ≤ x4 ∧ x4 < 256) ∧ (if (σ 703 (x2).toNat) = (σ 703 (x4).toNat) then C330_53 x1 x2 x3 x4 none none 1 σ o else C330_52 x1 x2 x3 x4 none none σ o) else C330_52 x1 x2 x3 x4 none none σ o) else C330_52 x1 x2 x3 x4 none none σ o)) : Dd 330 [(.inr (.inr (some 682))), (.inl x1), (.inl x2), (.inl x3), (.inl x4)] σ o := by
  refine Dd_of (l := 7) (by decide +kernel) ?_
  show Gd 330 0 [(some (.inr (.inr (some 682)))), (some (.inl x1)), (some (.inl x2)), (some (.inl x3)), (some (.inl x4)), none, none] [] σ 0 0 o
  refine g_aload_n 1 (show op 330 0 = some (.aload_n 0, 1) by decide +kernel) rfl rfl ?_
  refine g_getR (ci := 11) (f := 26) (fin := true) (isR := true) 4 700 (show op 330 1 = some (.getfield 61, 3) by decide +kernel) rfl (by decide +kernel) (by decide +kernel) ?_
  refine g_iload_n 5 (show op 330 4 = some (.iload_n 2, 1) by decide +kernel) rfl rfl ?_
  obtain ⟨g1, h⟩ := h
  refine g_iaload 6 256 (show op 330 5 = some (.iaload, 1) by decide +kernel) rfl (by decide +kernel) g1 ?_
  refine g_aload_n 7 (show op 330 6 = some (.aload_n 0, 1) by decide +kernel) rfl rfl ?_
  refine g_getR (ci := 11) (f := 26) (fin := true) (isR := true) 10 700 (show op 330 7 = some (.getfield 61, 3) by decide +kernel) rfl (by decide +kernel) (by decide +kernel) ?_
  refine g_iload 12 (show op 330 10 = some (.iload 4, 2) by decide +kernel) rfl rfl ?_
  obtain ⟨g2, h⟩ := h
  refine g_iaload 13 256 (show op 330 12 = some (.iaload, 1) by decide +kernel) rfl (by decide +kernel) g2 ?_
  by_cases hc7 : (σ 700 (x2).toNat) = (σ 700 (x4).toNat)
  · rw [if_pos hc7] at h
    refine g_icmpF 16 52 (show op 330 13 = some (.if_icmp .ne 39, 3) by decide +kernel) rfl rfl (decide_eq_false (fun h9 => h9 hc7)) ?_
    refine g_aload_n 17 (show op 330 16 = some (.aload_n 0, 1) by decide +kernel) rfl rfl ?_
    refine g_getR (ci := 11) (f := 27) (fin := true) (isR := true) 20 701 (show op 330 17 = some (.getfield 64, 3) by decide +kernel) rfl (by decide +kernel) (by decide +kernel) ?_
    refine g_iload_n 21 (show op 330 20 = some (.iload_n 2, 1) by decide +kernel) rfl rfl ?_
    obtain ⟨g3, h⟩ := h
    refine g_iaload 22 256 (show op 330 21 = some (.iaload, 1) by decide +kernel) rfl (by decide +kernel) g3 ?_
    refine g_aload_n 23 (show op 330 22 = some (.aload_n 0, 1) by decide +kernel) rfl rfl ?_
    refine g_getR (ci := 11) (f := 27) (fin := true) (isR := true) 26 701 (show op 330 23 = some (.getfield 64, 3) by decide +kernel) rfl (by decide +kernel) (by decide +kernel) ?_
    refine g_iload 28 (show op 330 26 = some (.iload 4, 2) by decide +kernel) rfl rfl ?_
    obtain ⟨g4, h⟩ := h
    refine g_iaload 29 256 (show op 330 28 = some (.iaload, 1) by decide +kernel) rfl (by decide +kernel) g4 ?_
    by_cases hc8 : (σ 701 (x2).toNat) = (σ 701 (x4).toNat)
    · rw [if_pos hc8] at h
      refine g_icmpF 32 52 (show op 330 29 = some (.if_icmp .ne 23, 3) by decide +kernel) rfl rfl (decide_eq_false (fun h9 => h9 hc8)) ?_
      refine g_aload_n 33 (show op 330 32 = some (.aload_n 0, 1) by decide +kernel) rfl rfl ?_
      refine g_getR (ci := 11) (f := 29) (fin := true) (isR := true) 36 703 (show op 330 33 = some (.getfield 70, 3) by decide +kernel) rfl (by decide +kernel) (by decide +kernel) ?_
      refine g_iload_n 37 (show op 330 36 = some (.iload_n 2, 1) by decide +kernel) rfl rfl ?_
      obtain ⟨g5, h⟩ := h
      refine g_iaload 38 256 (show op 330 37 = some (.iaload, 1) by decide +kernel) rfl (by decide +kernel) g5 ?_
      refine g_aload_n 39 (show op 330 38 = some (.aload_n 0, 1) by decide +kernel) rfl rfl ?_
      refine g_getR (ci := 11) (f := 29) (fin := true) (isR := true) 42 703 (show op 330 39 = some (.getfield 70, 3) by decide +kernel) rfl (by decide +kernel) (by decide +kernel) ?_
      refine g_iload 44 (show op 330 42 = some (.iload 4, 2) by decide +kernel) rfl rfl ?_
      obtain ⟨g6, h⟩ := h
      refine g_iaload 45 256 (show op 330 44 = some (.iaload, 1) by decide +kernel) rfl (by decide +kernel) g6 ?_
      by_cases hc9 : (σ 703 (x2).toNat) = (σ 703 (x4).toNat)
      · rw [if_pos hc9] at h
        refine g_icmpF 48 52 (show op 330 45 = some (.if_icmp .ne 7, 3) by decide +kernel) rfl rfl (decide_eq_false (fun h9 => h9 hc9)) ?_
        refine g_iconst 49 (show op 330 48 = some (.iconst 1, 1) by decide +kernel) rfl rfl ?_
        refine g_goto 53 (show op 330 49 = some (.goto 4, 3) by decide +kernel) rfl ?_
        exact h
      · rw [if_neg hc9] at h
        refine g_icmpT 52 (show op 330 45 = some (.if_icmp .ne 7, 3) by decide +kernel) rfl (decide_eq_true hc9) ?_
        exact h
    · rw [if_neg hc8] at h
      refine g_icmpT 52 (show op 330 29 = some (.if_icmp .ne 23, 3) by decide +kernel) rfl (decide_eq_true hc8) ?_
      exact h
  · rw [if_neg hc7] at h
    refine g_icmpT 52 (show op 330 13 = some (.if_icmp .ne 39, 3) by decide +kernel) rfl (decide_eq_true hc7) ?_
    exact h
def C331_38 (x1 : Int) (x2 : Int) (x3 : Int) (x4 : Int) (x5 : Int) (x6 : Int) (x7 : Int) (x8 : Int) (d9 : Option AV) (d10 : Option AV) (d11 : Option AV) (d12 : Option AV) (d13 : Option AV) (d14 : Option AV) (d15 : Option AV) (d16 : Option AV) (σ : Sg) (o : Rs) : Prop := Gd 331 38 [(some (.inr (.inr (some 682)))), (some (.inl x1)), (some (.inl x2)), (some (.inl x3)), (some (.inl x4)), (some (.inl x5)), (some (.inl x6)), (some (.inl x7)), (some (.inl x8)), d9, d10, d11, d12, d13, d14, d15, d16] [] σ 0 0 o
def C331_51 (x1 : Int) (x2 : Int) (x3 : Int) (x4 : Int) (x5 : Int) (x6 : Int) (x7 : Int) (x8 : Int) (d9 : Option AV) (d10 : Option AV) (d11 : Option AV) (d12 : Option AV) (d13 : Option AV) (d14 : Option AV) (d15 : Option AV) (d16 : Option AV) (σ : Sg) (o : Rs) : Prop := Gd 331 51 [(some (.inr (.inr (some 682)))), (some (.inl x1)), (some (.inl x2)), (some (.inl x3)), (some (.inl x4)), (some (.inl x5)), (some (.inl x6)), (some (.inl x7)), (some (.inl x8)), d9, d10, d11, d12, d13, d14, d15, d16] [] σ 0 0 o
def C331_488 (x1 : Int) (d2 : Option AV) (d3 : Option AV) (d4 : Option AV) (d5 : Option AV) (d6 : Option AV) (d7 : Option AV) (x8 : Int) (x9 : Int) (d10 : Option AV) (d11 : Option AV) (d12 : Option AV) (d13 : Option AV) (d14 : Option AV) (d15 : Option AV) (d16 : Option AV) (σ : Sg) (o : Rs) : Prop := Gd 331 488 [(some (.inr (.inr (some 682)))), (some (.inl x1)), d2, d3, d4, d5, d6, d7, (some (.inl x8)), (some (.inl x9)), d10, d11, d12, d13, d14, d15, d16] [] σ 0 0 o
def C331_80 (x1 : Int) (x2 : Int) (x3 : Int) (x4 : Int) (x5 : Int) (x6 : Int) (x7 : Int) (x8 : Int) (d9 : Option AV) (d10 : Option AV) (d11 : Option AV) (d12 : Option AV) (d13 : Option AV) (d14 : Option AV) (d15 : Option AV) (d16 : Option AV) (σ : Sg) (o : Rs) : Prop := Gd 331 80 [(some (.inr (.inr (some 682)))), (some (.inl x1)), (some (.inl x2)), (some (.inl x3)), (some (.inl x4)), (some (.inl x5)), (some (.inl x6)), (some (.inl x7)), (some (.inl x8)), d9, d10, d11, d12, d13, d14, d15, d16] [] σ 0 0 o
def C331_84 (x1 : Int) (x2 : Int) (x3 : Int) (x4 : Int) (x5 : Int) (x6 : Int) (x7 : Int) (x8 : Int) (d9 : Option AV) (d10 : Option AV) (d11 : Option AV) (d12 : Option AV) (d13 : Option AV) (d14 : Option AV) (d15 : Option AV) (d16 : Option AV) (σ : Sg) (o : Rs) : Prop := Gd 331 84 [(some (.inr (.inr (some 682)))), (some (.inl x1)), (some (.inl x2)), (some (.inl x3)), (some (.inl x4)), (some (.inl x5)), (some (.inl x6)), (some (.inl x7)), (some (.inl x8)), d9, d10, d11, d12, d13, d14, d15, d16] [] σ 0 0 o
def C331_85 (x1 : Int) (x2 : Int) (x3 : Int) (x4 : Int) (x5 : Int) (x6 : Int) (x7 : Int) (x8 : Int) (d9 : Option AV) (d10 : Option AV) (d11 : Option AV) (d12 : Option AV) (d13 : Option AV) (d14 : Option AV) (d15 : Option AV) (d16 : Option AV) (y0 : Int) (σ : Sg) (o : Rs) : Prop := Gd 331 85 [(some (.inr (.inr (some 682)))), (some (.inl x1)), (some (.inl x2)), (some (.inl x3)), (some (.inl x4)), (some (.inl x5)), (some (.inl x6)), (some (.inl x7)), (some (.inl x8)), d9, d10, d11, d12, d13, d14, d15, d16] [(.inl y0)] σ 0 0 o
def C331_108 (x1 : Int) (x2 : Int) (x3 : Int) (x4 : Int) (x5 : Int) (x6 : Int) (x7 : Int) (x8 : Int) (x9 : Int) (d10 : Option AV) (d11 : Option AV) (d12 : Option AV) (d13 : Option AV) (d14 : Option AV) (d15 : Option AV) (d16 : Option AV) (y0 : Int) (σ : Sg) (o : Rs) : Prop := Gd 331 108 [(some (.inr (.inr (some 682)))), (some (.inl x1)), (some (.inl x2)), (some (.inl x3)), (some (.inl x4)), (some (.inl x5)), (some (.inl x6)), (some (.inl x7)), (some (.inl x8)), (some (.inl x9)), d10, d11, d12, d13, d14, d15, d16] [(.inl y0)] σ 0 0 o
def C331_129 (x1 : Int) (x2 : Int) (x3 : Int) (x4 : Int) (x5 : Int) (x6 : Int) (x7 : Int) (x8 : Int) (x9 : Int) (x10 : Int) (d11 : Option AV) (d12 : Option AV) (d13 : Option AV) (d14 : Option AV) (d15 : Option AV) (d16 : Option AV) (y0 : Int) (σ : Sg) (o : Rs) : Prop := Gd 331 129 [(some (.inr (.inr (some 682)))), (some (.inl x1)), (some (.inl x2)), (some (.inl x3)), (some (.inl x4)), (some (.inl x5)), (some (.inl x6)), (some (.inl x7)), (some (.inl x8)), (some (.inl x9)), (some (.inl x10)), d11, d12, d13, d14, d15, d16] [(.inl y0)] σ 0 0 o
def C331_143 (x1 : Int) (x2 : Int) (x3 : Int) (x4 : Int) (x5 : Int) (x6 : Int) (x7 : Int) (x8 : Int) (x9 : Int) (x10 : Int) (x11 : Int) (d12 : Option AV) (d13 : Option AV) (d14 : Option AV) (d15 : Option AV) (d16 : Option AV) (y0 : Int) (σ : Sg) (o : Rs) : Prop := Gd 331 143 [(some (.inr (.inr (some 682)))), (some (.inl x1)), (some (.inl x2)), (some (.inl x3)), (some (.inl x4)), (some (.inl x5)), (some (.inl x6)), (some (.inl x7)), (some (.inl x8)), (some (.inl x9)), (some (.inl x10)), (some (.inl x11)), d12, d13, d14, d15, d16] [(.inl y0)] σ 0 0 o
def C331_159 (x1 : Int) (x2 : Int) (x3 : Int) (x4 : Int) (x5 : Int) (x6 : Int) (x7 : Int) (x8 : Int) (d9 : Option AV) (x10 : Int) (x11 : Int) (x12 : Int) (d13 : Option AV) (d14 : Option AV) (d15 : Option AV) (d16 : Option AV) (y0 : Int) (σ : Sg) (o : Rs) : Prop := Gd 331 159 [(some (.inr (.inr (some 682)))), (some (.inl x1)), (some (.inl x2)), (some (.inl x3)), (some (.inl x4)), (some (.inl x5)), (some (.inl x6)), (some (.inl x7)), (some (.inl x8)), d9, (some (.inl x10)), (some (.inl x11)), (some (.inl x12)), d13, d14, d15, d16] [(.inl y0)] σ 0 0 o
def C331_164 (x1 : Int) (x2 : Int) (x3 : Int) (x4 : Int) (x5 : Int) (x6 : Int) (x7 : Int) (x8 : Int) (d9 : Option AV) (x10 : Int) (x11 : Int) (x12 : Int) (x13 : Int) (x14 : Int) (d15 : Option AV) (d16 : Option AV) (σ : Sg) (o : Rs) : Prop := Gd 331 164 [(some (.inr (.inr (some 682)))), (some (.inl x1)), (some (.inl x2)), (some (.inl x3)), (some (.inl x4)), (some (.inl x5)), (some (.inl x6)), (some (.inl x7)), (some (.inl x8)), d9, (some (.inl x10)), (some (.inl x11)), (some (.inl x12)), (some (.inl x13)), (some (.inl x14)), d15, d16] [] σ 0 0 o
def C331_280 (x1 : Int) (x2 : Int) (x3 : Int) (x4 : Int) (x5 : Int) (x6 : Int) (d7 : Option AV) (x8 : Int) (d9 : Option AV) (x10 : Int) (x11 : Int) (x12 : Int) (x13 : Int) (d14 : Option AV) (x15 : Int) (d16 : Option AV) (σ : Sg) (o : Rs) : Prop := Gd 331 280 [(some (.inr (.inr (some 682)))), (some (.inl x1)), (some (.inl x2)), (some (.inl x3)), (some (.inl x4)), (some (.inl x5)), (some (.inl x6)), d7, (some (.inl x8)), d9, (some (.inl x10)), (some (.inl x11)), (some (.inl x12)), (some (.inl x13)), d14, (some (.inl x15)), d16] [] σ 0 0 o
def C331_172 (x1 : Int) (x2 : Int) (x3 : Int) (x4 : Int) (x5 : Int) (x6 : Int) (x7 : Int) (x8 : Int) (d9 : Option AV) (x10 : Int) (x11 : Int) (x12 : Int) (x13 : Int) (x14 : Int) (d15 : Option AV) (d16 : Option AV) (σ : Sg) (o : Rs) : Prop := Gd 331 172 [(some (.inr (.inr (some 682)))), (some (.inl x1)), (some (.inl x2)), (some (.inl x3)), (some (.inl x4)), (some (.inl x5)), (some (.inl x6)), (some (.inl x7)), (some (.inl x8)), d9, (some (.inl x10)), (some (.inl x11)), (some (.inl x12)), (some (.inl x13)), (some (.inl x14)), d15, d16] [] σ 0 0 o
def C331_328 (x1 : Int) (x2 : Int) (x3 : Int) (x4 : Int) (x5 : Int) (x6 : Int) (d7 : Option AV) (x8 : Int) (d9 : Option AV) (x10 : Int) (x11 : Int) (x12 : Int) (x13 : Int) (d14 : Option AV) (d15 : Option AV) (d16 : Option AV) (y0 : Int) (σ : Sg) (o : Rs) : Prop := Gd 331 328 [(some (.inr (.inr (some 682)))), (some (.inl x1)), (some (.inl x2)), (some (.inl x3)), (some (.inl x4)), (some (.inl x5)), (some (.inl x6)), d7, (some (.inl x8)), d9, (some (.inl x10)), (some (.inl x11)), (some (.inl x12)), (some (.inl x13)), d14, d15, d16] [(.inl y0)] σ 0 0 o
def C331_213 (x1 : Int) (x2 : Int) (x3 : Int) (x4 : Int) (x5 : Int) (x6 : Int) (x7 : Int) (x8 : Int) (d9 : Option AV) (x10 : Int) (d11 : Option AV) (x12 : Int) (x13 : Int) (d14 : Option AV) (d15 : Option AV) (d16 : Option AV) (y0 : Int) (σ : Sg) (o : Rs) : Prop := Gd 331 213 [(some (.inr (.inr (some 682)))), (some (.inl x1)), (some (.inl x2)), (some (.inl x3)), (some (.inl x4)), (some (.inl x5)), (some (.inl x6)), (some (.inl x7)), (some (.inl x8)), d9, (some (.inl x10)), d11, (some (.inl x12)), (some (.inl x13)), d14, d15, d16] [(.inl y0)] σ 0 0 o
def C331_224 (x1 : Int) (x2 : Int) (x3 : Int) (x4 : Int) (x5 : Int) (x6 : Int) (x7 : Int) (x8 : Int) (d9 : Option AV) (x10 : Int) (x11 : Int) (x12 : Int) (x13 : Int) (x14 : Int) (d15 : Option AV) (d16 : Option AV) (σ : Sg) (o : Rs) : Prop := Gd 331 224 [(some (.inr (.inr (some 682)))), (some (.inl x1)), (some (.inl x2)), (some (.inl x3)), (some (.inl x4)), (some (.inl x5)), (some (.inl x6)), (some (.inl x7)), (some (.inl x8)), d9, (some (.inl x10)), (some (.inl x11)), (some (.inl x12)), (some (.inl x13)), (some (.inl x14)), d15, d16] [] σ 0 0 o
def C331_363 (x1 : Int) (x2 : Int) (x3 : Int) (x4 : Int) (x5 : Int) (x6 : Int) (d7 : Option AV) (x8 : Int) (d9 : Option AV) (x10 : Int) (x11 : Int) (x12 : Int) (x13 : Int) (d14 : Option AV) (x15 : Int) (d16 : Option AV) (σ : Sg) (o : Rs) : Prop := Gd 331 363 [(some (.inr (.inr (some 682)))), (some (.inl x1)), (some (.inl x2)), (some (.inl x3)), (some (.inl x4)), (some (.inl x5)), (some (.inl x6)), d7, (some (.inl x8)), d9, (some (.inl x10)), (some (.inl x11)), (some (.inl x12)), (some (.inl x13)), d14, (some (.inl x15)), d16] [] σ 0 0 o
def C331_364 (x1 : Int) (x2 : Int) (x3 : Int) (x4 : Int) (x5 : Int) (x6 : Int) (d7 : Option AV) (x8 : Int) (d9 : Option AV) (x10 : Int) (x11 : Int) (x12 : Int) (x13 : Int) (d14 : Option AV) (x15 : Int) (d16 : Option AV) (y0 : Int) (σ : Sg) (o : Rs) : Prop := Gd 331 364 [(some (.inr (.inr (some 682)))), (some (.inl x1)), (some (.inl x2)), (some (.inl x3)), (some (.inl x4)), (some (.inl x5)), (some (.inl x6)), d7, (some (.inl x8)), d9, (some (.inl x10)), (some (.inl x11)), (some (.inl x12)), (some (.inl x13)), d14, (some (.inl x15)), d16] [(.inl y0)] σ 0 0 o
def C331_265 (x1 : Int) (x2 : Int) (x3 : Int) (x4 : Int) (x5 : Int) (x6 : Int) (x7 : Int) (x8 : Int) (d9 : Option AV) (x10 : Int) (d11 : Option AV) (x12 : Int) (x13 : Int) (d14 : Option AV) (d15 : Option AV) (d16 : Option AV) (y0 : Int) (σ : Sg) (o : Rs) : Prop := Gd 331 265 [(some (.inr (.inr (some 682)))), (some (.inl x1)), (some (.inl x2)), (some (.inl x3)), (some (.inl x4)), (some (.inl x5)), (some (.inl x6)), (some (.inl x7)), (some (.inl x8)), d9, (some (.inl x10)), d11, (some (.inl x12)), (some (.inl x13)), d14, d15, d16] [(.inl y0)] σ 0 0 o
def C331_470 (x1 : Int) (x2 : Int) (d3 : Option AV) (d4 : Option AV) (x5 : Int) (x6 : Int) (d7 : Option AV) (x8 : Int) (d9 : Option AV) (d10 : Option AV) (x11 : Int) (x12 : Int) (x13 : Int) (d14 : Option AV) (d15 : Option AV) (d16 : Option AV) (σ : Sg) (o : Rs) : Prop := Gd 331 470 [(some (.inr (.inr (some 682)))), (some (.inl x1)), (some (.inl x2)), d3, d4, (some (.inl x5)), (some (.inl x6)), d7, (some (.inl x8)), d9, d10, (some (.inl x11)), (some (.inl x12)), (some (.inl x13)), d14, d15, d16] [] σ 0 0 o
def C331_376 (x1 : Int) (x2 : Int) (x3 : Int) (x4 : Int) (x5 : Int) (x6 : Int) (d7 : Option AV) (x8 : Int) (d9 : Option AV) (x10 : Int) (x11 : Int) (x12 : Int) (x13 : Int) (d14 : Option AV) (d15 : Option AV) (d16 : Option AV) (σ : Sg) (o : Rs) : Prop := Gd 331 376 [(some (.inr (.inr (some 682)))), (some (.inl x1)), (some (.inl x2)), (some (.inl x3)), (some (.inl x4)), (some (.inl x5)), (some (.inl x6)), d7, (some (.inl x8)), d9, (some (.inl x10)), (some (.inl x11)), (some (.inl x12)), (some (.inl x13)), d14, d15, d16] [] σ 0 0 o
def C331_388 (x1 : Int) (x2 : Int) (x3 : Int) (x4 : Int) (x5 : Int) (x6 : Int) (d7 : Option AV) (x8 : Int) (d9 : Option AV) (x10 : Int) (x11 : Int) (x12 : Int) (x13 : Int) (d14 : Option AV) (d15 : Option AV) (d16 : Option AV) (y1 : Int) (σ : Sg) (o : Rs) : Prop := Gd 331 388 [(some (.inr (.inr (some 682)))), (some (.inl x1)), (some (.inl x2)), (some (.inl x3)), (some (.inl x4)), (some (.inl x5)), (some (.inl x6)), d7, (some (.inl x8)), d9, (some (.inl x10)), (some (.inl x11)), (some (.inl x12)), (some (.inl x13)), d14, d15, d16] [(.inl y1), (.inr (.inr (some 682)))] σ 0 0 o
def C331_400 (x1 : Int) (x2 : Int) (x3 : Int) (d4 : Option AV) (x5 : Int) (x6 : Int) (d7 : Option AV) (x8 : Int) (d9 : Option AV) (x10 : Int) (x11 : Int) (x12 : Int) (x13 : Int) (d14 : Option AV) (d15 : Option AV) (d16 : Option AV) (y1 : Int) (y2 : Int) (σ : Sg) (o : Rs) : Prop := Gd 331 400 [(some (.inr (.inr (some 682)))), (some (.inl x1)), (some (.inl x2)), (some (.inl x3)), d4, (some (.inl x5)), (some (.inl x6)), d7, (some (.inl x8)), d9, (some (.inl x10)), (some (.inl x11)), (some (.inl x12)), (some (.inl x13)), d14, d15, d16] [(.inl y2), (.inl y1), (.inr (.inr (some 682)))] σ 0 0 o
def C331_413 (x1 : Int) (x2 : Int) (d3 : Option AV) (d4 : Option AV) (x5 : Int) (x6 : Int) (d7 : Option AV) (x8 : Int) (d9 : Option AV) (x10 : Int) (x11 : Int) (x12 : Int) (x13 : Int) (d14 : Option AV) (d15 : Option AV) (d16 : Option AV) (y1 : Int) (y2 : Int) (y3 : Int) (σ : Sg) (o : Rs) : Prop := Gd 331 413 [(some (.inr (.inr (some 682)))), (some (.inl x1)), (some (.inl x2)), d3, d4, (some (.inl x5)), (some (.inl x6)), d7, (some (.inl x8)), d9, (some (.inl x10)), (some (.inl x11)), (some (.inl x12)), (some (.inl x13)), d14, d15, d16] [(.inl y3), (.inl y2), (.inl y1), (.inr (.inr (some 682)))] σ 0 0 o
theorem b331_38 {x1 : Int} {x2 : Int} {x3 : Int} {x4 : Int} {x5 : Int} {x6 : Int} {x7 : Int} {x8 : Int} {d9 : Option AV} {d10 : Option AV} {d11 : Option AV} {d12 : Option AV} {d13 : Option AV} {d14 : Option AV} {d15 : Option AV} {d16 : Option AV} {σ : Sg} {o : Rs}   (h : (if x5 ≤ x3 then (if x4 < x6 then C331_51 x1 x2 x3 x4 x5 x6 x7 x8 d9 d10 d11 d12 d13 d14 d15 d16 σ o else C331_488 x1 (some (.inl x2)) (some (.inl x3)) (some (.inl x4)) (some (.inl x5)) (some (.inl x6)) (some (.inl x7)) x8 x7 d10 d11 d12 d13 d14 d15 d16 σ o) else C331_51 x1 x2 x3 x4 x5 x6 x7 x8 d9 d10 d11 d12 d13 d14 d15 d16 σ o)) : C331_38 x1 x2 x3 x4 x5 x6 x7 x8 d9 d10 d11 d12 d13 d14 d15 d16 σ o := by
  show Gd 331 38 [(some (.inr (.inr (some 682)))), (some (.inl x1)), (some (.inl x2)), (some (.inl x3)), (some (.inl x4)), (some (.inl x5)), (some (.inl x6)), (some (.inl x7)), (some (.inl x8)), d9, d10, d11, d12, d13, d14, d15, d16] [] σ 0 0 o
  refine g_iload_n 39 (show op 331 38 = some (.iload_n 3, 1) by decide +kernel) rfl rfl ?_
  refine g_iload 41 (show op 331 39 = some (.iload 5, 2) by decide +kernel) rfl rfl ?_
  by_cases hc1 : x5 ≤ x3
  · rw [if_pos hc1] at h
    refine g_icmpF 44 51 (show op 331 41 = some (.if_icmp .lt 10, 3) by decide +kernel) rfl rfl (decide_eq_false (Int.not_lt.mpr hc1)) ?_
    refine g_iload 46 (show op 331 44 = some (.iload 4, 2) by decide +kernel) rfl rfl ?_
    refine g_iload 48 (show op 331 46 = some (.iload 6, 2) by decide +kernel) rfl rfl ?_
    by_cases hc2 : x4 < x6
    · rw [if_pos hc2] at h
      refine g_icmpF 51 484 (show op 331 48 = some (.if_icmp .ge 436, 3) by decide +kernel) rfl rfl (decide_eq_false (Int.not_le.mpr hc2)) ?_
      exact h
    · rw [if_neg hc2] at h
      refine g_icmpT 484 (show op 331 48 = some (.if_icmp .ge 436, 3) by decide +kernel) rfl (decide_eq_true (Int.not_lt.mp hc2)) ?_
      refine g_iload 486 (show op 331 484 = some (.iload 7, 2) by decide +kernel) rfl rfl ?_
      refine g_istore 488 [(some (.inr (.inr (some 682)))), (some (.inl x1)), (some (.inl x2)), (some (.inl x3)), (some (.inl x4)), (some (.inl x5)), (some (.inl x6)), (some (.inl x7)), (some (.inl x8)), (some (.inl x7)), d10, d11, d12, d13, d14, d15, d16] (show op 331 486 = some (.istore 9, 2) by decide +kernel) rfl rfl rfl ?_
      exact h
  · rw [if_neg hc1] at h
    refine g_icmpT 51 (show op 331 41 = some (.if_icmp .lt 10, 3) by decide +kernel) rfl (decide_eq_true (Int.not_le.mp hc1)) ?_
    exact h
theorem b331_51 {x1 : Int} {x2 : Int} {x3 : Int} {x4 : Int} {x5 : Int} {x6 : Int} {x7 : Int} {x8 : Int} {d9 : Option AV} {d10 : Option AV} {d11 : Option AV} {d12 : Option AV} {d13 : Option AV} {d14 : Option AV} {d15 : Option AV} {d16 : Option AV} {σ : Sg} {o : Rs}   (h : (if x4 = x6 then C331_80 x1 x2 x3 x4 x5 x6 x7 x8 d9 d10 d11 d12 d13 d14 d15 d16 σ o else (if x3 < x5 then (0 ≤ x3 ∧ x3 < 256) ∧ (0 ≤ x4 ∧ x4 < 256) ∧ (if (σ 700 (x3).toNat) ≤ (σ 700 (x4).toNat) then C331_80 x1 x2 x3 x4 x5 x6 x7 x8 d9 d10 d11 d12 d13 d14 d15 d16 σ o else C331_84 x1 x2 x3 x4 x5 x6 x7 x8 d9 d10 d11 d12 d13 d14 d15 d16 σ o) else C331_84 x1 x2 x3 x4 x5 x6 x7 x8 d9 d10 d11 d12 d13 d14 d15 d16 σ o))) : C331_51 x1 x2 x3 x4 x5 x6 x7 x8 d9 d10 d11 d12 d13 d14 d15 d16 σ o := by
  show Gd 331 51 [(some (.inr (.inr (some 682)))), (some (.inl x1)), (some (.inl x2)), (some (.inl x3)), (some (.inl x4)), (some (.inl x5)), (some (.inl x6)), (some (.inl x7)), (some (.inl x8)), d9, d10, d11, d12, d13, d14, d15, d16] [] σ 0 0 o
  refine g_iload 53 (show op 331 51 = some (.iload 4, 2) by decide +kernel) rfl rfl ?_
  refine g_iload 55 (show op 331 53 = some (.iload 6, 2) by decide +kernel) rfl rfl ?_
  by_cases hc3 : x4 = x6
  · rw [if_pos hc3] at h
    refine g_icmpT 80 (show op 331 55 = some (.if_icmp .eq 25, 3) by decide +kernel) rfl (decide_eq_true hc3) ?_
    exact h
  · rw [if_neg hc3] at h
    refine g_icmpF 58 80 (show op 331 55 = some (.if_icmp .eq 25, 3) by decide +kernel) rfl rfl (decide_eq_false hc3) ?_
    refine g_iload_n 59 (show op 331 58 = some (.iload_n 3, 1) by decide +kernel) rfl rfl ?_
    refine g_iload 61 (show op 331 59 = some (.iload 5, 2) by decide +kernel) rfl rfl ?_
    by_cases hc4 : x3 < x5
    · rw [if_pos hc4] at h
      refine g_icmpF 64 84 (show op 331 61 = some (.if_icmp .ge 23, 3) by decide +kernel) rfl rfl (decide_eq_false (Int.not_le.mpr hc4)) ?_
      refine g_aload_n 65 (show op 331 64 = some (.aload_n 0, 1) by decide +kernel) rfl rfl ?_
      refine g_getR (ci := 11) (f := 26) (fin := true) (isR := true) 68 700 (show op 331 65 = some (.getfield 61, 3) by decide +kernel) rfl (by decide +kernel) (by decide +kernel) ?_
      refine g_iload_n 69 (show op 331 68 = some (.iload_n 3, 1) by decide +kernel) rfl rfl ?_
      obtain ⟨g1, h⟩ := h
      refine g_iaload 70 256 (show op 331 69 = some (.iaload, 1) by decide +kernel) rfl (by decide +kernel) g1 ?_
      refine g_aload_n 71 (show op 331 70 = some (.aload_n 0, 1) by decide +kernel) rfl rfl ?_
      refine g_getR (ci := 11) (f := 26) (fin := true) (isR := true) 74 700 (show op 331 71 = some (.getfield 61, 3) by decide +kernel) rfl (by decide +kernel) (by decide +kernel) ?_
      refine g_iload 76 (show op 331 74 = some (.iload 4, 2) by decide +kernel) rfl rfl ?_
      obtain ⟨g2, h⟩ := h
      refine g_iaload 77 256 (show op 331 76 = some (.iaload, 1) by decide +kernel) rfl (by decide +kernel) g2 ?_
      by_cases hc5 : (σ 700 (x3).toNat) ≤ (σ 700 (x4).toNat)
      · rw [if_pos hc5] at h
        refine g_icmpF 80 84 (show op 331 77 = some (.if_icmp .gt 7, 3) by decide +kernel) rfl rfl (decide_eq_false (Int.not_lt.mpr hc5)) ?_
        exact h
      · rw [if_neg hc5] at h
        refine g_icmpT 84 (show op 331 77 = some (.if_icmp .gt 7, 3) by decide +kernel) rfl (decide_eq_true (Int.not_le.mp hc5)) ?_
        exact h
    · rw [if_neg hc4] at h
      refine g_icmpT 84 (show op 331 61 = some (.if_icmp .ge 23, 3) by decide +kernel) rfl (decide_eq_true (Int.not_lt.mp hc4)) ?_
      exact h
theorem b331_488 {x1 : Int} {d2 : Option AV} {d3 : Option AV} {d4 : Option AV} {d5 : Option AV} {d6 : Option AV} {d7 : Option AV} {x8 : Int} {x9 : Int} {d10 : Option AV} {d11 : Option AV} {d12 : Option AV} {d13 : Option AV} {d14 : Option AV} {d15 : Option AV} {d16 : Option AV} {σ : Sg} {o : Rs}   (h : (0 ≤ x1 ∧ x1 < 44) ∧ (if x9 < (σ 688 (x1).toNat) then (-2147483648 ≤ (100 * x1) ∧ (100 * x1) ≤ 2147483647) ∧ (-2147483648 ≤ ((100 * x1) + x9) ∧ ((100 * x1) + x9) ≤ 2147483647) ∧ (0 ≤ ((100 * x1) + x9) ∧ ((100 * x1) + x9) < 4400) ∧ (∃ (s5 : Sg), Dd 319 [(.inr (.inr (some 682))), (.inl (σ 685 (((100 * x1) + x9)).toNat))] σ (.inl none, s5) ∧ (-2147483648 ≤ (x9 + 1) ∧ (x9 + 1) ≤ 2147483647) ∧ C331_488 x1 d2 d3 d4 d5 d6 d7 x8 (x9 + 1) d10 d11 d12 d13 d14 d15 d16 s5 o) else o = (.inl (some (.inl x8)), σ))) : C331_488 x1 d2 d3 d4 d5 d6 d7 x8 x9 d10 d11 d12 d13 d14 d15 d16 σ o := by
  show Gd 331 488 [(some (.inr (.inr (some 682)))), (some (.inl x1)), d2, d3, d4, d5, d6, d7, (some (.inl x8)), (some (.inl x9)), d10, d11, d12, d13, d14, d15, d16] [] σ 0 0 o
  refine g_iload 490 (show op 331 488 = some (.iload 9, 2) by decide +kernel) rfl rfl ?_
  refine g_aload_n 491 (show op 331 490 = some (.aload_n 0, 1) by decide +kernel) rfl rfl ?_
  refine g_getR (ci := 11) (f := 7) (fin := true) (isR := true) 494 688 (show op 331 491 = some (.getfield 25, 3) by decide +kernel) rfl (by decide +kernel) (by decide +kernel) ?_
  refine g_iload_n 495 (show op 331 494 = some (.iload_n 1, 1) by decide +kernel) rfl rfl ?_
  obtain ⟨g1, h⟩ := h
  refine g_iaload 496 44 (show op 331 495 = some (.iaload, 1) by decide +kernel) rfl (by decide +kernel) g1 ?_
  by_cases hc8 : x9 < (σ 688 (x1).toNat)
  · rw [if_pos hc8] at h
    refine g_icmpF 499 521 (show op 331 496 = some (.if_icmp .ge 25, 3) by decide +kernel) rfl rfl (decide_eq_false (Int.not_le.mpr hc8)) ?_
    refine g_aload_n 500 (show op 331 499 = some (.aload_n 0, 1) by decide +kernel) rfl rfl ?_
    refine g_aload_n 501 (show op 331 500 = some (.aload_n 0, 1) by decide +kernel) rfl rfl ?_
    refine g_getR (ci := 11) (f := 4) (fin := true) (isR := true) 504 685 (show op 331 501 = some (.getfield 16, 3) by decide +kernel) rfl (by decide +kernel) (by decide +kernel) ?_
    refine g_bipush 506 (show op 331 504 = some (.bipush 100, 2) by decide +kernel) rfl (by decide) ?_
    refine g_iload_n 507 (show op 331 506 = some (.iload_n 1, 1) by decide +kernel) rfl rfl ?_
    obtain ⟨g2, h⟩ := h
    refine g_imul 508 (show op 331 507 = some (.imul, 1) by decide +kernel) rfl g2 ?_
    refine g_iload 510 (show op 331 508 = some (.iload 9, 2) by decide +kernel) rfl rfl ?_
    obtain ⟨g3, h⟩ := h
    refine g_iadd 511 (show op 331 510 = some (.iadd, 1) by decide +kernel) rfl g3 ?_
    obtain ⟨g4, h⟩ := h
    refine g_iaload 512 4400 (show op 331 511 = some (.iaload, 1) by decide +kernel) rfl (by decide +kernel) g4 ?_
    obtain ⟨s5, hD6, h⟩ := h
    refine g_call 515 [] (show op 331 512 = some (.invokevirtual 339, 3) by decide +kernel) (call_vi' (k' := 0) (n' := 0) (nj := 2) (j := 319) (k9 := 21) (t := []) (as := [(.inr (.inr (some 682))), (.inl (σ 685 (((100 * x1) + x9)).toNat))]) (by decide +kernel) rfl (by decide +kernel) rfl rfl rfl rfl rfl rfl (by decide +kernel) (by decide +kernel)) hD6 rfl ?_
    obtain ⟨g7, h⟩ := h
    refine g_iinc 518 [(some (.inr (.inr (some 682)))), (some (.inl x1)), d2, d3, d4, d5, d6, d7, (some (.inl x8)), (some (.inl (x9 + 1))), d10, d11, d12, d13, d14, d15, d16] (show op 331 515 = some (.iinc 9 1, 3) by decide +kernel) rfl rfl g7 rfl ?_
    refine g_goto 488 (show op 331 518 = some (.goto (-30), 3) by decide +kernel) rfl ?_
    exact h
  · rw [if_neg hc8] at h
    refine g_icmpT 521 (show op 331 496 = some (.if_icmp .ge 25, 3) by decide +kernel) rfl (decide_eq_true (Int.not_lt.mp hc8)) ?_
    refine g_iload 523 (show op 331 521 = some (.iload 8, 2) by decide +kernel) rfl rfl ?_
    exact (g_iret (show op 331 523 = some (.ireturn, 1) by decide +kernel) (by decide +kernel) h)
theorem b331_80 {x1 : Int} {x2 : Int} {x3 : Int} {x4 : Int} {x5 : Int} {x6 : Int} {x7 : Int} {x8 : Int} {d9 : Option AV} {d10 : Option AV} {d11 : Option AV} {d12 : Option AV} {d13 : Option AV} {d14 : Option AV} {d15 : Option AV} {d16 : Option AV} {σ : Sg} {o : Rs}   (h : C331_85 x1 x2 x3 x4 x5 x6 x7 x8 d9 d10 d11 d12 d13 d14 d15 d16 1 σ o) : C331_80 x1 x2 x3 x4 x5 x6 x7 x8 d9 d10 d11 d12 d13 d14 d15 d16 σ o := by
  show Gd 331 80 [(some (.inr (.inr (some 682)))), (some (.inl x1)), (some (.inl x2)), (some (.inl x3)), (some (.inl x4)), (some (.inl x5)), (some (.inl x6)), (some (.inl x7)), (some (.inl x8)), d9, d10, d11, d12, d13, d14, d15, d16] [] σ 0 0 o
  refine g_iconst 81 (show op 331 80 = some (.iconst 1, 1) by decide +kernel) rfl rfl ?_
  refine g_goto 85 (show op 331 81 = some (.goto 4, 3) by decide +kernel) rfl ?_
  exact h
theorem b331_84 {x1 : Int} {x2 : Int} {x3 : Int} {x4 : Int} {x5 : Int} {x6 : Int} {x7 : Int} {x8 : Int} {d9 : Option AV} {d10 : Option AV} {d11 : Option AV} {d12 : Option AV} {d13 : Option AV} {d14 : Option AV} {d15 : Option AV} {d16 : Option AV} {σ : Sg} {o : Rs}   (h : C331_85 x1 x2 x3 x4 x5 x6 x7 x8 d9 d10 d11 d12 d13 d14 d15 d16 0 σ o) : C331_84 x1 x2 x3 x4 x5 x6 x7 x8 d9 d10 d11 d12 d13 d14 d15 d16 σ o := by
  show Gd 331 84 [(some (.inr (.inr (some 682)))), (some (.inl x1)), (some (.inl x2)), (some (.inl x3)), (some (.inl x4)), (some (.inl x5)), (some (.inl x6)), (some (.inl x7)), (some (.inl x8)), d9, d10, d11, d12, d13, d14, d15, d16] [] σ 0 0 o
  refine g_iconst 85 (show op 331 84 = some (.iconst 0, 1) by decide +kernel) rfl rfl ?_
  exact h
theorem b331_85 {x1 : Int} {x2 : Int} {x3 : Int} {x4 : Int} {x5 : Int} {x6 : Int} {x7 : Int} {x8 : Int} {d9 : Option AV} {d10 : Option AV} {d11 : Option AV} {d12 : Option AV} {d13 : Option AV} {d14 : Option AV} {d15 : Option AV} {d16 : Option AV} {y0 : Int} {σ : Sg} {o : Rs}   (h : ((y0 = 0) → 0 ≤ x4 ∧ x4 < 256) ∧ (¬ (y0 = 0) → 0 ≤ x3 ∧ x3 < 256) ∧ C331_108 x1 x2 x3 x4 x5 x6 x7 x8 y0 d10 d11 d12 d13 d14 d15 d16 (if y0 = 0 then (σ 700 (x4).toNat) else (σ 700 (x3).toNat)) σ o) : C331_85 x1 x2 x3 x4 x5 x6 x7 x8 d9 d10 d11 d12 d13 d14 d15 d16 y0 σ o := by
  show Gd 331 85 [(some (.inr (.inr (some 682)))), (some (.inl x1)), (some (.inl x2)), (some (.inl x3)), (some (.inl x4)), (some (.inl x5)), (some (.inl x6)), (some (.inl x7)), (some (.inl x8)), d9, d10, d11, d12, d13, d14, d15, d16] [(.inl y0)] σ 0 0 o
  refine g_istore 87 [(some (.inr (.inr (some 682)))), (some (.inl x1)), (some (.inl x2)), (some (.inl x3)), (some (.inl x4)), (some (.inl x5)), (some (.inl x6)), (some (.inl x7)), (some (.inl x8)), (some (.inl y0)), d10, d11, d12, d13, d14, d15, d16] (show op 331 85 = some (.istore 9, 2) by decide +kernel) rfl rfl rfl ?_
  refine g_iload 89 (show op 331 87 = some (.iload 9, 2) by decide +kernel) rfl rfl ?_
  obtain ⟨G4, G5, h⟩ := h
  by_cases hc3 : y0 = 0
  · refine g_ifT 101 (show op 331 89 = some (.ifCond .eq 12, 3) by decide +kernel) rfl (decide_eq_true hc3) ?_
    refine g_aload_n 102 (show op 331 101 = some (.aload_n 0, 1) by decide +kernel) rfl rfl ?_
    refine g_getR (ci := 11) (f := 26) (fin := true) (isR := true) 105 700 (show op 331 102 = some (.getfield 61, 3) by decide +kernel) rfl (by decide +kernel) (by decide +kernel) ?_
    refine g_iload 107 (show op 331 105 = some (.iload 4, 2) by decide +kernel) rfl rfl ?_
    have g1 := G4 hc3
    refine g_iaload 108 256 (show op 331 107 = some (.iaload, 1) by decide +kernel) rfl (by decide +kernel) g1 ?_
    have h9 := h; simp only [if_pos hc3] at h9; exact h9
  · refine g_ifF 92 101 (show op 331 89 = some (.ifCond .eq 12, 3) by decide +kernel) rfl rfl (decide_eq_false hc3) ?_
    refine g_aload_n 93 (show op 331 92 = some (.aload_n 0, 1) by decide +kernel) rfl rfl ?_
    refine g_getR (ci := 11) (f := 26) (fin := true) (isR := true) 96 700 (show op 331 93 = some (.getfield 61, 3) by decide +kernel) rfl (by decide +kernel) (by decide +kernel) ?_
    refine g_iload_n 97 (show op 331 96 = some (.iload_n 3, 1) by decide +kernel) rfl rfl ?_
    have g2 := G5 hc3
    refine g_iaload 98 256 (show op 331 97 = some (.iaload, 1) by decide +kernel) rfl (by decide +kernel) g2 ?_
    refine g_goto 108 (show op 331 98 = some (.goto 10, 3) by decide +kernel) rfl ?_
    have h9 := h; simp only [if_neg hc3] at h9; exact h9
theorem b331_108 {x1 : Int} {x2 : Int} {x3 : Int} {x4 : Int} {x5 : Int} {x6 : Int} {x7 : Int} {x8 : Int} {x9 : Int} {d10 : Option AV} {d11 : Option AV} {d12 : Option AV} {d13 : Option AV} {d14 : Option AV} {d15 : Option AV} {d16 : Option AV} {y0 : Int} {σ : Sg} {o : Rs}   (h : (if x9 = 0 then (∃ (v2 : Int) (s1 : Sg), Dd 281 [(.inr (.inr (some 682))), (.inl x4)] σ (.inl (some (.inl v2)), s1) ∧ C331_129 x1 x2 x3 x4 x5 x6 x7 x8 x9 y0 d11 d12 d13 d14 d15 d16 v2 s1 o) else (∃ (v5 : Int) (s4 : Sg), Dd 281 [(.inr (.inr (some 682))), (.inl x3)] σ (.inl (some (.inl v5)), s4) ∧ C331_129 x1 x2 x3 x4 x5 x6 x7 x8 x9 y0 d11 d12 d13 d14 d15 d16 v5 s4 o))) : C331_108 x1 x2 x3 x4 x5 x6 x7 x8 x9 d10 d11 d12 d13 d14 d15 d16 y0 σ o := by
  show Gd 331 108 [(some (.inr (.inr (some 682)))), (some (.inl x1)), (some (.inl x2)), (some (.inl x3)), (some (.inl x4)), (some (.inl x5)), (some (.inl x6)), (some (.inl x7)), (some (.inl x8)), (some (.inl x9)), d10, d11, d12, d13, d14, d15, d16] [(.inl y0)] σ 0 0 o
  refine g_istore 110 [(some (.inr (.inr (some 682)))), (some (.inl x1)), (some (.inl x2)), (some (.inl x3)), (some (.inl x4)), (some (.inl x5)), (some (.inl x6)), (some (.inl x7)), (some (.inl x8)), (some (.inl x9)), (some (.inl y0)), d11, d12, d13, d14, d15, d16] (show op 331 108 = some (.istore 10, 2) by decide +kernel) rfl rfl rfl ?_
  refine g_iload 112 (show op 331 110 = some (.iload 9, 2) by decide +kernel) rfl rfl ?_
  by_cases hc7 : x9 = 0
  · rw [if_pos hc7] at h
    refine g_ifT 123 (show op 331 112 = some (.ifCond .eq 11, 3) by decide +kernel) rfl (decide_eq_true hc7) ?_
    refine g_aload_n 124 (show op 331 123 = some (.aload_n 0, 1) by decide +kernel) rfl rfl ?_
    refine g_iload 126 (show op 331 124 = some (.iload 4, 2) by decide +kernel) rfl rfl ?_
    obtain ⟨v2, s1, hD3, h⟩ := h
    refine g_call 129 [(.inl v2)] (show op 331 126 = some (.invokevirtual 247, 3) by decide +kernel) (call_vi' (k' := 0) (n' := 0) (nj := 2) (j := 281) (k9 := 21) (t := []) (as := [(.inr (.inr (some 682))), (.inl x4)]) (by decide +kernel) rfl (by decide +kernel) rfl rfl rfl rfl rfl rfl (by decide +kernel) (by decide +kernel)) hD3 rfl ?_
    exact h
  · rw [if_neg hc7] at h
    refine g_ifF 115 123 (show op 331 112 = some (.ifCond .eq 11, 3) by decide +kernel) rfl rfl (decide_eq_false hc7) ?_
    refine g_aload_n 116 (show op 331 115 = some (.aload_n 0, 1) by decide +kernel) rfl rfl ?_
    refine g_iload_n 117 (show op 331 116 = some (.iload_n 3, 1) by decide +kernel) rfl rfl ?_
    obtain ⟨v5, s4, hD6, h⟩ := h
    refine g_call 120 [(.inl v5)] (show op 331 117 = some (.invokevirtual 247, 3) by decide +kernel) (call_vi' (k' := 0) (n' := 0) (nj := 2) (j := 281) (k9 := 21) (t := []) (as := [(.inr (.inr (some 682))), (.inl x3)]) (by decide +kernel) rfl (by decide +kernel) rfl rfl rfl rfl rfl rfl (by decide +kernel) (by decide +kernel)) hD6 rfl ?_
    refine g_goto 129 (show op 331 120 = some (.goto 9, 3) by decide +kernel) rfl ?_
    exact h
theorem b331_129 {x1 : Int} {x2 : Int} {x3 : Int} {x4 : Int} {x5 : Int} {x6 : Int} {x7 : Int} {x8 : Int} {x9 : Int} {x10 : Int} {d11 : Option AV} {d12 : Option AV} {d13 : Option AV} {d14 : Option AV} {d15 : Option AV} {d16 : Option AV} {y0 : Int} {σ : Sg} {o : Rs}   (h : (¬ (x9 = 0) → -2147483648 ≤ (x3 + 1) ∧ (x3 + 1) ≤ 2147483647) ∧ C331_143 x1 x2 x3 x4 x5 x6 x7 x8 x9 x10 y0 d12 d13 d14 d15 d16 (if x9 = 0 then x3 else (x3 + 1)) σ o) : C331_129 x1 x2 x3 x4 x5 x6 x7 x8 x9 x10 d11 d12 d13 d14 d15 d16 y0 σ o := by
  show Gd 331 129 [(some (.inr (.inr (some 682)))), (some (.inl x1)), (some (.inl x2)), (some (.inl x3)), (some (.inl x4)), (some (.inl x5)), (some (.inl x6)), (some (.inl x7)), (some (.inl x8)), (some (.inl x9)), (some (.inl x10)), d11, d12, d13, d14, d15, d16] [(.inl y0)] σ 0 0 o
  refine g_istore 131 [(some (.inr (.inr (some 682)))), (some (.inl x1)), (some (.inl x2)), (some (.inl x3)), (some (.inl x4)), (some (.inl x5)), (some (.inl x6)), (some (.inl x7)), (some (.inl x8)), (some (.inl x9)), (some (.inl x10)), (some (.inl y0)), d12, d13, d14, d15, d16] (show op 331 129 = some (.istore 11, 2) by decide +kernel) rfl rfl rfl ?_
  refine g_iload 133 (show op 331 131 = some (.iload 9, 2) by decide +kernel) rfl rfl ?_
  obtain ⟨G3, h⟩ := h
  by_cases hc2 : x9 = 0
  · refine g_ifT 142 (show op 331 133 = some (.ifCond .eq 9, 3) by decide +kernel) rfl (decide_eq_true hc2) ?_
    refine g_iload_n 143 (show op 331 142 = some (.iload_n 3, 1) by decide +kernel) rfl rfl ?_
    have h9 := h; simp only [if_pos hc2] at h9; exact h9
  · refine g_ifF 136 142 (show op 331 133 = some (.ifCond .eq 9, 3) by decide +kernel) rfl rfl (decide_eq_false hc2) ?_
    refine g_iload_n 137 (show op 331 136 = some (.iload_n 3, 1) by decide +kernel) rfl rfl ?_
    refine g_iconst 138 (show op 331 137 = some (.iconst 1, 1) by decide +kernel) rfl rfl ?_
    have g1 := G3 hc2
    refine g_iadd 139 (show op 331 138 = some (.iadd, 1) by decide +kernel) rfl g1 ?_
    refine g_goto 143 (show op 331 139 = some (.goto 4, 3) by decide +kernel) rfl ?_
    have h9 := h; simp only [if_neg hc2] at h9; exact h9
theorem b331_143 {x1 : Int} {x2 : Int} {x3 : Int} {x4 : Int} {x5 : Int} {x6 : Int} {x7 : Int} {x8 : Int} {x9 : Int} {x10 : Int} {x11 : Int} {d12 : Option AV} {d13 : Option AV} {d14 : Option AV} {d15 : Option AV} {d16 : Option AV} {y0 : Int} {σ : Sg} {o : Rs}   (h : ((x9 = 0) → -2147483648 ≤ (x4 + 1) ∧ (x4 + 1) ≤ 2147483647) ∧ C331_159 x1 x2 x3 x4 x5 x6 x7 x8 (some (.inl x9)) x10 x11 y0 d13 d14 d15 d16 (if x9 = 0 then (x4 + 1) else x4) σ o) : C331_143 x1 x2 x3 x4 x5 x6 x7 x8 x9 x10 x11 d12 d13 d14 d15 d16 y0 σ o := by
  show Gd 331 143 [(some (.inr (.inr (some 682)))), (some (.inl x1)), (some (.inl x2)), (some (.inl x3)), (some (.inl x4)), (some (.inl x5)), (some (.inl x6)), (some (.inl x7)), (some (.inl x8)), (some (.inl x9)), (some (.inl x10)), (some (.inl x11)), d12, d13, d14, d15, d16] [(.inl y0)] σ 0 0 o
  refine g_istore 145 [(some (.inr (.inr (some 682)))), (some (.inl x1)), (some (.inl x2)), (some (.inl x3)), (some (.inl x4)), (some (.inl x5)), (some (.inl x6)), (some (.inl x7)), (some (.inl x8)), (some (.inl x9)), (some (.inl x10)), (some (.inl x11)), (some (.inl y0)), d13, d14, d15, d16] (show op 331 143 = some (.istore 12, 2) by decide +kernel) rfl rfl rfl ?_
  refine g_iload 147 (show op 331 145 = some (.iload 9, 2) by decide +kernel) rfl rfl ?_
  obtain ⟨G3, h⟩ := h
  by_cases hc2 : x9 = 0
  · refine g_ifT 155 (show op 331 147 = some (.ifCond .eq 8, 3) by decide +kernel) rfl (decide_eq_true hc2) ?_
    refine g_iload 157 (show op 331 155 = some (.iload 4, 2) by decide +kernel) rfl rfl ?_
    refine g_iconst 158 (show op 331 157 = some (.iconst 1, 1) by decide +kernel) rfl rfl ?_
    have g1 := G3 hc2
    refine g_iadd 159 (show op 331 158 = some (.iadd, 1) by decide +kernel) rfl g1 ?_
    have h9 := h; simp only [if_pos hc2] at h9; exact h9
  · refine g_ifF 150 155 (show op 331 147 = some (.ifCond .eq 8, 3) by decide +kernel) rfl rfl (decide_eq_false hc2) ?_
    refine g_iload 152 (show op 331 150 = some (.iload 4, 2) by decide +kernel) rfl rfl ?_
    refine g_goto 159 (show op 331 152 = some (.goto 7, 3) by decide +kernel) rfl ?_
    have h9 := h; simp only [if_neg hc2] at h9; exact h9
theorem b331_159 {x1 : Int} {x2 : Int} {x3 : Int} {x4 : Int} {x5 : Int} {x6 : Int} {x7 : Int} {x8 : Int} {d9 : Option AV} {x10 : Int} {x11 : Int} {x12 : Int} {d13 : Option AV} {d14 : Option AV} {d15 : Option AV} {d16 : Option AV} {y0 : Int} {σ : Sg} {o : Rs}   (h : C331_164 x1 x2 x3 x4 x5 x6 x7 x8 d9 x10 x11 x12 y0 1 d15 d16 σ o) : C331_159 x1 x2 x3 x4 x5 x6 x7 x8 d9 x10 x11 x12 d13 d14 d15 d16 y0 σ o := by
  show Gd 331 159 [(some (.inr (.inr (some 682)))), (some (.inl x1)), (some (.inl x2)), (some (.inl x3)), (some (.inl x4)), (some (.inl x5)), (some (.inl x6)), (some (.inl x7)), (some (.inl x8)), d9, (some (.inl x10)), (some (.inl x11)), (some (.inl x12)), d13, d14, d15, d16] [(.inl y0)] σ 0 0 o
  refine g_istore 161 [(some (.inr (.inr (some 682)))), (some (.inl x1)), (some (.inl x2)), (some (.inl x3)), (some (.inl x4)), (some (.inl x5)), (some (.inl x6)), (some (.inl x7)), (some (.inl x8)), d9, (some (.inl x10)), (some (.inl x11)), (some (.inl x12)), (some (.inl y0)), d14, d15, d16] (show op 331 159 = some (.istore 13, 2) by decide +kernel) rfl rfl rfl ?_
  refine g_iconst 162 (show op 331 161 = some (.iconst 1, 1) by decide +kernel) rfl rfl ?_
  refine g_istore 164 [(some (.inr (.inr (some 682)))), (some (.inl x1)), (some (.inl x2)), (some (.inl x3)), (some (.inl x4)), (some (.inl x5)), (some (.inl x6)), (some (.inl x7)), (some (.inl x8)), d9, (some (.inl x10)), (some (.inl x11)), (some (.inl x12)), (some (.inl y0)), (some (.inl 1)), d15, d16] (show op 331 162 = some (.istore 14, 2) by decide +kernel) rfl rfl rfl ?_
  exact h
theorem b331_164 {x1 : Int} {x2 : Int} {x3 : Int} {x4 : Int} {x5 : Int} {x6 : Int} {x7 : Int} {x8 : Int} {d9 : Option AV} {x10 : Int} {x11 : Int} {x12 : Int} {x13 : Int} {x14 : Int} {d15 : Option AV} {d16 : Option AV} {σ : Sg} {o : Rs}   (h : (if x14 = 0 then C331_280 x1 x2 x3 x4 x5 x6 (some (.inl x7)) x8 d9 x10 x11 x12 x13 (some (.inl x14)) x7 d16 σ o else C331_172 x1 x2 x3 x4 x5 x6 x7 x8 d9 x10 x11 x12 x13 0 d15 d16 σ o)) : C331_164 x1 x2 x3 x4 x5 x6 x7 x8 d9 x10 x11 x12 x13 x14 d15 d16 σ o := by
  show Gd 331 164 [(some (.inr (.inr (some 682)))), (some (.inl x1)), (some (.inl x2)), (some (.inl x3)), (some (.inl x4)), (some (.inl x5)), (some (.inl x6)), (some (.inl x7)), (some (.inl x8)), d9, (some (.inl x10)), (some (.inl x11)), (some (.inl x12)), (some (.inl x13)), (some (.inl x14)), d15, d16] [] σ 0 0 o
  refine g_iload 166 (show op 331 164 = some (.iload 14, 2) by decide +kernel) rfl rfl ?_
  by_cases hc1 : x14 = 0
  · rw [if_pos hc1] at h
    refine g_ifT 276 (show op 331 166 = some (.ifCond .eq 110, 3) by decide +kernel) rfl (decide_eq_true hc1) ?_
    refine g_iload 278 (show op 331 276 = some (.iload 7, 2) by decide +kernel) rfl rfl ?_
    refine g_istore 280 [(some (.inr (.inr (some 682)))), (some (.inl x1)), (some (.inl x2)), (some (.inl x3)), (some (.inl x4)), (some (.inl x5)), (some (.inl x6)), (some (.inl x7)), (some (.inl x8)), d9, (some (.inl x10)), (some (.inl x11)), (some (.inl x12)), (some (.inl x13)), (some (.inl x14)), (some (.inl x7)), d16] (show op 331 278 = some (.istore 15, 2) by decide +kernel) rfl rfl rfl ?_
    exact h
  · rw [if_neg hc1] at h
    refine g_ifF 169 276 (show op 331 166 = some (.ifCond .eq 110, 3) by decide +kernel) rfl rfl (decide_eq_false hc1) ?_
    refine g_iconst 170 (show op 331 169 = some (.iconst 0, 1) by decide +kernel) rfl rfl ?_
    refine g_istore 172 [(some (.inr (.inr (some 682)))), (some (.inl x1)), (some (.inl x2)), (some (.inl x3)), (some (.inl x4)), (some (.inl x5)), (some (.inl x6)), (some (.inl x7)), (some (.inl x8)), d9, (some (.inl x10)), (some (.inl x11)), (some (.inl x12)), (some (.inl x13)), (some (.inl 0)), d15, d16] (show op 331 170 = some (.istore 14, 2) by decide +kernel) rfl rfl rfl ?_
    exact h
theorem b331_280 {x1 : Int} {x2 : Int} {x3 : Int} {x4 : Int} {x5 : Int} {x6 : Int} {d7 : Option AV} {x8 : Int} {d9 : Option AV} {x10 : Int} {x11 : Int} {x12 : Int} {x13 : Int} {d14 : Option AV} {x15 : Int} {d16 : Option AV} {σ : Sg} {o : Rs}   (h : (if x15 < x10 then (-2147483648 ≤ (100 * x1) ∧ (100 * x1) ≤ 2147483647) ∧ (-2147483648 ≤ ((100 * x1) + x15) ∧ ((100 * x1) + x15) ≤ 2147483647) ∧ (0 ≤ ((100 * x1) + x15) ∧ ((100 * x1) + x15) < 4400) ∧ (∃ (s4 : Sg), Dd 319 [(.inr (.inr (some 682))), (.inl (σ 685 (((100 * x1) + x15)).toNat))] σ (.inl none, s4) ∧ (-2147483648 ≤ (x15 + 1) ∧ (x15 + 1) ≤ 2147483647) ∧ C331_280 x1 x2 x3 x4 x5 x6 d7 x8 d9 x10 x11 x12 x13 d14 (x15 + 1) d16 s4 o) else (-2147483648 ≤ (x12 - x3) ∧ (x12 - x3) ≤ 2147483647) ∧ (-2147483648 ≤ ((x12 - x3) + x13) ∧ ((x12 - x3) + x13) ≤ 2147483647) ∧ (-2147483648 ≤ (((x12 - x3) + x13) - x4) ∧ (((x12 - x3) + x13) - x4) ≤ 2147483647) ∧ C331_328 x1 x2 x3 x4 x5 x6 d7 x8 d9 x10 x11 x12 x13 d14 (some (.inl x15)) d16 (if (((x12 - x3) + x13) - x4) = 1 then 1 else 0) σ o)) : C331_280 x1 x2 x3 x4 x5 x6 d7 x8 d9 x10 x11 x12 x13 d14 x15 d16 σ o := by
  show Gd 331 280 [(some (.inr (.inr (some 682)))), (some (.inl x1)), (some (.inl x2)), (some (.inl x3)), (some (.inl x4)), (some (.inl x5)), (some (.inl x6)), d7, (some (.inl x8)), d9, (some (.inl x10)), (some (.inl x11)), (some (.inl x12)), (some (.inl x13)), d14, (some (.inl x15)), d16] [] σ 0 0 o
  refine g_iload 282 (show op 331 280 = some (.iload 15, 2) by decide +kernel) rfl rfl ?_
  refine g_iload 284 (show op 331 282 = some (.iload 10, 2) by decide +kernel) rfl rfl ?_
  by_cases hc10 : x15 < x10
  · rw [if_pos hc10] at h
    refine g_icmpF 287 309 (show op 331 284 = some (.if_icmp .ge 25, 3) by decide +kernel) rfl rfl (decide_eq_false (Int.not_le.mpr hc10)) ?_
    refine g_aload_n 288 (show op 331 287 = some (.aload_n 0, 1) by decide +kernel) rfl rfl ?_
    refine g_aload_n 289 (show op 331 288 = some (.aload_n 0, 1) by decide +kernel) rfl rfl ?_
    refine g_getR (ci := 11) (f := 4) (fin := true) (isR := true) 292 685 (show op 331 289 = some (.getfield 16, 3) by decide +kernel) rfl (by decide +kernel) (by decide +kernel) ?_
    refine g_bipush 294 (show op 331 292 = some (.bipush 100, 2) by decide +kernel) rfl (by decide) ?_
    refine g_iload_n 295 (show op 331 294 = some (.iload_n 1, 1) by decide +kernel) rfl rfl ?_
    obtain ⟨g1, h⟩ := h
    refine g_imul 296 (show op 331 295 = some (.imul, 1) by decide +kernel) rfl g1 ?_
    refine g_iload 298 (show op 331 296 = some (.iload 15, 2) by decide +kernel) rfl rfl ?_
    obtain ⟨g2, h⟩ := h
    refine g_iadd 299 (show op 331 298 = some (.iadd, 1) by decide +kernel) rfl g2 ?_
    obtain ⟨g3, h⟩ := h
    refine g_iaload 300 4400 (show op 331 299 = some (.iaload, 1) by decide +kernel) rfl (by decide +kernel) g3 ?_
    obtain ⟨s4, hD5, h⟩ := h
    refine g_call 303 [] (show op 331 300 = some (.invokevirtual 339, 3) by decide +kernel) (call_vi' (k' := 0) (n' := 0) (nj := 2) (j := 319) (k9 := 21) (t := []) (as := [(.inr (.inr (some 682))), (.inl (σ 685 (((100 * x1) + x15)).toNat))]) (by decide +kernel) rfl (by decide +kernel) rfl rfl rfl rfl rfl rfl (by decide +kernel) (by decide +kernel)) hD5 rfl ?_
    obtain ⟨g6, h⟩ := h
    refine g_iinc 306 [(some (.inr (.inr (some 682)))), (some (.inl x1)), (some (.inl x2)), (some (.inl x3)), (some (.inl x4)), (some (.inl x5)), (some (.inl x6)), d7, (some (.inl x8)), d9, (some (.inl x10)), (some (.inl x11)), (some (.inl x12)), (some (.inl x13)), d14, (some (.inl (x15 + 1))), d16] (show op 331 303 = some (.iinc 15 1, 3) by decide +kernel) rfl rfl g6 rfl ?_
    refine g_goto 280 (show op 331 306 = some (.goto (-26), 3) by decide +kernel) rfl ?_
    exact h
  · rw [if_neg hc10] at h
    refine g_icmpT 309 (show op 331 284 = some (.if_icmp .ge 25, 3) by decide +kernel) rfl (decide_eq_true (Int.not_lt.mp hc10)) ?_
    refine g_iload 311 (show op 331 309 = some (.iload 12, 2) by decide +kernel) rfl rfl ?_
    refine g_iload_n 312 (show op 331 311 = some (.iload_n 3, 1) by decide +kernel) rfl rfl ?_
    obtain ⟨g7, h⟩ := h
    refine g_isub 313 (show op 331 312 = some (.isub, 1) by decide +kernel) rfl g7 ?_
    refine g_iload 315 (show op 331 313 = some (.iload 13, 2) by decide +kernel) rfl rfl ?_
    obtain ⟨g8, h⟩ := h
    refine g_iadd 316 (show op 331 315 = some (.iadd, 1) by decide +kernel) rfl g8 ?_
    refine g_iload 318 (show op 331 316 = some (.iload 4, 2) by decide +kernel) rfl rfl ?_
    obtain ⟨g9, h⟩ := h
    refine g_isub 319 (show op 331 318 = some (.isub, 1) by decide +kernel) rfl g9 ?_
    refine g_iconst 320 (show op 331 319 = some (.iconst 1, 1) by decide +kernel) rfl rfl ?_
    by_cases hc11 : (((x12 - x3) + x13) - x4) = 1
    · refine g_icmpF 323 327 (show op 331 320 = some (.if_icmp .ne 7, 3) by decide +kernel) rfl rfl (decide_eq_false (fun h9 => h9 hc11)) ?_
      refine g_iconst 324 (show op 331 323 = some (.iconst 1, 1) by decide +kernel) rfl rfl ?_
      refine g_goto 328 (show op 331 324 = some (.goto 4, 3) by decide +kernel) rfl ?_
      have h9 := h; simp only [if_pos hc11] at h9; exact h9
    · refine g_icmpT 327 (show op 331 320 = some (.if_icmp .ne 7, 3) by decide +kernel) rfl (decide_eq_true hc11) ?_
      refine g_iconst 328 (show op 331 327 = some (.iconst 0, 1) by decide +kernel) rfl rfl ?_
      have h9 := h; simp only [if_neg hc11] at h9; exact h9
theorem b331_172 {x1 : Int} {x2 : Int} {x3 : Int} {x4 : Int} {x5 : Int} {x6 : Int} {x7 : Int} {x8 : Int} {d9 : Option AV} {x10 : Int} {x11 : Int} {x12 : Int} {x13 : Int} {x14 : Int} {d15 : Option AV} {d16 : Option AV} {σ : Sg} {o : Rs}   (h : (if x12 < x5 then (0 ≤ x12 ∧ x12 < 256) ∧ (if (σ 700 (x12).toNat) ≤ x11 then (∃ (v3 : Int) (s2 : Sg), Dd 281 [(.inr (.inr (some 682))), (.inl x12)] σ (.inl (some (.inl v3)), s2) ∧ (if x11 < v3 then (∃ (v6 : Int) (s5 : Sg), Dd 281 [(.inr (.inr (some 682))), (.inl x12)] s2 (.inl (some (.inl v6)), s5) ∧ C331_213 x1 x2 x3 x4 x5 x6 x7 x8 d9 x10 (some (.inl x11)) x12 x13 (some (.inl x14)) d15 d16 v6 s5 o) else C331_213 x1 x2 x3 x4 x5 x6 x7 x8 d9 x10 (some (.inl x11)) x12 x13 (some (.inl x14)) d15 d16 x11 s2 o)) else C331_224 x1 x2 x3 x4 x5 x6 x7 x8 d9 x10 x11 x12 x13 x14 d15 d16 σ o) else C331_224 x1 x2 x3 x4 x5 x6 x7 x8 d9 x10 x11 x12 x13 x14 d15 d16 σ o)) : C331_172 x1 x2 x3 x4 x5 x6 x7 x8 d9 x10 x11 x12 x13 x14 d15 d16 σ o := by
  show Gd 331 172 [(some (.inr (.inr (some 682)))), (some (.inl x1)), (some (.inl x2)), (some (.inl x3)), (some (.inl x4)), (some (.inl x5)), (some (.inl x6)), (some (.inl x7)), (some (.inl x8)), d9, (some (.inl x10)), (some (.inl x11)), (some (.inl x12)), (some (.inl x13)), (some (.inl x14)), d15, d16] [] σ 0 0 o
  refine g_iload 174 (show op 331 172 = some (.iload 12, 2) by decide +kernel) rfl rfl ?_
  refine g_iload 176 (show op 331 174 = some (.iload 5, 2) by decide +kernel) rfl rfl ?_
  by_cases hc8 : x12 < x5
  · rw [if_pos hc8] at h
    refine g_icmpF 179 224 (show op 331 176 = some (.if_icmp .ge 48, 3) by decide +kernel) rfl rfl (decide_eq_false (Int.not_le.mpr hc8)) ?_
    refine g_aload_n 180 (show op 331 179 = some (.aload_n 0, 1) by decide +kernel) rfl rfl ?_
    refine g_getR (ci := 11) (f := 26) (fin := true) (isR := true) 183 700 (show op 331 180 = some (.getfield 61, 3) by decide +kernel) rfl (by decide +kernel) (by decide +kernel) ?_
    refine g_iload 185 (show op 331 183 = some (.iload 12, 2) by decide +kernel) rfl rfl ?_
    obtain ⟨g1, h⟩ := h
    refine g_iaload 186 256 (show op 331 185 = some (.iaload, 1) by decide +kernel) rfl (by decide +kernel) g1 ?_
    refine g_iload 188 (show op 331 186 = some (.iload 11, 2) by decide +kernel) rfl rfl ?_
    by_cases hc9 : (σ 700 (x12).toNat) ≤ x11
    · rw [if_pos hc9] at h
      refine g_icmpF 191 224 (show op 331 188 = some (.if_icmp .gt 36, 3) by decide +kernel) rfl rfl (decide_eq_false (Int.not_lt.mpr hc9)) ?_
      refine g_aload_n 192 (show op 331 191 = some (.aload_n 0, 1) by decide +kernel) rfl rfl ?_
      refine g_iload 194 (show op 331 192 = some (.iload 12, 2) by decide +kernel) rfl rfl ?_
      obtain ⟨v3, s2, hD4, h⟩ := h
      refine g_call 197 [(.inl v3)] (show op 331 194 = some (.invokevirtual 247, 3) by decide +kernel) (call_vi' (k' := 0) (n' := 0) (nj := 2) (j := 281) (k9 := 21) (t := []) (as := [(.inr (.inr (some 682))), (.inl x12)]) (by decide +kernel) rfl (by decide +kernel) rfl rfl rfl rfl rfl rfl (by decide +kernel) (by decide +kernel)) hD4 rfl ?_
      refine g_iload 199 (show op 331 197 = some (.iload 11, 2) by decide +kernel) rfl rfl ?_
      by_cases hc10 : x11 < v3
      · rw [if_pos hc10] at h
        refine g_icmpF 202 211 (show op 331 199 = some (.if_icmp .le 12, 3) by decide +kernel) rfl rfl (decide_eq_false (Int.not_le.mpr hc10)) ?_
        refine g_aload_n 203 (show op 331 202 = some (.aload_n 0, 1) by decide +kernel) rfl rfl ?_
        refine g_iload 205 (show op 331 203 = some (.iload 12, 2) by decide +kernel) rfl rfl ?_
        obtain ⟨v6, s5, hD7, h⟩ := h
        refine g_call 208 [(.inl v6)] (show op 331 205 = some (.invokevirtual 247, 3) by decide +kernel) (call_vi' (k' := 0) (n' := 0) (nj := 2) (j := 281) (k9 := 21) (t := []) (as := [(.inr (.inr (some 682))), (.inl x12)]) (by decide +kernel) rfl (by decide +kernel) rfl rfl rfl rfl rfl rfl (by decide +kernel) (by decide +kernel)) hD7 rfl ?_
        refine g_goto 213 (show op 331 208 = some (.goto 5, 3) by decide +kernel) rfl ?_
        exact h
      · rw [if_neg hc10] at h
        refine g_icmpT 211 (show op 331 199 = some (.if_icmp .le 12, 3) by decide +kernel) rfl (decide_eq_true (Int.not_lt.mp hc10)) ?_
        refine g_iload 213 (show op 331 211 = some (.iload 11, 2) by decide +kernel) rfl rfl ?_
        exact h
    · rw [if_neg hc9] at h
      refine g_icmpT 224 (show op 331 188 = some (.if_icmp .gt 36, 3) by decide +kernel) rfl (decide_eq_true (Int.not_le.mp hc9)) ?_
      exact h
  · rw [if_neg hc8] at h
    refine g_icmpT 224 (show op 331 176 = some (.if_icmp .ge 48, 3) by decide +kernel) rfl (decide_eq_true (Int.not_lt.mp hc8)) ?_
    exact h
theorem b331_328 {x1 : Int} {x2 : Int} {x3 : Int} {x4 : Int} {x5 : Int} {x6 : Int} {d7 : Option AV} {x8 : Int} {d9 : Option AV} {x10 : Int} {x11 : Int} {x12 : Int} {x13 : Int} {d14 : Option AV} {d15 : Option AV} {d16 : Option AV} {y0 : Int} {σ : Sg} {o : Rs}   (h : (-2147483648 ≤ (x12 - x3) ∧ (x12 - x3) ≤ 2147483647) ∧ (if (x12 - x3) = 1 then (-2147483648 ≤ (x13 - x4) ∧ (x13 - x4) ≤ 2147483647) ∧ (if (x13 - x4) = 1 then (∃ (v4 : Int) (s3 : Sg), Dd 330 [(.inr (.inr (some 682))), (.inl x1), (.inl x3), (.inl x2), (.inl x4)] σ (.inl (some (.inl v4)), s3) ∧ (if v4 = 0 then C331_363 x1 x2 x3 x4 x5 x6 d7 x8 d9 x10 x11 x12 x13 d14 y0 d16 s3 o else C331_364 x1 x2 x3 x4 x5 x6 d7 x8 d9 x10 x11 x12 x13 d14 y0 d16 1 s3 o)) else C331_363 x1 x2 x3 x4 x5 x6 d7 x8 d9 x10 x11 x12 x13 d14 y0 d16 σ o) else C331_363 x1 x2 x3 x4 x5 x6 d7 x8 d9 x10 x11 x12 x13 d14 y0 d16 σ o)) : C331_328 x1 x2 x3 x4 x5 x6 d7 x8 d9 x10 x11 x12 x13 d14 d15 d16 y0 σ o := by
  show Gd 331 328 [(some (.inr (.inr (some 682)))), (some (.inl x1)), (some (.inl x2)), (some (.inl x3)), (some (.inl x4)), (some (.inl x5)), (some (.inl x6)), d7, (some (.inl x8)), d9, (some (.inl x10)), (some (.inl x11)), (some (.inl x12)), (some (.inl x13)), d14, d15, d16] [(.inl y0)] σ 0 0 o
  refine g_istore 330 [(some (.inr (.inr (some 682)))), (some (.inl x1)), (some (.inl x2)), (some (.inl x3)), (some (.inl x4)), (some (.inl x5)), (some (.inl x6)), d7, (some (.inl x8)), d9, (some (.inl x10)), (some (.inl x11)), (some (.inl x12)), (some (.inl x13)), d14, (some (.inl y0)), d16] (show op 331 328 = some (.istore 15, 2) by decide +kernel) rfl rfl rfl ?_
  refine g_iload 332 (show op 331 330 = some (.iload 12, 2) by decide +kernel) rfl rfl ?_
  refine g_iload_n 333 (show op 331 332 = some (.iload_n 3, 1) by decide +kernel) rfl rfl ?_
  obtain ⟨g1, h⟩ := h
  refine g_isub 334 (show op 331 333 = some (.isub, 1) by decide +kernel) rfl g1 ?_
  refine g_iconst 335 (show op 331 334 = some (.iconst 1, 1) by decide +kernel) rfl rfl ?_
  by_cases hc6 : (x12 - x3) = 1
  · rw [if_pos hc6] at h
    refine g_icmpF 338 363 (show op 331 335 = some (.if_icmp .ne 28, 3) by decide +kernel) rfl rfl (decide_eq_false (fun h9 => h9 hc6)) ?_
    refine g_iload 340 (show op 331 338 = some (.iload 13, 2) by decide +kernel) rfl rfl ?_
    refine g_iload 342 (show op 331 340 = some (.iload 4, 2) by decide +kernel) rfl rfl ?_
    obtain ⟨g2, h⟩ := h
    refine g_isub 343 (show op 331 342 = some (.isub, 1) by decide +kernel) rfl g2 ?_
    refine g_iconst 344 (show op 331 343 = some (.iconst 1, 1) by decide +kernel) rfl rfl ?_
    by_cases hc7 : (x13 - x4) = 1
    · rw [if_pos hc7] at h
      refine g_icmpF 347 363 (show op 331 344 = some (.if_icmp .ne 19, 3) by decide +kernel) rfl rfl (decide_eq_false (fun h9 => h9 hc7)) ?_
      refine g_aload_n 348 (show op 331 347 = some (.aload_n 0, 1) by decide +kernel) rfl rfl ?_
      refine g_iload_n 349 (show op 331 348 = some (.iload_n 1, 1) by decide +kernel) rfl rfl ?_
      refine g_iload_n 350 (show op 331 349 = some (.iload_n 3, 1) by decide +kernel) rfl rfl ?_
      refine g_iload_n 351 (show op 331 350 = some (.iload_n 2, 1) by decide +kernel) rfl rfl ?_
      refine g_iload 353 (show op 331 351 = some (.iload 4, 2) by decide +kernel) rfl rfl ?_
      obtain ⟨v4, s3, hD5, h⟩ := h
      refine g_call 356 [(.inl v4)] (show op 331 353 = some (.invokevirtual 371, 3) by decide +kernel) (call_vi' (k' := 0) (n' := 0) (nj := 5) (j := 330) (k9 := 21) (t := []) (as := [(.inr (.inr (some 682))), (.inl x1), (.inl x3), (.inl x2), (.inl x4)]) (by decide +kernel) rfl (by decide +kernel) rfl rfl rfl rfl rfl rfl (by decide +kernel) (by decide +kernel)) hD5 rfl ?_
      by_cases hc8 : v4 = 0
      · rw [if_pos hc8] at h
        refine g_ifT 363 (show op 331 356 = some (.ifCond .eq 7, 3) by decide +kernel) rfl (decide_eq_true hc8) ?_
        exact h
      · rw [if_neg hc8] at h
        refine g_ifF 359 363 (show op 331 356 = some (.ifCond .eq 7, 3) by decide +kernel) rfl rfl (decide_eq_false hc8) ?_
        refine g_iconst 360 (show op 331 359 = some (.iconst 1, 1) by decide +kernel) rfl rfl ?_
        refine g_goto 364 (show op 331 360 = some (.goto 4, 3) by decide +kernel) rfl ?_
        exact h
    · rw [if_neg hc7] at h
      refine g_icmpT 363 (show op 331 344 = some (.if_icmp .ne 19, 3) by decide +kernel) rfl (decide_eq_true hc7) ?_
      exact h
  · rw [if_neg hc6] at h
    refine g_icmpT 363 (show op 331 335 = some (.if_icmp .ne 28, 3) by decide +kernel) rfl (decide_eq_true hc6) ?_
    exact h
theorem b331_213 {x1 : Int} {x2 : Int} {x3 : Int} {x4 : Int} {x5 : Int} {x6 : Int} {x7 : Int} {x8 : Int} {d9 : Option AV} {x10 : Int} {d11 : Option AV} {x12 : Int} {x13 : Int} {d14 : Option AV} {d15 : Option AV} {d16 : Option AV} {y0 : Int} {σ : Sg} {o : Rs}   (h : (-2147483648 ≤ (x12 + 1) ∧ (x12 + 1) ≤ 2147483647) ∧ C331_172 x1 x2 x3 x4 x5 x6 x7 x8 d9 x10 y0 (x12 + 1) x13 1 d15 d16 σ o) : C331_213 x1 x2 x3 x4 x5 x6 x7 x8 d9 x10 d11 x12 x13 d14 d15 d16 y0 σ o := by
  show Gd 331 213 [(some (.inr (.inr (some 682)))), (some (.inl x1)), (some (.inl x2)), (some (.inl x3)), (some (.inl x4)), (some (.inl x5)), (some (.inl x6)), (some (.inl x7)), (some (.inl x8)), d9, (some (.inl x10)), d11, (some (.inl x12)), (some (.inl x13)), d14, d15, d16] [(.inl y0)] σ 0 0 o
  refine g_istore 215 [(some (.inr (.inr (some 682)))), (some (.inl x1)), (some (.inl x2)), (some (.inl x3)), (some (.inl x4)), (some (.inl x5)), (some (.inl x6)), (some (.inl x7)), (some (.inl x8)), d9, (some (.inl x10)), (some (.inl y0)), (some (.inl x12)), (some (.inl x13)), d14, d15, d16] (show op 331 213 = some (.istore 11, 2) by decide +kernel) rfl rfl rfl ?_
  obtain ⟨g1, h⟩ := h
  refine g_iinc 218 [(some (.inr (.inr (some 682)))), (some (.inl x1)), (some (.inl x2)), (some (.inl x3)), (some (.inl x4)), (some (.inl x5)), (some (.inl x6)), (some (.inl x7)), (some (.inl x8)), d9, (some (.inl x10)), (some (.inl y0)), (some (.inl (x12 + 1))), (some (.inl x13)), d14, d15, d16] (show op 331 215 = some (.iinc 12 1, 3) by decide +kernel) rfl rfl g1 rfl ?_
  refine g_iconst 219 (show op 331 218 = some (.iconst 1, 1) by decide +kernel) rfl rfl ?_
  refine g_istore 221 [(some (.inr (.inr (some 682)))), (some (.inl x1)), (some (.inl x2)), (some (.inl x3)), (some (.inl x4)), (some (.inl x5)), (some (.inl x6)), (some (.inl x7)), (some (.inl x8)), d9, (some (.inl x10)), (some (.inl y0)), (some (.inl (x12 + 1))), (some (.inl x13)), (some (.inl 1)), d15, d16] (show op 331 219 = some (.istore 14, 2) by decide +kernel) rfl rfl rfl ?_
  refine g_goto 172 (show op 331 221 = some (.goto (-49), 3) by decide +kernel) rfl ?_
  exact h
theorem b331_224 {x1 : Int} {x2 : Int} {x3 : Int} {x4 : Int} {x5 : Int} {x6 : Int} {x7 : Int} {x8 : Int} {d9 : Option AV} {x10 : Int} {x11 : Int} {x12 : Int} {x13 : Int} {x14 : Int} {d15 : Option AV} {d16 : Option AV} {σ : Sg} {o : Rs}   (h : (if x13 < x6 then (0 ≤ x13 ∧ x13 < 256) ∧ (if (σ 700 (x13).toNat) ≤ x11 then (∃ (v3 : Int) (s2 : Sg), Dd 281 [(.inr (.inr (some 682))), (.inl x13)] σ (.inl (some (.inl v3)), s2) ∧ (if x11 < v3 then (∃ (v6 : Int) (s5 : Sg), Dd 281 [(.inr (.inr (some 682))), (.inl x13)] s2 (.inl (some (.inl v6)), s5) ∧ C331_265 x1 x2 x3 x4 x5 x6 x7 x8 d9 x10 (some (.inl x11)) x12 x13 (some (.inl x14)) d15 d16 v6 s5 o) else C331_265 x1 x2 x3 x4 x5 x6 x7 x8 d9 x10 (some (.inl x11)) x12 x13 (some (.inl x14)) d15 d16 x11 s2 o)) else C331_164 x1 x2 x3 x4 x5 x6 x7 x8 d9 x10 x11 x12 x13 x14 d15 d16 σ o) else C331_164 x1 x2 x3 x4 x5 x6 x7 x8 d9 x10 x11 x12 x13 x14 d15 d16 σ o)) : C331_224 x1 x2 x3 x4 x5 x6 x7 x8 d9 x10 x11 x12 x13 x14 d15 d16 σ o := by
  show Gd 331 224 [(some (.inr (.inr (some 682)))), (some (.inl x1)), (some (.inl x2)), (some (.inl x3)), (some (.inl x4)), (some (.inl x5)), (some (.inl x6)), (some (.inl x7)), (some (.inl x8)), d9, (some (.inl x10)), (some (.inl x11)), (some (.inl x12)), (some (.inl x13)), (some (.inl x14)), d15, d16] [] σ 0 0 o
  refine g_iload 226 (show op 331 224 = some (.iload 13, 2) by decide +kernel) rfl rfl ?_
  refine g_iload 228 (show op 331 226 = some (.iload 6, 2) by decide +kernel) rfl rfl ?_
  by_cases hc8 : x13 < x6
  · rw [if_pos hc8] at h
    refine g_icmpF 231 164 (show op 331 228 = some (.if_icmp .ge (-64), 3) by decide +kernel) rfl rfl (decide_eq_false (Int.not_le.mpr hc8)) ?_
    refine g_aload_n 232 (show op 331 231 = some (.aload_n 0, 1) by decide +kernel) rfl rfl ?_
    refine g_getR (ci := 11) (f := 26) (fin := true) (isR := true) 235 700 (show op 331 232 = some (.getfield 61, 3) by decide +kernel) rfl (by decide +kernel) (by decide +kernel) ?_
    refine g_iload 237 (show op 331 235 = some (.iload 13, 2) by decide +kernel) rfl rfl ?_
    obtain ⟨g1, h⟩ := h
    refine g_iaload 238 256 (show op 331 237 = some (.iaload, 1) by decide +kernel) rfl (by decide +kernel) g1 ?_
    refine g_iload 240 (show op 331 238 = some (.iload 11, 2) by decide +kernel) rfl rfl ?_
    by_cases hc9 : (σ 700 (x13).toNat) ≤ x11
    · rw [if_pos hc9] at h
      refine g_icmpF 243 164 (show op 331 240 = some (.if_icmp .gt (-76), 3) by decide +kernel) rfl rfl (decide_eq_false (Int.not_lt.mpr hc9)) ?_
      refine g_aload_n 244 (show op 331 243 = some (.aload_n 0, 1) by decide +kernel) rfl rfl ?_
      refine g_iload 246 (show op 331 244 = some (.iload 13, 2) by decide +kernel) rfl rfl ?_
      obtain ⟨v3, s2, hD4, h⟩ := h
      refine g_call 249 [(.inl v3)] (show op 331 246 = some (.invokevirtual 247, 3) by decide +kernel) (call_vi' (k' := 0) (n' := 0) (nj := 2) (j := 281) (k9 := 21) (t := []) (as := [(.inr (.inr (some 682))), (.inl x13)]) (by decide +kernel) rfl (by decide +kernel) rfl rfl rfl rfl rfl rfl (by decide +kernel) (by decide +kernel)) hD4 rfl ?_
      refine g_iload 251 (show op 331 249 = some (.iload 11, 2) by decide +kernel) rfl rfl ?_
      by_cases hc10 : x11 < v3
      · rw [if_pos hc10] at h
        refine g_icmpF 254 263 (show op 331 251 = some (.if_icmp .le 12, 3) by decide +kernel) rfl rfl (decide_eq_false (Int.not_le.mpr hc10)) ?_
        refine g_aload_n 255 (show op 331 254 = some (.aload_n 0, 1) by decide +kernel) rfl rfl ?_
        refine g_iload 257 (show op 331 255 = some (.iload 13, 2) by decide +kernel) rfl rfl ?_
        obtain ⟨v6, s5, hD7, h⟩ := h
        refine g_call 260 [(.inl v6)] (show op 331 257 = some (.invokevirtual 247, 3) by decide +kernel) (call_vi' (k' := 0) (n' := 0) (nj := 2) (j := 281) (k9 := 21) (t := []) (as := [(.inr (.inr (some 682))), (.inl x13)]) (by decide +kernel) rfl (by decide +kernel) rfl rfl rfl rfl rfl rfl (by decide +kernel) (by decide +kernel)) hD7 rfl ?_
        refine g_goto 265 (show op 331 260 = some (.goto 5, 3) by decide +kernel) rfl ?_
        exact h
      · rw [if_neg hc10] at h
        refine g_icmpT 263 (show op 331 251 = some (.if_icmp .le 12, 3) by decide +kernel) rfl (decide_eq_true (Int.not_lt.mp hc10)) ?_
        refine g_iload 265 (show op 331 263 = some (.iload 11, 2) by decide +kernel) rfl rfl ?_
        exact h
    · rw [if_neg hc9] at h
      refine g_icmpT 164 (show op 331 240 = some (.if_icmp .gt (-76), 3) by decide +kernel) rfl (decide_eq_true (Int.not_le.mp hc9)) ?_
      exact h
  · rw [if_neg hc8] at h
    refine g_icmpT 164 (show op 331 228 = some (.if_icmp .ge (-64), 3) by decide +kernel) rfl (decide_eq_true (Int.not_lt.mp hc8)) ?_
    exact h
theorem b331_363 {x1 : Int} {x2 : Int} {x3 : Int} {x4 : Int} {x5 : Int} {x6 : Int} {d7 : Option AV} {x8 : Int} {d9 : Option AV} {x10 : Int} {x11 : Int} {x12 : Int} {x13 : Int} {d14 : Option AV} {x15 : Int} {d16 : Option AV} {σ : Sg} {o : Rs}   (h : C331_364 x1 x2 x3 x4 x5 x6 d7 x8 d9 x10 x11 x12 x13 d14 x15 d16 0 σ o) : C331_363 x1 x2 x3 x4 x5 x6 d7 x8 d9 x10 x11 x12 x13 d14 x15 d16 σ o := by
  show Gd 331 363 [(some (.inr (.inr (some 682)))), (some (.inl x1)), (some (.inl x2)), (some (.inl x3)), (some (.inl x4)), (some (.inl x5)), (some (.inl x6)), d7, (some (.inl x8)), d9, (some (.inl x10)), (some (.inl x11)), (some (.inl x12)), (some (.inl x13)), d14, (some (.inl x15)), d16] [] σ 0 0 o
  refine g_iconst 364 (show op 331 363 = some (.iconst 0, 1) by decide +kernel) rfl rfl ?_
  exact h
theorem b331_364 {x1 : Int} {x2 : Int} {x3 : Int} {x4 : Int} {x5 : Int} {x6 : Int} {d7 : Option AV} {x8 : Int} {d9 : Option AV} {x10 : Int} {x11 : Int} {x12 : Int} {x13 : Int} {d14 : Option AV} {x15 : Int} {d16 : Option AV} {y0 : Int} {σ : Sg} {o : Rs}   (h : (if x15 = 0 then (if y0 = 0 then (∃ (s1 : Sg), Dd 319 [(.inr (.inr (some 682))), (.inl 50001)] σ (.inl none, s1) ∧ (∃ (s3 : Sg), Dd 328 [(.inr (.inr (some 682))), (.inl x1), (.inl x3), (.inl x12), (.inl x10), (.inl x11)] s1 (.inl none, s3) ∧ (∃ (s5 : Sg), Dd 319 [(.inr (.inr (some 682))), (.inl 50002)] s3 (.inl none, s5) ∧ (∃ (s7 : Sg), Dd 328 [(.inr (.inr (some 682))), (.inl x2), (.inl x4), (.inl x13), (.inl x10), (.inl x11)] s5 (.inl none, s7) ∧ (∃ (s9 : Sg), Dd 319 [(.inr (.inr (some 682))), (.inl 50003)] s7 (.inl none, s9) ∧ (-2147483648 ≤ (x8 + 1) ∧ (x8 + 1) ≤ 2147483647) ∧ C331_470 x1 x2 (some (.inl x3)) (some (.inl x4)) x5 x6 d7 (x8 + 1) d9 (some (.inl x10)) x11 x12 x13 d14 (some (.inl x15)) (some (.inl y0)) s9 o))))) else C331_376 x1 x2 x3 x4 x5 x6 d7 x8 d9 x10 x11 x12 x13 d14 (some (.inl x15)) (some (.inl y0)) σ o) else C331_376 x1 x2 x3 x4 x5 x6 d7 x8 d9 x10 x11 x12 x13 d14 (some (.inl x15)) (some (.inl y0)) σ o)) : C331_364 x1 x2 x3 x4 x5 x6 d7 x8 d9 x10 x11 x12 x13 d14 x15 d16 y0 σ o := by
  show Gd 331 364 [(some (.inr (.inr (some 682)))), (some (.inl x1)), (some (.inl x2)), (some (.inl x3)), (some (.inl x4)), (some (.inl x5)), (some (.inl x6)), d7, (some (.inl x8)), d9, (some (.inl x10)), (some (.inl x11)), (some (.inl x12)), (some (.inl x13)), d14, (some (.inl x15)), d16] [(.inl y0)] σ 0 0 o
  refine g_istore 366 [(some (.inr (.inr (some 682)))), (some (.inl x1)), (some (.inl x2)), (some (.inl x3)), (some (.inl x4)), (some (.inl x5)), (some (.inl x6)), d7, (some (.inl x8)), d9, (some (.inl x10)), (some (.inl x11)), (some (.inl x12)), (some (.inl x13)), d14, (some (.inl x15)), (some (.inl y0))] (show op 331 364 = some (.istore 16, 2) by decide +kernel) rfl rfl rfl ?_
  refine g_iload 368 (show op 331 366 = some (.iload 15, 2) by decide +kernel) rfl rfl ?_
  by_cases hc12 : x15 = 0
  · rw [if_pos hc12] at h
    refine g_ifF 371 376 (show op 331 368 = some (.ifCond .ne 8, 3) by decide +kernel) rfl rfl (decide_eq_false (fun h9 => h9 hc12)) ?_
    refine g_iload 373 (show op 331 371 = some (.iload 16, 2) by decide +kernel) rfl rfl ?_
    by_cases hc13 : y0 = 0
    · rw [if_pos hc13] at h
      refine g_ifT 423 (show op 331 373 = some (.ifCond .eq 50, 3) by decide +kernel) rfl (decide_eq_true hc13) ?_
      refine g_aload_n 424 (show op 331 423 = some (.aload_n 0, 1) by decide +kernel) rfl rfl ?_
      refine g_ldc (v := 50001) 426 (show op 331 424 = some (.ldc 151, 2) by decide +kernel) rfl (by decide +kernel) rfl ?_
      obtain ⟨s1, hD2, h⟩ := h
      refine g_call 429 [] (show op 331 426 = some (.invokevirtual 339, 3) by decide +kernel) (call_vi' (k' := 0) (n' := 0) (nj := 2) (j := 319) (k9 := 21) (t := []) (as := [(.inr (.inr (some 682))), (.inl 50001)]) (by decide +kernel) rfl (by decide +kernel) rfl rfl rfl rfl rfl rfl (by decide +kernel) (by decide +kernel)) hD2 rfl ?_
      refine g_aload_n 430 (show op 331 429 = some (.aload_n 0, 1) by decide +kernel) rfl rfl ?_
      refine g_iload_n 431 (show op 331 430 = some (.iload_n 1, 1) by decide +kernel) rfl rfl ?_
      refine g_iload_n 432 (show op 331 431 = some (.iload_n 3, 1) by decide +kernel) rfl rfl ?_
      refine g_iload 434 (show op 331 432 = some (.iload 12, 2) by decide +kernel) rfl rfl ?_
      refine g_iload 436 (show op 331 434 = some (.iload 10, 2) by decide +kernel) rfl rfl ?_
      refine g_iload 438 (show op 331 436 = some (.iload 11, 2) by decide +kernel) rfl rfl ?_
      obtain ⟨s3, hD4, h⟩ := h
      refine g_call 441 [] (show op 331 438 = some (.invokevirtual 374, 3) by decide +kernel) (call_vi' (k' := 0) (n' := 0) (nj := 6) (j := 328) (k9 := 21) (t := []) (as := [(.inr (.inr (some 682))), (.inl x1), (.inl x3), (.inl x12), (.inl x10), (.inl x11)]) (by decide +kernel) rfl (by decide +kernel) rfl rfl rfl rfl rfl rfl (by decide +kernel) (by decide +kernel)) hD4 rfl ?_
      refine g_aload_n 442 (show op 331 441 = some (.aload_n 0, 1) by decide +kernel) rfl rfl ?_
      refine g_ldc_w (v := 50002) 445 (show op 331 442 = some (.ldc_w 378, 3) by decide +kernel) rfl (by decide +kernel) rfl ?_
      obtain ⟨s5, hD6, h⟩ := h
      refine g_call 448 [] (show op 331 445 = some (.invokevirtual 339, 3) by decide +kernel) (call_vi' (k' := 0) (n' := 0) (nj := 2) (j := 319) (k9 := 21) (t := []) (as := [(.inr (.inr (some 682))), (.inl 50002)]) (by decide +kernel) rfl (by decide +kernel) rfl rfl rfl rfl rfl rfl (by decide +kernel) (by decide +kernel)) hD6 rfl ?_
      refine g_aload_n 449 (show op 331 448 = some (.aload_n 0, 1) by decide +kernel) rfl rfl ?_
      refine g_iload_n 450 (show op 331 449 = some (.iload_n 2, 1) by decide +kernel) rfl rfl ?_
      refine g_iload 452 (show op 331 450 = some (.iload 4, 2) by decide +kernel) rfl rfl ?_
      refine g_iload 454 (show op 331 452 = some (.iload 13, 2) by decide +kernel) rfl rfl ?_
      refine g_iload 456 (show op 331 454 = some (.iload 10, 2) by decide +kernel) rfl rfl ?_
      refine g_iload 458 (show op 331 456 = some (.iload 11, 2) by decide +kernel) rfl rfl ?_
      obtain ⟨s7, hD8, h⟩ := h
      refine g_call 461 [] (show op 331 458 = some (.invokevirtual 374, 3) by decide +kernel) (call_vi' (k' := 0) (n' := 0) (nj := 6) (j := 328) (k9 := 21) (t := []) (as := [(.inr (.inr (some 682))), (.inl x2), (.inl x4), (.inl x13), (.inl x10), (.inl x11)]) (by decide +kernel) rfl (by decide +kernel) rfl rfl rfl rfl rfl rfl (by decide +kernel) (by decide +kernel)) hD8 rfl ?_
      refine g_aload_n 462 (show op 331 461 = some (.aload_n 0, 1) by decide +kernel) rfl rfl ?_
      refine g_ldc (v := 50003) 464 (show op 331 462 = some (.ldc 152, 2) by decide +kernel) rfl (by decide +kernel) rfl ?_
      obtain ⟨s9, hD10, h⟩ := h
      refine g_call 467 [] (show op 331 464 = some (.invokevirtual 339, 3) by decide +kernel) (call_vi' (k' := 0) (n' := 0) (nj := 2) (j := 319) (k9 := 21) (t := []) (as := [(.inr (.inr (some 682))), (.inl 50003)]) (by decide +kernel) rfl (by decide +kernel) rfl rfl rfl rfl rfl rfl (by decide +kernel) (by decide +kernel)) hD10 rfl ?_
      obtain ⟨g11, h⟩ := h
      refine g_iinc 470 [(some (.inr (.inr (some 682)))), (some (.inl x1)), (some (.inl x2)), (some (.inl x3)), (some (.inl x4)), (some (.inl x5)), (some (.inl x6)), d7, (some (.inl (x8 + 1))), d9, (some (.inl x10)), (some (.inl x11)), (some (.inl x12)), (some (.inl x13)), d14, (some (.inl x15)), (some (.inl y0))] (show op 331 467 = some (.iinc 8 1, 3) by decide +kernel) rfl rfl g11 rfl ?_
      exact h
    · rw [if_neg hc13] at h
      refine g_ifF 376 423 (show op 331 373 = some (.ifCond .eq 50, 3) by decide +kernel) rfl rfl (decide_eq_false hc13) ?_
      exact h
  · rw [if_neg hc12] at h
    refine g_ifT 376 (show op 331 368 = some (.ifCond .ne 8, 3) by decide +kernel) rfl (decide_eq_true hc12) ?_
    exact h
theorem b331_265 {x1 : Int} {x2 : Int} {x3 : Int} {x4 : Int} {x5 : Int} {x6 : Int} {x7 : Int} {x8 : Int} {d9 : Option AV} {x10 : Int} {d11 : Option AV} {x12 : Int} {x13 : Int} {d14 : Option AV} {d15 : Option AV} {d16 : Option AV} {y0 : Int} {σ : Sg} {o : Rs}   (h : (-2147483648 ≤ (x13 + 1) ∧ (x13 + 1) ≤ 2147483647) ∧ C331_224 x1 x2 x3 x4 x5 x6 x7 x8 d9 x10 y0 x12 (x13 + 1) 1 d15 d16 σ o) : C331_265 x1 x2 x3 x4 x5 x6 x7 x8 d9 x10 d11 x12 x13 d14 d15 d16 y0 σ o := by
  show Gd 331 265 [(some (.inr (.inr (some 682)))), (some (.inl x1)), (some (.inl x2)), (some (.inl x3)), (some (.inl x4)), (some (.inl x5)), (some (.inl x6)), (some (.inl x7)), (some (.inl x8)), d9, (some (.inl x10)), d11, (some (.inl x12)), (some (.inl x13)), d14, d15, d16] [(.inl y0)] σ 0 0 o
  refine g_istore 267 [(some (.inr (.inr (some 682)))), (some (.inl x1)), (some (.inl x2)), (some (.inl x3)), (some (.inl x4)), (some (.inl x5)), (some (.inl x6)), (some (.inl x7)), (some (.inl x8)), d9, (some (.inl x10)), (some (.inl y0)), (some (.inl x12)), (some (.inl x13)), d14, d15, d16] (show op 331 265 = some (.istore 11, 2) by decide +kernel) rfl rfl rfl ?_
  obtain ⟨g1, h⟩ := h
  refine g_iinc 270 [(some (.inr (.inr (some 682)))), (some (.inl x1)), (some (.inl x2)), (some (.inl x3)), (some (.inl x4)), (some (.inl x5)), (some (.inl x6)), (some (.inl x7)), (some (.inl x8)), d9, (some (.inl x10)), (some (.inl y0)), (some (.inl x12)), (some (.inl (x13 + 1))), d14, d15, d16] (show op 331 267 = some (.iinc 13 1, 3) by decide +kernel) rfl rfl g1 rfl ?_
  refine g_iconst 271 (show op 331 270 = some (.iconst 1, 1) by decide +kernel) rfl rfl ?_
  refine g_istore 273 [(some (.inr (.inr (some 682)))), (some (.inl x1)), (some (.inl x2)), (some (.inl x3)), (some (.inl x4)), (some (.inl x5)), (some (.inl x6)), (some (.inl x7)), (some (.inl x8)), d9, (some (.inl x10)), (some (.inl y0)), (some (.inl x12)), (some (.inl (x13 + 1))), (some (.inl 1)), d15, d16] (show op 331 271 = some (.istore 14, 2) by decide +kernel) rfl rfl rfl ?_
  refine g_goto 224 (show op 331 273 = some (.goto (-49), 3) by decide +kernel) rfl ?_
  exact h
theorem b331_470 {x1 : Int} {x2 : Int} {d3 : Option AV} {d4 : Option AV} {x5 : Int} {x6 : Int} {d7 : Option AV} {x8 : Int} {d9 : Option AV} {d10 : Option AV} {x11 : Int} {x12 : Int} {x13 : Int} {d14 : Option AV} {d15 : Option AV} {d16 : Option AV} {σ : Sg} {o : Rs}   (h : C331_38 x1 x2 x12 x13 x5 x6 x11 x8 d9 d10 (some (.inl x11)) (some (.inl x12)) (some (.inl x13)) d14 d15 d16 σ o) : C331_470 x1 x2 d3 d4 x5 x6 d7 x8 d9 d10 x11 x12 x13 d14 d15 d16 σ o := by
  show Gd 331 470 [(some (.inr (.inr (some 682)))), (some (.inl x1)), (some (.inl x2)), d3, d4, (some (.inl x5)), (some (.inl x6)), d7, (some (.inl x8)), d9, d10, (some (.inl x11)), (some (.inl x12)), (some (.inl x13)), d14, d15, d16] [] σ 0 0 o
  refine g_iload 472 (show op 331 470 = some (.iload 11, 2) by decide +kernel) rfl rfl ?_
  refine g_istore 474 [(some (.inr (.inr (some 682)))), (some (.inl x1)), (some (.inl x2)), d3, d4, (some (.inl x5)), (some (.inl x6)), (some (.inl x11)), (some (.inl x8)), d9, d10, (some (.inl x11)), (some (.inl x12)), (some (.inl x13)), d14, d15, d16] (show op 331 472 = some (.istore 7, 2) by decide +kernel) rfl rfl rfl ?_
  refine g_iload 476 (show op 331 474 = some (.iload 12, 2) by decide +kernel) rfl rfl ?_
  refine g_istore_n 477 [(some (.inr (.inr (some 682)))), (some (.inl x1)), (some (.inl x2)), (some (.inl x12)), d4, (some (.inl x5)), (some (.inl x6)), (some (.inl x11)), (some (.inl x8)), d9, d10, (some (.inl x11)), (some (.inl x12)), (some (.inl x13)), d14, d15, d16] (show op 331 476 = some (.istore_n 3, 1) by decide +kernel) rfl rfl rfl ?_
  refine g_iload 479 (show op 331 477 = some (.iload 13, 2) by decide +kernel) rfl rfl ?_
  refine g_istore 481 [(some (.inr (.inr (some 682)))), (some (.inl x1)), (some (.inl x2)), (some (.inl x12)), (some (.inl x13)), (some (.inl x5)), (some (.inl x6)), (some (.inl x11)), (some (.inl x8)), d9, d10, (some (.inl x11)), (some (.inl x12)), (some (.inl x13)), d14, d15, d16] (show op 331 479 = some (.istore 4, 2) by decide +kernel) rfl rfl rfl ?_
  refine g_goto 38 (show op 331 481 = some (.goto (-443), 3) by decide +kernel) rfl ?_
  exact h
theorem b331_376 {x1 : Int} {x2 : Int} {x3 : Int} {x4 : Int} {x5 : Int} {x6 : Int} {d7 : Option AV} {x8 : Int} {d9 : Option AV} {x10 : Int} {x11 : Int} {x12 : Int} {x13 : Int} {d14 : Option AV} {d15 : Option AV} {d16 : Option AV} {σ : Sg} {o : Rs}   (h : C331_388 x1 x2 x3 x4 x5 x6 d7 x8 d9 x10 x11 x12 x13 d14 d15 d16 (if x3 < x12 then x1 else x2) σ o) : C331_376 x1 x2 x3 x4 x5 x6 d7 x8 d9 x10 x11 x12 x13 d14 d15 d16 σ o := by
  show Gd 331 376 [(some (.inr (.inr (some 682)))), (some (.inl x1)), (some (.inl x2)), (some (.inl x3)), (some (.inl x4)), (some (.inl x5)), (some (.inl x6)), d7, (some (.inl x8)), d9, (some (.inl x10)), (some (.inl x11)), (some (.inl x12)), (some (.inl x13)), d14, d15, d16] [] σ 0 0 o
  refine g_aload_n 377 (show op 331 376 = some (.aload_n 0, 1) by decide +kernel) rfl rfl ?_
  refine g_iload 379 (show op 331 377 = some (.iload 12, 2) by decide +kernel) rfl rfl ?_
  refine g_iload_n 380 (show op 331 379 = some (.iload_n 3, 1) by decide +kernel) rfl rfl ?_
  by_cases hc1 : x3 < x12
  · refine g_icmpF 383 387 (show op 331 380 = some (.if_icmp .le 7, 3) by decide +kernel) rfl rfl (decide_eq_false (Int.not_le.mpr hc1)) ?_
    refine g_iload_n 384 (show op 331 383 = some (.iload_n 1, 1) by decide +kernel) rfl rfl ?_
    refine g_goto 388 (show op 331 384 = some (.goto 4, 3) by decide +kernel) rfl ?_
    have h9 := h; simp only [if_pos hc1] at h9; exact h9
  · refine g_icmpT 387 (show op 331 380 = some (.if_icmp .le 7, 3) by decide +kernel) rfl (decide_eq_true (Int.not_lt.mp hc1)) ?_
    refine g_iload_n 388 (show op 331 387 = some (.iload_n 2, 1) by decide +kernel) rfl rfl ?_
    have h9 := h; simp only [if_neg hc1] at h9; exact h9
theorem b331_388 {x1 : Int} {x2 : Int} {x3 : Int} {x4 : Int} {x5 : Int} {x6 : Int} {d7 : Option AV} {x8 : Int} {d9 : Option AV} {x10 : Int} {x11 : Int} {x12 : Int} {x13 : Int} {d14 : Option AV} {d15 : Option AV} {d16 : Option AV} {y1 : Int} {σ : Sg} {o : Rs}   (h : C331_400 x1 x2 x3 (some (.inl x4)) x5 x6 d7 x8 d9 x10 x11 x12 x13 d14 d15 d16 y1 (if x3 < x12 then x3 else x4) σ o) : C331_388 x1 x2 x3 x4 x5 x6 d7 x8 d9 x10 x11 x12 x13 d14 d15 d16 y1 σ o := by
  show Gd 331 388 [(some (.inr (.inr (some 682)))), (some (.inl x1)), (some (.inl x2)), (some (.inl x3)), (some (.inl x4)), (some (.inl x5)), (some (.inl x6)), d7, (some (.inl x8)), d9, (some (.inl x10)), (some (.inl x11)), (some (.inl x12)), (some (.inl x13)), d14, d15, d16] [(.inl y1), (.inr (.inr (some 682)))] σ 0 0 o
  refine g_iload 390 (show op 331 388 = some (.iload 12, 2) by decide +kernel) rfl rfl ?_
  refine g_iload_n 391 (show op 331 390 = some (.iload_n 3, 1) by decide +kernel) rfl rfl ?_
  by_cases hc1 : x3 < x12
  · refine g_icmpF 394 398 (show op 331 391 = some (.if_icmp .le 7, 3) by decide +kernel) rfl rfl (decide_eq_false (Int.not_le.mpr hc1)) ?_
    refine g_iload_n 395 (show op 331 394 = some (.iload_n 3, 1) by decide +kernel) rfl rfl ?_
    refine g_goto 400 (show op 331 395 = some (.goto 5, 3) by decide +kernel) rfl ?_
    have h9 := h; simp only [if_pos hc1] at h9; exact h9
  · refine g_icmpT 398 (show op 331 391 = some (.if_icmp .le 7, 3) by decide +kernel) rfl (decide_eq_true (Int.not_lt.mp hc1)) ?_
    refine g_iload 400 (show op 331 398 = some (.iload 4, 2) by decide +kernel) rfl rfl ?_
    have h9 := h; simp only [if_neg hc1] at h9; exact h9
theorem b331_400 {x1 : Int} {x2 : Int} {x3 : Int} {d4 : Option AV} {x5 : Int} {x6 : Int} {d7 : Option AV} {x8 : Int} {d9 : Option AV} {x10 : Int} {x11 : Int} {x12 : Int} {x13 : Int} {d14 : Option AV} {d15 : Option AV} {d16 : Option AV} {y1 : Int} {y2 : Int} {σ : Sg} {o : Rs}   (h : C331_413 x1 x2 (some (.inl x3)) d4 x5 x6 d7 x8 d9 x10 x11 x12 x13 d14 d15 d16 y1 y2 (if x3 < x12 then x12 else x13) σ o) : C331_400 x1 x2 x3 d4 x5 x6 d7 x8 d9 x10 x11 x12 x13 d14 d15 d16 y1 y2 σ o := by
  show Gd 331 400 [(some (.inr (.inr (some 682)))), (some (.inl x1)), (some (.inl x2)), (some (.inl x3)), d4, (some (.inl x5)), (some (.inl x6)), d7, (some (.inl x8)), d9, (some (.inl x10)), (some (.inl x11)), (some (.inl x12)), (some (.inl x13)), d14, d15, d16] [(.inl y2), (.inl y1), (.inr (.inr (some 682)))] σ 0 0 o
  refine g_iload 402 (show op 331 400 = some (.iload 12, 2) by decide +kernel) rfl rfl ?_
  refine g_iload_n 403 (show op 331 402 = some (.iload_n 3, 1) by decide +kernel) rfl rfl ?_
  by_cases hc1 : x3 < x12
  · refine g_icmpF 406 411 (show op 331 403 = some (.if_icmp .le 8, 3) by decide +kernel) rfl rfl (decide_eq_false (Int.not_le.mpr hc1)) ?_
    refine g_iload 408 (show op 331 406 = some (.iload 12, 2) by decide +kernel) rfl rfl ?_
    refine g_goto 413 (show op 331 408 = some (.goto 5, 3) by decide +kernel) rfl ?_
    have h9 := h; simp only [if_pos hc1] at h9; exact h9
  · refine g_icmpT 411 (show op 331 403 = some (.if_icmp .le 8, 3) by decide +kernel) rfl (decide_eq_true (Int.not_lt.mp hc1)) ?_
    refine g_iload 413 (show op 331 411 = some (.iload 13, 2) by decide +kernel) rfl rfl ?_
    have h9 := h; simp only [if_neg hc1] at h9; exact h9
theorem b331_413 {x1 : Int} {x2 : Int} {d3 : Option AV} {d4 : Option AV} {x5 : Int} {x6 : Int} {d7 : Option AV} {x8 : Int} {d9 : Option AV} {x10 : Int} {x11 : Int} {x12 : Int} {x13 : Int} {d14 : Option AV} {d15 : Option AV} {d16 : Option AV} {y1 : Int} {y2 : Int} {y3 : Int} {σ : Sg} {o : Rs}   (h : (∃ (s1 : Sg), Dd 328 [(.inr (.inr (some 682))), (.inl y1), (.inl y2), (.inl y3), (.inl x10), (.inl x11)] σ (.inl none, s1) ∧ C331_470 x1 x2 d3 d4 x5 x6 d7 x8 d9 (some (.inl x10)) x11 x12 x13 d14 d15 d16 s1 o)) : C331_413 x1 x2 d3 d4 x5 x6 d7 x8 d9 x10 x11 x12 x13 d14 d15 d16 y1 y2 y3 σ o := by
  show Gd 331 413 [(some (.inr (.inr (some 682)))), (some (.inl x1)), (some (.inl x2)), d3, d4, (some (.inl x5)), (some (.inl x6)), d7, (some (.inl x8)), d9, (some (.inl x10)), (some (.inl x11)), (some (.inl x12)), (some (.inl x13)), d14, d15, d16] [(.inl y3), (.inl y2), (.inl y1), (.inr (.inr (some 682)))] σ 0 0 o
  refine g_iload 415 (show op 331 413 = some (.iload 10, 2) by decide +kernel) rfl rfl ?_
  refine g_iload 417 (show op 331 415 = some (.iload 11, 2) by decide +kernel) rfl rfl ?_
  obtain ⟨s1, hD2, h⟩ := h
  refine g_call 420 [] (show op 331 417 = some (.invokevirtual 374, 3) by decide +kernel) (call_vi' (k' := 0) (n' := 0) (nj := 6) (j := 328) (k9 := 21) (t := []) (as := [(.inr (.inr (some 682))), (.inl y1), (.inl y2), (.inl y3), (.inl x10), (.inl x11)]) (by decide +kernel) rfl (by decide +kernel) rfl rfl rfl rfl rfl rfl (by decide +kernel) (by decide +kernel)) hD2 rfl ?_
  refine g_goto 470 (show op 331 420 = some (.goto 50, 3) by decide +kernel) rfl ?_
  exact h
/-- PatchBenchModel.merges (II)I -/
theorem b331 {x1 : Int} {x2 : Int} {σ : Sg} {o : Rs}   (h : (∃ (v2 : Int) (s1 : Sg), Dd 280 [(.inr (.inr (some 682))), (.inl x1), (.inl 0)] σ (.inl (some (.inl v2)), s1) ∧ (∃ (v5 : Int) (s4 : Sg), Dd 280 [(.inr (.inr (some 682))), (.inl x2), (.inl 1)] s1 (.inl (some (.inl v5)), s4) ∧ (-2147483648 ≤ (128 + v5) ∧ (128 + v5) ≤ 2147483647) ∧ C331_38 x1 x2 0 128 v2 (128 + v5) 0 0 none none none none none none none none (upS s4 682 32 0) o))) : Dd 331 [(.inr (.inr (some 682))), (.inl x1), (.inl x2)] σ o := by
  refine Dd_of (l := 17) (by decide +kernel) ?_
  show Gd 331 0 [(some (.inr (.inr (some 682)))), (some (.inl x1)), (some (.inl x2)), none, none, none, none, none, none, none, none, none, none, none, none, none, none] [] σ 0 0 o
  refine g_iconst 1 (show op 331 0 = some (.iconst 0, 1) by decide +kernel) rfl rfl ?_
  refine g_istore_n 2 [(some (.inr (.inr (some 682)))), (some (.inl x1)), (some (.inl x2)), (some (.inl 0)), none, none, none, none, none, none, none, none, none, none, none, none, none] (show op 331 1 = some (.istore_n 3, 1) by decide +kernel) rfl rfl rfl ?_
  refine g_sipush 5 (show op 331 2 = some (.sipush 128, 3) by decide +kernel) rfl (by decide) ?_
  refine g_istore 7 [(some (.inr (.inr (some 682)))), (some (.inl x1)), (some (.inl x2)), (some (.inl 0)), (some (.inl 128)), none, none, none, none, none, none, none, none, none, none, none, none] (show op 331 5 = some (.istore 4, 2) by decide +kernel) rfl rfl rfl ?_
  refine g_aload_n 8 (show op 331 7 = some (.aload_n 0, 1) by decide +kernel) rfl rfl ?_
  refine g_iload_n 9 (show op 331 8 = some (.iload_n 1, 1) by decide +kernel) rfl rfl ?_
  refine g_iconst 10 (show op 331 9 = some (.iconst 0, 1) by decide +kernel) rfl rfl ?_
  obtain ⟨v2, s1, hD3, h⟩ := h
  refine g_call 13 [(.inl v2)] (show op 331 10 = some (.invokevirtual 267, 3) by decide +kernel) (call_vi' (k' := 0) (n' := 0) (nj := 3) (j := 280) (k9 := 21) (t := []) (as := [(.inr (.inr (some 682))), (.inl x1), (.inl 0)]) (by decide +kernel) rfl (by decide +kernel) rfl rfl rfl rfl rfl rfl (by decide +kernel) (by decide +kernel)) hD3 rfl ?_
  refine g_istore 15 [(some (.inr (.inr (some 682)))), (some (.inl x1)), (some (.inl x2)), (some (.inl 0)), (some (.inl 128)), (some (.inl v2)), none, none, none, none, none, none, none, none, none, none, none] (show op 331 13 = some (.istore 5, 2) by decide +kernel) rfl rfl rfl ?_
  refine g_sipush 18 (show op 331 15 = some (.sipush 128, 3) by decide +kernel) rfl (by decide) ?_
  refine g_aload_n 19 (show op 331 18 = some (.aload_n 0, 1) by decide +kernel) rfl rfl ?_
  refine g_iload_n 20 (show op 331 19 = some (.iload_n 2, 1) by decide +kernel) rfl rfl ?_
  refine g_iconst 21 (show op 331 20 = some (.iconst 1, 1) by decide +kernel) rfl rfl ?_
  obtain ⟨v5, s4, hD6, h⟩ := h
  refine g_call 24 [(.inl v5), (.inl 128)] (show op 331 21 = some (.invokevirtual 267, 3) by decide +kernel) (call_vi' (k' := 0) (n' := 0) (nj := 3) (j := 280) (k9 := 21) (t := [(.inl 128)]) (as := [(.inr (.inr (some 682))), (.inl x2), (.inl 1)]) (by decide +kernel) rfl (by decide +kernel) rfl rfl rfl rfl rfl rfl (by decide +kernel) (by decide +kernel)) hD6 rfl ?_
  obtain ⟨g7, h⟩ := h
  refine g_iadd 25 (show op 331 24 = some (.iadd, 1) by decide +kernel) rfl g7 ?_
  refine g_istore 27 [(some (.inr (.inr (some 682)))), (some (.inl x1)), (some (.inl x2)), (some (.inl 0)), (some (.inl 128)), (some (.inl v2)), (some (.inl (128 + v5))), none, none, none, none, none, none, none, none, none, none] (show op 331 25 = some (.istore 6, 2) by decide +kernel) rfl rfl rfl ?_
  refine g_iconst 28 (show op 331 27 = some (.iconst 0, 1) by decide +kernel) rfl rfl ?_
  refine g_istore 30 [(some (.inr (.inr (some 682)))), (some (.inl x1)), (some (.inl x2)), (some (.inl 0)), (some (.inl 128)), (some (.inl v2)), (some (.inl (128 + v5))), (some (.inl 0)), none, none, none, none, none, none, none, none, none] (show op 331 28 = some (.istore 7, 2) by decide +kernel) rfl rfl rfl ?_
  refine g_iconst 31 (show op 331 30 = some (.iconst 0, 1) by decide +kernel) rfl rfl ?_
  refine g_istore 33 [(some (.inr (.inr (some 682)))), (some (.inl x1)), (some (.inl x2)), (some (.inl 0)), (some (.inl 128)), (some (.inl v2)), (some (.inl (128 + v5))), (some (.inl 0)), (some (.inl 0)), none, none, none, none, none, none, none, none] (show op 331 31 = some (.istore 8, 2) by decide +kernel) rfl rfl rfl ?_
  refine g_aload_n 34 (show op 331 33 = some (.aload_n 0, 1) by decide +kernel) rfl rfl ?_
  refine g_iconst 35 (show op 331 34 = some (.iconst 0, 1) by decide +kernel) rfl rfl ?_
  refine g_putI (ci := 11) (f := 32) 38 (show op 331 35 = some (.putfield 335, 3) by decide +kernel) rfl (by decide +kernel) (by decide +kernel) ?_
  exact h
def C332_20 (x1 : Int) (x2 : Int) (d3 : Option AV) (d4 : Option AV) (y0 : Int) (σ : Sg) (o : Rs) : Prop := Gd 332 20 [(some (.inr (.inr (some 682)))), (some (.inl x1)), (some (.inl x2)), d3, d4] [(.inl y0)] σ 0 0 o
def C332_24 (x1 : Int) (x2 : Int) (x3 : Int) (x4 : Int) (σ : Sg) (o : Rs) : Prop := Gd 332 24 [(some (.inr (.inr (some 682)))), (some (.inl x1)), (some (.inl x2)), (some (.inl x3)), (some (.inl x4))] [] σ 0 0 o
def C332_71 (x1 : Int) (x2 : Int) (d3 : Option AV) (x4 : Int) (y0 : Int) (σ : Sg) (o : Rs) : Prop := Gd 332 71 [(some (.inr (.inr (some 682)))), (some (.inl x1)), (some (.inl x2)), d3, (some (.inl x4))] [(.inl y0)] σ 0 0 o
theorem b332_20 {x1 : Int} {x2 : Int} {d3 : Option AV} {d4 : Option AV} {y0 : Int} {σ : Sg} {o : Rs}   (h : C332_24 x1 x2 y0 0 σ o) : C332_20 x1 x2 d3 d4 y0 σ o := by
  show Gd 332 20 [(some (.inr (.inr (some 682)))), (some (.inl x1)), (some (.inl x2)), d3, d4] [(.inl y0)] σ 0 0 o
  refine g_istore_n 21 [(some (.inr (.inr (some 682)))), (some (.inl x1)), (some (.inl x2)), (some (.inl y0)), d4] (show op 332 20 = some (.istore_n 3, 1) by decide +kernel) rfl rfl rfl ?_
  refine g_iconst 22 (show op 332 21 = some (.iconst 0, 1) by decide +kernel) rfl rfl ?_
  refine g_istore 24 [(some (.inr (.inr (some 682)))), (some (.inl x1)), (some (.inl x2)), (some (.inl y0)), (some (.inl 0))] (show op 332 22 = some (.istore 4, 2) by decide +kernel) rfl rfl rfl ?_
  exact h
theorem b332_24 {x1 : Int} {x2 : Int} {x3 : Int} {x4 : Int} {σ : Sg} {o : Rs}   (h : (0 ≤ x1 ∧ x1 < 44) ∧ (if x4 < (σ 688 (x1).toNat) then (if x3 = 0 then (x3 = 0 ∨ x3 = 1) ∧ o = (.inl (some (.inl x3)), σ) else (-2147483648 ≤ (100 * x1) ∧ (100 * x1) ≤ 2147483647) ∧ (-2147483648 ≤ ((100 * x1) + x4) ∧ ((100 * x1) + x4) ≤ 2147483647) ∧ (0 ≤ ((100 * x1) + x4) ∧ ((100 * x1) + x4) < 4400) ∧ (-2147483648 ≤ (100 * x2) ∧ (100 * x2) ≤ 2147483647) ∧ (-2147483648 ≤ ((100 * x2) + x4) ∧ ((100 * x2) + x4) ≤ 2147483647) ∧ (0 ≤ ((100 * x2) + x4) ∧ ((100 * x2) + x4) < 4400) ∧ C332_71 x1 x2 (some (.inl x3)) x4 (if (σ 685 (((100 * x1) + x4)).toNat) = (σ 685 (((100 * x2) + x4)).toNat) then 1 else 0) σ o) else (x3 = 0 ∨ x3 = 1) ∧ o = (.inl (some (.inl x3)), σ))) : C332_24 x1 x2 x3 x4 σ o := by
  show Gd 332 24 [(some (.inr (.inr (some 682)))), (some (.inl x1)), (some (.inl x2)), (some (.inl x3)), (some (.inl x4))] [] σ 0 0 o
  refine g_iload 26 (show op 332 24 = some (.iload 4, 2) by decide +kernel) rfl rfl ?_
  refine g_aload_n 27 (show op 332 26 = some (.aload_n 0, 1) by decide +kernel) rfl rfl ?_
  refine g_getR (ci := 11) (f := 7) (fin := true) (isR := true) 30 688 (show op 332 27 = some (.getfield 25, 3) by decide +kernel) rfl (by decide +kernel) (by decide +kernel) ?_
  refine g_iload_n 31 (show op 332 30 = some (.iload_n 1, 1) by decide +kernel) rfl rfl ?_
  obtain ⟨g1, h⟩ := h
  refine g_iaload 32 44 (show op 332 31 = some (.iaload, 1) by decide +kernel) rfl (by decide +kernel) g1 ?_
  by_cases hc10 : x4 < (σ 688 (x1).toNat)
  · rw [if_pos hc10] at h
    refine g_icmpF 35 78 (show op 332 32 = some (.if_icmp .ge 46, 3) by decide +kernel) rfl rfl (decide_eq_false (Int.not_le.mpr hc10)) ?_
    refine g_iload_n 36 (show op 332 35 = some (.iload_n 3, 1) by decide +kernel) rfl rfl ?_
    by_cases hc11 : x3 = 0
    · rw [if_pos hc11] at h
      refine g_ifT 78 (show op 332 36 = some (.ifCond .eq 42, 3) by decide +kernel) rfl (decide_eq_true hc11) ?_
      refine g_iload_n 79 (show op 332 78 = some (.iload_n 3, 1) by decide +kernel) rfl rfl ?_
      obtain ⟨g2, h⟩ := h
      exact (g_zret (show op 332 79 = some (.ireturn, 1) by decide +kernel) (by decide +kernel) g2 h)
    · rw [if_neg hc11] at h
      refine g_ifF 39 78 (show op 332 36 = some (.ifCond .eq 42, 3) by decide +kernel) rfl rfl (decide_eq_false hc11) ?_
      refine g_aload_n 40 (show op 332 39 = some (.aload_n 0, 1) by decide +kernel) rfl rfl ?_
      refine g_getR (ci := 11) (f := 4) (fin := true) (isR := true) 43 685 (show op 332 40 = some (.getfield 16, 3) by decide +kernel) rfl (by decide +kernel) (by decide +kernel) ?_
      refine g_bipush 45 (show op 332 43 = some (.bipush 100, 2) by decide +kernel) rfl (by decide) ?_
      refine g_iload_n 46 (show op 332 45 = some (.iload_n 1, 1) by decide +kernel) rfl rfl ?_
      obtain ⟨g3, h⟩ := h
      refine g_imul 47 (show op 332 46 = some (.imul, 1) by decide +kernel) rfl g3 ?_
      refine g_iload 49 (show op 332 47 = some (.iload 4, 2) by decide +kernel) rfl rfl ?_
      obtain ⟨g4, h⟩ := h
      refine g_iadd 50 (show op 332 49 = some (.iadd, 1) by decide +kernel) rfl g4 ?_
      obtain ⟨g5, h⟩ := h
      refine g_iaload 51 4400 (show op 332 50 = some (.iaload, 1) by decide +kernel) rfl (by decide +kernel) g5 ?_
      refine g_aload_n 52 (show op 332 51 = some (.aload_n 0, 1) by decide +kernel) rfl rfl ?_
      refine g_getR (ci := 11) (f := 4) (fin := true) (isR := true) 55 685 (show op 332 52 = some (.getfield 16, 3) by decide +kernel) rfl (by decide +kernel) (by decide +kernel) ?_
      refine g_bipush 57 (show op 332 55 = some (.bipush 100, 2) by decide +kernel) rfl (by decide) ?_
      refine g_iload_n 58 (show op 332 57 = some (.iload_n 2, 1) by decide +kernel) rfl rfl ?_
      obtain ⟨g6, h⟩ := h
      refine g_imul 59 (show op 332 58 = some (.imul, 1) by decide +kernel) rfl g6 ?_
      refine g_iload 61 (show op 332 59 = some (.iload 4, 2) by decide +kernel) rfl rfl ?_
      obtain ⟨g7, h⟩ := h
      refine g_iadd 62 (show op 332 61 = some (.iadd, 1) by decide +kernel) rfl g7 ?_
      obtain ⟨g8, h⟩ := h
      refine g_iaload 63 4400 (show op 332 62 = some (.iaload, 1) by decide +kernel) rfl (by decide +kernel) g8 ?_
      by_cases hc12 : (σ 685 (((100 * x1) + x4)).toNat) = (σ 685 (((100 * x2) + x4)).toNat)
      · refine g_icmpF 66 70 (show op 332 63 = some (.if_icmp .ne 7, 3) by decide +kernel) rfl rfl (decide_eq_false (fun h9 => h9 hc12)) ?_
        refine g_iconst 67 (show op 332 66 = some (.iconst 1, 1) by decide +kernel) rfl rfl ?_
        refine g_goto 71 (show op 332 67 = some (.goto 4, 3) by decide +kernel) rfl ?_
        have h9 := h; simp only [if_pos hc12] at h9; exact h9
      · refine g_icmpT 70 (show op 332 63 = some (.if_icmp .ne 7, 3) by decide +kernel) rfl (decide_eq_true hc12) ?_
        refine g_iconst 71 (show op 332 70 = some (.iconst 0, 1) by decide +kernel) rfl rfl ?_
        have h9 := h; simp only [if_neg hc12] at h9; exact h9
  · rw [if_neg hc10] at h
    refine g_icmpT 78 (show op 332 32 = some (.if_icmp .ge 46, 3) by decide +kernel) rfl (decide_eq_true (Int.not_lt.mp hc10)) ?_
    refine g_iload_n 79 (show op 332 78 = some (.iload_n 3, 1) by decide +kernel) rfl rfl ?_
    obtain ⟨g9, h⟩ := h
    exact (g_zret (show op 332 79 = some (.ireturn, 1) by decide +kernel) (by decide +kernel) g9 h)
theorem b332_71 {x1 : Int} {x2 : Int} {d3 : Option AV} {x4 : Int} {y0 : Int} {σ : Sg} {o : Rs}   (h : (-2147483648 ≤ (x4 + 1) ∧ (x4 + 1) ≤ 2147483647) ∧ C332_24 x1 x2 y0 (x4 + 1) σ o) : C332_71 x1 x2 d3 x4 y0 σ o := by
  show Gd 332 71 [(some (.inr (.inr (some 682)))), (some (.inl x1)), (some (.inl x2)), d3, (some (.inl x4))] [(.inl y0)] σ 0 0 o
  refine g_istore_n 72 [(some (.inr (.inr (some 682)))), (some (.inl x1)), (some (.inl x2)), (some (.inl y0)), (some (.inl x4))] (show op 332 71 = some (.istore_n 3, 1) by decide +kernel) rfl rfl rfl ?_
  obtain ⟨g1, h⟩ := h
  refine g_iinc 75 [(some (.inr (.inr (some 682)))), (some (.inl x1)), (some (.inl x2)), (some (.inl y0)), (some (.inl (x4 + 1)))] (show op 332 72 = some (.iinc 4 1, 3) by decide +kernel) rfl rfl g1 rfl ?_
  refine g_goto 24 (show op 332 75 = some (.goto (-51), 3) by decide +kernel) rfl ?_
  exact h
/-- PatchBenchModel.haveSameOld (II)Z -/
theorem b332 {x1 : Int} {x2 : Int} {σ : Sg} {o : Rs}   (h : (0 ≤ x1 ∧ x1 < 44) ∧ (0 ≤ x2 ∧ x2 < 44) ∧ C332_20 x1 x2 none none (if (σ 688 (x1).toNat) = (σ 688 (x2).toNat) then 1 else 0) σ o) : Dd 332 [(.inr (.inr (some 682))), (.inl x1), (.inl x2)] σ o := by
  refine Dd_of (l := 5) (by decide +kernel) ?_
  show Gd 332 0 [(some (.inr (.inr (some 682)))), (some (.inl x1)), (some (.inl x2)), none, none] [] σ 0 0 o
  refine g_aload_n 1 (show op 332 0 = some (.aload_n 0, 1) by decide +kernel) rfl rfl ?_
  refine g_getR (ci := 11) (f := 7) (fin := true) (isR := true) 4 688 (show op 332 1 = some (.getfield 25, 3) by decide +kernel) rfl (by decide +kernel) (by decide +kernel) ?_
  refine g_iload_n 5 (show op 332 4 = some (.iload_n 1, 1) by decide +kernel) rfl rfl ?_
  obtain ⟨g1, h⟩ := h
  refine g_iaload 6 44 (show op 332 5 = some (.iaload, 1) by decide +kernel) rfl (by decide +kernel) g1 ?_
  refine g_aload_n 7 (show op 332 6 = some (.aload_n 0, 1) by decide +kernel) rfl rfl ?_
  refine g_getR (ci := 11) (f := 7) (fin := true) (isR := true) 10 688 (show op 332 7 = some (.getfield 25, 3) by decide +kernel) rfl (by decide +kernel) (by decide +kernel) ?_
  refine g_iload_n 11 (show op 332 10 = some (.iload_n 2, 1) by decide +kernel) rfl rfl ?_
  obtain ⟨g2, h⟩ := h
  refine g_iaload 12 44 (show op 332 11 = some (.iaload, 1) by decide +kernel) rfl (by decide +kernel) g2 ?_
  by_cases hc3 : (σ 688 (x1).toNat) = (σ 688 (x2).toNat)
  · refine g_icmpF 15 19 (show op 332 12 = some (.if_icmp .ne 7, 3) by decide +kernel) rfl rfl (decide_eq_false (fun h9 => h9 hc3)) ?_
    refine g_iconst 16 (show op 332 15 = some (.iconst 1, 1) by decide +kernel) rfl rfl ?_
    refine g_goto 20 (show op 332 16 = some (.goto 4, 3) by decide +kernel) rfl ?_
    have h9 := h; simp only [if_pos hc3] at h9; exact h9
  · refine g_icmpT 19 (show op 332 12 = some (.if_icmp .ne 7, 3) by decide +kernel) rfl (decide_eq_true hc3) ?_
    refine g_iconst 20 (show op 332 19 = some (.iconst 0, 1) by decide +kernel) rfl rfl ?_
    have h9 := h; simp only [if_neg hc3] at h9; exact h9
def C333_27 (x1 : Int) (x2 : Int) (x3 : Int) (d4 : Option AV) (d5 : Option AV) (d6 : Option AV) (σ : Sg) (o : Rs) : Prop := Gd 333 27 [(some (.inr (.inr (some 682)))), (some (.inl x1)), (some (.inl x2)), (some (.inl x3)), d4, d5, d6] [] σ 0 0 o
def C333_28 (x1 : Int) (x2 : Int) (x3 : Int) (d4 : Option AV) (d5 : Option AV) (d6 : Option AV) (y0 : Int) (σ : Sg) (o : Rs) : Prop := Gd 333 28 [(some (.inr (.inr (some 682)))), (some (.inl x1)), (some (.inl x2)), (some (.inl x3)), d4, d5, d6] [(.inl y0)] σ 0 0 o
def C333_48 (x1 : Int) (x2 : Int) (x3 : Int) (x4 : Int) (d5 : Option AV) (d6 : Option AV) (σ : Sg) (o : Rs) : Prop := Gd 333 48 [(some (.inr (.inr (some 682)))), (some (.inl x1)), (some (.inl x2)), (some (.inl x3)), (some (.inl x4)), d5, d6] [] σ 0 0 o
def C333_49 (x1 : Int) (x2 : Int) (x3 : Int) (x4 : Int) (d5 : Option AV) (d6 : Option AV) (y0 : Int) (σ : Sg) (o : Rs) : Prop := Gd 333 49 [(some (.inr (.inr (some 682)))), (some (.inl x1)), (some (.inl x2)), (some (.inl x3)), (some (.inl x4)), d5, d6] [(.inl y0)] σ 0 0 o
def C333_66 (d1 : Option AV) (d2 : Option AV) (x3 : Int) (x4 : Int) (x5 : Int) (d6 : Option AV) (y0 : Int) (σ : Sg) (o : Rs) : Prop := Gd 333 66 [(some (.inr (.inr (some 682)))), d1, d2, (some (.inl x3)), (some (.inl x4)), (some (.inl x5)), d6] [(.inl y0)] σ 0 0 o
def C333_97 (d1 : Option AV) (d2 : Option AV) (x3 : Int) (d4 : Option AV) (d5 : Option AV) (x6 : Int) (y1 : Int) (σ : Sg) (o : Rs) : Prop := Gd 333 97 [(some (.inr (.inr (some 682)))), d1, d2, (some (.inl x3)), d4, d5, (some (.inl x6))] [(.inl y1), (.inr (.inr (some 682)))] σ 0 0 o
def C333_92 (d1 : Option AV) (d2 : Option AV) (x3 : Int) (d4 : Option AV) (d5 : Option AV) (x6 : Int) (σ : Sg) (o : Rs) : Prop := Gd 333 92 [(some (.inr (.inr (some 682)))), d1, d2, (some (.inl x3)), d4, d5, (some (.inl x6))] [(.inr (.inr (some 682)))] σ 0 0 o
theorem b333_27 {x1 : Int} {x2 : Int} {x3 : Int} {d4 : Option AV} {d5 : Option AV} {d6 : Option AV} {σ : Sg} {o : Rs}   (h : C333_28 x1 x2 x3 d4 d5 d6 0 σ o) : C333_27 x1 x2 x3 d4 d5 d6 σ o := by
  show Gd 333 27 [(some (.inr (.inr (some 682)))), (some (.inl x1)), (some (.inl x2)), (some (.inl x3)), d4, d5, d6] [] σ 0 0 o
  refine g_iconst 28 (show op 333 27 = some (.iconst 0, 1) by decide +kernel) rfl rfl ?_
  exact h
theorem b333_28 {x1 : Int} {x2 : Int} {x3 : Int} {d4 : Option AV} {d5 : Option AV} {d6 : Option AV} {y0 : Int} {σ : Sg} {o : Rs}   (h : (if y0 = 0 then C333_48 x1 x2 x3 y0 d5 d6 σ o else (∃ (v2 : Int) (s1 : Sg), Dd 332 [(.inr (.inr (some 682))), (.inl x1), (.inl x2)] σ (.inl (some (.inl v2)), s1) ∧ (if v2 = 0 then C333_48 x1 x2 x3 y0 d5 d6 s1 o else C333_49 x1 x2 x3 y0 d5 d6 1 s1 o)))) : C333_28 x1 x2 x3 d4 d5 d6 y0 σ o := by
  show Gd 333 28 [(some (.inr (.inr (some 682)))), (some (.inl x1)), (some (.inl x2)), (some (.inl x3)), d4, d5, d6] [(.inl y0)] σ 0 0 o
  refine g_istore 30 [(some (.inr (.inr (some 682)))), (some (.inl x1)), (some (.inl x2)), (some (.inl x3)), (some (.inl y0)), d5, d6] (show op 333 28 = some (.istore 4, 2) by decide +kernel) rfl rfl rfl ?_
  refine g_iload 32 (show op 333 30 = some (.iload 4, 2) by decide +kernel) rfl rfl ?_
  by_cases hc4 : y0 = 0
  · rw [if_pos hc4] at h
    refine g_ifT 48 (show op 333 32 = some (.ifCond .eq 16, 3) by decide +kernel) rfl (decide_eq_true hc4) ?_
    exact h
  · rw [if_neg hc4] at h
    refine g_ifF 35 48 (show op 333 32 = some (.ifCond .eq 16, 3) by decide +kernel) rfl rfl (decide_eq_false hc4) ?_
    refine g_aload_n 36 (show op 333 35 = some (.aload_n 0, 1) by decide +kernel) rfl rfl ?_
    refine g_iload_n 37 (show op 333 36 = some (.iload_n 1, 1) by decide +kernel) rfl rfl ?_
    refine g_iload_n 38 (show op 333 37 = some (.iload_n 2, 1) by decide +kernel) rfl rfl ?_
    obtain ⟨v2, s1, hD3, h⟩ := h
    refine g_call 41 [(.inl v2)] (show op 333 38 = some (.invokevirtual 379, 3) by decide +kernel) (call_vi' (k' := 0) (n' := 0) (nj := 3) (j := 332) (k9 := 21) (t := []) (as := [(.inr (.inr (some 682))), (.inl x1), (.inl x2)]) (by decide +kernel) rfl (by decide +kernel) rfl rfl rfl rfl rfl rfl (by decide +kernel) (by decide +kernel)) hD3 rfl ?_
    by_cases hc5 : v2 = 0
    · rw [if_pos hc5] at h
      refine g_ifT 48 (show op 333 41 = some (.ifCond .eq 7, 3) by decide +kernel) rfl (decide_eq_true hc5) ?_
      exact h
    · rw [if_neg hc5] at h
      refine g_ifF 44 48 (show op 333 41 = some (.ifCond .eq 7, 3) by decide +kernel) rfl rfl (decide_eq_false hc5) ?_
      refine g_iconst 45 (show op 333 44 = some (.iconst 1, 1) by decide +kernel) rfl rfl ?_
      refine g_goto 49 (show op 333 45 = some (.goto 4, 3) by decide +kernel) rfl ?_
      exact h
theorem b333_48 {x1 : Int} {x2 : Int} {x3 : Int} {x4 : Int} {d5 : Option AV} {d6 : Option AV} {σ : Sg} {o : Rs}   (h : C333_49 x1 x2 x3 x4 d5 d6 0 σ o) : C333_48 x1 x2 x3 x4 d5 d6 σ o := by
  show Gd 333 48 [(some (.inr (.inr (some 682)))), (some (.inl x1)), (some (.inl x2)), (some (.inl x3)), (some (.inl x4)), d5, d6] [] σ 0 0 o
  refine g_iconst 49 (show op 333 48 = some (.iconst 0, 1) by decide +kernel) rfl rfl ?_
  exact h
theorem b333_49 {x1 : Int} {x2 : Int} {x3 : Int} {x4 : Int} {d5 : Option AV} {d6 : Option AV} {y0 : Int} {σ : Sg} {o : Rs}   (h : (if y0 = 0 then C333_66 (some (.inl x1)) (some (.inl x2)) x3 x4 y0 d6 0 σ o else (∃ (v2 : Int) (s1 : Sg), Dd 331 [(.inr (.inr (some 682))), (.inl x1), (.inl x2)] σ (.inl (some (.inl v2)), s1) ∧ C333_66 (some (.inl x1)) (some (.inl x2)) x3 x4 y0 d6 v2 s1 o))) : C333_49 x1 x2 x3 x4 d5 d6 y0 σ o := by
  show Gd 333 49 [(some (.inr (.inr (some 682)))), (some (.inl x1)), (some (.inl x2)), (some (.inl x3)), (some (.inl x4)), d5, d6] [(.inl y0)] σ 0 0 o
  refine g_istore 51 [(some (.inr (.inr (some 682)))), (some (.inl x1)), (some (.inl x2)), (some (.inl x3)), (some (.inl x4)), (some (.inl y0)), d6] (show op 333 49 = some (.istore 5, 2) by decide +kernel) rfl rfl rfl ?_
  refine g_iload 53 (show op 333 51 = some (.iload 5, 2) by decide +kernel) rfl rfl ?_
  by_cases hc4 : y0 = 0
  · rw [if_pos hc4] at h
    refine g_ifT 65 (show op 333 53 = some (.ifCond .eq 12, 3) by decide +kernel) rfl (decide_eq_true hc4) ?_
    refine g_iconst 66 (show op 333 65 = some (.iconst 0, 1) by decide +kernel) rfl rfl ?_
    exact h
  · rw [if_neg hc4] at h
    refine g_ifF 56 65 (show op 333 53 = some (.ifCond .eq 12, 3) by decide +kernel) rfl rfl (decide_eq_false hc4) ?_
    refine g_aload_n 57 (show op 333 56 = some (.aload_n 0, 1) by decide +kernel) rfl rfl ?_
    refine g_iload_n 58 (show op 333 57 = some (.iload_n 1, 1) by decide +kernel) rfl rfl ?_
    refine g_iload_n 59 (show op 333 58 = some (.iload_n 2, 1) by decide +kernel) rfl rfl ?_
    obtain ⟨v2, s1, hD3, h⟩ := h
    refine g_call 62 [(.inl v2)] (show op 333 59 = some (.invokevirtual 382, 3) by decide +kernel) (call_vi' (k' := 0) (n' := 0) (nj := 3) (j := 331) (k9 := 21) (t := []) (as := [(.inr (.inr (some 682))), (.inl x1), (.inl x2)]) (by decide +kernel) rfl (by decide +kernel) rfl rfl rfl rfl rfl rfl (by decide +kernel) (by decide +kernel)) hD3 rfl ?_
    refine g_goto 66 (show op 333 62 = some (.goto 4, 3) by decide +kernel) rfl ?_
    exact h
theorem b333_66 {d1 : Option AV} {d2 : Option AV} {x3 : Int} {x4 : Int} {x5 : Int} {d6 : Option AV} {y0 : Int} {σ : Sg} {o : Rs}   (h : (if x4 = 0 then C333_97 d1 d2 x3 (some (.inl x4)) (some (.inl x5)) y0 1 σ o else (if x5 = 0 then C333_92 d1 d2 x3 (some (.inl x4)) (some (.inl x5)) y0 σ o else (if 16 < (σ 682 32) then C333_92 d1 d2 x3 (some (.inl x4)) (some (.inl x5)) y0 σ o else C333_97 d1 d2 x3 (some (.inl x4)) (some (.inl x5)) y0 0 σ o)))) : C333_66 d1 d2 x3 x4 x5 d6 y0 σ o := by
  show Gd 333 66 [(some (.inr (.inr (some 682)))), d1, d2, (some (.inl x3)), (some (.inl x4)), (some (.inl x5)), d6] [(.inl y0)] σ 0 0 o
  refine g_istore 68 [(some (.inr (.inr (some 682)))), d1, d2, (some (.inl x3)), (some (.inl x4)), (some (.inl x5)), (some (.inl y0))] (show op 333 66 = some (.istore 6, 2) by decide +kernel) rfl rfl rfl ?_
  refine g_aload_n 69 (show op 333 68 = some (.aload_n 0, 1) by decide +kernel) rfl rfl ?_
  refine g_iload 71 (show op 333 69 = some (.iload 4, 2) by decide +kernel) rfl rfl ?_
  by_cases hc1 : x4 = 0
  · rw [if_pos hc1] at h
    refine g_ifF 74 78 (show op 333 71 = some (.ifCond .ne 7, 3) by decide +kernel) rfl rfl (decide_eq_false (fun h9 => h9 hc1)) ?_
    refine g_iconst 75 (show op 333 74 = some (.iconst 1, 1) by decide +kernel) rfl rfl ?_
    refine g_goto 97 (show op 333 75 = some (.goto 22, 3) by decide +kernel) rfl ?_
    exact h
  · rw [if_neg hc1] at h
    refine g_ifT 78 (show op 333 71 = some (.ifCond .ne 7, 3) by decide +kernel) rfl (decide_eq_true hc1) ?_
    refine g_iload 80 (show op 333 78 = some (.iload 5, 2) by decide +kernel) rfl rfl ?_
    by_cases hc2 : x5 = 0
    · rw [if_pos hc2] at h
      refine g_ifT 92 (show op 333 80 = some (.ifCond .eq 12, 3) by decide +kernel) rfl (decide_eq_true hc2) ?_
      exact h
    · rw [if_neg hc2] at h
      refine g_ifF 83 92 (show op 333 80 = some (.ifCond .eq 12, 3) by decide +kernel) rfl rfl (decide_eq_false hc2) ?_
      refine g_aload_n 84 (show op 333 83 = some (.aload_n 0, 1) by decide +kernel) rfl rfl ?_
      refine g_getI (ci := 11) (f := 32) (fin := false) (isR := false) 87 (show op 333 84 = some (.getfield 335, 3) by decide +kernel) rfl (by decide +kernel) (by decide +kernel) ?_
      refine g_bipush 89 (show op 333 87 = some (.bipush 16, 2) by decide +kernel) rfl (by decide) ?_
      by_cases hc3 : 16 < (σ 682 32)
      · rw [if_pos hc3] at h
        refine g_icmpF 92 96 (show op 333 89 = some (.if_icmp .le 7, 3) by decide +kernel) rfl rfl (decide_eq_false (Int.not_le.mpr hc3)) ?_
        exact h
      · rw [if_neg hc3] at h
        refine g_icmpT 96 (show op 333 89 = some (.if_icmp .le 7, 3) by decide +kernel) rfl (decide_eq_true (Int.not_lt.mp hc3)) ?_
        refine g_iconst 97 (show op 333 96 = some (.iconst 0, 1) by decide +kernel) rfl rfl ?_
        exact h
theorem b333_97 {d1 : Option AV} {d2 : Option AV} {x3 : Int} {d4 : Option AV} {d5 : Option AV} {x6 : Int} {y1 : Int} {σ : Sg} {o : Rs}   (h : (∃ (v2 : Int) (s1 : Sg), Dd 245 [(.inr (.inr (some 682))), (.inl y1)] σ (.inl (some (.inl v2)), s1) ∧ (if v2 = 0 then o = (.inl (some (.inl 0)), s1) else (∃ (s4 : Sg), Dd 325 [(.inr (.inr (some 682))), (.inl x3)] s1 (.inl none, s4) ∧ o = (.inl (some (.inl x6)), s4))))) : C333_97 d1 d2 x3 d4 d5 x6 y1 σ o := by
  show Gd 333 97 [(some (.inr (.inr (some 682)))), d1, d2, (some (.inl x3)), d4, d5, (some (.inl x6))] [(.inl y1), (.inr (.inr (some 682)))] σ 0 0 o
  obtain ⟨v2, s1, hD3, h⟩ := h
  refine g_call 100 [(.inl v2)] (show op 333 97 = some (.invokevirtual 172, 3) by decide +kernel) (call_vi' (k' := 0) (n' := 0) (nj := 2) (j := 245) (k9 := 21) (t := []) (as := [(.inr (.inr (some 682))), (.inl y1)]) (by decide +kernel) rfl (by decide +kernel) rfl rfl rfl rfl rfl rfl (by decide +kernel) (by decide +kernel)) hD3 rfl ?_
  by_cases hc6 : v2 = 0
  · rw [if_pos hc6] at h
    refine g_ifF 103 105 (show op 333 100 = some (.ifCond .ne 5, 3) by decide +kernel) rfl rfl (decide_eq_false (fun h9 => h9 hc6)) ?_
    refine g_iconst 104 (show op 333 103 = some (.iconst 0, 1) by decide +kernel) rfl rfl ?_
    exact (g_iret (show op 333 104 = some (.ireturn, 1) by decide +kernel) (by decide +kernel) h)
  · rw [if_neg hc6] at h
    refine g_ifT 105 (show op 333 100 = some (.ifCond .ne 5, 3) by decide +kernel) rfl (decide_eq_true hc6) ?_
    refine g_aload_n 106 (show op 333 105 = some (.aload_n 0, 1) by decide +kernel) rfl rfl ?_
    refine g_iload_n 107 (show op 333 106 = some (.iload_n 3, 1) by decide +kernel) rfl rfl ?_
    obtain ⟨s4, hD5, h⟩ := h
    refine g_call 110 [] (show op 333 107 = some (.invokevirtual 362, 3) by decide +kernel) (call_vi' (k' := 0) (n' := 0) (nj := 2) (j := 325) (k9 := 21) (t := []) (as := [(.inr (.inr (some 682))), (.inl x3)]) (by decide +kernel) rfl (by decide +kernel) rfl rfl rfl rfl rfl rfl (by decide +kernel) (by decide +kernel)) hD5 rfl ?_
    refine g_iload 112 (show op 333 110 = some (.iload 6, 2) by decide +kernel) rfl rfl ?_
    exact (g_iret (show op 333 112 = some (.ireturn, 1) by decide +kernel) (by decide +kernel) h)
theorem b333_92 {d1 : Option AV} {d2 : Option AV} {x3 : Int} {d4 : Option AV} {d5 : Option AV} {x6 : Int} {σ : Sg} {o : Rs}   (h : C333_97 d1 d2 x3 d4 d5 x6 2 σ o) : C333_92 d1 d2 x3 d4 d5 x6 σ o := by
  show Gd 333 92 [(some (.inr (.inr (some 682)))), d1, d2, (some (.inl x3)), d4, d5, (some (.inl x6))] [(.inr (.inr (some 682)))] σ 0 0 o
  refine g_iconst 93 (show op 333 92 = some (.iconst 2, 1) by decide +kernel) rfl rfl ?_
  refine g_goto 97 (show op 333 93 = some (.goto 4, 3) by decide +kernel) rfl ?_
  exact h
/-- PatchBenchModel.merge (III)I -/
theorem b333 {x1 : Int} {x2 : Int} {x3 : Int} {σ : Sg} {o : Rs}   (h : (∃ (v2 : Int) (s1 : Sg), Dd 248 [(.inr (.inr (some 682))), (.inl x1)] σ (.inl (some (.inl v2)), s1) ∧ (if v2 = 0 then C333_27 x1 x2 x3 none none none s1 o else (∃ (v5 : Int) (s4 : Sg), Dd 248 [(.inr (.inr (some 682))), (.inl x2)] s1 (.inl (some (.inl v5)), s4) ∧ (if v5 = 0 then C333_27 x1 x2 x3 none none none s4 o else (∃ (v8 : Int) (s7 : Sg), Dd 247 [(.inl x3)] s4 (.inl (some (.inl v8)), s7) ∧ (if v8 = 0 then C333_27 x1 x2 x3 none none none s7 o else C333_28 x1 x2 x3 none none none 1 s7 o))))))) : Dd 333 [(.inr (.inr (some 682))), (.inl x1), (.inl x2), (.inl x3)] σ o := by
  refine Dd_of (l := 7) (by decide +kernel) ?_
  show Gd 333 0 [(some (.inr (.inr (some 682)))), (some (.inl x1)), (some (.inl x2)), (some (.inl x3)), none, none, none] [] σ 0 0 o
  refine g_aload_n 1 (show op 333 0 = some (.aload_n 0, 1) by decide +kernel) rfl rfl ?_
  refine g_iload_n 2 (show op 333 1 = some (.iload_n 1, 1) by decide +kernel) rfl rfl ?_
  obtain ⟨v2, s1, hD3, h⟩ := h
  refine g_call 5 [(.inl v2)] (show op 333 2 = some (.invokevirtual 290, 3) by decide +kernel) (call_vi' (k' := 0) (n' := 0) (nj := 2) (j := 248) (k9 := 21) (t := []) (as := [(.inr (.inr (some 682))), (.inl x1)]) (by decide +kernel) rfl (by decide +kernel) rfl rfl rfl rfl rfl rfl (by decide +kernel) (by decide +kernel)) hD3 rfl ?_
  by_cases hc10 : v2 = 0
  · rw [if_pos hc10] at h
    refine g_ifT 27 (show op 333 5 = some (.ifCond .eq 22, 3) by decide +kernel) rfl (decide_eq_true hc10) ?_
    exact h
  · rw [if_neg hc10] at h
    refine g_ifF 8 27 (show op 333 5 = some (.ifCond .eq 22, 3) by decide +kernel) rfl rfl (decide_eq_false hc10) ?_
    refine g_aload_n 9 (show op 333 8 = some (.aload_n 0, 1) by decide +kernel) rfl rfl ?_
    refine g_iload_n 10 (show op 333 9 = some (.iload_n 2, 1) by decide +kernel) rfl rfl ?_
    obtain ⟨v5, s4, hD6, h⟩ := h
    refine g_call 13 [(.inl v5)] (show op 333 10 = some (.invokevirtual 290, 3) by decide +kernel) (call_vi' (k' := 0) (n' := 0) (nj := 2) (j := 248) (k9 := 21) (t := []) (as := [(.inr (.inr (some 682))), (.inl x2)]) (by decide +kernel) rfl (by decide +kernel) rfl rfl rfl rfl rfl rfl (by decide +kernel) (by decide +kernel)) hD6 rfl ?_
    by_cases hc11 : v5 = 0
    · rw [if_pos hc11] at h
      refine g_ifT 27 (show op 333 13 = some (.ifCond .eq 14, 3) by decide +kernel) rfl (decide_eq_true hc11) ?_
      exact h
    · rw [if_neg hc11] at h
      refine g_ifF 16 27 (show op 333 13 = some (.ifCond .eq 14, 3) by decide +kernel) rfl rfl (decide_eq_false hc11) ?_
      refine g_iload_n 17 (show op 333 16 = some (.iload_n 3, 1) by decide +kernel) rfl rfl ?_
      obtain ⟨v8, s7, hD9, h⟩ := h
      refine g_call 20 [(.inl v8)] (show op 333 17 = some (.invokestatic 166, 3) by decide +kernel) (call_st' (k' := 0) (n' := 0) (nj := 1) (j := 247) (t := []) (as := [(.inl x3)]) (by decide +kernel) rfl (by decide +kernel) rfl rfl rfl rfl rfl) hD9 rfl ?_
      by_cases hc12 : v8 = 0
      · rw [if_pos hc12] at h
        refine g_ifT 27 (show op 333 20 = some (.ifCond .eq 7, 3) by decide +kernel) rfl (decide_eq_true hc12) ?_
        exact h
      · rw [if_neg hc12] at h
        refine g_ifF 23 27 (show op 333 20 = some (.ifCond .eq 7, 3) by decide +kernel) rfl rfl (decide_eq_false hc12) ?_
        refine g_iconst 24 (show op 333 23 = some (.iconst 1, 1) by decide +kernel) rfl rfl ?_
        refine g_goto 28 (show op 333 24 = some (.goto 4, 3) by decide +kernel) rfl ?_
        exact h
def C334_4 (x1 : Int) (d2 : Option AV) (x3 : Int) (σ : Sg) (o : Rs) : Prop := Gd 334 4 [(some (.inr (.inr (some 682)))), (some (.inl x1)), d2, (some (.inl x3))] [] σ 0 0 o
theorem b334_4 {x1 : Int} {d2 : Option AV} {x3 : Int} {σ : Sg} {o : Rs}   (h : (0 ≤ x1 ∧ x1 < 4) ∧ (if x3 < (σ 684 (x1).toNat) then (-2147483648 ≤ (16 * x1) ∧ (16 * x1) ≤ 2147483647) ∧ (-2147483648 ≤ ((16 * x1) + x3) ∧ ((16 * x1) + x3) ≤ 2147483647) ∧ (0 ≤ ((16 * x1) + x3) ∧ ((16 * x1) + x3) < 64) ∧ (∃ (v6 : Int) (s5 : Sg), Dd 249 [(.inl (σ 683 (((16 * x1) + x3)).toNat))] σ (.inl (some (.inl v6)), s5) ∧ (if v6 = 0 then (-2147483648 ≤ (x3 + 1) ∧ (x3 + 1) ≤ 2147483647) ∧ C334_4 x1 d2 (x3 + 1) s5 o else o = (.inl (some (.inl x3)), s5))) else o = (.inl (some (.inl x3)), σ))) : C334_4 x1 d2 x3 σ o := by
  show Gd 334 4 [(some (.inr (.inr (some 682)))), (some (.inl x1)), d2, (some (.inl x3))] [] σ 0 0 o
  refine g_iload_n 5 (show op 334 4 = some (.iload_n 3, 1) by decide +kernel) rfl rfl ?_
  refine g_aload_n 6 (show op 334 5 = some (.aload_n 0, 1) by decide +kernel) rfl rfl ?_
  refine g_getR (ci := 11) (f := 2) (fin := true) (isR := true) 9 684 (show op 334 6 = some (.getfield 13, 3) by decide +kernel) rfl (by decide +kernel) (by decide +kernel) ?_
  refine g_iload_n 10 (show op 334 9 = some (.iload_n 1, 1) by decide +kernel) rfl rfl ?_
  obtain ⟨g1, h⟩ := h
  refine g_iaload 11 4 (show op 334 10 = some (.iaload, 1) by decide +kernel) rfl (by decide +kernel) g1 ?_
  by_cases hc9 : x3 < (σ 684 (x1).toNat)
  · rw [if_pos hc9] at h
    refine g_icmpF 14 37 (show op 334 11 = some (.if_icmp .ge 26, 3) by decide +kernel) rfl rfl (decide_eq_false (Int.not_le.mpr hc9)) ?_
    refine g_aload_n 15 (show op 334 14 = some (.aload_n 0, 1) by decide +kernel) rfl rfl ?_
    refine g_getR (ci := 11) (f := 1) (fin := true) (isR := true) 18 683 (show op 334 15 = some (.getfield 7, 3) by decide +kernel) rfl (by decide +kernel) (by decide +kernel) ?_
    refine g_bipush 20 (show op 334 18 = some (.bipush 16, 2) by decide +kernel) rfl (by decide) ?_
    refine g_iload_n 21 (show op 334 20 = some (.iload_n 1, 1) by decide +kernel) rfl rfl ?_
    obtain ⟨g2, h⟩ := h
    refine g_imul 22 (show op 334 21 = some (.imul, 1) by decide +kernel) rfl g2 ?_
    refine g_iload_n 23 (show op 334 22 = some (.iload_n 3, 1) by decide +kernel) rfl rfl ?_
    obtain ⟨g3, h⟩ := h
    refine g_iadd 24 (show op 334 23 = some (.iadd, 1) by decide +kernel) rfl g3 ?_
    obtain ⟨g4, h⟩ := h
    refine g_iaload 25 64 (show op 334 24 = some (.iaload, 1) by decide +kernel) rfl (by decide +kernel) g4 ?_
    obtain ⟨v6, s5, hD7, h⟩ := h
    refine g_call 28 [(.inl v6)] (show op 334 25 = some (.invokestatic 154, 3) by decide +kernel) (call_st' (k' := 0) (n' := 0) (nj := 1) (j := 249) (t := []) (as := [(.inl (σ 683 (((16 * x1) + x3)).toNat))]) (by decide +kernel) rfl (by decide +kernel) rfl rfl rfl rfl rfl) hD7 rfl ?_
    by_cases hc10 : v6 = 0
    · rw [if_pos hc10] at h
      refine g_ifF 31 37 (show op 334 28 = some (.ifCond .ne 9, 3) by decide +kernel) rfl rfl (decide_eq_false (fun h9 => h9 hc10)) ?_
      obtain ⟨g8, h⟩ := h
      refine g_iinc 34 [(some (.inr (.inr (some 682)))), (some (.inl x1)), d2, (some (.inl (x3 + 1)))] (show op 334 31 = some (.iinc 3 1, 3) by decide +kernel) rfl rfl g8 rfl ?_
      refine g_goto 4 (show op 334 34 = some (.goto (-30), 3) by decide +kernel) rfl ?_
      exact h
    · rw [if_neg hc10] at h
      refine g_ifT 37 (show op 334 28 = some (.ifCond .ne 9, 3) by decide +kernel) rfl (decide_eq_true hc10) ?_
      refine g_iload_n 38 (show op 334 37 = some (.iload_n 3, 1) by decide +kernel) rfl rfl ?_
      exact (g_iret (show op 334 38 = some (.ireturn, 1) by decide +kernel) (by decide +kernel) h)
  · rw [if_neg hc9] at h
    refine g_icmpT 37 (show op 334 11 = some (.if_icmp .ge 26, 3) by decide +kernel) rfl (decide_eq_true (Int.not_lt.mp hc9)) ?_
    refine g_iload_n 38 (show op 334 37 = some (.iload_n 3, 1) by decide +kernel) rfl rfl ?_
    exact (g_iret (show op 334 38 = some (.ireturn, 1) by decide +kernel) (by decide +kernel) h)
/-- PatchBenchModel.nextMark (II)I -/
theorem b334 {x1 : Int} {x2 : Int} {σ : Sg} {o : Rs}   (h : (-2147483648 ≤ (x2 + 1) ∧ (x2 + 1) ≤ 2147483647) ∧ C334_4 x1 (some (.inl x2)) (x2 + 1) σ o) : Dd 334 [(.inr (.inr (some 682))), (.inl x1), (.inl x2)] σ o := by
  refine Dd_of (l := 4) (by decide +kernel) ?_
  show Gd 334 0 [(some (.inr (.inr (some 682)))), (some (.inl x1)), (some (.inl x2)), none] [] σ 0 0 o
  refine g_iload_n 1 (show op 334 0 = some (.iload_n 2, 1) by decide +kernel) rfl rfl ?_
  refine g_iconst 2 (show op 334 1 = some (.iconst 1, 1) by decide +kernel) rfl rfl ?_
  obtain ⟨g1, h⟩ := h
  refine g_iadd 3 (show op 334 2 = some (.iadd, 1) by decide +kernel) rfl g1 ?_
  refine g_istore_n 4 [(some (.inr (.inr (some 682)))), (some (.inl x1)), (some (.inl x2)), (some (.inl (x2 + 1)))] (show op 334 3 = some (.istore_n 3, 1) by decide +kernel) rfl rfl rfl ?_
  exact h
/-- PatchBenchModel.isMarked (III)Z -/
theorem b335 {x1 : Int} {x2 : Int} {x3 : Int} {σ : Sg} {o : Rs}   (h : (0 ≤ x1 ∧ x1 < 4) ∧ ((x2 < (σ 684 (x1).toNat)) → -2147483648 ≤ (16 * x1) ∧ (16 * x1) ≤ 2147483647) ∧ ((x2 < (σ 684 (x1).toNat)) → -2147483648 ≤ ((16 * x1) + x2) ∧ ((16 * x1) + x2) ≤ 2147483647) ∧ ((x2 < (σ 684 (x1).toNat)) → 0 ≤ ((16 * x1) + x2) ∧ ((16 * x1) + x2) < 64) ∧ o = (.inl (some (.inl (if x2 < (σ 684 (x1).toNat) then (if (σ 683 (((16 * x1) + x2)).toNat) = x3 then 1 else 0) else 0))), σ)) : Dd 335 [(.inr (.inr (some 682))), (.inl x1), (.inl x2), (.inl x3)] σ o := by
  refine Dd_of (l := 4) (by decide +kernel) ?_
  show Gd 335 0 [(some (.inr (.inr (some 682)))), (some (.inl x1)), (some (.inl x2)), (some (.inl x3))] [] σ 0 0 o
  refine g_iload_n 1 (show op 335 0 = some (.iload_n 2, 1) by decide +kernel) rfl rfl ?_
  refine g_aload_n 2 (show op 335 1 = some (.aload_n 0, 1) by decide +kernel) rfl rfl ?_
  refine g_getR (ci := 11) (f := 2) (fin := true) (isR := true) 5 684 (show op 335 2 = some (.getfield 13, 3) by decide +kernel) rfl (by decide +kernel) (by decide +kernel) ?_
  refine g_iload_n 6 (show op 335 5 = some (.iload_n 1, 1) by decide +kernel) rfl rfl ?_
  obtain ⟨g1, h⟩ := h
  refine g_iaload 7 4 (show op 335 6 = some (.iaload, 1) by decide +kernel) rfl (by decide +kernel) g1 ?_
  obtain ⟨G6, G7, G8, h⟩ := h
  by_cases hc5 : x2 < (σ 684 (x1).toNat)
  · refine g_icmpF 10 29 (show op 335 7 = some (.if_icmp .ge 22, 3) by decide +kernel) rfl rfl (decide_eq_false (Int.not_le.mpr hc5)) ?_
    refine g_aload_n 11 (show op 335 10 = some (.aload_n 0, 1) by decide +kernel) rfl rfl ?_
    refine g_getR (ci := 11) (f := 1) (fin := true) (isR := true) 14 683 (show op 335 11 = some (.getfield 7, 3) by decide +kernel) rfl (by decide +kernel) (by decide +kernel) ?_
    refine g_bipush 16 (show op 335 14 = some (.bipush 16, 2) by decide +kernel) rfl (by decide) ?_
    refine g_iload_n 17 (show op 335 16 = some (.iload_n 1, 1) by decide +kernel) rfl rfl ?_
    have g2 := G6 hc5
    refine g_imul 18 (show op 335 17 = some (.imul, 1) by decide +kernel) rfl g2 ?_
    refine g_iload_n 19 (show op 335 18 = some (.iload_n 2, 1) by decide +kernel) rfl rfl ?_
    have g3 := G7 hc5
    refine g_iadd 20 (show op 335 19 = some (.iadd, 1) by decide +kernel) rfl g3 ?_
    have g4 := G8 hc5
    refine g_iaload 21 64 (show op 335 20 = some (.iaload, 1) by decide +kernel) rfl (by decide +kernel) g4 ?_
    refine g_iload_n 22 (show op 335 21 = some (.iload_n 3, 1) by decide +kernel) rfl rfl ?_
    by_cases hc9 : (σ 683 (((16 * x1) + x2)).toNat) = x3
    · refine g_icmpF 25 29 (show op 335 22 = some (.if_icmp .ne 7, 3) by decide +kernel) rfl rfl (decide_eq_false (fun h9 => h9 hc9)) ?_
      refine g_iconst 26 (show op 335 25 = some (.iconst 1, 1) by decide +kernel) rfl rfl ?_
      refine g_goto 30 (show op 335 26 = some (.goto 4, 3) by decide +kernel) rfl ?_
      have h9 := h; simp only [if_pos hc5, if_pos hc9] at h9; exact (g_zret (show op 335 30 = some (.ireturn, 1) by decide +kernel) (by decide +kernel) (by decide) h9)
    · refine g_icmpT 29 (show op 335 22 = some (.if_icmp .ne 7, 3) by decide +kernel) rfl (decide_eq_true hc9) ?_
      refine g_iconst 30 (show op 335 29 = some (.iconst 0, 1) by decide +kernel) rfl rfl ?_
      have h9 := h; simp only [if_pos hc5, if_neg hc9] at h9; exact (g_zret (show op 335 30 = some (.ireturn, 1) by decide +kernel) (by decide +kernel) (by decide) h9)
  · refine g_icmpT 29 (show op 335 7 = some (.if_icmp .ge 22, 3) by decide +kernel) rfl (decide_eq_true (Int.not_lt.mp hc5)) ?_
    refine g_iconst 30 (show op 335 29 = some (.iconst 0, 1) by decide +kernel) rfl rfl ?_
    have h9 := h; simp only [if_neg hc5] at h9; exact (g_zret (show op 335 30 = some (.ireturn, 1) by decide +kernel) (by decide +kernel) (by decide) h9)
/-- PatchBenchModel.isConflict (II)Z -/
theorem b336 {x1 : Int} {x2 : Int} {σ : Sg} {o : Rs}   (h : (∃ (v2 : Int) (s1 : Sg), Dd 334 [(.inr (.inr (some 682))), (.inl x1), (.inl x2)] σ (.inl (some (.inl v2)), s1) ∧ (∃ (v5 : Int) (s4 : Sg), Dd 335 [(.inr (.inr (some 682))), (.inl x1), (.inl x2), (.inl 50001)] s1 (.inl (some (.inl v5)), s4) ∧ (if v5 = 0 then o = (.inl (some (.inl 0)), s4) else (∃ (v8 : Int) (s7 : Sg), Dd 335 [(.inr (.inr (some 682))), (.inl x1), (.inl v2), (.inl 50002)] s4 (.inl (some (.inl v8)), s7) ∧ (if v8 = 0 then o = (.inl (some (.inl 0)), s7) else (∃ (v11 : Int) (s10 : Sg), Dd 334 [(.inr (.inr (some 682))), (.inl x1), (.inl v2)] s7 (.inl (some (.inl v11)), s10) ∧ (∃ (v14 : Int) (s13 : Sg), Dd 335 [(.inr (.inr (some 682))), (.inl x1), (.inl v11), (.inl 50003)] s10 (.inl (some (.inl v14)), s13) ∧ o = (.inl (some (.inl (if v14 = 0 then 0 else 1))), s13))))))))) : Dd 336 [(.inr (.inr (some 682))), (.inl x1), (.inl x2)] σ o := by
  refine Dd_of (l := 4) (by decide +kernel) ?_
  show Gd 336 0 [(some (.inr (.inr (some 682)))), (some (.inl x1)), (some (.inl x2)), none] [] σ 0 0 o
  refine g_aload_n 1 (show op 336 0 = some (.aload_n 0, 1) by decide +kernel) rfl rfl ?_
  refine g_iload_n 2 (show op 336 1 = some (.iload_n 1, 1) by decide +kernel) rfl rfl ?_
  refine g_iload_n 3 (show op 336 2 = some (.iload_n 2, 1) by decide +kernel) rfl rfl ?_
  obtain ⟨v2, s1, hD3, h⟩ := h
  refine g_call 6 [(.inl v2)] (show op 336 3 = some (.invokevirtual 385, 3) by decide +kernel) (call_vi' (k' := 0) (n' := 0) (nj := 3) (j := 334) (k9 := 21) (t := []) (as := [(.inr (.inr (some 682))), (.inl x1), (.inl x2)]) (by decide +kernel) rfl (by decide +kernel) rfl rfl rfl rfl rfl rfl (by decide +kernel) (by decide +kernel)) hD3 rfl ?_
  refine g_istore_n 7 [(some (.inr (.inr (some 682)))), (some (.inl x1)), (some (.inl x2)), (some (.inl v2))] (show op 336 6 = some (.istore_n 3, 1) by decide +kernel) rfl rfl rfl ?_
  refine g_aload_n 8 (show op 336 7 = some (.aload_n 0, 1) by decide +kernel) rfl rfl ?_
  refine g_iload_n 9 (show op 336 8 = some (.iload_n 1, 1) by decide +kernel) rfl rfl ?_
  refine g_iload_n 10 (show op 336 9 = some (.iload_n 2, 1) by decide +kernel) rfl rfl ?_
  refine g_ldc (v := 50001) 12 (show op 336 10 = some (.ldc 151, 2) by decide +kernel) rfl (by decide +kernel) rfl ?_
  obtain ⟨v5, s4, hD6, h⟩ := h
  refine g_call 15 [(.inl v5)] (show op 336 12 = some (.invokevirtual 388, 3) by decide +kernel) (call_vi' (k' := 0) (n' := 0) (nj := 4) (j := 335) (k9 := 21) (t := []) (as := [(.inr (.inr (some 682))), (.inl x1), (.inl x2), (.inl 50001)]) (by decide +kernel) rfl (by decide +kernel) rfl rfl rfl rfl rfl rfl (by decide +kernel) (by decide +kernel)) hD6 rfl ?_
  by_cases hc16 : v5 = 0
  · rw [if_pos hc16] at h
    refine g_ifT 50 (show op 336 15 = some (.ifCond .eq 35, 3) by decide +kernel) rfl (decide_eq_true hc16) ?_
    refine g_iconst 51 (show op 336 50 = some (.iconst 0, 1) by decide +kernel) rfl rfl ?_
    exact (g_zret (show op 336 51 = some (.ireturn, 1) by decide +kernel) (by decide +kernel) (by decide) h)
  · rw [if_neg hc16] at h
    refine g_ifF 18 50 (show op 336 15 = some (.ifCond .eq 35, 3) by decide +kernel) rfl rfl (decide_eq_false hc16) ?_
    refine g_aload_n 19 (show op 336 18 = some (.aload_n 0, 1) by decide +kernel) rfl rfl ?_
    refine g_iload_n 20 (show op 336 19 = some (.iload_n 1, 1) by decide +kernel) rfl rfl ?_
    refine g_iload_n 21 (show op 336 20 = some (.iload_n 3, 1) by decide +kernel) rfl rfl ?_
    refine g_ldc_w (v := 50002) 24 (show op 336 21 = some (.ldc_w 378, 3) by decide +kernel) rfl (by decide +kernel) rfl ?_
    obtain ⟨v8, s7, hD9, h⟩ := h
    refine g_call 27 [(.inl v8)] (show op 336 24 = some (.invokevirtual 388, 3) by decide +kernel) (call_vi' (k' := 0) (n' := 0) (nj := 4) (j := 335) (k9 := 21) (t := []) (as := [(.inr (.inr (some 682))), (.inl x1), (.inl v2), (.inl 50002)]) (by decide +kernel) rfl (by decide +kernel) rfl rfl rfl rfl rfl rfl (by decide +kernel) (by decide +kernel)) hD9 rfl ?_
    by_cases hc17 : v8 = 0
    · rw [if_pos hc17] at h
      refine g_ifT 50 (show op 336 27 = some (.ifCond .eq 23, 3) by decide +kernel) rfl (decide_eq_true hc17) ?_
      refine g_iconst 51 (show op 336 50 = some (.iconst 0, 1) by decide +kernel) rfl rfl ?_
      exact (g_zret (show op 336 51 = some (.ireturn, 1) by decide +kernel) (by decide +kernel) (by decide) h)
    · rw [if_neg hc17] at h
      refine g_ifF 30 50 (show op 336 27 = some (.ifCond .eq 23, 3) by decide +kernel) rfl rfl (decide_eq_false hc17) ?_
      refine g_aload_n 31 (show op 336 30 = some (.aload_n 0, 1) by decide +kernel) rfl rfl ?_
      refine g_iload_n 32 (show op 336 31 = some (.iload_n 1, 1) by decide +kernel) rfl rfl ?_
      refine g_aload_n 33 (show op 336 32 = some (.aload_n 0, 1) by decide +kernel) rfl rfl ?_
      refine g_iload_n 34 (show op 336 33 = some (.iload_n 1, 1) by decide +kernel) rfl rfl ?_
      refine g_iload_n 35 (show op 336 34 = some (.iload_n 3, 1) by decide +kernel) rfl rfl ?_
      obtain ⟨v11, s10, hD12, h⟩ := h
      refine g_call 38 [(.inl v11), (.inl x1), (.inr (.inr (some 682)))] (show op 336 35 = some (.invokevirtual 385, 3) by decide +kernel) (call_vi' (k' := 0) (n' := 0) (nj := 3) (j := 334) (k9 := 21) (t := [(.inl x1), (.inr (.inr (some 682)))]) (as := [(.inr (.inr (some 682))), (.inl x1), (.inl v2)]) (by decide +kernel) rfl (by decide +kernel) rfl rfl rfl rfl rfl rfl (by decide +kernel) (by decide +kernel)) hD12 rfl ?_
      refine g_ldc (v := 50003) 40 (show op 336 38 = some (.ldc 152, 2) by decide +kernel) rfl (by decide +kernel) rfl ?_
      obtain ⟨v14, s13, hD15, h⟩ := h
      refine g_call 43 [(.inl v14)] (show op 336 40 = some (.invokevirtual 388, 3) by decide +kernel) (call_vi' (k' := 0) (n' := 0) (nj := 4) (j := 335) (k9 := 21) (t := []) (as := [(.inr (.inr (some 682))), (.inl x1), (.inl v11), (.inl 50003)]) (by decide +kernel) rfl (by decide +kernel) rfl rfl rfl rfl rfl rfl (by decide +kernel) (by decide +kernel)) hD15 rfl ?_
      by_cases hc18 : v14 = 0
      · refine g_ifT 50 (show op 336 43 = some (.ifCond .eq 7, 3) by decide +kernel) rfl (decide_eq_true hc18) ?_
        refine g_iconst 51 (show op 336 50 = some (.iconst 0, 1) by decide +kernel) rfl rfl ?_
        have h9 := h; simp only [if_pos hc18] at h9; exact (g_zret (show op 336 51 = some (.ireturn, 1) by decide +kernel) (by decide +kernel) (by decide) h9)
      · refine g_ifF 46 50 (show op 336 43 = some (.ifCond .eq 7, 3) by decide +kernel) rfl rfl (decide_eq_false hc18) ?_
        refine g_iconst 47 (show op 336 46 = some (.iconst 1, 1) by decide +kernel) rfl rfl ?_
        refine g_goto 51 (show op 336 47 = some (.goto 4, 3) by decide +kernel) rfl ?_
        have h9 := h; simp only [if_neg hc18] at h9; exact (g_zret (show op 336 51 = some (.ireturn, 1) by decide +kernel) (by decide +kernel) (by decide) h9)
def C337_4 (x1 : Int) (x2 : Int) (x3 : Int) (σ : Sg) (o : Rs) : Prop := Gd 337 4 [(some (.inr (.inr (some 682)))), (some (.inl x1)), (some (.inl x2)), (some (.inl x3))] [] σ 0 0 o
def C337_29 (x1 : Int) (d2 : Option AV) (x3 : Int) (y0 : Int) (y1 : Int) (σ : Sg) (o : Rs) : Prop := Gd 337 29 [(some (.inr (.inr (some 682)))), (some (.inl x1)), d2, (some (.inl x3))] [(.inl y1), (.inl y0)] σ 0 0 o
theorem b337_4 {x1 : Int} {x2 : Int} {x3 : Int} {σ : Sg} {o : Rs}   (h : (0 ≤ x1 ∧ x1 < 4) ∧ (if x3 < (σ 684 (x1).toNat) then (∃ (v3 : Int) (s2 : Sg), Dd 336 [(.inr (.inr (some 682))), (.inl x1), (.inl x3)] σ (.inl (some (.inl v3)), s2) ∧ C337_29 x1 (some (.inl x2)) x3 x2 (if v3 = 0 then 0 else 1) s2 o) else o = (.inl (some (.inl x2)), σ))) : C337_4 x1 x2 x3 σ o := by
  show Gd 337 4 [(some (.inr (.inr (some 682)))), (some (.inl x1)), (some (.inl x2)), (some (.inl x3))] [] σ 0 0 o
  refine g_iload_n 5 (show op 337 4 = some (.iload_n 3, 1) by decide +kernel) rfl rfl ?_
  refine g_aload_n 6 (show op 337 5 = some (.aload_n 0, 1) by decide +kernel) rfl rfl ?_
  refine g_getR (ci := 11) (f := 2) (fin := true) (isR := true) 9 684 (show op 337 6 = some (.getfield 13, 3) by decide +kernel) rfl (by decide +kernel) (by decide +kernel) ?_
  refine g_iload_n 10 (show op 337 9 = some (.iload_n 1, 1) by decide +kernel) rfl rfl ?_
  obtain ⟨g1, h⟩ := h
  refine g_iaload 11 4 (show op 337 10 = some (.iaload, 1) by decide +kernel) rfl (by decide +kernel) g1 ?_
  by_cases hc5 : x3 < (σ 684 (x1).toNat)
  · rw [if_pos hc5] at h
    refine g_icmpF 14 37 (show op 337 11 = some (.if_icmp .ge 26, 3) by decide +kernel) rfl rfl (decide_eq_false (Int.not_le.mpr hc5)) ?_
    refine g_iload_n 15 (show op 337 14 = some (.iload_n 2, 1) by decide +kernel) rfl rfl ?_
    refine g_aload_n 16 (show op 337 15 = some (.aload_n 0, 1) by decide +kernel) rfl rfl ?_
    refine g_iload_n 17 (show op 337 16 = some (.iload_n 1, 1) by decide +kernel) rfl rfl ?_
    refine g_iload_n 18 (show op 337 17 = some (.iload_n 3, 1) by decide +kernel) rfl rfl ?_
    obtain ⟨v3, s2, hD4, h⟩ := h
    refine g_call 21 [(.inl v3), (.inl x2)] (show op 337 18 = some (.invokevirtual 391, 3) by decide +kernel) (call_vi' (k' := 0) (n' := 0) (nj := 3) (j := 336) (k9 := 21) (t := [(.inl x2)]) (as := [(.inr (.inr (some 682))), (.inl x1), (.inl x3)]) (by decide +kernel) rfl (by decide +kernel) rfl rfl rfl rfl rfl rfl (by decide +kernel) (by decide +kernel)) hD4 rfl ?_
    by_cases hc6 : v3 = 0
    · refine g_ifT 28 (show op 337 21 = some (.ifCond .eq 7, 3) by decide +kernel) rfl (decide_eq_true hc6) ?_
      refine g_iconst 29 (show op 337 28 = some (.iconst 0, 1) by decide +kernel) rfl rfl ?_
      have h9 := h; simp only [if_pos hc6] at h9; exact h9
    · refine g_ifF 24 28 (show op 337 21 = some (.ifCond .eq 7, 3) by decide +kernel) rfl rfl (decide_eq_false hc6) ?_
      refine g_iconst 25 (show op 337 24 = some (.iconst 1, 1) by decide +kernel) rfl rfl ?_
      refine g_goto 29 (show op 337 25 = some (.goto 4, 3) by decide +kernel) rfl ?_
      have h9 := h; simp only [if_neg hc6] at h9; exact h9
  · rw [if_neg hc5] at h
    refine g_icmpT 37 (show op 337 11 = some (.if_icmp .ge 26, 3) by decide +kernel) rfl (decide_eq_true (Int.not_lt.mp hc5)) ?_
    refine g_iload_n 38 (show op 337 37 = some (.iload_n 2, 1) by decide +kernel) rfl rfl ?_
    exact (g_iret (show op 337 38 = some (.ireturn, 1) by decide +kernel) (by decide +kernel) h)
theorem b337_29 {x1 : Int} {d2 : Option AV} {x3 : Int} {y0 : Int} {y1 : Int} {σ : Sg} {o : Rs}   (h : (-2147483648 ≤ (y0 + y1) ∧ (y0 + y1) ≤ 2147483647) ∧ (-2147483648 ≤ (x3 + 1) ∧ (x3 + 1) ≤ 2147483647) ∧ C337_4 x1 (y0 + y1) (x3 + 1) σ o) : C337_29 x1 d2 x3 y0 y1 σ o := by
  show Gd 337 29 [(some (.inr (.inr (some 682)))), (some (.inl x1)), d2, (some (.inl x3))] [(.inl y1), (.inl y0)] σ 0 0 o
  obtain ⟨g1, h⟩ := h
  refine g_iadd 30 (show op 337 29 = some (.iadd, 1) by decide +kernel) rfl g1 ?_
  refine g_istore_n 31 [(some (.inr (.inr (some 682)))), (some (.inl x1)), (some (.inl (y0 + y1))), (some (.inl x3))] (show op 337 30 = some (.istore_n 2, 1) by decide +kernel) rfl rfl rfl ?_
  obtain ⟨g2, h⟩ := h
  refine g_iinc 34 [(some (.inr (.inr (some 682)))), (some (.inl x1)), (some (.inl (y0 + y1))), (some (.inl (x3 + 1)))] (show op 337 31 = some (.iinc 3 1, 3) by decide +kernel) rfl rfl g2 rfl ?_
  refine g_goto 4 (show op 337 34 = some (.goto (-30), 3) by decide +kernel) rfl ?_
  exact h
/-- PatchBenchModel.conflictsOf (I)I -/
theorem b337 {x1 : Int} {σ : Sg} {o : Rs}   (h : C337_4 x1 0 0 σ o) : Dd 337 [(.inr (.inr (some 682))), (.inl x1)] σ o := by
  refine Dd_of (l := 4) (by decide +kernel) ?_
  show Gd 337 0 [(some (.inr (.inr (some 682)))), (some (.inl x1)), none, none] [] σ 0 0 o
  refine g_iconst 1 (show op 337 0 = some (.iconst 0, 1) by decide +kernel) rfl rfl ?_
  refine g_istore_n 2 [(some (.inr (.inr (some 682)))), (some (.inl x1)), (some (.inl 0)), none] (show op 337 1 = some (.istore_n 2, 1) by decide +kernel) rfl rfl rfl ?_
  refine g_iconst 3 (show op 337 2 = some (.iconst 0, 1) by decide +kernel) rfl rfl ?_
  refine g_istore_n 4 [(some (.inr (.inr (some 682)))), (some (.inl x1)), (some (.inl 0)), (some (.inl 0))] (show op 337 3 = some (.istore_n 3, 1) by decide +kernel) rfl rfl rfl ?_
  exact h
def C338_13 (x1 : Int) (y1 : Int) (σ : Sg) (o : Rs) : Prop := Gd 338 13 [(some (.inr (.inr (some 682)))), (some (.inl x1))] [(.inl y1), (.inr (.inr (some 682)))] σ 0 0 o
theorem b338_13 {x1 : Int} {y1 : Int} {σ : Sg} {o : Rs}   (h : (∃ (v2 : Int) (s1 : Sg), Dd 245 [(.inr (.inr (some 682))), (.inl y1)] σ (.inl (some (.inl v2)), s1) ∧ (if v2 = 0 then o = (.inl (some (.inl 0)), s1) else (∃ (v5 : Int) (s4 : Sg), Dd 337 [(.inr (.inr (some 682))), (.inl x1)] s1 (.inl (some (.inl v5)), s4) ∧ o = (.inl (some (.inl v5)), s4))))) : C338_13 x1 y1 σ o := by
  show Gd 338 13 [(some (.inr (.inr (some 682)))), (some (.inl x1))] [(.inl y1), (.inr (.inr (some 682)))] σ 0 0 o
  obtain ⟨v2, s1, hD3, h⟩ := h
  refine g_call 16 [(.inl v2)] (show op 338 13 = some (.invokevirtual 172, 3) by decide +kernel) (call_vi' (k' := 0) (n' := 0) (nj := 2) (j := 245) (k9 := 21) (t := []) (as := [(.inr (.inr (some 682))), (.inl y1)]) (by decide +kernel) rfl (by decide +kernel) rfl rfl rfl rfl rfl rfl (by decide +kernel) (by decide +kernel)) hD3 rfl ?_
  by_cases hc7 : v2 = 0
  · rw [if_pos hc7] at h
    refine g_ifT 27 (show op 338 16 = some (.ifCond .eq 11, 3) by decide +kernel) rfl (decide_eq_true hc7) ?_
    refine g_iconst 28 (show op 338 27 = some (.iconst 0, 1) by decide +kernel) rfl rfl ?_
    exact (g_iret (show op 338 28 = some (.ireturn, 1) by decide +kernel) (by decide +kernel) h)
  · rw [if_neg hc7] at h
    refine g_ifF 19 27 (show op 338 16 = some (.ifCond .eq 11, 3) by decide +kernel) rfl rfl (decide_eq_false hc7) ?_
    refine g_aload_n 20 (show op 338 19 = some (.aload_n 0, 1) by decide +kernel) rfl rfl ?_
    refine g_iload_n 21 (show op 338 20 = some (.iload_n 1, 1) by decide +kernel) rfl rfl ?_
    obtain ⟨v5, s4, hD6, h⟩ := h
    refine g_call 24 [(.inl v5)] (show op 338 21 = some (.invokevirtual 394, 3) by decide +kernel) (call_vi' (k' := 0) (n' := 0) (nj := 2) (j := 337) (k9 := 21) (t := []) (as := [(.inr (.inr (some 682))), (.inl x1)]) (by decide +kernel) rfl (by decide +kernel) rfl rfl rfl rfl rfl rfl (by decide +kernel) (by decide +kernel)) hD6 rfl ?_
    refine g_goto 28 (show op 338 24 = some (.goto 4, 3) by decide +kernel) rfl ?_
    exact (g_iret (show op 338 28 = some (.ireturn, 1) by decide +kernel) (by decide +kernel) h)
/-- PatchBenchModel.conflicts (I)I -/
theorem b338 {x1 : Int} {σ : Sg} {o : Rs}   (h : (∃ (v2 : Int) (s1 : Sg), Dd 247 [(.inl x1)] σ (.inl (some (.inl v2)), s1) ∧ C338_13 x1 (if v2 = 0 then 1 else 0) s1 o)) : Dd 338 [(.inr (.inr (some 682))), (.inl x1)] σ o := by
  refine Dd_of (l := 2) (by decide +kernel) ?_
  show Gd 338 0 [(some (.inr (.inr (some 682)))), (some (.inl x1))] [] σ 0 0 o
  refine g_aload_n 1 (show op 338 0 = some (.aload_n 0, 1) by decide +kernel) rfl rfl ?_
  refine g_iload_n 2 (show op 338 1 = some (.iload_n 1, 1) by decide +kernel) rfl rfl ?_
  obtain ⟨v2, s1, hD3, h⟩ := h
  refine g_call 5 [(.inl v2), (.inr (.inr (some 682)))] (show op 338 2 = some (.invokestatic 166, 3) by decide +kernel) (call_st' (k' := 0) (n' := 0) (nj := 1) (j := 247) (t := [(.inr (.inr (some 682)))]) (as := [(.inl x1)]) (by decide +kernel) rfl (by decide +kernel) rfl rfl rfl rfl rfl) hD3 rfl ?_
  by_cases hc4 : v2 = 0
  · refine g_ifT 12 (show op 338 5 = some (.ifCond .eq 7, 3) by decide +kernel) rfl (decide_eq_true hc4) ?_
    refine g_iconst 13 (show op 338 12 = some (.iconst 1, 1) by decide +kernel) rfl rfl ?_
    have h9 := h; simp only [if_pos hc4] at h9; exact h9
  · refine g_ifF 8 12 (show op 338 5 = some (.ifCond .eq 7, 3) by decide +kernel) rfl rfl (decide_eq_false hc4) ?_
    refine g_iconst 9 (show op 338 8 = some (.iconst 0, 1) by decide +kernel) rfl rfl ?_
    refine g_goto 13 (show op 338 9 = some (.goto 4, 3) by decide +kernel) rfl ?_
    have h9 := h; simp only [if_neg hc4] at h9; exact h9
def C339_23 (x1 : Int) (x2 : Int) (x3 : Int) (d4 : Option AV) (d5 : Option AV) (d6 : Option AV) (d7 : Option AV) (d8 : Option AV) (d9 : Option AV) (σ : Sg) (o : Rs) : Prop := Gd 339 23 [(some (.inr (.inr (some 682)))), (some (.inl x1)), (some (.inl x2)), (some (.inl x3)), d4, d5, d6, d7, d8, d9] [] σ 0 0 o
def C339_24 (x1 : Int) (x2 : Int) (x3 : Int) (d4 : Option AV) (d5 : Option AV) (d6 : Option AV) (d7 : Option AV) (d8 : Option AV) (d9 : Option AV) (y0 : Int) (σ : Sg) (o : Rs) : Prop := Gd 339 24 [(some (.inr (.inr (some 682)))), (some (.inl x1)), (some (.inl x2)), (some (.inl x3)), d4, d5, d6, d7, d8, d9] [(.inl y0)] σ 0 0 o
def C339_51 (x1 : Int) (x2 : Int) (x3 : Int) (d4 : Option AV) (d5 : Option AV) (d6 : Option AV) (d7 : Option AV) (d8 : Option AV) (d9 : Option AV) (y1 : Int) (σ : Sg) (o : Rs) : Prop := Gd 339 51 [(some (.inr (.inr (some 682)))), (some (.inl x1)), (some (.inl x2)), (some (.inl x3)), d4, d5, d6, d7, d8, d9] [(.inl y1), (.inr (.inr (some 682)))] σ 0 0 o
def C339_50 (x1 : Int) (x2 : Int) (x3 : Int) (d4 : Option AV) (d5 : Option AV) (d6 : Option AV) (d7 : Option AV) (d8 : Option AV) (d9 : Option AV) (σ : Sg) (o : Rs) : Prop := Gd 339 50 [(some (.inr (.inr (some 682)))), (some (.inl x1)), (some (.inl x2)), (some (.inl x3)), d4, d5, d6, d7, d8, d9] [(.inr (.inr (some 682)))] σ 0 0 o
def C339_65 (x1 : Int) (d2 : Option AV) (x3 : Int) (d4 : Option AV) (x5 : Int) (x6 : Int) (d7 : Option AV) (d8 : Option AV) (d9 : Option AV) (σ : Sg) (o : Rs) : Prop := Gd 339 65 [(some (.inr (.inr (some 682)))), (some (.inl x1)), d2, (some (.inl x3)), d4, (some (.inl x5)), (some (.inl x6)), d7, d8, d9] [] σ 0 0 o
def C339_80 (x1 : Int) (d2 : Option AV) (x3 : Int) (d4 : Option AV) (x5 : Int) (x6 : Int) (d7 : Option AV) (d8 : Option AV) (d9 : Option AV) (σ : Sg) (o : Rs) : Prop := Gd 339 80 [(some (.inr (.inr (some 682)))), (some (.inl x1)), d2, (some (.inl x3)), d4, (some (.inl x5)), (some (.inl x6)), d7, d8, d9] [] σ 0 0 o
def C339_132 (x1 : Int) (d2 : Option AV) (x3 : Int) (d4 : Option AV) (x5 : Int) (x6 : Int) (x7 : Int) (x8 : Int) (d9 : Option AV) (σ : Sg) (o : Rs) : Prop := Gd 339 132 [(some (.inr (.inr (some 682)))), (some (.inl x1)), d2, (some (.inl x3)), d4, (some (.inl x5)), (some (.inl x6)), (some (.inl x7)), (some (.inl x8)), d9] [] σ 0 0 o
def C339_97 (x1 : Int) (d2 : Option AV) (x3 : Int) (d4 : Option AV) (x5 : Int) (d6 : Option AV) (d7 : Option AV) (d8 : Option AV) (d9 : Option AV) (y0 : Int) (y1 : Int) (σ : Sg) (o : Rs) : Prop := Gd 339 97 [(some (.inr (.inr (some 682)))), (some (.inl x1)), d2, (some (.inl x3)), d4, (some (.inl x5)), d6, d7, d8, d9] [(.inl y1), (.inl y0)] σ 0 0 o
def C339_218 (x1 : Int) (d2 : Option AV) (x3 : Int) (d4 : Option AV) (x5 : Int) (x6 : Int) (x7 : Int) (x8 : Int) (d9 : Option AV) (y0 : Int) (σ : Sg) (o : Rs) : Prop := Gd 339 218 [(some (.inr (.inr (some 682)))), (some (.inl x1)), d2, (some (.inl x3)), d4, (some (.inl x5)), (some (.inl x6)), (some (.inl x7)), (some (.inl x8)), d9] [(.inl y0)] σ 0 0 o
def C339_172 (x1 : Int) (d2 : Option AV) (x3 : Int) (d4 : Option AV) (x5 : Int) (x6 : Int) (x7 : Int) (x8 : Int) (d9 : Option AV) (σ : Sg) (o : Rs) : Prop := Gd 339 172 [(some (.inr (.inr (some 682)))), (some (.inl x1)), d2, (some (.inl x3)), d4, (some (.inl x5)), (some (.inl x6)), (some (.inl x7)), (some (.inl x8)), d9] [] σ 0 0 o
def C339_241 (x1 : Int) (d2 : Option AV) (x3 : Int) (d4 : Option AV) (x5 : Int) (x6 : Int) (x7 : Int) (x8 : Int) (d9 : Option AV) (σ : Sg) (o : Rs) : Prop := Gd 339 241 [(some (.inr (.inr (some 682)))), (some (.inl x1)), d2, (some (.inl x3)), d4, (some (.inl x5)), (some (.inl x6)), (some (.inl x7)), (some (.inl x8)), d9] [] σ 0 0 o
def C339_199 (x1 : Int) (d2 : Option AV) (x3 : Int) (d4 : Option AV) (x5 : Int) (x6 : Int) (x7 : Int) (x8 : Int) (d9 : Option AV) (σ : Sg) (o : Rs) : Prop := Gd 339 199 [(some (.inr (.inr (some 682)))), (some (.inl x1)), d2, (some (.inl x3)), d4, (some (.inl x5)), (some (.inl x6)), (some (.inl x7)), (some (.inl x8)), d9] [] σ 0 0 o
def C339_213 (x1 : Int) (d2 : Option AV) (x3 : Int) (d4 : Option AV) (x5 : Int) (x6 : Int) (x7 : Int) (x8 : Int) (d9 : Option AV) (σ : Sg) (o : Rs) : Prop := Gd 339 213 [(some (.inr (.inr (some 682)))), (some (.inl x1)), d2, (some (.inl x3)), d4, (some (.inl x5)), (some (.inl x6)), (some (.inl x7)), (some (.inl x8)), d9] [] σ 0 0 o
theorem b339_23 {x1 : Int} {x2 : Int} {x3 : Int} {d4 : Option AV} {d5 : Option AV} {d6 : Option AV} {d7 : Option AV} {d8 : Option AV} {d9 : Option AV} {σ : Sg} {o : Rs}   (h : C339_24 x1 x2 x3 d4 d5 d6 d7 d8 d9 0 σ o) : C339_23 x1 x2 x3 d4 d5 d6 d7 d8 d9 σ o := by
  show Gd 339 23 [(some (.inr (.inr (some 682)))), (some (.inl x1)), (some (.inl x2)), (some (.inl x3)), d4, d5, d6, d7, d8, d9] [] σ 0 0 o
  refine g_iconst 24 (show op 339 23 = some (.iconst 0, 1) by decide +kernel) rfl rfl ?_
  exact h
theorem b339_24 {x1 : Int} {x2 : Int} {x3 : Int} {d4 : Option AV} {d5 : Option AV} {d6 : Option AV} {d7 : Option AV} {d8 : Option AV} {d9 : Option AV} {y0 : Int} {σ : Sg} {o : Rs}   (h : (if y0 = 0 then C339_51 x1 x2 x3 (some (.inl y0)) d5 d6 d7 d8 d9 1 σ o else (if 1 ≤ x3 then (if x3 ≤ 3 then C339_51 x1 x2 x3 (some (.inl y0)) d5 d6 d7 d8 d9 0 σ o else C339_50 x1 x2 x3 (some (.inl y0)) d5 d6 d7 d8 d9 σ o) else C339_50 x1 x2 x3 (some (.inl y0)) d5 d6 d7 d8 d9 σ o))) : C339_24 x1 x2 x3 d4 d5 d6 d7 d8 d9 y0 σ o := by
  show Gd 339 24 [(some (.inr (.inr (some 682)))), (some (.inl x1)), (some (.inl x2)), (some (.inl x3)), d4, d5, d6, d7, d8, d9] [(.inl y0)] σ 0 0 o
  refine g_istore 26 [(some (.inr (.inr (some 682)))), (some (.inl x1)), (some (.inl x2)), (some (.inl x3)), (some (.inl y0)), d5, d6, d7, d8, d9] (show op 339 24 = some (.istore 4, 2) by decide +kernel) rfl rfl rfl ?_
  refine g_aload_n 27 (show op 339 26 = some (.aload_n 0, 1) by decide +kernel) rfl rfl ?_
  refine g_iload 29 (show op 339 27 = some (.iload 4, 2) by decide +kernel) rfl rfl ?_
  by_cases hc1 : y0 = 0
  · rw [if_pos hc1] at h
    refine g_ifF 32 36 (show op 339 29 = some (.ifCond .ne 7, 3) by decide +kernel) rfl rfl (decide_eq_false (fun h9 => h9 hc1)) ?_
    refine g_iconst 33 (show op 339 32 = some (.iconst 1, 1) by decide +kernel) rfl rfl ?_
    refine g_goto 51 (show op 339 33 = some (.goto 18, 3) by decide +kernel) rfl ?_
    exact h
  · rw [if_neg hc1] at h
    refine g_ifT 36 (show op 339 29 = some (.ifCond .ne 7, 3) by decide +kernel) rfl (decide_eq_true hc1) ?_
    refine g_iload_n 37 (show op 339 36 = some (.iload_n 3, 1) by decide +kernel) rfl rfl ?_
    refine g_iconst 38 (show op 339 37 = some (.iconst 1, 1) by decide +kernel) rfl rfl ?_
    by_cases hc2 : 1 ≤ x3
    · rw [if_pos hc2] at h
      refine g_icmpF 41 50 (show op 339 38 = some (.if_icmp .lt 12, 3) by decide +kernel) rfl rfl (decide_eq_false (Int.not_lt.mpr hc2)) ?_
      refine g_iload_n 42 (show op 339 41 = some (.iload_n 3, 1) by decide +kernel) rfl rfl ?_
      refine g_iconst 43 (show op 339 42 = some (.iconst 3, 1) by decide +kernel) rfl rfl ?_
      by_cases hc3 : x3 ≤ 3
      · rw [if_pos hc3] at h
        refine g_icmpF 46 50 (show op 339 43 = some (.if_icmp .gt 7, 3) by decide +kernel) rfl rfl (decide_eq_false (Int.not_lt.mpr hc3)) ?_
        refine g_iconst 47 (show op 339 46 = some (.iconst 0, 1) by decide +kernel) rfl rfl ?_
        refine g_goto 51 (show op 339 47 = some (.goto 4, 3) by decide +kernel) rfl ?_
        exact h
      · rw [if_neg hc3] at h
        refine g_icmpT 50 (show op 339 43 = some (.if_icmp .gt 7, 3) by decide +kernel) rfl (decide_eq_true (Int.not_le.mp hc3)) ?_
        exact h
    · rw [if_neg hc2] at h
      refine g_icmpT 50 (show op 339 38 = some (.if_icmp .lt 12, 3) by decide +kernel) rfl (decide_eq_true (Int.not_le.mp hc2)) ?_
      exact h
theorem b339_51 {x1 : Int} {x2 : Int} {x3 : Int} {d4 : Option AV} {d5 : Option AV} {d6 : Option AV} {d7 : Option AV} {d8 : Option AV} {d9 : Option AV} {y1 : Int} {σ : Sg} {o : Rs}   (h : (∃ (v2 : Int) (s1 : Sg), Dd 245 [(.inr (.inr (some 682))), (.inl y1)] σ (.inl (some (.inl v2)), s1) ∧ (if v2 = 0 then o = (.inl (some (.inl 0)), s1) else C339_65 x1 (some (.inl x2)) x3 d4 0 x2 d7 d8 d9 s1 o))) : C339_51 x1 x2 x3 d4 d5 d6 d7 d8 d9 y1 σ o := by
  show Gd 339 51 [(some (.inr (.inr (some 682)))), (some (.inl x1)), (some (.inl x2)), (some (.inl x3)), d4, d5, d6, d7, d8, d9] [(.inl y1), (.inr (.inr (some 682)))] σ 0 0 o
  obtain ⟨v2, s1, hD3, h⟩ := h
  refine g_call 54 [(.inl v2)] (show op 339 51 = some (.invokevirtual 172, 3) by decide +kernel) (call_vi' (k' := 0) (n' := 0) (nj := 2) (j := 245) (k9 := 21) (t := []) (as := [(.inr (.inr (some 682))), (.inl y1)]) (by decide +kernel) rfl (by decide +kernel) rfl rfl rfl rfl rfl rfl (by decide +kernel) (by decide +kernel)) hD3 rfl ?_
  by_cases hc4 : v2 = 0
  · rw [if_pos hc4] at h
    refine g_ifF 57 59 (show op 339 54 = some (.ifCond .ne 5, 3) by decide +kernel) rfl rfl (decide_eq_false (fun h9 => h9 hc4)) ?_
    refine g_iconst 58 (show op 339 57 = some (.iconst 0, 1) by decide +kernel) rfl rfl ?_
    exact (g_iret (show op 339 58 = some (.ireturn, 1) by decide +kernel) (by decide +kernel) h)
  · rw [if_neg hc4] at h
    refine g_ifT 59 (show op 339 54 = some (.ifCond .ne 5, 3) by decide +kernel) rfl (decide_eq_true hc4) ?_
    refine g_iconst 60 (show op 339 59 = some (.iconst 0, 1) by decide +kernel) rfl rfl ?_
    refine g_istore 62 [(some (.inr (.inr (some 682)))), (some (.inl x1)), (some (.inl x2)), (some (.inl x3)), d4, (some (.inl 0)), d6, d7, d8, d9] (show op 339 60 = some (.istore 5, 2) by decide +kernel) rfl rfl rfl ?_
    refine g_iload_n 63 (show op 339 62 = some (.iload_n 2, 1) by decide +kernel) rfl rfl ?_
    refine g_istore 65 [(some (.inr (.inr (some 682)))), (some (.inl x1)), (some (.inl x2)), (some (.inl x3)), d4, (some (.inl 0)), (some (.inl x2)), d7, d8, d9] (show op 339 63 = some (.istore 6, 2) by decide +kernel) rfl rfl rfl ?_
    exact h
theorem b339_50 {x1 : Int} {x2 : Int} {x3 : Int} {d4 : Option AV} {d5 : Option AV} {d6 : Option AV} {d7 : Option AV} {d8 : Option AV} {d9 : Option AV} {σ : Sg} {o : Rs}   (h : C339_51 x1 x2 x3 d4 d5 d6 d7 d8 d9 2 σ o) : C339_50 x1 x2 x3 d4 d5 d6 d7 d8 d9 σ o := by
  show Gd 339 50 [(some (.inr (.inr (some 682)))), (some (.inl x1)), (some (.inl x2)), (some (.inl x3)), d4, d5, d6, d7, d8, d9] [(.inr (.inr (some 682)))] σ 0 0 o
  refine g_iconst 51 (show op 339 50 = some (.iconst 2, 1) by decide +kernel) rfl rfl ?_
  exact h
theorem b339_65 {x1 : Int} {d2 : Option AV} {x3 : Int} {d4 : Option AV} {x5 : Int} {x6 : Int} {d7 : Option AV} {d8 : Option AV} {d9 : Option AV} {σ : Sg} {o : Rs}   (h : (if x6 ≤ 0 then (∃ (v2 : Int) (s1 : Sg), Dd 336 [(.inr (.inr (some 682))), (.inl x1), (.inl x5)] σ (.inl (some (.inl v2)), s1) ∧ (if v2 = 0 then C339_80 x1 d2 x3 d4 x5 x6 d7 d8 d9 s1 o else (∃ (v5 : Int) (s4 : Sg), Dd 334 [(.inr (.inr (some 682))), (.inl x1), (.inl x5)] s1 (.inl (some (.inl v5)), s4) ∧ (∃ (v8 : Int) (s7 : Sg), Dd 334 [(.inr (.inr (some 682))), (.inl x1), (.inl v5)] s4 (.inl (some (.inl v8)), s7) ∧ C339_132 x1 d2 x3 d4 x5 v5 v8 0 d9 (upS s7 682 32 0) o)))) else C339_80 x1 d2 x3 d4 x5 x6 d7 d8 d9 σ o)) : C339_65 x1 d2 x3 d4 x5 x6 d7 d8 d9 σ o := by
  show Gd 339 65 [(some (.inr (.inr (some 682)))), (some (.inl x1)), d2, (some (.inl x3)), d4, (some (.inl x5)), (some (.inl x6)), d7, d8, d9] [] σ 0 0 o
  refine g_iload 67 (show op 339 65 = some (.iload 6, 2) by decide +kernel) rfl rfl ?_
  by_cases hc10 : x6 ≤ 0
  · rw [if_pos hc10] at h
    refine g_ifF 70 80 (show op 339 67 = some (.ifCond .gt 13, 3) by decide +kernel) rfl rfl (decide_eq_false (Int.not_lt.mpr hc10)) ?_
    refine g_aload_n 71 (show op 339 70 = some (.aload_n 0, 1) by decide +kernel) rfl rfl ?_
    refine g_iload_n 72 (show op 339 71 = some (.iload_n 1, 1) by decide +kernel) rfl rfl ?_
    refine g_iload 74 (show op 339 72 = some (.iload 5, 2) by decide +kernel) rfl rfl ?_
    obtain ⟨v2, s1, hD3, h⟩ := h
    refine g_call 77 [(.inl v2)] (show op 339 74 = some (.invokevirtual 391, 3) by decide +kernel) (call_vi' (k' := 0) (n' := 0) (nj := 3) (j := 336) (k9 := 21) (t := []) (as := [(.inr (.inr (some 682))), (.inl x1), (.inl x5)]) (by decide +kernel) rfl (by decide +kernel) rfl rfl rfl rfl rfl rfl (by decide +kernel) (by decide +kernel)) hD3 rfl ?_
    by_cases hc11 : v2 = 0
    · rw [if_pos hc11] at h
      refine g_ifF 80 106 (show op 339 77 = some (.ifCond .ne 29, 3) by decide +kernel) rfl rfl (decide_eq_false (fun h9 => h9 hc11)) ?_
      exact h
    · rw [if_neg hc11] at h
      refine g_ifT 106 (show op 339 77 = some (.ifCond .ne 29, 3) by decide +kernel) rfl (decide_eq_true hc11) ?_
      refine g_aload_n 107 (show op 339 106 = some (.aload_n 0, 1) by decide +kernel) rfl rfl ?_
      refine g_iload_n 108 (show op 339 107 = some (.iload_n 1, 1) by decide +kernel) rfl rfl ?_
      refine g_iload 110 (show op 339 108 = some (.iload 5, 2) by decide +kernel) rfl rfl ?_
      obtain ⟨v5, s4, hD6, h⟩ := h
      refine g_call 113 [(.inl v5)] (show op 339 110 = some (.invokevirtual 385, 3) by decide +kernel) (call_vi' (k' := 0) (n' := 0) (nj := 3) (j := 334) (k9 := 21) (t := []) (as := [(.inr (.inr (some 682))), (.inl x1), (.inl x5)]) (by decide +kernel) rfl (by decide +kernel) rfl rfl rfl rfl rfl rfl (by decide +kernel) (by decide +kernel)) hD6 rfl ?_
      refine g_istore 115 [(some (.inr (.inr (some 682)))), (some (.inl x1)), d2, (some (.inl x3)), d4, (some (.inl x5)), (some (.inl v5)), d7, d8, d9] (show op 339 113 = some (.istore 6, 2) by decide +kernel) rfl rfl rfl ?_
      refine g_aload_n 116 (show op 339 115 = some (.aload_n 0, 1) by decide +kernel) rfl rfl ?_
      refine g_iload_n 117 (show op 339 116 = some (.iload_n 1, 1) by decide +kernel) rfl rfl ?_
      refine g_iload 119 (show op 339 117 = some (.iload 6, 2) by decide +kernel) rfl rfl ?_
      obtain ⟨v8, s7, hD9, h⟩ := h
      refine g_call 122 [(.inl v8)] (show op 339 119 = some (.invokevirtual 385, 3) by decide +kernel) (call_vi' (k' := 0) (n' := 0) (nj := 3) (j := 334) (k9 := 21) (t := []) (as := [(.inr (.inr (some 682))), (.inl x1), (.inl v5)]) (by decide +kernel) rfl (by decide +kernel) rfl rfl rfl rfl rfl rfl (by decide +kernel) (by decide +kernel)) hD9 rfl ?_
      refine g_istore 124 [(some (.inr (.inr (some 682)))), (some (.inl x1)), d2, (some (.inl x3)), d4, (some (.inl x5)), (some (.inl v5)), (some (.inl v8)), d8, d9] (show op 339 122 = some (.istore 7, 2) by decide +kernel) rfl rfl rfl ?_
      refine g_aload_n 125 (show op 339 124 = some (.aload_n 0, 1) by decide +kernel) rfl rfl ?_
      refine g_iconst 126 (show op 339 125 = some (.iconst 0, 1) by decide +kernel) rfl rfl ?_
      refine g_putI (ci := 11) (f := 32) 129 (show op 339 126 = some (.putfield 335, 3) by decide +kernel) rfl (by decide +kernel) (by decide +kernel) ?_
      refine g_iconst 130 (show op 339 129 = some (.iconst 0, 1) by decide +kernel) rfl rfl ?_
      refine g_istore 132 [(some (.inr (.inr (some 682)))), (some (.inl x1)), d2, (some (.inl x3)), d4, (some (.inl x5)), (some (.inl v5)), (some (.inl v8)), (some (.inl 0)), d9] (show op 339 130 = some (.istore 8, 2) by decide +kernel) rfl rfl rfl ?_
      exact h
  · rw [if_neg hc10] at h
    refine g_ifT 80 (show op 339 67 = some (.ifCond .gt 13, 3) by decide +kernel) rfl (decide_eq_true (Int.not_le.mp hc10)) ?_
    exact h
theorem b339_80 {x1 : Int} {d2 : Option AV} {x3 : Int} {d4 : Option AV} {x5 : Int} {x6 : Int} {d7 : Option AV} {d8 : Option AV} {d9 : Option AV} {σ : Sg} {o : Rs}   (h : (∃ (v2 : Int) (s1 : Sg), Dd 336 [(.inr (.inr (some 682))), (.inl x1), (.inl x5)] σ (.inl (some (.inl v2)), s1) ∧ C339_97 x1 d2 x3 d4 x5 (some (.inl x6)) d7 d8 d9 x6 (if v2 = 0 then 0 else 1) s1 o)) : C339_80 x1 d2 x3 d4 x5 x6 d7 d8 d9 σ o := by
  show Gd 339 80 [(some (.inr (.inr (some 682)))), (some (.inl x1)), d2, (some (.inl x3)), d4, (some (.inl x5)), (some (.inl x6)), d7, d8, d9] [] σ 0 0 o
  refine g_iload 82 (show op 339 80 = some (.iload 6, 2) by decide +kernel) rfl rfl ?_
  refine g_aload_n 83 (show op 339 82 = some (.aload_n 0, 1) by decide +kernel) rfl rfl ?_
  refine g_iload_n 84 (show op 339 83 = some (.iload_n 1, 1) by decide +kernel) rfl rfl ?_
  refine g_iload 86 (show op 339 84 = some (.iload 5, 2) by decide +kernel) rfl rfl ?_
  obtain ⟨v2, s1, hD3, h⟩ := h
  refine g_call 89 [(.inl v2), (.inl x6)] (show op 339 86 = some (.invokevirtual 391, 3) by decide +kernel) (call_vi' (k' := 0) (n' := 0) (nj := 3) (j := 336) (k9 := 21) (t := [(.inl x6)]) (as := [(.inr (.inr (some 682))), (.inl x1), (.inl x5)]) (by decide +kernel) rfl (by decide +kernel) rfl rfl rfl rfl rfl rfl (by decide +kernel) (by decide +kernel)) hD3 rfl ?_
  by_cases hc4 : v2 = 0
  · refine g_ifT 96 (show op 339 89 = some (.ifCond .eq 7, 3) by decide +kernel) rfl (decide_eq_true hc4) ?_
    refine g_iconst 97 (show op 339 96 = some (.iconst 0, 1) by decide +kernel) rfl rfl ?_
    have h9 := h; simp only [if_pos hc4] at h9; exact h9
  · refine g_ifF 92 96 (show op 339 89 = some (.ifCond .eq 7, 3) by decide +kernel) rfl rfl (decide_eq_false hc4) ?_
    refine g_iconst 93 (show op 339 92 = some (.iconst 1, 1) by decide +kernel) rfl rfl ?_
    refine g_goto 97 (show op 339 93 = some (.goto 4, 3) by decide +kernel) rfl ?_
    have h9 := h; simp only [if_neg hc4] at h9; exact h9
theorem b339_132 {x1 : Int} {d2 : Option AV} {x3 : Int} {d4 : Option AV} {x5 : Int} {x6 : Int} {x7 : Int} {x8 : Int} {d9 : Option AV} {σ : Sg} {o : Rs}   (h : (0 ≤ x1 ∧ x1 < 4) ∧ (if x8 < (σ 684 (x1).toNat) then (if x5 < x8 then (if x8 < x6 then C339_218 x1 d2 x3 d4 x5 x6 x7 x8 d9 (if (Int.tmod x3 2) = 1 then 1 else 0) σ o else C339_172 x1 d2 x3 d4 x5 x6 x7 x8 d9 σ o) else C339_172 x1 d2 x3 d4 x5 x6 x7 x8 d9 σ o) else (∃ (s2 : Sg), Dd 325 [(.inr (.inr (some 682))), (.inl x1)] σ (.inl none, s2) ∧ o = (.inl (some (.inl (s2 682 32))), s2)))) : C339_132 x1 d2 x3 d4 x5 x6 x7 x8 d9 σ o := by
  show Gd 339 132 [(some (.inr (.inr (some 682)))), (some (.inl x1)), d2, (some (.inl x3)), d4, (some (.inl x5)), (some (.inl x6)), (some (.inl x7)), (some (.inl x8)), d9] [] σ 0 0 o
  refine g_iload 134 (show op 339 132 = some (.iload 8, 2) by decide +kernel) rfl rfl ?_
  refine g_aload_n 135 (show op 339 134 = some (.aload_n 0, 1) by decide +kernel) rfl rfl ?_
  refine g_getR (ci := 11) (f := 2) (fin := true) (isR := true) 138 684 (show op 339 135 = some (.getfield 13, 3) by decide +kernel) rfl (by decide +kernel) (by decide +kernel) ?_
  refine g_iload_n 139 (show op 339 138 = some (.iload_n 1, 1) by decide +kernel) rfl rfl ?_
  obtain ⟨g1, h⟩ := h
  refine g_iaload 140 4 (show op 339 139 = some (.iaload, 1) by decide +kernel) rfl (by decide +kernel) g1 ?_
  by_cases hc4 : x8 < (σ 684 (x1).toNat)
  · rw [if_pos hc4] at h
    refine g_icmpF 143 247 (show op 339 140 = some (.if_icmp .ge 107, 3) by decide +kernel) rfl rfl (decide_eq_false (Int.not_le.mpr hc4)) ?_
    refine g_iload 145 (show op 339 143 = some (.iload 8, 2) by decide +kernel) rfl rfl ?_
    refine g_iload 147 (show op 339 145 = some (.iload 5, 2) by decide +kernel) rfl rfl ?_
    by_cases hc5 : x5 < x8
    · rw [if_pos hc5] at h
      refine g_icmpF 150 172 (show op 339 147 = some (.if_icmp .le 25, 3) by decide +kernel) rfl rfl (decide_eq_false (Int.not_le.mpr hc5)) ?_
      refine g_iload 152 (show op 339 150 = some (.iload 8, 2) by decide +kernel) rfl rfl ?_
      refine g_iload 154 (show op 339 152 = some (.iload 6, 2) by decide +kernel) rfl rfl ?_
      by_cases hc6 : x8 < x6
      · rw [if_pos hc6] at h
        refine g_icmpF 157 172 (show op 339 154 = some (.if_icmp .ge 18, 3) by decide +kernel) rfl rfl (decide_eq_false (Int.not_le.mpr hc6)) ?_
        refine g_iload_n 158 (show op 339 157 = some (.iload_n 3, 1) by decide +kernel) rfl rfl ?_
        refine g_iconst 159 (show op 339 158 = some (.iconst 2, 1) by decide +kernel) rfl rfl ?_
        refine g_irem 160 (show op 339 159 = some (.irem, 1) by decide +kernel) rfl (by decide) ?_
        refine g_iconst 161 (show op 339 160 = some (.iconst 1, 1) by decide +kernel) rfl rfl ?_
        by_cases hc7 : (Int.tmod x3 2) = 1
        · refine g_icmpF 164 168 (show op 339 161 = some (.if_icmp .ne 7, 3) by decide +kernel) rfl rfl (decide_eq_false (fun h9 => h9 hc7)) ?_
          refine g_iconst 165 (show op 339 164 = some (.iconst 1, 1) by decide +kernel) rfl rfl ?_
          refine g_goto 218 (show op 339 165 = some (.goto 53, 3) by decide +kernel) rfl ?_
          have h9 := h; simp only [if_pos hc7] at h9; exact h9
        · refine g_icmpT 168 (show op 339 161 = some (.if_icmp .ne 7, 3) by decide +kernel) rfl (decide_eq_true hc7) ?_
          refine g_iconst 169 (show op 339 168 = some (.iconst 0, 1) by decide +kernel) rfl rfl ?_
          refine g_goto 218 (show op 339 169 = some (.goto 49, 3) by decide +kernel) rfl ?_
          have h9 := h; simp only [if_neg hc7] at h9; exact h9
      · rw [if_neg hc6] at h
        refine g_icmpT 172 (show op 339 154 = some (.if_icmp .ge 18, 3) by decide +kernel) rfl (decide_eq_true (Int.not_lt.mp hc6)) ?_
        exact h
    · rw [if_neg hc5] at h
      refine g_icmpT 172 (show op 339 147 = some (.if_icmp .le 25, 3) by decide +kernel) rfl (decide_eq_true (Int.not_lt.mp hc5)) ?_
      exact h
  · rw [if_neg hc4] at h
    refine g_icmpT 247 (show op 339 140 = some (.if_icmp .ge 107, 3) by decide +kernel) rfl (decide_eq_true (Int.not_lt.mp hc4)) ?_
    refine g_aload_n 248 (show op 339 247 = some (.aload_n 0, 1) by decide +kernel) rfl rfl ?_
    refine g_iload_n 249 (show op 339 248 = some (.iload_n 1, 1) by decide +kernel) rfl rfl ?_
    obtain ⟨s2, hD3, h⟩ := h
    refine g_call 252 [] (show op 339 249 = some (.invokevirtual 362, 3) by decide +kernel) (call_vi' (k' := 0) (n' := 0) (nj := 2) (j := 325) (k9 := 21) (t := []) (as := [(.inr (.inr (some 682))), (.inl x1)]) (by decide +kernel) rfl (by decide +kernel) rfl rfl rfl rfl rfl rfl (by decide +kernel) (by decide +kernel)) hD3 rfl ?_
    refine g_aload_n 253 (show op 339 252 = some (.aload_n 0, 1) by decide +kernel) rfl rfl ?_
    refine g_getI (ci := 11) (f := 32) (fin := false) (isR := false) 256 (show op 339 253 = some (.getfield 335, 3) by decide +kernel) rfl (by decide +kernel) (by decide +kernel) ?_
    exact (g_iret (show op 339 256 = some (.ireturn, 1) by decide +kernel) (by decide +kernel) h)
theorem b339_97 {x1 : Int} {d2 : Option AV} {x3 : Int} {d4 : Option AV} {x5 : Int} {d6 : Option AV} {d7 : Option AV} {d8 : Option AV} {d9 : Option AV} {y0 : Int} {y1 : Int} {σ : Sg} {o : Rs}   (h : (-2147483648 ≤ (y0 - y1) ∧ (y0 - y1) ≤ 2147483647) ∧ (-2147483648 ≤ (x5 + 1) ∧ (x5 + 1) ≤ 2147483647) ∧ C339_65 x1 d2 x3 d4 (x5 + 1) (y0 - y1) d7 d8 d9 σ o) : C339_97 x1 d2 x3 d4 x5 d6 d7 d8 d9 y0 y1 σ o := by
  show Gd 339 97 [(some (.inr (.inr (some 682)))), (some (.inl x1)), d2, (some (.inl x3)), d4, (some (.inl x5)), d6, d7, d8, d9] [(.inl y1), (.inl y0)] σ 0 0 o
  obtain ⟨g1, h⟩ := h
  refine g_isub 98 (show op 339 97 = some (.isub, 1) by decide +kernel) rfl g1 ?_
  refine g_istore 100 [(some (.inr (.inr (some 682)))), (some (.inl x1)), d2, (some (.inl x3)), d4, (some (.inl x5)), (some (.inl (y0 - y1))), d7, d8, d9] (show op 339 98 = some (.istore 6, 2) by decide +kernel) rfl rfl rfl ?_
  obtain ⟨g2, h⟩ := h
  refine g_iinc 103 [(some (.inr (.inr (some 682)))), (some (.inl x1)), d2, (some (.inl x3)), d4, (some (.inl (x5 + 1))), (some (.inl (y0 - y1))), d7, d8, d9] (show op 339 100 = some (.iinc 5 1, 3) by decide +kernel) rfl rfl g2 rfl ?_
  refine g_goto 65 (show op 339 103 = some (.goto (-38), 3) by decide +kernel) rfl ?_
  exact h
theorem b339_218 {x1 : Int} {d2 : Option AV} {x3 : Int} {d4 : Option AV} {x5 : Int} {x6 : Int} {x7 : Int} {x8 : Int} {d9 : Option AV} {y0 : Int} {σ : Sg} {o : Rs}   (h : (if y0 = 0 then C339_241 x1 d2 x3 d4 x5 x6 x7 x8 (some (.inl y0)) σ o else (-2147483648 ≤ (16 * x1) ∧ (16 * x1) ≤ 2147483647) ∧ (-2147483648 ≤ ((16 * x1) + x8) ∧ ((16 * x1) + x8) ≤ 2147483647) ∧ (0 ≤ ((16 * x1) + x8) ∧ ((16 * x1) + x8) < 64) ∧ (∃ (s4 : Sg), Dd 319 [(.inr (.inr (some 682))), (.inl (σ 683 (((16 * x1) + x8)).toNat))] σ (.inl none, s4) ∧ C339_241 x1 d2 x3 d4 x5 x6 x7 x8 (some (.inl y0)) s4 o))) : C339_218 x1 d2 x3 d4 x5 x6 x7 x8 d9 y0 σ o := by
  show Gd 339 218 [(some (.inr (.inr (some 682)))), (some (.inl x1)), d2, (some (.inl x3)), d4, (some (.inl x5)), (some (.inl x6)), (some (.inl x7)), (some (.inl x8)), d9] [(.inl y0)] σ 0 0 o
  refine g_istore 220 [(some (.inr (.inr (some 682)))), (some (.inl x1)), d2, (some (.inl x3)), d4, (some (.inl x5)), (some (.inl x6)), (some (.inl x7)), (some (.inl x8)), (some (.inl y0))] (show op 339 218 = some (.istore 9, 2) by decide +kernel) rfl rfl rfl ?_
  refine g_iload 222 (show op 339 220 = some (.iload 9, 2) by decide +kernel) rfl rfl ?_
  by_cases hc6 : y0 = 0
  · rw [if_pos hc6] at h
    refine g_ifT 241 (show op 339 222 = some (.ifCond .eq 19, 3) by decide +kernel) rfl (decide_eq_true hc6) ?_
    exact h
  · rw [if_neg hc6] at h
    refine g_ifF 225 241 (show op 339 222 = some (.ifCond .eq 19, 3) by decide +kernel) rfl rfl (decide_eq_false hc6) ?_
    refine g_aload_n 226 (show op 339 225 = some (.aload_n 0, 1) by decide +kernel) rfl rfl ?_
    refine g_aload_n 227 (show op 339 226 = some (.aload_n 0, 1) by decide +kernel) rfl rfl ?_
    refine g_getR (ci := 11) (f := 1) (fin := true) (isR := true) 230 683 (show op 339 227 = some (.getfield 7, 3) by decide +kernel) rfl (by decide +kernel) (by decide +kernel) ?_
    refine g_bipush 232 (show op 339 230 = some (.bipush 16, 2) by decide +kernel) rfl (by decide) ?_
    refine g_iload_n 233 (show op 339 232 = some (.iload_n 1, 1) by decide +kernel) rfl rfl ?_
    obtain ⟨g1, h⟩ := h
    refine g_imul 234 (show op 339 233 = some (.imul, 1) by decide +kernel) rfl g1 ?_
    refine g_iload 236 (show op 339 234 = some (.iload 8, 2) by decide +kernel) rfl rfl ?_
    obtain ⟨g2, h⟩ := h
    refine g_iadd 237 (show op 339 236 = some (.iadd, 1) by decide +kernel) rfl g2 ?_
    obtain ⟨g3, h⟩ := h
    refine g_iaload 238 64 (show op 339 237 = some (.iaload, 1) by decide +kernel) rfl (by decide +kernel) g3 ?_
    obtain ⟨s4, hD5, h⟩ := h
    refine g_call 241 [] (show op 339 238 = some (.invokevirtual 339, 3) by decide +kernel) (call_vi' (k' := 0) (n' := 0) (nj := 2) (j := 319) (k9 := 21) (t := []) (as := [(.inr (.inr (some 682))), (.inl (σ 683 (((16 * x1) + x8)).toNat))]) (by decide +kernel) rfl (by decide +kernel) rfl rfl rfl rfl rfl rfl (by decide +kernel) (by decide +kernel)) hD5 rfl ?_
    exact h
theorem b339_172 {x1 : Int} {d2 : Option AV} {x3 : Int} {d4 : Option AV} {x5 : Int} {x6 : Int} {x7 : Int} {x8 : Int} {d9 : Option AV} {σ : Sg} {o : Rs}   (h : (if x6 < x8 then (if x8 < x7 then C339_218 x1 d2 x3 d4 x5 x6 x7 x8 d9 (if 2 ≤ x3 then 1 else 0) σ o else C339_199 x1 d2 x3 d4 x5 x6 x7 x8 d9 σ o) else C339_199 x1 d2 x3 d4 x5 x6 x7 x8 d9 σ o)) : C339_172 x1 d2 x3 d4 x5 x6 x7 x8 d9 σ o := by
  show Gd 339 172 [(some (.inr (.inr (some 682)))), (some (.inl x1)), d2, (some (.inl x3)), d4, (some (.inl x5)), (some (.inl x6)), (some (.inl x7)), (some (.inl x8)), d9] [] σ 0 0 o
  refine g_iload 174 (show op 339 172 = some (.iload 8, 2) by decide +kernel) rfl rfl ?_
  refine g_iload 176 (show op 339 174 = some (.iload 6, 2) by decide +kernel) rfl rfl ?_
  by_cases hc1 : x6 < x8
  · rw [if_pos hc1] at h
    refine g_icmpF 179 199 (show op 339 176 = some (.if_icmp .le 23, 3) by decide +kernel) rfl rfl (decide_eq_false (Int.not_le.mpr hc1)) ?_
    refine g_iload 181 (show op 339 179 = some (.iload 8, 2) by decide +kernel) rfl rfl ?_
    refine g_iload 183 (show op 339 181 = some (.iload 7, 2) by decide +kernel) rfl rfl ?_
    by_cases hc2 : x8 < x7
    · rw [if_pos hc2] at h
      refine g_icmpF 186 199 (show op 339 183 = some (.if_icmp .ge 16, 3) by decide +kernel) rfl rfl (decide_eq_false (Int.not_le.mpr hc2)) ?_
      refine g_iload_n 187 (show op 339 186 = some (.iload_n 3, 1) by decide +kernel) rfl rfl ?_
      refine g_iconst 188 (show op 339 187 = some (.iconst 2, 1) by decide +kernel) rfl rfl ?_
      by_cases hc3 : 2 ≤ x3
      · refine g_icmpF 191 195 (show op 339 188 = some (.if_icmp .lt 7, 3) by decide +kernel) rfl rfl (decide_eq_false (Int.not_lt.mpr hc3)) ?_
        refine g_iconst 192 (show op 339 191 = some (.iconst 1, 1) by decide +kernel) rfl rfl ?_
        refine g_goto 218 (show op 339 192 = some (.goto 26, 3) by decide +kernel) rfl ?_
        have h9 := h; simp only [if_pos hc3] at h9; exact h9
      · refine g_icmpT 195 (show op 339 188 = some (.if_icmp .lt 7, 3) by decide +kernel) rfl (decide_eq_true (Int.not_le.mp hc3)) ?_
        refine g_iconst 196 (show op 339 195 = some (.iconst 0, 1) by decide +kernel) rfl rfl ?_
        refine g_goto 218 (show op 339 196 = some (.goto 22, 3) by decide +kernel) rfl ?_
        have h9 := h; simp only [if_neg hc3] at h9; exact h9
    · rw [if_neg hc2] at h
      refine g_icmpT 199 (show op 339 183 = some (.if_icmp .ge 16, 3) by decide +kernel) rfl (decide_eq_true (Int.not_lt.mp hc2)) ?_
      exact h
  · rw [if_neg hc1] at h
    refine g_icmpT 199 (show op 339 176 = some (.if_icmp .le 23, 3) by decide +kernel) rfl (decide_eq_true (Int.not_lt.mp hc1)) ?_
    exact h
theorem b339_241 {x1 : Int} {d2 : Option AV} {x3 : Int} {d4 : Option AV} {x5 : Int} {x6 : Int} {x7 : Int} {x8 : Int} {d9 : Option AV} {σ : Sg} {o : Rs}   (h : (-2147483648 ≤ (x8 + 1) ∧ (x8 + 1) ≤ 2147483647) ∧ C339_132 x1 d2 x3 d4 x5 x6 x7 (x8 + 1) d9 σ o) : C339_241 x1 d2 x3 d4 x5 x6 x7 x8 d9 σ o := by
  show Gd 339 241 [(some (.inr (.inr (some 682)))), (some (.inl x1)), d2, (some (.inl x3)), d4, (some (.inl x5)), (some (.inl x6)), (some (.inl x7)), (some (.inl x8)), d9] [] σ 0 0 o
  obtain ⟨g1, h⟩ := h
  refine g_iinc 244 [(some (.inr (.inr (some 682)))), (some (.inl x1)), d2, (some (.inl x3)), d4, (some (.inl x5)), (some (.inl x6)), (some (.inl x7)), (some (.inl (x8 + 1))), d9] (show op 339 241 = some (.iinc 8 1, 3) by decide +kernel) rfl rfl g1 rfl ?_
  refine g_goto 132 (show op 339 244 = some (.goto (-112), 3) by decide +kernel) rfl ?_
  exact h
theorem b339_199 {x1 : Int} {d2 : Option AV} {x3 : Int} {d4 : Option AV} {x5 : Int} {x6 : Int} {x7 : Int} {x8 : Int} {d9 : Option AV} {σ : Sg} {o : Rs}   (h : (if x5 ≤ x8 then (if x7 < x8 then C339_213 x1 d2 x3 d4 x5 x6 x7 x8 d9 σ o else C339_218 x1 d2 x3 d4 x5 x6 x7 x8 d9 0 σ o) else C339_213 x1 d2 x3 d4 x5 x6 x7 x8 d9 σ o)) : C339_199 x1 d2 x3 d4 x5 x6 x7 x8 d9 σ o := by
  show Gd 339 199 [(some (.inr (.inr (some 682)))), (some (.inl x1)), d2, (some (.inl x3)), d4, (some (.inl x5)), (some (.inl x6)), (some (.inl x7)), (some (.inl x8)), d9] [] σ 0 0 o
  refine g_iload 201 (show op 339 199 = some (.iload 8, 2) by decide +kernel) rfl rfl ?_
  refine g_iload 203 (show op 339 201 = some (.iload 5, 2) by decide +kernel) rfl rfl ?_
  by_cases hc1 : x5 ≤ x8
  · rw [if_pos hc1] at h
    refine g_icmpF 206 213 (show op 339 203 = some (.if_icmp .lt 10, 3) by decide +kernel) rfl rfl (decide_eq_false (Int.not_lt.mpr hc1)) ?_
    refine g_iload 208 (show op 339 206 = some (.iload 8, 2) by decide +kernel) rfl rfl ?_
    refine g_iload 210 (show op 339 208 = some (.iload 7, 2) by decide +kernel) rfl rfl ?_
    by_cases hc2 : x7 < x8
    · rw [if_pos hc2] at h
      refine g_icmpF 213 217 (show op 339 210 = some (.if_icmp .le 7, 3) by decide +kernel) rfl rfl (decide_eq_false (Int.not_le.mpr hc2)) ?_
      exact h
    · rw [if_neg hc2] at h
      refine g_icmpT 217 (show op 339 210 = some (.if_icmp .le 7, 3) by decide +kernel) rfl (decide_eq_true (Int.not_lt.mp hc2)) ?_
      refine g_iconst 218 (show op 339 217 = some (.iconst 0, 1) by decide +kernel) rfl rfl ?_
      exact h
  · rw [if_neg hc1] at h
    refine g_icmpT 213 (show op 339 203 = some (.if_icmp .lt 10, 3) by decide +kernel) rfl (decide_eq_true (Int.not_le.mp hc1)) ?_
    exact h
theorem b339_213 {x1 : Int} {d2 : Option AV} {x3 : Int} {d4 : Option AV} {x5 : Int} {x6 : Int} {x7 : Int} {x8 : Int} {d9 : Option AV} {σ : Sg} {o : Rs}   (h : C339_218 x1 d2 x3 d4 x5 x6 x7 x8 d9 1 σ o) : C339_213 x1 d2 x3 d4 x5 x6 x7 x8 d9 σ o := by
  show Gd 339 213 [(some (.inr (.inr (some 682)))), (some (.inl x1)), d2, (some (.inl x3)), d4, (some (.inl x5)), (some (.inl x6)), (some (.inl x7)), (some (.inl x8)), d9] [] σ 0 0 o
  refine g_iconst 214 (show op 339 213 = some (.iconst 1, 1) by decide +kernel) rfl rfl ?_
  refine g_goto 218 (show op 339 214 = some (.goto 4, 3) by decide +kernel) rfl ?_
  exact h
/-- PatchBenchModel.resolve (III)I -/
theorem b339 {x1 : Int} {x2 : Int} {x3 : Int} {σ : Sg} {o : Rs}   (h : (∃ (v2 : Int) (s1 : Sg), Dd 247 [(.inl x1)] σ (.inl (some (.inl v2)), s1) ∧ (if v2 = 0 then C339_23 x1 x2 x3 none none none none none none s1 o else (∃ (v5 : Int) (s4 : Sg), Dd 337 [(.inr (.inr (some 682))), (.inl x1)] s1 (.inl (some (.inl v5)), s4) ∧ (∃ (v8 : Int) (s7 : Sg), Dd 246 [(.inl x2), (.inl v5)] s4 (.inl (some (.inl v8)), s7) ∧ (if v8 = 0 then C339_23 x1 x2 x3 none none none none none none s7 o else C339_24 x1 x2 x3 none none none none none none 1 s7 o)))))) : Dd 339 [(.inr (.inr (some 682))), (.inl x1), (.inl x2), (.inl x3)] σ o := by
  refine Dd_of (l := 10) (by decide +kernel) ?_
  show Gd 339 0 [(some (.inr (.inr (some 682)))), (some (.inl x1)), (some (.inl x2)), (some (.inl x3)), none, none, none, none, none, none] [] σ 0 0 o
  refine g_iload_n 1 (show op 339 0 = some (.iload_n 1, 1) by decide +kernel) rfl rfl ?_
  obtain ⟨v2, s1, hD3, h⟩ := h
  refine g_call 4 [(.inl v2)] (show op 339 1 = some (.invokestatic 166, 3) by decide +kernel) (call_st' (k' := 0) (n' := 0) (nj := 1) (j := 247) (t := []) (as := [(.inl x1)]) (by decide +kernel) rfl (by decide +kernel) rfl rfl rfl rfl rfl) hD3 rfl ?_
  by_cases hc10 : v2 = 0
  · rw [if_pos hc10] at h
    refine g_ifT 23 (show op 339 4 = some (.ifCond .eq 19, 3) by decide +kernel) rfl (decide_eq_true hc10) ?_
    exact h
  · rw [if_neg hc10] at h
    refine g_ifF 7 23 (show op 339 4 = some (.ifCond .eq 19, 3) by decide +kernel) rfl rfl (decide_eq_false hc10) ?_
    refine g_iload_n 8 (show op 339 7 = some (.iload_n 2, 1) by decide +kernel) rfl rfl ?_
    refine g_aload_n 9 (show op 339 8 = some (.aload_n 0, 1) by decide +kernel) rfl rfl ?_
    refine g_iload_n 10 (show op 339 9 = some (.iload_n 1, 1) by decide +kernel) rfl rfl ?_
    obtain ⟨v5, s4, hD6, h⟩ := h
    refine g_call 13 [(.inl v5), (.inl x2)] (show op 339 10 = some (.invokevirtual 394, 3) by decide +kernel) (call_vi' (k' := 0) (n' := 0) (nj := 2) (j := 337) (k9 := 21) (t := [(.inl x2)]) (as := [(.inr (.inr (some 682))), (.inl x1)]) (by decide +kernel) rfl (by decide +kernel) rfl rfl rfl rfl rfl rfl (by decide +kernel) (by decide +kernel)) hD6 rfl ?_
    obtain ⟨v8, s7, hD9, h⟩ := h
    refine g_call 16 [(.inl v8)] (show op 339 13 = some (.invokestatic 144, 3) by decide +kernel) (call_st' (k' := 0) (n' := 0) (nj := 2) (j := 246) (t := []) (as := [(.inl x2), (.inl v5)]) (by decide +kernel) rfl (by decide +kernel) rfl rfl rfl rfl rfl) hD9 rfl ?_
    by_cases hc11 : v8 = 0
    · rw [if_pos hc11] at h
      refine g_ifT 23 (show op 339 16 = some (.ifCond .eq 7, 3) by decide +kernel) rfl (decide_eq_true hc11) ?_
      exact h
    · rw [if_neg hc11] at h
      refine g_ifF 19 23 (show op 339 16 = some (.ifCond .eq 7, 3) by decide +kernel) rfl rfl (decide_eq_false hc11) ?_
      refine g_iconst 20 (show op 339 19 = some (.iconst 1, 1) by decide +kernel) rfl rfl ?_
      refine g_goto 24 (show op 339 20 = some (.goto 4, 3) by decide +kernel) rfl ?_
      exact h
/-- PatchBenchModel.isStacked (I)Z -/
theorem b340 {x1 : Int} {σ : Sg} {o : Rs}   (h : (∃ (v2 : Int) (s1 : Sg), Dd 246 [(.inl x1), (.inl (σ 682 40))] σ (.inl (some (.inl v2)), s1) ∧ (v2 = 0 ∨ v2 = 1) ∧ o = (.inl (some (.inl v2)), s1))) : Dd 340 [(.inr (.inr (some 682))), (.inl x1)] σ o := by
  refine Dd_of (l := 2) (by decide +kernel) ?_
  show Gd 340 0 [(some (.inr (.inr (some 682)))), (some (.inl x1))] [] σ 0 0 o
  refine g_iload_n 1 (show op 340 0 = some (.iload_n 1, 1) by decide +kernel) rfl rfl ?_
  refine g_aload_n 2 (show op 340 1 = some (.aload_n 0, 1) by decide +kernel) rfl rfl ?_
  refine g_getI (ci := 11) (f := 40) (fin := false) (isR := false) 5 (show op 340 2 = some (.getfield 397, 3) by decide +kernel) rfl (by decide +kernel) (by decide +kernel) ?_
  obtain ⟨v2, s1, hD3, h⟩ := h
  refine g_call 8 [(.inl v2)] (show op 340 5 = some (.invokestatic 144, 3) by decide +kernel) (call_st' (k' := 0) (n' := 0) (nj := 2) (j := 246) (t := []) (as := [(.inl x1), (.inl (σ 682 40))]) (by decide +kernel) rfl (by decide +kernel) rfl rfl rfl rfl rfl) hD3 rfl ?_
  obtain ⟨g4, h⟩ := h
  exact (g_zret (show op 340 8 = some (.ireturn, 1) by decide +kernel) (by decide +kernel) g4 h)
/-- PatchBenchModel.topSize ()I -/
theorem b341 {σ : Sg} {o : Rs}   (h : (¬ ((σ 682 40) = 0) → -2147483648 ≤ (24 + (σ 682 40)) ∧ (24 + (σ 682 40)) ≤ 2147483647) ∧ (¬ ((σ 682 40) = 0) → -2147483648 ≤ ((24 + (σ 682 40)) - 1) ∧ ((24 + (σ 682 40)) - 1) ≤ 2147483647) ∧ (¬ ((σ 682 40) = 0) → 0 ≤ ((24 + (σ 682 40)) - 1) ∧ ((24 + (σ 682 40)) - 1) < 44) ∧ o = (.inl (some (.inl (if (σ 682 40) = 0 then (σ 682 39) else (σ 689 (((24 + (σ 682 40)) - 1)).toNat)))), σ)) : Dd 341 [(.inr (.inr (some 682)))] σ o := by
  refine Dd_of (l := 1) (by decide +kernel) ?_
  show Gd 341 0 [(some (.inr (.inr (some 682))))] [] σ 0 0 o
  refine g_aload_n 1 (show op 341 0 = some (.aload_n 0, 1) by decide +kernel) rfl rfl ?_
  refine g_getI (ci := 11) (f := 40) (fin := false) (isR := false) 4 (show op 341 1 = some (.getfield 397, 3) by decide +kernel) rfl (by decide +kernel) (by decide +kernel) ?_
  obtain ⟨G5, G6, G7, h⟩ := h
  by_cases hc4 : (σ 682 40) = 0
  · refine g_ifF 7 14 (show op 341 4 = some (.ifCond .ne 10, 3) by decide +kernel) rfl rfl (decide_eq_false (fun h9 => h9 hc4)) ?_
    refine g_aload_n 8 (show op 341 7 = some (.aload_n 0, 1) by decide +kernel) rfl rfl ?_
    refine g_getI (ci := 11) (f := 39) (fin := false) (isR := false) 11 (show op 341 8 = some (.getfield 400, 3) by decide +kernel) rfl (by decide +kernel) (by decide +kernel) ?_
    refine g_goto 28 (show op 341 11 = some (.goto 17, 3) by decide +kernel) rfl ?_
    have h9 := h; simp only [if_pos hc4] at h9; exact (g_iret (show op 341 28 = some (.ireturn, 1) by decide +kernel) (by decide +kernel) h9)
  · refine g_ifT 14 (show op 341 4 = some (.ifCond .ne 10, 3) by decide +kernel) rfl (decide_eq_true hc4) ?_
    refine g_aload_n 15 (show op 341 14 = some (.aload_n 0, 1) by decide +kernel) rfl rfl ?_
    refine g_getR (ci := 11) (f := 8) (fin := true) (isR := true) 18 689 (show op 341 15 = some (.getfield 28, 3) by decide +kernel) rfl (by decide +kernel) (by decide +kernel) ?_
    refine g_bipush 20 (show op 341 18 = some (.bipush 24, 2) by decide +kernel) rfl (by decide) ?_
    refine g_aload_n 21 (show op 341 20 = some (.aload_n 0, 1) by decide +kernel) rfl rfl ?_
    refine g_getI (ci := 11) (f := 40) (fin := false) (isR := false) 24 (show op 341 21 = some (.getfield 397, 3) by decide +kernel) rfl (by decide +kernel) (by decide +kernel) ?_
    have g1 := G5 hc4
    refine g_iadd 25 (show op 341 24 = some (.iadd, 1) by decide +kernel) rfl g1 ?_
    refine g_iconst 26 (show op 341 25 = some (.iconst 1, 1) by decide +kernel) rfl rfl ?_
    have g2 := G6 hc4
    refine g_isub 27 (show op 341 26 = some (.isub, 1) by decide +kernel) rfl g2 ?_
    have g3 := G7 hc4
    refine g_iaload 28 44 (show op 341 27 = some (.iaload, 1) by decide +kernel) rfl (by decide +kernel) g3 ?_
    have h9 := h; simp only [if_neg hc4] at h9; exact (g_iret (show op 341 28 = some (.ireturn, 1) by decide +kernel) (by decide +kernel) h9)
/-- PatchBenchModel.topLine (I)I -/
theorem b342 {x1 : Int} {σ : Sg} {o : Rs}   (h : (((σ 682 40) = 0) → 0 ≤ x1 ∧ x1 < 16) ∧ (¬ ((σ 682 40) = 0) → -2147483648 ≤ (24 + (σ 682 40)) ∧ (24 + (σ 682 40)) ≤ 2147483647) ∧ (¬ ((σ 682 40) = 0) → -2147483648 ≤ ((24 + (σ 682 40)) - 1) ∧ ((24 + (σ 682 40)) - 1) ≤ 2147483647) ∧ (¬ ((σ 682 40) = 0) → -2147483648 ≤ (100 * ((24 + (σ 682 40)) - 1)) ∧ (100 * ((24 + (σ 682 40)) - 1)) ≤ 2147483647) ∧ (¬ ((σ 682 40) = 0) → -2147483648 ≤ ((100 * ((24 + (σ 682 40)) - 1)) + x1) ∧ ((100 * ((24 + (σ 682 40)) - 1)) + x1) ≤ 2147483647) ∧ (¬ ((σ 682 40) = 0) → 0 ≤ ((100 * ((24 + (σ 682 40)) - 1)) + x1) ∧ ((100 * ((24 + (σ 682 40)) - 1)) + x1) < 4400) ∧ o = (.inl (some (.inl (if (σ 682 40) = 0 then (σ 710 (x1).toNat) else (σ 686 (((100 * ((24 + (σ 682 40)) - 1)) + x1)).toNat)))), σ)) : Dd 342 [(.inr (.inr (some 682))), (.inl x1)] σ o := by
  refine Dd_of (l := 2) (by decide +kernel) ?_
  show Gd 342 0 [(some (.inr (.inr (some 682)))), (some (.inl x1))] [] σ 0 0 o
  refine g_aload_n 1 (show op 342 0 = some (.aload_n 0, 1) by decide +kernel) rfl rfl ?_
  refine g_getI (ci := 11) (f := 40) (fin := false) (isR := false) 4 (show op 342 1 = some (.getfield 397, 3) by decide +kernel) rfl (by decide +kernel) (by decide +kernel) ?_
  obtain ⟨G8, G9, G10, G11, G12, G13, h⟩ := h
  by_cases hc7 : (σ 682 40) = 0
  · refine g_ifF 7 16 (show op 342 4 = some (.ifCond .ne 12, 3) by decide +kernel) rfl rfl (decide_eq_false (fun h9 => h9 hc7)) ?_
    refine g_aload_n 8 (show op 342 7 = some (.aload_n 0, 1) by decide +kernel) rfl rfl ?_
    refine g_getR (ci := 11) (f := 38) (fin := true) (isR := true) 11 710 (show op 342 8 = some (.getfield 91, 3) by decide +kernel) rfl (by decide +kernel) (by decide +kernel) ?_
    refine g_iload_n 12 (show op 342 11 = some (.iload_n 1, 1) by decide +kernel) rfl rfl ?_
    have g1 := G8 hc7
    refine g_iaload 13 16 (show op 342 12 = some (.iaload, 1) by decide +kernel) rfl (by decide +kernel) g1 ?_
    refine g_goto 35 (show op 342 13 = some (.goto 22, 3) by decide +kernel) rfl ?_
    have h9 := h; simp only [if_pos hc7] at h9; exact (g_iret (show op 342 35 = some (.ireturn, 1) by decide +kernel) (by decide +kernel) h9)
  · refine g_ifT 16 (show op 342 4 = some (.ifCond .ne 12, 3) by decide +kernel) rfl (decide_eq_true hc7) ?_
    refine g_aload_n 17 (show op 342 16 = some (.aload_n 0, 1) by decide +kernel) rfl rfl ?_
    refine g_getR (ci := 11) (f := 5) (fin := true) (isR := true) 20 686 (show op 342 17 = some (.getfield 19, 3) by decide +kernel) rfl (by decide +kernel) (by decide +kernel) ?_
    refine g_bipush 22 (show op 342 20 = some (.bipush 100, 2) by decide +kernel) rfl (by decide) ?_
    refine g_bipush 24 (show op 342 22 = some (.bipush 24, 2) by decide +kernel) rfl (by decide) ?_
    refine g_aload_n 25 (show op 342 24 = some (.aload_n 0, 1) by decide +kernel) rfl rfl ?_
    refine g_getI (ci := 11) (f := 40) (fin := false) (isR := false) 28 (show op 342 25 = some (.getfield 397, 3) by decide +kernel) rfl (by decide +kernel) (by decide +kernel) ?_
    have g2 := G9 hc7
    refine g_iadd 29 (show op 342 28 = some (.iadd, 1) by decide +kernel) rfl g2 ?_
    refine g_iconst 30 (show op 342 29 = some (.iconst 1, 1) by decide +kernel) rfl rfl ?_
    have g3 := G10 hc7
    refine g_isub 31 (show op 342 30 = some (.isub, 1) by decide +kernel) rfl g3 ?_
    have g4 := G11 hc7
    refine g_imul 32 (show op 342 31 = some (.imul, 1) by decide +kernel) rfl g4 ?_
    refine g_iload_n 33 (show op 342 32 = some (.iload_n 1, 1) by decide +kernel) rfl rfl ?_
    have g5 := G12 hc7
    refine g_iadd 34 (show op 342 33 = some (.iadd, 1) by decide +kernel) rfl g5 ?_
    have g6 := G13 hc7
    refine g_iaload 35 4400 (show op 342 34 = some (.iaload, 1) by decide +kernel) rfl (by decide +kernel) g6 ?_
    have h9 := h; simp only [if_neg hc7] at h9; exact (g_iret (show op 342 35 = some (.ireturn, 1) by decide +kernel) (by decide +kernel) h9)
def C343_24 (x1 : Int) (d2 : Option AV) (y1 : Int) (σ : Sg) (o : Rs) : Prop := Gd 343 24 [(some (.inr (.inr (some 682)))), (some (.inl x1)), d2] [(.inl y1), (.inr (.inr (some 682)))] σ 0 0 o
def C343_44 (x1 : Int) (x2 : Int) (σ : Sg) (o : Rs) : Prop := Gd 343 44 [(some (.inr (.inr (some 682)))), (some (.inl x1)), (some (.inl x2))] [] σ 0 0 o
theorem b343_24 {x1 : Int} {d2 : Option AV} {y1 : Int} {σ : Sg} {o : Rs}   (h : (∃ (v2 : Int) (s1 : Sg), Dd 245 [(.inr (.inr (some 682))), (.inl y1)] σ (.inl (some (.inl v2)), s1) ∧ (if v2 = 0 then o = (.inl (some (.inl 0)), s1) else (0 ≤ x1 ∧ x1 < 4) ∧ C343_44 x1 0 (upS s1 682 39 (s1 684 (x1).toNat)) o))) : C343_24 x1 d2 y1 σ o := by
  show Gd 343 24 [(some (.inr (.inr (some 682)))), (some (.inl x1)), d2] [(.inl y1), (.inr (.inr (some 682)))] σ 0 0 o
  obtain ⟨v2, s1, hD3, h⟩ := h
  refine g_call 27 [(.inl v2)] (show op 343 24 = some (.invokevirtual 172, 3) by decide +kernel) (call_vi' (k' := 0) (n' := 0) (nj := 2) (j := 245) (k9 := 21) (t := []) (as := [(.inr (.inr (some 682))), (.inl y1)]) (by decide +kernel) rfl (by decide +kernel) rfl rfl rfl rfl rfl rfl (by decide +kernel) (by decide +kernel)) hD3 rfl ?_
  by_cases hc5 : v2 = 0
  · rw [if_pos hc5] at h
    refine g_ifF 30 32 (show op 343 27 = some (.ifCond .ne 5, 3) by decide +kernel) rfl rfl (decide_eq_false (fun h9 => h9 hc5)) ?_
    refine g_iconst 31 (show op 343 30 = some (.iconst 0, 1) by decide +kernel) rfl rfl ?_
    exact (g_iret (show op 343 31 = some (.ireturn, 1) by decide +kernel) (by decide +kernel) h)
  · rw [if_neg hc5] at h
    refine g_ifT 32 (show op 343 27 = some (.ifCond .ne 5, 3) by decide +kernel) rfl (decide_eq_true hc5) ?_
    refine g_aload_n 33 (show op 343 32 = some (.aload_n 0, 1) by decide +kernel) rfl rfl ?_
    refine g_aload_n 34 (show op 343 33 = some (.aload_n 0, 1) by decide +kernel) rfl rfl ?_
    refine g_getR (ci := 11) (f := 2) (fin := true) (isR := true) 37 684 (show op 343 34 = some (.getfield 13, 3) by decide +kernel) rfl (by decide +kernel) (by decide +kernel) ?_
    refine g_iload_n 38 (show op 343 37 = some (.iload_n 1, 1) by decide +kernel) rfl rfl ?_
    obtain ⟨g4, h⟩ := h
    refine g_iaload 39 4 (show op 343 38 = some (.iaload, 1) by decide +kernel) rfl (by decide +kernel) g4 ?_
    refine g_putI (ci := 11) (f := 39) 42 (show op 343 39 = some (.putfield 400, 3) by decide +kernel) rfl (by decide +kernel) (by decide +kernel) ?_
    refine g_iconst 43 (show op 343 42 = some (.iconst 0, 1) by decide +kernel) rfl rfl ?_
    refine g_istore_n 44 [(some (.inr (.inr (some 682)))), (some (.inl x1)), (some (.inl 0))] (show op 343 43 = some (.istore_n 2, 1) by decide +kernel) rfl rfl rfl ?_
    exact h
theorem b343_44 {x1 : Int} {x2 : Int} {σ : Sg} {o : Rs}   (h : (if x2 < (σ 682 39) then (-2147483648 ≤ (16 * x1) ∧ (16 * x1) ≤ 2147483647) ∧ (-2147483648 ≤ ((16 * x1) + x2) ∧ ((16 * x1) + x2) ≤ 2147483647) ∧ (0 ≤ ((16 * x1) + x2) ∧ ((16 * x1) + x2) < 64) ∧ (0 ≤ x2 ∧ x2 < 16) ∧ (-2147483648 ≤ (x2 + 1) ∧ (x2 + 1) ≤ 2147483647) ∧ C343_44 x1 (x2 + 1) (upS σ 710 ((x2).toNat) (σ 683 (((16 * x1) + x2)).toNat)) o else o = (.inl (some (.inl (σ 682 39))), σ))) : C343_44 x1 x2 σ o := by
  show Gd 343 44 [(some (.inr (.inr (some 682)))), (some (.inl x1)), (some (.inl x2))] [] σ 0 0 o
  refine g_iload_n 45 (show op 343 44 = some (.iload_n 2, 1) by decide +kernel) rfl rfl ?_
  refine g_aload_n 46 (show op 343 45 = some (.aload_n 0, 1) by decide +kernel) rfl rfl ?_
  refine g_getI (ci := 11) (f := 39) (fin := false) (isR := false) 49 (show op 343 46 = some (.getfield 400, 3) by decide +kernel) rfl (by decide +kernel) (by decide +kernel) ?_
  by_cases hc6 : x2 < (σ 682 39)
  · rw [if_pos hc6] at h
    refine g_icmpF 52 75 (show op 343 49 = some (.if_icmp .ge 26, 3) by decide +kernel) rfl rfl (decide_eq_false (Int.not_le.mpr hc6)) ?_
    refine g_aload_n 53 (show op 343 52 = some (.aload_n 0, 1) by decide +kernel) rfl rfl ?_
    refine g_getR (ci := 11) (f := 38) (fin := true) (isR := true) 56 710 (show op 343 53 = some (.getfield 91, 3) by decide +kernel) rfl (by decide +kernel) (by decide +kernel) ?_
    refine g_iload_n 57 (show op 343 56 = some (.iload_n 2, 1) by decide +kernel) rfl rfl ?_
    refine g_aload_n 58 (show op 343 57 = some (.aload_n 0, 1) by decide +kernel) rfl rfl ?_
    refine g_getR (ci := 11) (f := 1) (fin := true) (isR := true) 61 683 (show op 343 58 = some (.getfield 7, 3) by decide +kernel) rfl (by decide +kernel) (by decide +kernel) ?_
    refine g_bipush 63 (show op 343 61 = some (.bipush 16, 2) by decide +kernel) rfl (by decide) ?_
    refine g_iload_n 64 (show op 343 63 = some (.iload_n 1, 1) by decide +kernel) rfl rfl ?_
    obtain ⟨g1, h⟩ := h
    refine g_imul 65 (show op 343 64 = some (.imul, 1) by decide +kernel) rfl g1 ?_
    refine g_iload_n 66 (show op 343 65 = some (.iload_n 2, 1) by decide +kernel) rfl rfl ?_
    obtain ⟨g2, h⟩ := h
    refine g_iadd 67 (show op 343 66 = some (.iadd, 1) by decide +kernel) rfl g2 ?_
    obtain ⟨g3, h⟩ := h
    refine g_iaload 68 64 (show op 343 67 = some (.iaload, 1) by decide +kernel) rfl (by decide +kernel) g3 ?_
    obtain ⟨g4, h⟩ := h
    refine g_iastore 69 16 (show op 343 68 = some (.iastore, 1) by decide +kernel) rfl (by decide +kernel) g4 ?_
    obtain ⟨g5, h⟩ := h
    refine g_iinc 72 [(some (.inr (.inr (some 682)))), (some (.inl x1)), (some (.inl (x2 + 1)))] (show op 343 69 = some (.iinc 2 1, 3) by decide +kernel) rfl rfl g5 rfl ?_
    refine g_goto 44 (show op 343 72 = some (.goto (-28), 3) by decide +kernel) rfl ?_
    exact h
  · rw [if_neg hc6] at h
    refine g_icmpT 75 (show op 343 49 = some (.if_icmp .ge 26, 3) by decide +kernel) rfl (decide_eq_true (Int.not_lt.mp hc6)) ?_
    refine g_aload_n 76 (show op 343 75 = some (.aload_n 0, 1) by decide +kernel) rfl rfl ?_
    refine g_getI (ci := 11) (f := 39) (fin := false) (isR := false) 79 (show op 343 76 = some (.getfield 400, 3) by decide +kernel) rfl (by decide +kernel) (by decide +kernel) ?_
    exact (g_iret (show op 343 79 = some (.ireturn, 1) by decide +kernel) (by decide +kernel) h)
/-- PatchBenchModel.setBase (I)I -/
theorem b343 {x1 : Int} {σ : Sg} {o : Rs}   (h : (∃ (v2 : Int) (s1 : Sg), Dd 247 [(.inl x1)] σ (.inl (some (.inl v2)), s1) ∧ C343_24 x1 none (if v2 = 0 then 1 else (if 0 < (s1 682 40) then 2 else 0)) s1 o)) : Dd 343 [(.inr (.inr (some 682))), (.inl x1)] σ o := by
  refine Dd_of (l := 3) (by decide +kernel) ?_
  show Gd 343 0 [(some (.inr (.inr (some 682)))), (some (.inl x1)), none] [] σ 0 0 o
  refine g_aload_n 1 (show op 343 0 = some (.aload_n 0, 1) by decide +kernel) rfl rfl ?_
  refine g_iload_n 2 (show op 343 1 = some (.iload_n 1, 1) by decide +kernel) rfl rfl ?_
  obtain ⟨v2, s1, hD3, h⟩ := h
  refine g_call 5 [(.inl v2), (.inr (.inr (some 682)))] (show op 343 2 = some (.invokestatic 166, 3) by decide +kernel) (call_st' (k' := 0) (n' := 0) (nj := 1) (j := 247) (t := [(.inr (.inr (some 682)))]) (as := [(.inl x1)]) (by decide +kernel) rfl (by decide +kernel) rfl rfl rfl rfl rfl) hD3 rfl ?_
  by_cases hc4 : v2 = 0
  · refine g_ifF 8 12 (show op 343 5 = some (.ifCond .ne 7, 3) by decide +kernel) rfl rfl (decide_eq_false (fun h9 => h9 hc4)) ?_
    refine g_iconst 9 (show op 343 8 = some (.iconst 1, 1) by decide +kernel) rfl rfl ?_
    refine g_goto 24 (show op 343 9 = some (.goto 15, 3) by decide +kernel) rfl ?_
    have h9 := h; simp only [if_pos hc4] at h9; exact h9
  · refine g_ifT 12 (show op 343 5 = some (.ifCond .ne 7, 3) by decide +kernel) rfl (decide_eq_true hc4) ?_
    refine g_aload_n 13 (show op 343 12 = some (.aload_n 0, 1) by decide +kernel) rfl rfl ?_
    refine g_getI (ci := 11) (f := 40) (fin := false) (isR := false) 16 (show op 343 13 = some (.getfield 397, 3) by decide +kernel) rfl (by decide +kernel) (by decide +kernel) ?_
    by_cases hc5 : 0 < (s1 682 40)
    · refine g_ifF 19 23 (show op 343 16 = some (.ifCond .le 7, 3) by decide +kernel) rfl rfl (decide_eq_false (Int.not_le.mpr hc5)) ?_
      refine g_iconst 20 (show op 343 19 = some (.iconst 2, 1) by decide +kernel) rfl rfl ?_
      refine g_goto 24 (show op 343 20 = some (.goto 4, 3) by decide +kernel) rfl ?_
      have h9 := h; simp only [if_neg hc4, if_pos hc5] at h9; exact h9
    · refine g_ifT 23 (show op 343 16 = some (.ifCond .le 7, 3) by decide +kernel) rfl (decide_eq_true (Int.not_lt.mp hc5)) ?_
      refine g_iconst 24 (show op 343 23 = some (.iconst 0, 1) by decide +kernel) rfl rfl ?_
      have h9 := h; simp only [if_neg hc4, if_neg hc5] at h9; exact h9
def C344_18 (x1 : Int) (d2 : Option AV) (d3 : Option AV) (y0 : Int) (σ : Sg) (o : Rs) : Prop := Gd 344 18 [(some (.inr (.inr (some 682)))), (some (.inl x1)), d2, d3] [(.inl y0)] σ 0 0 o
def C344_21 (x1 : Int) (x2 : Int) (x3 : Int) (σ : Sg) (o : Rs) : Prop := Gd 344 21 [(some (.inr (.inr (some 682)))), (some (.inl x1)), (some (.inl x2)), (some (.inl x3))] [] σ 0 0 o
def C344_59 (x1 : Int) (d2 : Option AV) (x3 : Int) (y0 : Int) (σ : Sg) (o : Rs) : Prop := Gd 344 59 [(some (.inr (.inr (some 682)))), (some (.inl x1)), d2, (some (.inl x3))] [(.inl y0)] σ 0 0 o
theorem b344_18 {x1 : Int} {d2 : Option AV} {d3 : Option AV} {y0 : Int} {σ : Sg} {o : Rs}   (h : C344_21 x1 y0 0 σ o) : C344_18 x1 d2 d3 y0 σ o := by
  show Gd 344 18 [(some (.inr (.inr (some 682)))), (some (.inl x1)), d2, d3] [(.inl y0)] σ 0 0 o
  refine g_istore_n 19 [(some (.inr (.inr (some 682)))), (some (.inl x1)), (some (.inl y0)), d3] (show op 344 18 = some (.istore_n 2, 1) by decide +kernel) rfl rfl rfl ?_
  refine g_iconst 20 (show op 344 19 = some (.iconst 0, 1) by decide +kernel) rfl rfl ?_
  refine g_istore_n 21 [(some (.inr (.inr (some 682)))), (some (.inl x1)), (some (.inl y0)), (some (.inl 0))] (show op 344 20 = some (.istore_n 3, 1) by decide +kernel) rfl rfl rfl ?_
  exact h
theorem b344_21 {x1 : Int} {x2 : Int} {x3 : Int} {σ : Sg} {o : Rs}   (h : (0 ≤ x1 ∧ x1 < 44) ∧ (if x3 < (σ 688 (x1).toNat) then (if x2 = 0 then (x2 = 0 ∨ x2 = 1) ∧ o = (.inl (some (.inl x2)), σ) else (-2147483648 ≤ (100 * x1) ∧ (100 * x1) ≤ 2147483647) ∧ (-2147483648 ≤ ((100 * x1) + x3) ∧ ((100 * x1) + x3) ≤ 2147483647) ∧ (0 ≤ ((100 * x1) + x3) ∧ ((100 * x1) + x3) < 4400) ∧ (∃ (v7 : Int) (s6 : Sg), Dd 342 [(.inr (.inr (some 682))), (.inl x3)] σ (.inl (some (.inl v7)), s6) ∧ C344_59 x1 (some (.inl x2)) x3 (if (σ 685 (((100 * x1) + x3)).toNat) = v7 then 1 else 0) s6 o)) else (x2 = 0 ∨ x2 = 1) ∧ o = (.inl (some (.inl x2)), σ))) : C344_21 x1 x2 x3 σ o := by
  show Gd 344 21 [(some (.inr (.inr (some 682)))), (some (.inl x1)), (some (.inl x2)), (some (.inl x3))] [] σ 0 0 o
  refine g_iload_n 22 (show op 344 21 = some (.iload_n 3, 1) by decide +kernel) rfl rfl ?_
  refine g_aload_n 23 (show op 344 22 = some (.aload_n 0, 1) by decide +kernel) rfl rfl ?_
  refine g_getR (ci := 11) (f := 7) (fin := true) (isR := true) 26 688 (show op 344 23 = some (.getfield 25, 3) by decide +kernel) rfl (by decide +kernel) (by decide +kernel) ?_
  refine g_iload_n 27 (show op 344 26 = some (.iload_n 1, 1) by decide +kernel) rfl rfl ?_
  obtain ⟨g1, h⟩ := h
  refine g_iaload 28 44 (show op 344 27 = some (.iaload, 1) by decide +kernel) rfl (by decide +kernel) g1 ?_
  by_cases hc10 : x3 < (σ 688 (x1).toNat)
  · rw [if_pos hc10] at h
    refine g_icmpF 31 66 (show op 344 28 = some (.if_icmp .ge 38, 3) by decide +kernel) rfl rfl (decide_eq_false (Int.not_le.mpr hc10)) ?_
    refine g_iload_n 32 (show op 344 31 = some (.iload_n 2, 1) by decide +kernel) rfl rfl ?_
    by_cases hc11 : x2 = 0
    · rw [if_pos hc11] at h
      refine g_ifT 66 (show op 344 32 = some (.ifCond .eq 34, 3) by decide +kernel) rfl (decide_eq_true hc11) ?_
      refine g_iload_n 67 (show op 344 66 = some (.iload_n 2, 1) by decide +kernel) rfl rfl ?_
      obtain ⟨g2, h⟩ := h
      exact (g_zret (show op 344 67 = some (.ireturn, 1) by decide +kernel) (by decide +kernel) g2 h)
    · rw [if_neg hc11] at h
      refine g_ifF 35 66 (show op 344 32 = some (.ifCond .eq 34, 3) by decide +kernel) rfl rfl (decide_eq_false hc11) ?_
      refine g_aload_n 36 (show op 344 35 = some (.aload_n 0, 1) by decide +kernel) rfl rfl ?_
      refine g_getR (ci := 11) (f := 4) (fin := true) (isR := true) 39 685 (show op 344 36 = some (.getfield 16, 3) by decide +kernel) rfl (by decide +kernel) (by decide +kernel) ?_
      refine g_bipush 41 (show op 344 39 = some (.bipush 100, 2) by decide +kernel) rfl (by decide) ?_
      refine g_iload_n 42 (show op 344 41 = some (.iload_n 1, 1) by decide +kernel) rfl rfl ?_
      obtain ⟨g3, h⟩ := h
      refine g_imul 43 (show op 344 42 = some (.imul, 1) by decide +kernel) rfl g3 ?_
      refine g_iload_n 44 (show op 344 43 = some (.iload_n 3, 1) by decide +kernel) rfl rfl ?_
      obtain ⟨g4, h⟩ := h
      refine g_iadd 45 (show op 344 44 = some (.iadd, 1) by decide +kernel) rfl g4 ?_
      obtain ⟨g5, h⟩ := h
      refine g_iaload 46 4400 (show op 344 45 = some (.iaload, 1) by decide +kernel) rfl (by decide +kernel) g5 ?_
      refine g_aload_n 47 (show op 344 46 = some (.aload_n 0, 1) by decide +kernel) rfl rfl ?_
      refine g_iload_n 48 (show op 344 47 = some (.iload_n 3, 1) by decide +kernel) rfl rfl ?_
      obtain ⟨v7, s6, hD8, h⟩ := h
      refine g_call 51 [(.inl v7), (.inl (σ 685 (((100 * x1) + x3)).toNat))] (show op 344 48 = some (.invokevirtual 407, 3) by decide +kernel) (call_vi' (k' := 0) (n' := 0) (nj := 2) (j := 342) (k9 := 21) (t := [(.inl (σ 685 (((100 * x1) + x3)).toNat))]) (as := [(.inr (.inr (some 682))), (.inl x3)]) (by decide +kernel) rfl (by decide +kernel) rfl rfl rfl rfl rfl rfl (by decide +kernel) (by decide +kernel)) hD8 rfl ?_
      by_cases hc12 : (σ 685 (((100 * x1) + x3)).toNat) = v7
      · refine g_icmpF 54 58 (show op 344 51 = some (.if_icmp .ne 7, 3) by decide +kernel) rfl rfl (decide_eq_false (fun h9 => h9 hc12)) ?_
        refine g_iconst 55 (show op 344 54 = some (.iconst 1, 1) by decide +kernel) rfl rfl ?_
        refine g_goto 59 (show op 344 55 = some (.goto 4, 3) by decide +kernel) rfl ?_
        have h9 := h; simp only [if_pos hc12] at h9; exact h9
      · refine g_icmpT 58 (show op 344 51 = some (.if_icmp .ne 7, 3) by decide +kernel) rfl (decide_eq_true hc12) ?_
        refine g_iconst 59 (show op 344 58 = some (.iconst 0, 1) by decide +kernel) rfl rfl ?_
        have h9 := h; simp only [if_neg hc12] at h9; exact h9
  · rw [if_neg hc10] at h
    refine g_icmpT 66 (show op 344 28 = some (.if_icmp .ge 38, 3) by decide +kernel) rfl (decide_eq_true (Int.not_lt.mp hc10)) ?_
    refine g_iload_n 67 (show op 344 66 = some (.iload_n 2, 1) by decide +kernel) rfl rfl ?_
    obtain ⟨g9, h⟩ := h
    exact (g_zret (show op 344 67 = some (.ireturn, 1) by decide +kernel) (by decide +kernel) g9 h)
theorem b344_59 {x1 : Int} {d2 : Option AV} {x3 : Int} {y0 : Int} {σ : Sg} {o : Rs}   (h : (-2147483648 ≤ (x3 + 1) ∧ (x3 + 1) ≤ 2147483647) ∧ C344_21 x1 y0 (x3 + 1) σ o) : C344_59 x1 d2 x3 y0 σ o := by
  show Gd 344 59 [(some (.inr (.inr (some 682)))), (some (.inl x1)), d2, (some (.inl x3))] [(.inl y0)] σ 0 0 o
  refine g_istore_n 60 [(some (.inr (.inr (some 682)))), (some (.inl x1)), (some (.inl y0)), (some (.inl x3))] (show op 344 59 = some (.istore_n 2, 1) by decide +kernel) rfl rfl rfl ?_
  obtain ⟨g1, h⟩ := h
  refine g_iinc 63 [(some (.inr (.inr (some 682)))), (some (.inl x1)), (some (.inl y0)), (some (.inl (x3 + 1)))] (show op 344 60 = some (.iinc 3 1, 3) by decide +kernel) rfl rfl g1 rfl ?_
  refine g_goto 21 (show op 344 63 = some (.goto (-42), 3) by decide +kernel) rfl ?_
  exact h
/-- PatchBenchModel.fitsTop (I)Z -/
theorem b344 {x1 : Int} {σ : Sg} {o : Rs}   (h : (0 ≤ x1 ∧ x1 < 44) ∧ (∃ (v3 : Int) (s2 : Sg), Dd 341 [(.inr (.inr (some 682)))] σ (.inl (some (.inl v3)), s2) ∧ C344_18 x1 none none (if (σ 688 (x1).toNat) = v3 then 1 else 0) s2 o)) : Dd 344 [(.inr (.inr (some 682))), (.inl x1)] σ o := by
  refine Dd_of (l := 4) (by decide +kernel) ?_
  show Gd 344 0 [(some (.inr (.inr (some 682)))), (some (.inl x1)), none, none] [] σ 0 0 o
  refine g_aload_n 1 (show op 344 0 = some (.aload_n 0, 1) by decide +kernel) rfl rfl ?_
  refine g_getR (ci := 11) (f := 7) (fin := true) (isR := true) 4 688 (show op 344 1 = some (.getfield 25, 3) by decide +kernel) rfl (by decide +kernel) (by decide +kernel) ?_
  refine g_iload_n 5 (show op 344 4 = some (.iload_n 1, 1) by decide +kernel) rfl rfl ?_
  obtain ⟨g1, h⟩ := h
  refine g_iaload 6 44 (show op 344 5 = some (.iaload, 1) by decide +kernel) rfl (by decide +kernel) g1 ?_
  refine g_aload_n 7 (show op 344 6 = some (.aload_n 0, 1) by decide +kernel) rfl rfl ?_
  obtain ⟨v3, s2, hD4, h⟩ := h
  refine g_call 10 [(.inl v3), (.inl (σ 688 (x1).toNat))] (show op 344 7 = some (.invokevirtual 403, 3) by decide +kernel) (call_vi' (k' := 0) (n' := 0) (nj := 1) (j := 341) (k9 := 21) (t := [(.inl (σ 688 (x1).toNat))]) (as := [(.inr (.inr (some 682)))]) (by decide +kernel) rfl (by decide +kernel) rfl rfl rfl rfl rfl rfl (by decide +kernel) (by decide +kernel)) hD4 rfl ?_
  by_cases hc5 : (σ 688 (x1).toNat) = v3
  · refine g_icmpF 13 17 (show op 344 10 = some (.if_icmp .ne 7, 3) by decide +kernel) rfl rfl (decide_eq_false (fun h9 => h9 hc5)) ?_
    refine g_iconst 14 (show op 344 13 = some (.iconst 1, 1) by decide +kernel) rfl rfl ?_
    refine g_goto 18 (show op 344 14 = some (.goto 4, 3) by decide +kernel) rfl ?_
    have h9 := h; simp only [if_pos hc5] at h9; exact h9
  · refine g_icmpT 17 (show op 344 10 = some (.if_icmp .ne 7, 3) by decide +kernel) rfl (decide_eq_true hc5) ?_
    refine g_iconst 18 (show op 344 17 = some (.iconst 0, 1) by decide +kernel) rfl rfl ?_
    have h9 := h; simp only [if_neg hc5] at h9; exact h9
def C345_36 (x1 : Int) (d2 : Option AV) (y1 : Int) (σ : Sg) (o : Rs) : Prop := Gd 345 36 [(some (.inr (.inr (some 682)))), (some (.inl x1)), d2] [(.inl y1), (.inr (.inr (some 682)))] σ 0 0 o
def C345_31 (x1 : Int) (d2 : Option AV) (σ : Sg) (o : Rs) : Prop := Gd 345 31 [(some (.inr (.inr (some 682)))), (some (.inl x1)), d2] [(.inr (.inr (some 682)))] σ 0 0 o
theorem b345_36 {x1 : Int} {d2 : Option AV} {y1 : Int} {σ : Sg} {o : Rs}   (h : (∃ (v2 : Int) (s1 : Sg), Dd 245 [(.inr (.inr (some 682))), (.inl y1)] σ (.inl (some (.inl v2)), s1) ∧ (if v2 = 0 then o = (.inl (some (.inl 0)), s1) else (-2147483648 ≤ (24 + (s1 682 40)) ∧ (24 + (s1 682 40)) ≤ 2147483647) ∧ (∃ (s5 : Sg), Dd 288 [(.inr (.inr (some 682))), (.inl x1), (.inl (24 + (s1 682 40)))] s1 (.inl none, s5) ∧ (0 ≤ (s5 682 40) ∧ (s5 682 40) < 5) ∧ (-2147483648 ≤ (((upS s5 711 (((s5 682 40)).toNat) (s5 682 41)) 682 40) + 1) ∧ (((upS s5 711 (((s5 682 40)).toNat) (s5 682 41)) 682 40) + 1) ≤ 2147483647) ∧ (-2147483648 ≤ (((upS (upS s5 711 (((s5 682 40)).toNat) (s5 682 41)) 682 40 (((upS s5 711 (((s5 682 40)).toNat) (s5 682 41)) 682 40) + 1)) 682 41) + 1) ∧ (((upS (upS s5 711 (((s5 682 40)).toNat) (s5 682 41)) 682 40 (((upS s5 711 (((s5 682 40)).toNat) (s5 682 41)) 682 40) + 1)) 682 41) + 1) ≤ 2147483647) ∧ (-2147483648 ≤ (((upS (upS (upS s5 711 (((s5 682 40)).toNat) (s5 682 41)) 682 40 (((upS s5 711 (((s5 682 40)).toNat) (s5 682 41)) 682 40) + 1)) 682 41 (((upS (upS s5 711 (((s5 682 40)).toNat) (s5 682 41)) 682 40 (((upS s5 711 (((s5 682 40)).toNat) (s5 682 41)) 682 40) + 1)) 682 41) + 1)) 682 41) - 1) ∧ (((upS (upS (upS s5 711 (((s5 682 40)).toNat) (s5 682 41)) 682 40 (((upS s5 711 (((s5 682 40)).toNat) (s5 682 41)) 682 40) + 1)) 682 41 (((upS (upS s5 711 (((s5 682 40)).toNat) (s5 682 41)) 682 40 (((upS s5 711 (((s5 682 40)).toNat) (s5 682 41)) 682 40) + 1)) 682 41) + 1)) 682 41) - 1) ≤ 2147483647) ∧ o = (.inl (some (.inl (((upS (upS (upS s5 711 (((s5 682 40)).toNat) (s5 682 41)) 682 40 (((upS s5 711 (((s5 682 40)).toNat) (s5 682 41)) 682 40) + 1)) 682 41 (((upS (upS s5 711 (((s5 682 40)).toNat) (s5 682 41)) 682 40 (((upS s5 711 (((s5 682 40)).toNat) (s5 682 41)) 682 40) + 1)) 682 41) + 1)) 682 41) - 1))), (upS (upS (upS s5 711 (((s5 682 40)).toNat) (s5 682 41)) 682 40 (((upS s5 711 (((s5 682 40)).toNat) (s5 682 41)) 682 40) + 1)) 682 41 (((upS (upS s5 711 (((s5 682 40)).toNat) (s5 682 41)) 682 40 (((upS s5 711 (((s5 682 40)).toNat) (s5 682 41)) 682 40) + 1)) 682 41) + 1))))))) : C345_36 x1 d2 y1 σ o := by
  show Gd 345 36 [(some (.inr (.inr (some 682)))), (some (.inl x1)), d2] [(.inl y1), (.inr (.inr (some 682)))] σ 0 0 o
  obtain ⟨v2, s1, hD3, h⟩ := h
  refine g_call 39 [(.inl v2)] (show op 345 36 = some (.invokevirtual 172, 3) by decide +kernel) (call_vi' (k' := 0) (n' := 0) (nj := 2) (j := 245) (k9 := 21) (t := []) (as := [(.inr (.inr (some 682))), (.inl y1)]) (by decide +kernel) rfl (by decide +kernel) rfl rfl rfl rfl rfl rfl (by decide +kernel) (by decide +kernel)) hD3 rfl ?_
  by_cases hc11 : v2 = 0
  · rw [if_pos hc11] at h
    refine g_ifF 42 44 (show op 345 39 = some (.ifCond .ne 5, 3) by decide +kernel) rfl rfl (decide_eq_false (fun h9 => h9 hc11)) ?_
    refine g_iconst 43 (show op 345 42 = some (.iconst 0, 1) by decide +kernel) rfl rfl ?_
    exact (g_iret (show op 345 43 = some (.ireturn, 1) by decide +kernel) (by decide +kernel) h)
  · rw [if_neg hc11] at h
    refine g_ifT 44 (show op 345 39 = some (.ifCond .ne 5, 3) by decide +kernel) rfl (decide_eq_true hc11) ?_
    refine g_aload_n 45 (show op 345 44 = some (.aload_n 0, 1) by decide +kernel) rfl rfl ?_
    refine g_iload_n 46 (show op 345 45 = some (.iload_n 1, 1) by decide +kernel) rfl rfl ?_
    refine g_bipush 48 (show op 345 46 = some (.bipush 24, 2) by decide +kernel) rfl (by decide) ?_
    refine g_aload_n 49 (show op 345 48 = some (.aload_n 0, 1) by decide +kernel) rfl rfl ?_
    refine g_getI (ci := 11) (f := 40) (fin := false) (isR := false) 52 (show op 345 49 = some (.getfield 397, 3) by decide +kernel) rfl (by decide +kernel) (by decide +kernel) ?_
    obtain ⟨g4, h⟩ := h
    refine g_iadd 53 (show op 345 52 = some (.iadd, 1) by decide +kernel) rfl g4 ?_
    obtain ⟨s5, hD6, h⟩ := h
    refine g_call 56 [] (show op 345 53 = some (.invokevirtual 273, 3) by decide +kernel) (call_vi' (k' := 0) (n' := 0) (nj := 3) (j := 288) (k9 := 21) (t := []) (as := [(.inr (.inr (some 682))), (.inl x1), (.inl (24 + (s1 682 40)))]) (by decide +kernel) rfl (by decide +kernel) rfl rfl rfl rfl rfl rfl (by decide +kernel) (by decide +kernel)) hD6 rfl ?_
    refine g_aload_n 57 (show op 345 56 = some (.aload_n 0, 1) by decide +kernel) rfl rfl ?_
    refine g_getR (ci := 11) (f := 42) (fin := true) (isR := true) 60 711 (show op 345 57 = some (.getfield 94, 3) by decide +kernel) rfl (by decide +kernel) (by decide +kernel) ?_
    refine g_aload_n 61 (show op 345 60 = some (.aload_n 0, 1) by decide +kernel) rfl rfl ?_
    refine g_getI (ci := 11) (f := 40) (fin := false) (isR := false) 64 (show op 345 61 = some (.getfield 397, 3) by decide +kernel) rfl (by decide +kernel) (by decide +kernel) ?_
    refine g_aload_n 65 (show op 345 64 = some (.aload_n 0, 1) by decide +kernel) rfl rfl ?_
    refine g_getI (ci := 11) (f := 41) (fin := false) (isR := false) 68 (show op 345 65 = some (.getfield 413, 3) by decide +kernel) rfl (by decide +kernel) (by decide +kernel) ?_
    obtain ⟨g7, h⟩ := h
    refine g_iastore 69 5 (show op 345 68 = some (.iastore, 1) by decide +kernel) rfl (by decide +kernel) g7 ?_
    refine g_aload_n 70 (show op 345 69 = some (.aload_n 0, 1) by decide +kernel) rfl rfl ?_
    refine g_dup 71 (show op 345 70 = some (.dup, 1) by decide +kernel) rfl rfl ?_
    refine g_getI (ci := 11) (f := 40) (fin := false) (isR := false) 74 (show op 345 71 = some (.getfield 397, 3) by decide +kernel) rfl (by decide +kernel) (by decide +kernel) ?_
    refine g_iconst 75 (show op 345 74 = some (.iconst 1, 1) by decide +kernel) rfl rfl ?_
    obtain ⟨g8, h⟩ := h
    refine g_iadd 76 (show op 345 75 = some (.iadd, 1) by decide +kernel) rfl g8 ?_
    refine g_putI (ci := 11) (f := 40) 79 (show op 345 76 = some (.putfield 397, 3) by decide +kernel) rfl (by decide +kernel) (by decide +kernel) ?_
    refine g_aload_n 80 (show op 345 79 = some (.aload_n 0, 1) by decide +kernel) rfl rfl ?_
    refine g_dup 81 (show op 345 80 = some (.dup, 1) by decide +kernel) rfl rfl ?_
    refine g_getI (ci := 11) (f := 41) (fin := false) (isR := false) 84 (show op 345 81 = some (.getfield 413, 3) by decide +kernel) rfl (by decide +kernel) (by decide +kernel) ?_
    refine g_iconst 85 (show op 345 84 = some (.iconst 1, 1) by decide +kernel) rfl rfl ?_
    obtain ⟨g9, h⟩ := h
    refine g_iadd 86 (show op 345 85 = some (.iadd, 1) by decide +kernel) rfl g9 ?_
    refine g_putI (ci := 11) (f := 41) 89 (show op 345 86 = some (.putfield 413, 3) by decide +kernel) rfl (by decide +kernel) (by decide +kernel) ?_
    refine g_aload_n 90 (show op 345 89 = some (.aload_n 0, 1) by decide +kernel) rfl rfl ?_
    refine g_getI (ci := 11) (f := 41) (fin := false) (isR := false) 93 (show op 345 90 = some (.getfield 413, 3) by decide +kernel) rfl (by decide +kernel) (by decide +kernel) ?_
    refine g_iconst 94 (show op 345 93 = some (.iconst 1, 1) by decide +kernel) rfl rfl ?_
    obtain ⟨g10, h⟩ := h
    refine g_isub 95 (show op 345 94 = some (.isub, 1) by decide +kernel) rfl g10 ?_
    exact (g_iret (show op 345 95 = some (.ireturn, 1) by decide +kernel) (by decide +kernel) h)
theorem b345_31 {x1 : Int} {d2 : Option AV} {σ : Sg} {o : Rs}   (h : C345_36 x1 d2 2 σ o) : C345_31 x1 d2 σ o := by
  show Gd 345 31 [(some (.inr (.inr (some 682)))), (some (.inl x1)), d2] [(.inr (.inr (some 682)))] σ 0 0 o
  refine g_iconst 32 (show op 345 31 = some (.iconst 2, 1) by decide +kernel) rfl rfl ?_
  refine g_goto 36 (show op 345 32 = some (.goto 4, 3) by decide +kernel) rfl ?_
  exact h
/-- PatchBenchModel.push (I)I -/
theorem b345 {x1 : Int} {σ : Sg} {o : Rs}   (h : (∃ (v2 : Int) (s1 : Sg), Dd 248 [(.inr (.inr (some 682))), (.inl x1)] σ (.inl (some (.inl v2)), s1) ∧ (if v2 = 0 then C345_36 x1 (some (.inl v2)) 1 s1 o else (if (s1 682 40) = 5 then C345_31 x1 (some (.inl v2)) s1 o else (∃ (v5 : Int) (s4 : Sg), Dd 344 [(.inr (.inr (some 682))), (.inl x1)] s1 (.inl (some (.inl v5)), s4) ∧ (if v5 = 0 then C345_31 x1 (some (.inl v2)) s4 o else C345_36 x1 (some (.inl v2)) 0 s4 o)))))) : Dd 345 [(.inr (.inr (some 682))), (.inl x1)] σ o := by
  refine Dd_of (l := 3) (by decide +kernel) ?_
  show Gd 345 0 [(some (.inr (.inr (some 682)))), (some (.inl x1)), none] [] σ 0 0 o
  refine g_aload_n 1 (show op 345 0 = some (.aload_n 0, 1) by decide +kernel) rfl rfl ?_
  refine g_iload_n 2 (show op 345 1 = some (.iload_n 1, 1) by decide +kernel) rfl rfl ?_
  obtain ⟨v2, s1, hD3, h⟩ := h
  refine g_call 5 [(.inl v2)] (show op 345 2 = some (.invokevirtual 290, 3) by decide +kernel) (call_vi' (k' := 0) (n' := 0) (nj := 2) (j := 248) (k9 := 21) (t := []) (as := [(.inr (.inr (some 682))), (.inl x1)]) (by decide +kernel) rfl (by decide +kernel) rfl rfl rfl rfl rfl rfl (by decide +kernel) (by decide +kernel)) hD3 rfl ?_
  refine g_istore_n 6 [(some (.inr (.inr (some 682)))), (some (.inl x1)), (some (.inl v2))] (show op 345 5 = some (.istore_n 2, 1) by decide +kernel) rfl rfl rfl ?_
  refine g_aload_n 7 (show op 345 6 = some (.aload_n 0, 1) by decide +kernel) rfl rfl ?_
  refine g_iload_n 8 (show op 345 7 = some (.iload_n 2, 1) by decide +kernel) rfl rfl ?_
  by_cases hc7 : v2 = 0
  · rw [if_pos hc7] at h
    refine g_ifF 11 15 (show op 345 8 = some (.ifCond .ne 7, 3) by decide +kernel) rfl rfl (decide_eq_false (fun h9 => h9 hc7)) ?_
    refine g_iconst 12 (show op 345 11 = some (.iconst 1, 1) by decide +kernel) rfl rfl ?_
    refine g_goto 36 (show op 345 12 = some (.goto 24, 3) by decide +kernel) rfl ?_
    exact h
  · rw [if_neg hc7] at h
    refine g_ifT 15 (show op 345 8 = some (.ifCond .ne 7, 3) by decide +kernel) rfl (decide_eq_true hc7) ?_
    refine g_aload_n 16 (show op 345 15 = some (.aload_n 0, 1) by decide +kernel) rfl rfl ?_
    refine g_getI (ci := 11) (f := 40) (fin := false) (isR := false) 19 (show op 345 16 = some (.getfield 397, 3) by decide +kernel) rfl (by decide +kernel) (by decide +kernel) ?_
    refine g_iconst 20 (show op 345 19 = some (.iconst 5, 1) by decide +kernel) rfl rfl ?_
    by_cases hc8 : (s1 682 40) = 5
    · rw [if_pos hc8] at h
      refine g_icmpT 31 (show op 345 20 = some (.if_icmp .eq 11, 3) by decide +kernel) rfl (decide_eq_true hc8) ?_
      exact h
    · rw [if_neg hc8] at h
      refine g_icmpF 23 31 (show op 345 20 = some (.if_icmp .eq 11, 3) by decide +kernel) rfl rfl (decide_eq_false hc8) ?_
      refine g_aload_n 24 (show op 345 23 = some (.aload_n 0, 1) by decide +kernel) rfl rfl ?_
      refine g_iload_n 25 (show op 345 24 = some (.iload_n 1, 1) by decide +kernel) rfl rfl ?_
      obtain ⟨v5, s4, hD6, h⟩ := h
      refine g_call 28 [(.inl v5), (.inr (.inr (some 682)))] (show op 345 25 = some (.invokevirtual 410, 3) by decide +kernel) (call_vi' (k' := 0) (n' := 0) (nj := 2) (j := 344) (k9 := 21) (t := [(.inr (.inr (some 682)))]) (as := [(.inr (.inr (some 682))), (.inl x1)]) (by decide +kernel) rfl (by decide +kernel) rfl rfl rfl rfl rfl rfl (by decide +kernel) (by decide +kernel)) hD6 rfl ?_
      by_cases hc9 : v5 = 0
      · rw [if_pos hc9] at h
        refine g_ifF 31 35 (show op 345 28 = some (.ifCond .ne 7, 3) by decide +kernel) rfl rfl (decide_eq_false (fun h9 => h9 hc9)) ?_
        exact h
      · rw [if_neg hc9] at h
        refine g_ifT 35 (show op 345 28 = some (.ifCond .ne 7, 3) by decide +kernel) rfl (decide_eq_true hc9) ?_
        refine g_iconst 36 (show op 345 35 = some (.iconst 0, 1) by decide +kernel) rfl rfl ?_
        exact h
def C346_13 (y1 : Int) (σ : Sg) (o : Rs) : Prop := Gd 346 13 [(some (.inr (.inr (some 682))))] [(.inl y1), (.inr (.inr (some 682)))] σ 0 0 o
theorem b346_13 {y1 : Int} {σ : Sg} {o : Rs}   (h : (∃ (v2 : Int) (s1 : Sg), Dd 245 [(.inr (.inr (some 682))), (.inl y1)] σ (.inl (some (.inl v2)), s1) ∧ (if v2 = 0 then o = (.inl (some (.inl 0)), s1) else (-2147483648 ≤ ((s1 682 40) - 1) ∧ ((s1 682 40) - 1) ≤ 2147483647) ∧ (0 ≤ ((upS s1 682 40 ((s1 682 40) - 1)) 682 40) ∧ ((upS s1 682 40 ((s1 682 40) - 1)) 682 40) < 5) ∧ o = (.inl (some (.inl ((upS s1 682 40 ((s1 682 40) - 1)) 711 (((upS s1 682 40 ((s1 682 40) - 1)) 682 40)).toNat))), (upS s1 682 40 ((s1 682 40) - 1)))))) : C346_13 y1 σ o := by
  show Gd 346 13 [(some (.inr (.inr (some 682))))] [(.inl y1), (.inr (.inr (some 682)))] σ 0 0 o
  obtain ⟨v2, s1, hD3, h⟩ := h
  refine g_call 16 [(.inl v2)] (show op 346 13 = some (.invokevirtual 172, 3) by decide +kernel) (call_vi' (k' := 0) (n' := 0) (nj := 2) (j := 245) (k9 := 21) (t := []) (as := [(.inr (.inr (some 682))), (.inl y1)]) (by decide +kernel) rfl (by decide +kernel) rfl rfl rfl rfl rfl rfl (by decide +kernel) (by decide +kernel)) hD3 rfl ?_
  by_cases hc6 : v2 = 0
  · rw [if_pos hc6] at h
    refine g_ifF 19 21 (show op 346 16 = some (.ifCond .ne 5, 3) by decide +kernel) rfl rfl (decide_eq_false (fun h9 => h9 hc6)) ?_
    refine g_iconst 20 (show op 346 19 = some (.iconst 0, 1) by decide +kernel) rfl rfl ?_
    exact (g_iret (show op 346 20 = some (.ireturn, 1) by decide +kernel) (by decide +kernel) h)
  · rw [if_neg hc6] at h
    refine g_ifT 21 (show op 346 16 = some (.ifCond .ne 5, 3) by decide +kernel) rfl (decide_eq_true hc6) ?_
    refine g_aload_n 22 (show op 346 21 = some (.aload_n 0, 1) by decide +kernel) rfl rfl ?_
    refine g_dup 23 (show op 346 22 = some (.dup, 1) by decide +kernel) rfl rfl ?_
    refine g_getI (ci := 11) (f := 40) (fin := false) (isR := false) 26 (show op 346 23 = some (.getfield 397, 3) by decide +kernel) rfl (by decide +kernel) (by decide +kernel) ?_
    refine g_iconst 27 (show op 346 26 = some (.iconst 1, 1) by decide +kernel) rfl rfl ?_
    obtain ⟨g4, h⟩ := h
    refine g_isub 28 (show op 346 27 = some (.isub, 1) by decide +kernel) rfl g4 ?_
    refine g_putI (ci := 11) (f := 40) 31 (show op 346 28 = some (.putfield 397, 3) by decide +kernel) rfl (by decide +kernel) (by decide +kernel) ?_
    refine g_aload_n 32 (show op 346 31 = some (.aload_n 0, 1) by decide +kernel) rfl rfl ?_
    refine g_getR (ci := 11) (f := 42) (fin := true) (isR := true) 35 711 (show op 346 32 = some (.getfield 94, 3) by decide +kernel) rfl (by decide +kernel) (by decide +kernel) ?_
    refine g_aload_n 36 (show op 346 35 = some (.aload_n 0, 1) by decide +kernel) rfl rfl ?_
    refine g_getI (ci := 11) (f := 40) (fin := false) (isR := false) 39 (show op 346 36 = some (.getfield 397, 3) by decide +kernel) rfl (by decide +kernel) (by decide +kernel) ?_
    obtain ⟨g5, h⟩ := h
    refine g_iaload 40 5 (show op 346 39 = some (.iaload, 1) by decide +kernel) rfl (by decide +kernel) g5 ?_
    exact (g_iret (show op 346 40 = some (.ireturn, 1) by decide +kernel) (by decide +kernel) h)
/-- PatchBenchModel.pop ()I -/
theorem b346 {σ : Sg} {o : Rs}   (h : C346_13 (if (σ 682 40) = 0 then 1 else 0) σ o) : Dd 346 [(.inr (.inr (some 682)))] σ o := by
  refine Dd_of (l := 1) (by decide +kernel) ?_
  show Gd 346 0 [(some (.inr (.inr (some 682))))] [] σ 0 0 o
  refine g_aload_n 1 (show op 346 0 = some (.aload_n 0, 1) by decide +kernel) rfl rfl ?_
  refine g_aload_n 2 (show op 346 1 = some (.aload_n 0, 1) by decide +kernel) rfl rfl ?_
  refine g_getI (ci := 11) (f := 40) (fin := false) (isR := false) 5 (show op 346 2 = some (.getfield 397, 3) by decide +kernel) rfl (by decide +kernel) (by decide +kernel) ?_
  by_cases hc1 : (σ 682 40) = 0
  · refine g_ifF 8 12 (show op 346 5 = some (.ifCond .ne 7, 3) by decide +kernel) rfl rfl (decide_eq_false (fun h9 => h9 hc1)) ?_
    refine g_iconst 9 (show op 346 8 = some (.iconst 1, 1) by decide +kernel) rfl rfl ?_
    refine g_goto 13 (show op 346 9 = some (.goto 4, 3) by decide +kernel) rfl ?_
    have h9 := h; simp only [if_pos hc1] at h9; exact h9
  · refine g_ifT 12 (show op 346 5 = some (.ifCond .ne 7, 3) by decide +kernel) rfl (decide_eq_true hc1) ?_
    refine g_iconst 13 (show op 346 12 = some (.iconst 0, 1) by decide +kernel) rfl rfl ?_
    have h9 := h; simp only [if_neg hc1] at h9; exact h9
def C347_27 (x1 : Int) (y1 : Int) (σ : Sg) (o : Rs) : Prop := Gd 347 27 [(some (.inr (.inr (some 682)))), (some (.inl x1))] [(.inl y1), (.inr (.inr (some 682)))] σ 0 0 o
theorem b347_27 {x1 : Int} {y1 : Int} {σ : Sg} {o : Rs}   (h : (∃ (v2 : Int) (s1 : Sg), Dd 245 [(.inr (.inr (some 682))), (.inl y1)] σ (.inl (some (.inl v2)), s1) ∧ (if v2 = 0 then o = (.inl (some (.inl 0)), s1) else (-2147483648 ≤ (24 + x1) ∧ (24 + x1) ≤ 2147483647) ∧ (∃ (v6 : Int) (s5 : Sg), Dd 289 [(.inr (.inr (some 682))), (.inl (24 + x1))] s1 (.inl (some (.inl v6)), s5) ∧ o = (.inl (some (.inl v6)), s5))))) : C347_27 x1 y1 σ o := by
  show Gd 347 27 [(some (.inr (.inr (some 682)))), (some (.inl x1))] [(.inl y1), (.inr (.inr (some 682)))] σ 0 0 o
  obtain ⟨v2, s1, hD3, h⟩ := h
  refine g_call 30 [(.inl v2)] (show op 347 27 = some (.invokevirtual 172, 3) by decide +kernel) (call_vi' (k' := 0) (n' := 0) (nj := 2) (j := 245) (k9 := 21) (t := []) (as := [(.inr (.inr (some 682))), (.inl y1)]) (by decide +kernel) rfl (by decide +kernel) rfl rfl rfl rfl rfl rfl (by decide +kernel) (by decide +kernel)) hD3 rfl ?_
  by_cases hc8 : v2 = 0
  · rw [if_pos hc8] at h
    refine g_ifF 33 35 (show op 347 30 = some (.ifCond .ne 5, 3) by decide +kernel) rfl rfl (decide_eq_false (fun h9 => h9 hc8)) ?_
    refine g_iconst 34 (show op 347 33 = some (.iconst 0, 1) by decide +kernel) rfl rfl ?_
    exact (g_iret (show op 347 34 = some (.ireturn, 1) by decide +kernel) (by decide +kernel) h)
  · rw [if_neg hc8] at h
    refine g_ifT 35 (show op 347 30 = some (.ifCond .ne 5, 3) by decide +kernel) rfl (decide_eq_true hc8) ?_
    refine g_aload_n 36 (show op 347 35 = some (.aload_n 0, 1) by decide +kernel) rfl rfl ?_
    refine g_bipush 38 (show op 347 36 = some (.bipush 24, 2) by decide +kernel) rfl (by decide) ?_
    refine g_iload_n 39 (show op 347 38 = some (.iload_n 1, 1) by decide +kernel) rfl rfl ?_
    obtain ⟨g4, h⟩ := h
    refine g_iadd 40 (show op 347 39 = some (.iadd, 1) by decide +kernel) rfl g4 ?_
    obtain ⟨v6, s5, hD7, h⟩ := h
    refine g_call 43 [(.inl v6)] (show op 347 40 = some (.invokevirtual 309, 3) by decide +kernel) (call_vi' (k' := 0) (n' := 0) (nj := 2) (j := 289) (k9 := 21) (t := []) (as := [(.inr (.inr (some 682))), (.inl (24 + x1))]) (by decide +kernel) rfl (by decide +kernel) rfl rfl rfl rfl rfl rfl (by decide +kernel) (by decide +kernel)) hD7 rfl ?_
    exact (g_iret (show op 347 43 = some (.ireturn, 1) by decide +kernel) (by decide +kernel) h)
/-- PatchBenchModel.take (I)I -/
theorem b347 {x1 : Int} {σ : Sg} {o : Rs}   (h : (∃ (v2 : Int) (s1 : Sg), Dd 340 [(.inr (.inr (some 682))), (.inl x1)] σ (.inl (some (.inl v2)), s1) ∧ C347_27 x1 (if v2 = 0 then 1 else (if (s1 682 3) = 24 then 2 else 0)) s1 o)) : Dd 347 [(.inr (.inr (some 682))), (.inl x1)] σ o := by
  refine Dd_of (l := 2) (by decide +kernel) ?_
  show Gd 347 0 [(some (.inr (.inr (some 682)))), (some (.inl x1))] [] σ 0 0 o
  refine g_aload_n 1 (show op 347 0 = some (.aload_n 0, 1) by decide +kernel) rfl rfl ?_
  refine g_aload_n 2 (show op 347 1 = some (.aload_n 0, 1) by decide +kernel) rfl rfl ?_
  refine g_iload_n 3 (show op 347 2 = some (.iload_n 1, 1) by decide +kernel) rfl rfl ?_
  obtain ⟨v2, s1, hD3, h⟩ := h
  refine g_call 6 [(.inl v2), (.inr (.inr (some 682)))] (show op 347 3 = some (.invokevirtual 416, 3) by decide +kernel) (call_vi' (k' := 0) (n' := 0) (nj := 2) (j := 340) (k9 := 21) (t := [(.inr (.inr (some 682)))]) (as := [(.inr (.inr (some 682))), (.inl x1)]) (by decide +kernel) rfl (by decide +kernel) rfl rfl rfl rfl rfl rfl (by decide +kernel) (by decide +kernel)) hD3 rfl ?_
  by_cases hc4 : v2 = 0
  · refine g_ifF 9 13 (show op 347 6 = some (.ifCond .ne 7, 3) by decide +kernel) rfl rfl (decide_eq_false (fun h9 => h9 hc4)) ?_
    refine g_iconst 10 (show op 347 9 = some (.iconst 1, 1) by decide +kernel) rfl rfl ?_
    refine g_goto 27 (show op 347 10 = some (.goto 17, 3) by decide +kernel) rfl ?_
    have h9 := h; simp only [if_pos hc4] at h9; exact h9
  · refine g_ifT 13 (show op 347 6 = some (.ifCond .ne 7, 3) by decide +kernel) rfl (decide_eq_true hc4) ?_
    refine g_aload_n 14 (show op 347 13 = some (.aload_n 0, 1) by decide +kernel) rfl rfl ?_
    refine g_getI (ci := 11) (f := 3) (fin := false) (isR := false) 17 (show op 347 14 = some (.getfield 148, 3) by decide +kernel) rfl (by decide +kernel) (by decide +kernel) ?_
    refine g_bipush 19 (show op 347 17 = some (.bipush 24, 2) by decide +kernel) rfl (by decide) ?_
    by_cases hc5 : (s1 682 3) = 24
    · refine g_icmpF 22 26 (show op 347 19 = some (.if_icmp .ne 7, 3) by decide +kernel) rfl rfl (decide_eq_false (fun h9 => h9 hc5)) ?_
      refine g_iconst 23 (show op 347 22 = some (.iconst 2, 1) by decide +kernel) rfl rfl ?_
      refine g_goto 27 (show op 347 23 = some (.goto 4, 3) by decide +kernel) rfl ?_
      have h9 := h; simp only [if_neg hc4, if_pos hc5] at h9; exact h9
    · refine g_icmpT 26 (show op 347 19 = some (.if_icmp .ne 7, 3) by decide +kernel) rfl (decide_eq_true hc5) ?_
      refine g_iconst 27 (show op 347 26 = some (.iconst 0, 1) by decide +kernel) rfl rfl ?_
      have h9 := h; simp only [if_neg hc4, if_neg hc5] at h9; exact h9
def C348_22 (x1 : Int) (d2 : Option AV) (d3 : Option AV) (d4 : Option AV) (σ : Sg) (o : Rs) : Prop := Gd 348 22 [(some (.inr (.inr (some 682)))), (some (.inl x1)), d2, d3, d4] [] σ 0 0 o
def C348_23 (x1 : Int) (d2 : Option AV) (d3 : Option AV) (d4 : Option AV) (y0 : Int) (σ : Sg) (o : Rs) : Prop := Gd 348 23 [(some (.inr (.inr (some 682)))), (some (.inl x1)), d2, d3, d4] [(.inl y0)] σ 0 0 o
def C348_49 (x1 : Int) (x2 : Int) (d3 : Option AV) (d4 : Option AV) (σ : Sg) (o : Rs) : Prop := Gd 348 49 [(some (.inr (.inr (some 682)))), (some (.inl x1)), (some (.inl x2)), d3, d4] [] σ 0 0 o
def C348_50 (x1 : Int) (x2 : Int) (d3 : Option AV) (d4 : Option AV) (y0 : Int) (σ : Sg) (o : Rs) : Prop := Gd 348 50 [(some (.inr (.inr (some 682)))), (some (.inl x1)), (some (.inl x2)), d3, d4] [(.inl y0)] σ 0 0 o
def C348_73 (x1 : Int) (x2 : Int) (x3 : Int) (d4 : Option AV) (σ : Sg) (o : Rs) : Prop := Gd 348 73 [(some (.inr (.inr (some 682)))), (some (.inl x1)), (some (.inl x2)), (some (.inl x3)), d4] [] σ 0 0 o
def C348_103 (x1 : Int) (d2 : Option AV) (d3 : Option AV) (d4 : Option AV) (y1 : Int) (σ : Sg) (o : Rs) : Prop := Gd 348 103 [(some (.inr (.inr (some 682)))), (some (.inl x1)), d2, d3, d4] [(.inl y1), (.inr (.inr (some 682)))] σ 0 0 o
def C348_98 (x1 : Int) (d2 : Option AV) (d3 : Option AV) (d4 : Option AV) (σ : Sg) (o : Rs) : Prop := Gd 348 98 [(some (.inr (.inr (some 682)))), (some (.inl x1)), d2, d3, d4] [(.inr (.inr (some 682)))] σ 0 0 o
theorem b348_22 {x1 : Int} {d2 : Option AV} {d3 : Option AV} {d4 : Option AV} {σ : Sg} {o : Rs}   (h : C348_23 x1 d2 d3 d4 0 σ o) : C348_22 x1 d2 d3 d4 σ o := by
  show Gd 348 22 [(some (.inr (.inr (some 682)))), (some (.inl x1)), d2, d3, d4] [] σ 0 0 o
  refine g_iconst 23 (show op 348 22 = some (.iconst 0, 1) by decide +kernel) rfl rfl ?_
  exact h
theorem b348_23 {x1 : Int} {d2 : Option AV} {d3 : Option AV} {d4 : Option AV} {y0 : Int} {σ : Sg} {o : Rs}   (h : (if y0 = 0 then C348_49 x1 y0 d3 d4 σ o else (-2147483648 ≤ (24 + x1) ∧ (24 + x1) ≤ 2147483647) ∧ (-2147483648 ≤ (24 + x1) ∧ (24 + x1) ≤ 2147483647) ∧ (-2147483648 ≤ ((24 + x1) + 1) ∧ ((24 + x1) + 1) ≤ 2147483647) ∧ (∃ (v5 : Int) (s4 : Sg), Dd 292 [(.inr (.inr (some 682))), (.inl (24 + x1)), (.inl ((24 + x1) + 1))] σ (.inl (some (.inl v5)), s4) ∧ (if v5 = 0 then C348_50 x1 y0 d3 d4 1 s4 o else C348_49 x1 y0 d3 d4 s4 o)))) : C348_23 x1 d2 d3 d4 y0 σ o := by
  show Gd 348 23 [(some (.inr (.inr (some 682)))), (some (.inl x1)), d2, d3, d4] [(.inl y0)] σ 0 0 o
  refine g_istore_n 24 [(some (.inr (.inr (some 682)))), (some (.inl x1)), (some (.inl y0)), d3, d4] (show op 348 23 = some (.istore_n 2, 1) by decide +kernel) rfl rfl rfl ?_
  refine g_iload_n 25 (show op 348 24 = some (.iload_n 2, 1) by decide +kernel) rfl rfl ?_
  by_cases hc7 : y0 = 0
  · rw [if_pos hc7] at h
    refine g_ifT 49 (show op 348 25 = some (.ifCond .eq 24, 3) by decide +kernel) rfl (decide_eq_true hc7) ?_
    exact h
  · rw [if_neg hc7] at h
    refine g_ifF 28 49 (show op 348 25 = some (.ifCond .eq 24, 3) by decide +kernel) rfl rfl (decide_eq_false hc7) ?_
    refine g_aload_n 29 (show op 348 28 = some (.aload_n 0, 1) by decide +kernel) rfl rfl ?_
    refine g_bipush 31 (show op 348 29 = some (.bipush 24, 2) by decide +kernel) rfl (by decide) ?_
    refine g_iload_n 32 (show op 348 31 = some (.iload_n 1, 1) by decide +kernel) rfl rfl ?_
    obtain ⟨g1, h⟩ := h
    refine g_iadd 33 (show op 348 32 = some (.iadd, 1) by decide +kernel) rfl g1 ?_
    refine g_bipush 35 (show op 348 33 = some (.bipush 24, 2) by decide +kernel) rfl (by decide) ?_
    refine g_iload_n 36 (show op 348 35 = some (.iload_n 1, 1) by decide +kernel) rfl rfl ?_
    obtain ⟨g2, h⟩ := h
    refine g_iadd 37 (show op 348 36 = some (.iadd, 1) by decide +kernel) rfl g2 ?_
    refine g_iconst 38 (show op 348 37 = some (.iconst 1, 1) by decide +kernel) rfl rfl ?_
    obtain ⟨g3, h⟩ := h
    refine g_iadd 39 (show op 348 38 = some (.iadd, 1) by decide +kernel) rfl g3 ?_
    obtain ⟨v5, s4, hD6, h⟩ := h
    refine g_call 42 [(.inl v5)] (show op 348 39 = some (.invokevirtual 303, 3) by decide +kernel) (call_vi' (k' := 0) (n' := 0) (nj := 3) (j := 292) (k9 := 21) (t := []) (as := [(.inr (.inr (some 682))), (.inl (24 + x1)), (.inl ((24 + x1) + 1))]) (by decide +kernel) rfl (by decide +kernel) rfl rfl rfl rfl rfl rfl (by decide +kernel) (by decide +kernel)) hD6 rfl ?_
    by_cases hc8 : v5 = 0
    · rw [if_pos hc8] at h
      refine g_ifF 45 49 (show op 348 42 = some (.ifCond .ne 7, 3) by decide +kernel) rfl rfl (decide_eq_false (fun h9 => h9 hc8)) ?_
      refine g_iconst 46 (show op 348 45 = some (.iconst 1, 1) by decide +kernel) rfl rfl ?_
      refine g_goto 50 (show op 348 46 = some (.goto 4, 3) by decide +kernel) rfl ?_
      exact h
    · rw [if_neg hc8] at h
      refine g_ifT 49 (show op 348 42 = some (.ifCond .ne 7, 3) by decide +kernel) rfl (decide_eq_true hc8) ?_
      exact h
theorem b348_49 {x1 : Int} {x2 : Int} {d3 : Option AV} {d4 : Option AV} {σ : Sg} {o : Rs}   (h : C348_50 x1 x2 d3 d4 0 σ o) : C348_49 x1 x2 d3 d4 σ o := by
  show Gd 348 49 [(some (.inr (.inr (some 682)))), (some (.inl x1)), (some (.inl x2)), d3, d4] [] σ 0 0 o
  refine g_iconst 50 (show op 348 49 = some (.iconst 0, 1) by decide +kernel) rfl rfl ?_
  exact h
theorem b348_50 {x1 : Int} {x2 : Int} {d3 : Option AV} {d4 : Option AV} {y0 : Int} {σ : Sg} {o : Rs}   (h : (if y0 = 0 then C348_73 x1 x2 y0 d4 σ o else (-2147483648 ≤ (24 + x1) ∧ (24 + x1) ≤ 2147483647) ∧ (-2147483648 ≤ (24 + x1) ∧ (24 + x1) ≤ 2147483647) ∧ (-2147483648 ≤ ((24 + x1) + 1) ∧ ((24 + x1) + 1) ≤ 2147483647) ∧ (∃ (s4 : Sg), Dd 297 [(.inr (.inr (some 682))), (.inl (24 + x1)), (.inl ((24 + x1) + 1)), (.inl 39), (.inl 40)] σ (.inl none, s4) ∧ C348_73 x1 x2 y0 d4 s4 o))) : C348_50 x1 x2 d3 d4 y0 σ o := by
  show Gd 348 50 [(some (.inr (.inr (some 682)))), (some (.inl x1)), (some (.inl x2)), d3, d4] [(.inl y0)] σ 0 0 o
  refine g_istore_n 51 [(some (.inr (.inr (some 682)))), (some (.inl x1)), (some (.inl x2)), (some (.inl y0)), d4] (show op 348 50 = some (.istore_n 3, 1) by decide +kernel) rfl rfl rfl ?_
  refine g_iload_n 52 (show op 348 51 = some (.iload_n 3, 1) by decide +kernel) rfl rfl ?_
  by_cases hc6 : y0 = 0
  · rw [if_pos hc6] at h
    refine g_ifT 73 (show op 348 52 = some (.ifCond .eq 21, 3) by decide +kernel) rfl (decide_eq_true hc6) ?_
    exact h
  · rw [if_neg hc6] at h
    refine g_ifF 55 73 (show op 348 52 = some (.ifCond .eq 21, 3) by decide +kernel) rfl rfl (decide_eq_false hc6) ?_
    refine g_aload_n 56 (show op 348 55 = some (.aload_n 0, 1) by decide +kernel) rfl rfl ?_
    refine g_bipush 58 (show op 348 56 = some (.bipush 24, 2) by decide +kernel) rfl (by decide) ?_
    refine g_iload_n 59 (show op 348 58 = some (.iload_n 1, 1) by decide +kernel) rfl rfl ?_
    obtain ⟨g1, h⟩ := h
    refine g_iadd 60 (show op 348 59 = some (.iadd, 1) by decide +kernel) rfl g1 ?_
    refine g_bipush 62 (show op 348 60 = some (.bipush 24, 2) by decide +kernel) rfl (by decide) ?_
    refine g_iload_n 63 (show op 348 62 = some (.iload_n 1, 1) by decide +kernel) rfl rfl ?_
    obtain ⟨g2, h⟩ := h
    refine g_iadd 64 (show op 348 63 = some (.iadd, 1) by decide +kernel) rfl g2 ?_
    refine g_iconst 65 (show op 348 64 = some (.iconst 1, 1) by decide +kernel) rfl rfl ?_
    obtain ⟨g3, h⟩ := h
    refine g_iadd 66 (show op 348 65 = some (.iadd, 1) by decide +kernel) rfl g3 ?_
    refine g_bipush 68 (show op 348 66 = some (.bipush 39, 2) by decide +kernel) rfl (by decide) ?_
    refine g_bipush 70 (show op 348 68 = some (.bipush 40, 2) by decide +kernel) rfl (by decide) ?_
    obtain ⟨s4, hD5, h⟩ := h
    refine g_call 73 [] (show op 348 70 = some (.invokevirtual 306, 3) by decide +kernel) (call_vi' (k' := 0) (n' := 0) (nj := 5) (j := 297) (k9 := 21) (t := []) (as := [(.inr (.inr (some 682))), (.inl (24 + x1)), (.inl ((24 + x1) + 1)), (.inl 39), (.inl 40)]) (by decide +kernel) rfl (by decide +kernel) rfl rfl rfl rfl rfl rfl (by decide +kernel) (by decide +kernel)) hD5 rfl ?_
    exact h
theorem b348_73 {x1 : Int} {x2 : Int} {x3 : Int} {d4 : Option AV} {σ : Sg} {o : Rs}   (h : (if x2 = 0 then C348_103 x1 (some (.inl x2)) (some (.inl x3)) d4 1 σ o else (if x3 = 0 then C348_98 x1 (some (.inl x2)) (some (.inl x3)) d4 σ o else (if 16 < (σ 689 (39 : Int).toNat) then C348_98 x1 (some (.inl x2)) (some (.inl x3)) d4 σ o else C348_103 x1 (some (.inl x2)) (some (.inl x3)) d4 0 σ o)))) : C348_73 x1 x2 x3 d4 σ o := by
  show Gd 348 73 [(some (.inr (.inr (some 682)))), (some (.inl x1)), (some (.inl x2)), (some (.inl x3)), d4] [] σ 0 0 o
  refine g_aload_n 74 (show op 348 73 = some (.aload_n 0, 1) by decide +kernel) rfl rfl ?_
  refine g_iload_n 75 (show op 348 74 = some (.iload_n 2, 1) by decide +kernel) rfl rfl ?_
  by_cases hc1 : x2 = 0
  · rw [if_pos hc1] at h
    refine g_ifF 78 82 (show op 348 75 = some (.ifCond .ne 7, 3) by decide +kernel) rfl rfl (decide_eq_false (fun h9 => h9 hc1)) ?_
    refine g_iconst 79 (show op 348 78 = some (.iconst 1, 1) by decide +kernel) rfl rfl ?_
    refine g_goto 103 (show op 348 79 = some (.goto 24, 3) by decide +kernel) rfl ?_
    exact h
  · rw [if_neg hc1] at h
    refine g_ifT 82 (show op 348 75 = some (.ifCond .ne 7, 3) by decide +kernel) rfl (decide_eq_true hc1) ?_
    refine g_iload_n 83 (show op 348 82 = some (.iload_n 3, 1) by decide +kernel) rfl rfl ?_
    by_cases hc2 : x3 = 0
    · rw [if_pos hc2] at h
      refine g_ifT 98 (show op 348 83 = some (.ifCond .eq 15, 3) by decide +kernel) rfl (decide_eq_true hc2) ?_
      exact h
    · rw [if_neg hc2] at h
      refine g_ifF 86 98 (show op 348 83 = some (.ifCond .eq 15, 3) by decide +kernel) rfl rfl (decide_eq_false hc2) ?_
      refine g_aload_n 87 (show op 348 86 = some (.aload_n 0, 1) by decide +kernel) rfl rfl ?_
      refine g_getR (ci := 11) (f := 8) (fin := true) (isR := true) 90 689 (show op 348 87 = some (.getfield 28, 3) by decide +kernel) rfl (by decide +kernel) (by decide +kernel) ?_
      refine g_bipush 92 (show op 348 90 = some (.bipush 39, 2) by decide +kernel) rfl (by decide) ?_
      refine g_iaload 93 44 (show op 348 92 = some (.iaload, 1) by decide +kernel) rfl (by decide +kernel) (by decide) ?_
      refine g_bipush 95 (show op 348 93 = some (.bipush 16, 2) by decide +kernel) rfl (by decide) ?_
      by_cases hc3 : 16 < (σ 689 (39 : Int).toNat)
      · rw [if_pos hc3] at h
        refine g_icmpF 98 102 (show op 348 95 = some (.if_icmp .le 7, 3) by decide +kernel) rfl rfl (decide_eq_false (Int.not_le.mpr hc3)) ?_
        exact h
      · rw [if_neg hc3] at h
        refine g_icmpT 102 (show op 348 95 = some (.if_icmp .le 7, 3) by decide +kernel) rfl (decide_eq_true (Int.not_lt.mp hc3)) ?_
        refine g_iconst 103 (show op 348 102 = some (.iconst 0, 1) by decide +kernel) rfl rfl ?_
        exact h
theorem b348_103 {x1 : Int} {d2 : Option AV} {d3 : Option AV} {d4 : Option AV} {y1 : Int} {σ : Sg} {o : Rs}   (h : (∃ (v2 : Int) (s1 : Sg), Dd 245 [(.inr (.inr (some 682))), (.inl y1)] σ (.inl (some (.inl v2)), s1) ∧ (if v2 = 0 then o = (.inl (some (.inl 0)), s1) else (-2147483648 ≤ (24 + x1) ∧ (24 + x1) ≤ 2147483647) ∧ (∃ (s5 : Sg), Dd 288 [(.inr (.inr (some 682))), (.inl 39), (.inl (24 + x1))] s1 (.inl none, s5) ∧ (-2147483648 ≤ (24 + x1) ∧ (24 + x1) ≤ 2147483647) ∧ (-2147483648 ≤ ((24 + x1) + 1) ∧ ((24 + x1) + 1) ≤ 2147483647) ∧ (∃ (s9 : Sg), Dd 288 [(.inr (.inr (some 682))), (.inl 40), (.inl ((24 + x1) + 1))] s5 (.inl none, s9) ∧ (0 ≤ x1 ∧ x1 < 5) ∧ (-2147483648 ≤ (x1 + 1) ∧ (x1 + 1) ≤ 2147483647) ∧ (0 ≤ (x1 + 1) ∧ (x1 + 1) < 5) ∧ (0 ≤ x1 ∧ x1 < 5) ∧ (-2147483648 ≤ (x1 + 1) ∧ (x1 + 1) ≤ 2147483647) ∧ (0 ≤ (x1 + 1) ∧ (x1 + 1) < 5) ∧ (0 ≤ x1 ∧ x1 < 5) ∧ o = (.inl (some (.inl ((upS (upS s9 711 ((x1).toNat) (s9 711 ((x1 + 1)).toNat)) 711 (((x1 + 1)).toNat) (s9 711 (x1).toNat)) 711 (x1).toNat))), (upS (upS s9 711 ((x1).toNat) (s9 711 ((x1 + 1)).toNat)) 711 (((x1 + 1)).toNat) (s9 711 (x1).toNat)))))))) : C348_103 x1 d2 d3 d4 y1 σ o := by
  show Gd 348 103 [(some (.inr (.inr (some 682)))), (some (.inl x1)), d2, d3, d4] [(.inl y1), (.inr (.inr (some 682)))] σ 0 0 o
  obtain ⟨v2, s1, hD3, h⟩ := h
  refine g_call 106 [(.inl v2)] (show op 348 103 = some (.invokevirtual 172, 3) by decide +kernel) (call_vi' (k' := 0) (n' := 0) (nj := 2) (j := 245) (k9 := 21) (t := []) (as := [(.inr (.inr (some 682))), (.inl y1)]) (by decide +kernel) rfl (by decide +kernel) rfl rfl rfl rfl rfl rfl (by decide +kernel) (by decide +kernel)) hD3 rfl ?_
  by_cases hc18 : v2 = 0
  · rw [if_pos hc18] at h
    refine g_ifF 109 111 (show op 348 106 = some (.ifCond .ne 5, 3) by decide +kernel) rfl rfl (decide_eq_false (fun h9 => h9 hc18)) ?_
    refine g_iconst 110 (show op 348 109 = some (.iconst 0, 1) by decide +kernel) rfl rfl ?_
    exact (g_iret (show op 348 110 = some (.ireturn, 1) by decide +kernel) (by decide +kernel) h)
  · rw [if_neg hc18] at h
    refine g_ifT 111 (show op 348 106 = some (.ifCond .ne 5, 3) by decide +kernel) rfl (decide_eq_true hc18) ?_
    refine g_aload_n 112 (show op 348 111 = some (.aload_n 0, 1) by decide +kernel) rfl rfl ?_
    refine g_bipush 114 (show op 348 112 = some (.bipush 39, 2) by decide +kernel) rfl (by decide) ?_
    refine g_bipush 116 (show op 348 114 = some (.bipush 24, 2) by decide +kernel) rfl (by decide) ?_
    refine g_iload_n 117 (show op 348 116 = some (.iload_n 1, 1) by decide +kernel) rfl rfl ?_
    obtain ⟨g4, h⟩ := h
    refine g_iadd 118 (show op 348 117 = some (.iadd, 1) by decide +kernel) rfl g4 ?_
    obtain ⟨s5, hD6, h⟩ := h
    refine g_call 121 [] (show op 348 118 = some (.invokevirtual 273, 3) by decide +kernel) (call_vi' (k' := 0) (n' := 0) (nj := 3) (j := 288) (k9 := 21) (t := []) (as := [(.inr (.inr (some 682))), (.inl 39), (.inl (24 + x1))]) (by decide +kernel) rfl (by decide +kernel) rfl rfl rfl rfl rfl rfl (by decide +kernel) (by decide +kernel)) hD6 rfl ?_
    refine g_aload_n 122 (show op 348 121 = some (.aload_n 0, 1) by decide +kernel) rfl rfl ?_
    refine g_bipush 124 (show op 348 122 = some (.bipush 40, 2) by decide +kernel) rfl (by decide) ?_
    refine g_bipush 126 (show op 348 124 = some (.bipush 24, 2) by decide +kernel) rfl (by decide) ?_
    refine g_iload_n 127 (show op 348 126 = some (.iload_n 1, 1) by decide +kernel) rfl rfl ?_
    obtain ⟨g7, h⟩ := h
    refine g_iadd 128 (show op 348 127 = some (.iadd, 1) by decide +kernel) rfl g7 ?_
    refine g_iconst 129 (show op 348 128 = some (.iconst 1, 1) by decide +kernel) rfl rfl ?_
    obtain ⟨g8, h⟩ := h
    refine g_iadd 130 (show op 348 129 = some (.iadd, 1) by decide +kernel) rfl g8 ?_
    obtain ⟨s9, hD10, h⟩ := h
    refine g_call 133 [] (show op 348 130 = some (.invokevirtual 273, 3) by decide +kernel) (call_vi' (k' := 0) (n' := 0) (nj := 3) (j := 288) (k9 := 21) (t := []) (as := [(.inr (.inr (some 682))), (.inl 40), (.inl ((24 + x1) + 1))]) (by decide +kernel) rfl (by decide +kernel) rfl rfl rfl rfl rfl rfl (by decide +kernel) (by decide +kernel)) hD10 rfl ?_
    refine g_aload_n 134 (show op 348 133 = some (.aload_n 0, 1) by decide +kernel) rfl rfl ?_
    refine g_getR (ci := 11) (f := 42) (fin := true) (isR := true) 137 711 (show op 348 134 = some (.getfield 94, 3) by decide +kernel) rfl (by decide +kernel) (by decide +kernel) ?_
    refine g_iload_n 138 (show op 348 137 = some (.iload_n 1, 1) by decide +kernel) rfl rfl ?_
    obtain ⟨g11, h⟩ := h
    refine g_iaload 139 5 (show op 348 138 = some (.iaload, 1) by decide +kernel) rfl (by decide +kernel) g11 ?_
    refine g_istore 141 [(some (.inr (.inr (some 682)))), (some (.inl x1)), d2, d3, (some (.inl (s9 711 (x1).toNat)))] (show op 348 139 = some (.istore 4, 2) by decide +kernel) rfl rfl rfl ?_
    refine g_aload_n 142 (show op 348 141 = some (.aload_n 0, 1) by decide +kernel) rfl rfl ?_
    refine g_getR (ci := 11) (f := 42) (fin := true) (isR := true) 145 711 (show op 348 142 = some (.getfield 94, 3) by decide +kernel) rfl (by decide +kernel) (by decide +kernel) ?_
    refine g_iload_n 146 (show op 348 145 = some (.iload_n 1, 1) by decide +kernel) rfl rfl ?_
    refine g_aload_n 147 (show op 348 146 = some (.aload_n 0, 1) by decide +kernel) rfl rfl ?_
    refine g_getR (ci := 11) (f := 42) (fin := true) (isR := true) 150 711 (show op 348 147 = some (.getfield 94, 3) by decide +kernel) rfl (by decide +kernel) (by decide +kernel) ?_
    refine g_iload_n 151 (show op 348 150 = some (.iload_n 1, 1) by decide +kernel) rfl rfl ?_
    refine g_iconst 152 (show op 348 151 = some (.iconst 1, 1) by decide +kernel) rfl rfl ?_
    obtain ⟨g12, h⟩ := h
    refine g_iadd 153 (show op 348 152 = some (.iadd, 1) by decide +kernel) rfl g12 ?_
    obtain ⟨g13, h⟩ := h
    refine g_iaload 154 5 (show op 348 153 = some (.iaload, 1) by decide +kernel) rfl (by decide +kernel) g13 ?_
    obtain ⟨g14, h⟩ := h
    refine g_iastore 155 5 (show op 348 154 = some (.iastore, 1) by decide +kernel) rfl (by decide +kernel) g14 ?_
    refine g_aload_n 156 (show op 348 155 = some (.aload_n 0, 1) by decide +kernel) rfl rfl ?_
    refine g_getR (ci := 11) (f := 42) (fin := true) (isR := true) 159 711 (show op 348 156 = some (.getfield 94, 3) by decide +kernel) rfl (by decide +kernel) (by decide +kernel) ?_
    refine g_iload_n 160 (show op 348 159 = some (.iload_n 1, 1) by decide +kernel) rfl rfl ?_
    refine g_iconst 161 (show op 348 160 = some (.iconst 1, 1) by decide +kernel) rfl rfl ?_
    obtain ⟨g15, h⟩ := h
    refine g_iadd 162 (show op 348 161 = some (.iadd, 1) by decide +kernel) rfl g15 ?_
    refine g_iload 164 (show op 348 162 = some (.iload 4, 2) by decide +kernel) rfl rfl ?_
    obtain ⟨g16, h⟩ := h
    refine g_iastore 165 5 (show op 348 164 = some (.iastore, 1) by decide +kernel) rfl (by decide +kernel) g16 ?_
    refine g_aload_n 166 (show op 348 165 = some (.aload_n 0, 1) by decide +kernel) rfl rfl ?_
    refine g_getR (ci := 11) (f := 42) (fin := true) (isR := true) 169 711 (show op 348 166 = some (.getfield 94, 3) by decide +kernel) rfl (by decide +kernel) (by decide +kernel) ?_
    refine g_iload_n 170 (show op 348 169 = some (.iload_n 1, 1) by decide +kernel) rfl rfl ?_
    obtain ⟨g17, h⟩ := h
    refine g_iaload 171 5 (show op 348 170 = some (.iaload, 1) by decide +kernel) rfl (by decide +kernel) g17 ?_
    exact (g_iret (show op 348 171 = some (.ireturn, 1) by decide +kernel) (by decide +kernel) h)
theorem b348_98 {x1 : Int} {d2 : Option AV} {d3 : Option AV} {d4 : Option AV} {σ : Sg} {o : Rs}   (h : C348_103 x1 d2 d3 d4 2 σ o) : C348_98 x1 d2 d3 d4 σ o := by
  show Gd 348 98 [(some (.inr (.inr (some 682)))), (some (.inl x1)), d2, d3, d4] [(.inr (.inr (some 682)))] σ 0 0 o
  refine g_iconst 99 (show op 348 98 = some (.iconst 2, 1) by decide +kernel) rfl rfl ?_
  refine g_goto 103 (show op 348 99 = some (.goto 4, 3) by decide +kernel) rfl ?_
  exact h
/-- PatchBenchModel.swap (I)I -/
theorem b348 {x1 : Int} {σ : Sg} {o : Rs}   (h : (∃ (v2 : Int) (s1 : Sg), Dd 340 [(.inr (.inr (some 682))), (.inl x1)] σ (.inl (some (.inl v2)), s1) ∧ (if v2 = 0 then C348_22 x1 none none none s1 o else (-2147483648 ≤ (x1 + 1) ∧ (x1 + 1) ≤ 2147483647) ∧ (if (x1 + 1) < (s1 682 40) then C348_23 x1 none none none 1 s1 o else C348_22 x1 none none none s1 o)))) : Dd 348 [(.inr (.inr (some 682))), (.inl x1)] σ o := by
  refine Dd_of (l := 5) (by decide +kernel) ?_
  show Gd 348 0 [(some (.inr (.inr (some 682)))), (some (.inl x1)), none, none, none] [] σ 0 0 o
  refine g_aload_n 1 (show op 348 0 = some (.aload_n 0, 1) by decide +kernel) rfl rfl ?_
  refine g_iload_n 2 (show op 348 1 = some (.iload_n 1, 1) by decide +kernel) rfl rfl ?_
  obtain ⟨v2, s1, hD3, h⟩ := h
  refine g_call 5 [(.inl v2)] (show op 348 2 = some (.invokevirtual 416, 3) by decide +kernel) (call_vi' (k' := 0) (n' := 0) (nj := 2) (j := 340) (k9 := 21) (t := []) (as := [(.inr (.inr (some 682))), (.inl x1)]) (by decide +kernel) rfl (by decide +kernel) rfl rfl rfl rfl rfl rfl (by decide +kernel) (by decide +kernel)) hD3 rfl ?_
  by_cases hc5 : v2 = 0
  · rw [if_pos hc5] at h
    refine g_ifT 22 (show op 348 5 = some (.ifCond .eq 17, 3) by decide +kernel) rfl (decide_eq_true hc5) ?_
    exact h
  · rw [if_neg hc5] at h
    refine g_ifF 8 22 (show op 348 5 = some (.ifCond .eq 17, 3) by decide +kernel) rfl rfl (decide_eq_false hc5) ?_
    refine g_iload_n 9 (show op 348 8 = some (.iload_n 1, 1) by decide +kernel) rfl rfl ?_
    refine g_iconst 10 (show op 348 9 = some (.iconst 1, 1) by decide +kernel) rfl rfl ?_
    obtain ⟨g4, h⟩ := h
    refine g_iadd 11 (show op 348 10 = some (.iadd, 1) by decide +kernel) rfl g4 ?_
    refine g_aload_n 12 (show op 348 11 = some (.aload_n 0, 1) by decide +kernel) rfl rfl ?_
    refine g_getI (ci := 11) (f := 40) (fin := false) (isR := false) 15 (show op 348 12 = some (.getfield 397, 3) by decide +kernel) rfl (by decide +kernel) (by decide +kernel) ?_
    by_cases hc6 : (x1 + 1) < (s1 682 40)
    · rw [if_pos hc6] at h
      refine g_icmpF 18 22 (show op 348 15 = some (.if_icmp .ge 7, 3) by decide +kernel) rfl rfl (decide_eq_false (Int.not_le.mpr hc6)) ?_
      refine g_iconst 19 (show op 348 18 = some (.iconst 1, 1) by decide +kernel) rfl rfl ?_
      refine g_goto 23 (show op 348 19 = some (.goto 4, 3) by decide +kernel) rfl ?_
      exact h
    · rw [if_neg hc6] at h
      refine g_icmpT 22 (show op 348 15 = some (.if_icmp .ge 7, 3) by decide +kernel) rfl (decide_eq_true (Int.not_lt.mp hc6)) ?_
      exact h
def C349_23 (x1 : Int) (d2 : Option AV) (σ : Sg) (o : Rs) : Prop := Gd 349 23 [(some (.inr (.inr (some 682)))), (some (.inl x1)), d2] [(.inr (.inr (some 682)))] σ 0 0 o
def C349_24 (x1 : Int) (d2 : Option AV) (y1 : Int) (σ : Sg) (o : Rs) : Prop := Gd 349 24 [(some (.inr (.inr (some 682)))), (some (.inl x1)), d2] [(.inl y1), (.inr (.inr (some 682)))] σ 0 0 o
def C349_72 (d1 : Option AV) (x2 : Int) (σ : Sg) (o : Rs) : Prop := Gd 349 72 [(some (.inr (.inr (some 682)))), d1, (some (.inl x2))] [] σ 0 0 o
theorem b349_23 {x1 : Int} {d2 : Option AV} {σ : Sg} {o : Rs}   (h : C349_24 x1 d2 1 σ o) : C349_23 x1 d2 σ o := by
  show Gd 349 23 [(some (.inr (.inr (some 682)))), (some (.inl x1)), d2] [(.inr (.inr (some 682)))] σ 0 0 o
  refine g_iconst 24 (show op 349 23 = some (.iconst 1, 1) by decide +kernel) rfl rfl ?_
  exact h
theorem b349_24 {x1 : Int} {d2 : Option AV} {y1 : Int} {σ : Sg} {o : Rs}   (h : (∃ (v2 : Int) (s1 : Sg), Dd 245 [(.inr (.inr (some 682))), (.inl y1)] σ (.inl (some (.inl v2)), s1) ∧ (if v2 = 0 then o = (.inl (some (.inl 0)), s1) else (-2147483648 ≤ (24 + x1) ∧ (24 + x1) ≤ 2147483647) ∧ (-2147483648 ≤ (24 + x1) ∧ (24 + x1) ≤ 2147483647) ∧ (-2147483648 ≤ ((24 + x1) + 1) ∧ ((24 + x1) + 1) ≤ 2147483647) ∧ (∃ (s7 : Sg), Dd 295 [(.inr (.inr (some 682))), (.inl (24 + x1)), (.inl ((24 + x1) + 1)), (.inl 39)] s1 (.inl none, s7) ∧ (-2147483648 ≤ (24 + x1) ∧ (24 + x1) ≤ 2147483647) ∧ (∃ (s10 : Sg), Dd 288 [(.inr (.inr (some 682))), (.inl 39), (.inl (24 + x1))] s7 (.inl none, s10) ∧ (-2147483648 ≤ ((s10 682 40) - 1) ∧ ((s10 682 40) - 1) ≤ 2147483647) ∧ (-2147483648 ≤ (x1 + 1) ∧ (x1 + 1) ≤ 2147483647) ∧ C349_72 (some (.inl x1)) (x1 + 1) (upS s10 682 40 ((s10 682 40) - 1)) o))))) : C349_24 x1 d2 y1 σ o := by
  show Gd 349 24 [(some (.inr (.inr (some 682)))), (some (.inl x1)), d2] [(.inl y1), (.inr (.inr (some 682)))] σ 0 0 o
  obtain ⟨v2, s1, hD3, h⟩ := h
  refine g_call 27 [(.inl v2)] (show op 349 24 = some (.invokevirtual 172, 3) by decide +kernel) (call_vi' (k' := 0) (n' := 0) (nj := 2) (j := 245) (k9 := 21) (t := []) (as := [(.inr (.inr (some 682))), (.inl y1)]) (by decide +kernel) rfl (by decide +kernel) rfl rfl rfl rfl rfl rfl (by decide +kernel) (by decide +kernel)) hD3 rfl ?_
  by_cases hc14 : v2 = 0
  · rw [if_pos hc14] at h
    refine g_ifF 30 32 (show op 349 27 = some (.ifCond .ne 5, 3) by decide +kernel) rfl rfl (decide_eq_false (fun h9 => h9 hc14)) ?_
    refine g_iconst 31 (show op 349 30 = some (.iconst 0, 1) by decide +kernel) rfl rfl ?_
    exact (g_iret (show op 349 31 = some (.ireturn, 1) by decide +kernel) (by decide +kernel) h)
  · rw [if_neg hc14] at h
    refine g_ifT 32 (show op 349 27 = some (.ifCond .ne 5, 3) by decide +kernel) rfl (decide_eq_true hc14) ?_
    refine g_aload_n 33 (show op 349 32 = some (.aload_n 0, 1) by decide +kernel) rfl rfl ?_
    refine g_bipush 35 (show op 349 33 = some (.bipush 24, 2) by decide +kernel) rfl (by decide) ?_
    refine g_iload_n 36 (show op 349 35 = some (.iload_n 1, 1) by decide +kernel) rfl rfl ?_
    obtain ⟨g4, h⟩ := h
    refine g_iadd 37 (show op 349 36 = some (.iadd, 1) by decide +kernel) rfl g4 ?_
    refine g_bipush 39 (show op 349 37 = some (.bipush 24, 2) by decide +kernel) rfl (by decide) ?_
    refine g_iload_n 40 (show op 349 39 = some (.iload_n 1, 1) by decide +kernel) rfl rfl ?_
    obtain ⟨g5, h⟩ := h
    refine g_iadd 41 (show op 349 40 = some (.iadd, 1) by decide +kernel) rfl g5 ?_
    refine g_iconst 42 (show op 349 41 = some (.iconst 1, 1) by decide +kernel) rfl rfl ?_
    obtain ⟨g6, h⟩ := h
    refine g_iadd 43 (show op 349 42 = some (.iadd, 1) by decide +kernel) rfl g6 ?_
    refine g_bipush 45 (show op 349 43 = some (.bipush 39, 2) by decide +kernel) rfl (by decide) ?_
    obtain ⟨s7, hD8, h⟩ := h
    refine g_call 48 [] (show op 349 45 = some (.invokevirtual 299, 3) by decide +kernel) (call_vi' (k' := 0) (n' := 0) (nj := 4) (j := 295) (k9 := 21) (t := []) (as := [(.inr (.inr (some 682))), (.inl (24 + x1)), (.inl ((24 + x1) + 1)), (.inl 39)]) (by decide +kernel) rfl (by decide +kernel) rfl rfl rfl rfl rfl rfl (by decide +kernel) (by decide +kernel)) hD8 rfl ?_
    refine g_aload_n 49 (show op 349 48 = some (.aload_n 0, 1) by decide +kernel) rfl rfl ?_
    refine g_bipush 51 (show op 349 49 = some (.bipush 39, 2) by decide +kernel) rfl (by decide) ?_
    refine g_bipush 53 (show op 349 51 = some (.bipush 24, 2) by decide +kernel) rfl (by decide) ?_
    refine g_iload_n 54 (show op 349 53 = some (.iload_n 1, 1) by decide +kernel) rfl rfl ?_
    obtain ⟨g9, h⟩ := h
    refine g_iadd 55 (show op 349 54 = some (.iadd, 1) by decide +kernel) rfl g9 ?_
    obtain ⟨s10, hD11, h⟩ := h
    refine g_call 58 [] (show op 349 55 = some (.invokevirtual 273, 3) by decide +kernel) (call_vi' (k' := 0) (n' := 0) (nj := 3) (j := 288) (k9 := 21) (t := []) (as := [(.inr (.inr (some 682))), (.inl 39), (.inl (24 + x1))]) (by decide +kernel) rfl (by decide +kernel) rfl rfl rfl rfl rfl rfl (by decide +kernel) (by decide +kernel)) hD11 rfl ?_
    refine g_aload_n 59 (show op 349 58 = some (.aload_n 0, 1) by decide +kernel) rfl rfl ?_
    refine g_dup 60 (show op 349 59 = some (.dup, 1) by decide +kernel) rfl rfl ?_
    refine g_getI (ci := 11) (f := 40) (fin := false) (isR := false) 63 (show op 349 60 = some (.getfield 397, 3) by decide +kernel) rfl (by decide +kernel) (by decide +kernel) ?_
    refine g_iconst 64 (show op 349 63 = some (.iconst 1, 1) by decide +kernel) rfl rfl ?_
    obtain ⟨g12, h⟩ := h
    refine g_isub 65 (show op 349 64 = some (.isub, 1) by decide +kernel) rfl g12 ?_
    refine g_putI (ci := 11) (f := 40) 68 (show op 349 65 = some (.putfield 397, 3) by decide +kernel) rfl (by decide +kernel) (by decide +kernel) ?_
    refine g_iload_n 69 (show op 349 68 = some (.iload_n 1, 1) by decide +kernel) rfl rfl ?_
    refine g_iconst 70 (show op 349 69 = some (.iconst 1, 1) by decide +kernel) rfl rfl ?_
    obtain ⟨g13, h⟩ := h
    refine g_iadd 71 (show op 349 70 = some (.iadd, 1) by decide +kernel) rfl g13 ?_
    refine g_istore_n 72 [(some (.inr (.inr (some 682)))), (some (.inl x1)), (some (.inl (x1 + 1)))] (show op 349 71 = some (.istore_n 2, 1) by decide +kernel) rfl rfl rfl ?_
    exact h
theorem b349_72 {d1 : Option AV} {x2 : Int} {σ : Sg} {o : Rs}   (h : (if x2 < (σ 682 40) then (-2147483648 ≤ (24 + x2) ∧ (24 + x2) ≤ 2147483647) ∧ (-2147483648 ≤ ((24 + x2) + 1) ∧ ((24 + x2) + 1) ≤ 2147483647) ∧ (-2147483648 ≤ (24 + x2) ∧ (24 + x2) ≤ 2147483647) ∧ (∃ (s4 : Sg), Dd 288 [(.inr (.inr (some 682))), (.inl ((24 + x2) + 1)), (.inl (24 + x2))] σ (.inl none, s4) ∧ (-2147483648 ≤ (x2 + 1) ∧ (x2 + 1) ≤ 2147483647) ∧ (0 ≤ (x2 + 1) ∧ (x2 + 1) < 5) ∧ (0 ≤ x2 ∧ x2 < 5) ∧ (-2147483648 ≤ (x2 + 1) ∧ (x2 + 1) ≤ 2147483647) ∧ C349_72 d1 (x2 + 1) (upS s4 711 ((x2).toNat) (s4 711 ((x2 + 1)).toNat)) o) else o = (.inl (some (.inl (σ 682 40))), σ))) : C349_72 d1 x2 σ o := by
  show Gd 349 72 [(some (.inr (.inr (some 682)))), d1, (some (.inl x2))] [] σ 0 0 o
  refine g_iload_n 73 (show op 349 72 = some (.iload_n 2, 1) by decide +kernel) rfl rfl ?_
  refine g_aload_n 74 (show op 349 73 = some (.aload_n 0, 1) by decide +kernel) rfl rfl ?_
  refine g_getI (ci := 11) (f := 40) (fin := false) (isR := false) 77 (show op 349 74 = some (.getfield 397, 3) by decide +kernel) rfl (by decide +kernel) (by decide +kernel) ?_
  by_cases hc10 : x2 < (σ 682 40)
  · rw [if_pos hc10] at h
    refine g_icmpF 80 114 (show op 349 77 = some (.if_icmp .ge 37, 3) by decide +kernel) rfl rfl (decide_eq_false (Int.not_le.mpr hc10)) ?_
    refine g_aload_n 81 (show op 349 80 = some (.aload_n 0, 1) by decide +kernel) rfl rfl ?_
    refine g_bipush 83 (show op 349 81 = some (.bipush 24, 2) by decide +kernel) rfl (by decide) ?_
    refine g_iload_n 84 (show op 349 83 = some (.iload_n 2, 1) by decide +kernel) rfl rfl ?_
    obtain ⟨g1, h⟩ := h
    refine g_iadd 85 (show op 349 84 = some (.iadd, 1) by decide +kernel) rfl g1 ?_
    refine g_iconst 86 (show op 349 85 = some (.iconst 1, 1) by decide +kernel) rfl rfl ?_
    obtain ⟨g2, h⟩ := h
    refine g_iadd 87 (show op 349 86 = some (.iadd, 1) by decide +kernel) rfl g2 ?_
    refine g_bipush 89 (show op 349 87 = some (.bipush 24, 2) by decide +kernel) rfl (by decide) ?_
    refine g_iload_n 90 (show op 349 89 = some (.iload_n 2, 1) by decide +kernel) rfl rfl ?_
    obtain ⟨g3, h⟩ := h
    refine g_iadd 91 (show op 349 90 = some (.iadd, 1) by decide +kernel) rfl g3 ?_
    obtain ⟨s4, hD5, h⟩ := h
    refine g_call 94 [] (show op 349 91 = some (.invokevirtual 273, 3) by decide +kernel) (call_vi' (k' := 0) (n' := 0) (nj := 3) (j := 288) (k9 := 21) (t := []) (as := [(.inr (.inr (some 682))), (.inl ((24 + x2) + 1)), (.inl (24 + x2))]) (by decide +kernel) rfl (by decide +kernel) rfl rfl rfl rfl rfl rfl (by decide +kernel) (by decide +kernel)) hD5 rfl ?_
    refine g_aload_n 95 (show op 349 94 = some (.aload_n 0, 1) by decide +kernel) rfl rfl ?_
    refine g_getR (ci := 11) (f := 42) (fin := true) (isR := true) 98 711 (show op 349 95 = some (.getfield 94, 3) by decide +kernel) rfl (by decide +kernel) (by decide +kernel) ?_
    refine g_iload_n 99 (show op 349 98 = some (.iload_n 2, 1) by decide +kernel) rfl rfl ?_
    refine g_aload_n 100 (show op 349 99 = some (.aload_n 0, 1) by decide +kernel) rfl rfl ?_
    refine g_getR (ci := 11) (f := 42) (fin := true) (isR := true) 103 711 (show op 349 100 = some (.getfield 94, 3) by decide +kernel) rfl (by decide +kernel) (by decide +kernel) ?_
    refine g_iload_n 104 (show op 349 103 = some (.iload_n 2, 1) by decide +kernel) rfl rfl ?_
    refine g_iconst 105 (show op 349 104 = some (.iconst 1, 1) by decide +kernel) rfl rfl ?_
    obtain ⟨g6, h⟩ := h
    refine g_iadd 106 (show op 349 105 = some (.iadd, 1) by decide +kernel) rfl g6 ?_
    obtain ⟨g7, h⟩ := h
    refine g_iaload 107 5 (show op 349 106 = some (.iaload, 1) by decide +kernel) rfl (by decide +kernel) g7 ?_
    obtain ⟨g8, h⟩ := h
    refine g_iastore 108 5 (show op 349 107 = some (.iastore, 1) by decide +kernel) rfl (by decide +kernel) g8 ?_
    obtain ⟨g9, h⟩ := h
    refine g_iinc 111 [(some (.inr (.inr (some 682)))), d1, (some (.inl (x2 + 1)))] (show op 349 108 = some (.iinc 2 1, 3) by decide +kernel) rfl rfl g9 rfl ?_
    refine g_goto 72 (show op 349 111 = some (.goto (-39), 3) by decide +kernel) rfl ?_
    exact h
  · rw [if_neg hc10] at h
    refine g_icmpT 114 (show op 349 77 = some (.if_icmp .ge 37, 3) by decide +kernel) rfl (decide_eq_true (Int.not_lt.mp hc10)) ?_
    refine g_aload_n 115 (show op 349 114 = some (.aload_n 0, 1) by decide +kernel) rfl rfl ?_
    refine g_getI (ci := 11) (f := 40) (fin := false) (isR := false) 118 (show op 349 115 = some (.getfield 397, 3) by decide +kernel) rfl (by decide +kernel) (by decide +kernel) ?_
    exact (g_iret (show op 349 118 = some (.ireturn, 1) by decide +kernel) (by decide +kernel) h)
/-- PatchBenchModel.fold (I)I -/
theorem b349 {x1 : Int} {σ : Sg} {o : Rs}   (h : (∃ (v2 : Int) (s1 : Sg), Dd 340 [(.inr (.inr (some 682))), (.inl x1)] σ (.inl (some (.inl v2)), s1) ∧ (if v2 = 0 then C349_23 x1 none s1 o else (-2147483648 ≤ (x1 + 1) ∧ (x1 + 1) ≤ 2147483647) ∧ (if (x1 + 1) < (s1 682 40) then C349_24 x1 none 0 s1 o else C349_23 x1 none s1 o)))) : Dd 349 [(.inr (.inr (some 682))), (.inl x1)] σ o := by
  refine Dd_of (l := 3) (by decide +kernel) ?_
  show Gd 349 0 [(some (.inr (.inr (some 682)))), (some (.inl x1)), none] [] σ 0 0 o
  refine g_aload_n 1 (show op 349 0 = some (.aload_n 0, 1) by decide +kernel) rfl rfl ?_
  refine g_aload_n 2 (show op 349 1 = some (.aload_n 0, 1) by decide +kernel) rfl rfl ?_
  refine g_iload_n 3 (show op 349 2 = some (.iload_n 1, 1) by decide +kernel) rfl rfl ?_
  obtain ⟨v2, s1, hD3, h⟩ := h
  refine g_call 6 [(.inl v2), (.inr (.inr (some 682)))] (show op 349 3 = some (.invokevirtual 416, 3) by decide +kernel) (call_vi' (k' := 0) (n' := 0) (nj := 2) (j := 340) (k9 := 21) (t := [(.inr (.inr (some 682)))]) (as := [(.inr (.inr (some 682))), (.inl x1)]) (by decide +kernel) rfl (by decide +kernel) rfl rfl rfl rfl rfl rfl (by decide +kernel) (by decide +kernel)) hD3 rfl ?_
  by_cases hc5 : v2 = 0
  · rw [if_pos hc5] at h
    refine g_ifT 23 (show op 349 6 = some (.ifCond .eq 17, 3) by decide +kernel) rfl (decide_eq_true hc5) ?_
    exact h
  · rw [if_neg hc5] at h
    refine g_ifF 9 23 (show op 349 6 = some (.ifCond .eq 17, 3) by decide +kernel) rfl rfl (decide_eq_false hc5) ?_
    refine g_iload_n 10 (show op 349 9 = some (.iload_n 1, 1) by decide +kernel) rfl rfl ?_
    refine g_iconst 11 (show op 349 10 = some (.iconst 1, 1) by decide +kernel) rfl rfl ?_
    obtain ⟨g4, h⟩ := h
    refine g_iadd 12 (show op 349 11 = some (.iadd, 1) by decide +kernel) rfl g4 ?_
    refine g_aload_n 13 (show op 349 12 = some (.aload_n 0, 1) by decide +kernel) rfl rfl ?_
    refine g_getI (ci := 11) (f := 40) (fin := false) (isR := false) 16 (show op 349 13 = some (.getfield 397, 3) by decide +kernel) rfl (by decide +kernel) (by decide +kernel) ?_
    by_cases hc6 : (x1 + 1) < (s1 682 40)
    · rw [if_pos hc6] at h
      refine g_icmpF 19 23 (show op 349 16 = some (.if_icmp .ge 7, 3) by decide +kernel) rfl rfl (decide_eq_false (Int.not_le.mpr hc6)) ?_
      refine g_iconst 20 (show op 349 19 = some (.iconst 0, 1) by decide +kernel) rfl rfl ?_
      refine g_goto 24 (show op 349 20 = some (.goto 4, 3) by decide +kernel) rfl ?_
      exact h
    · rw [if_neg hc6] at h
      refine g_icmpT 23 (show op 349 16 = some (.if_icmp .ge 7, 3) by decide +kernel) rfl (decide_eq_true (Int.not_lt.mp hc6)) ?_
      exact h
/-- PatchBenchModel.isAdded (II)Z -/
theorem b350 {x1 : Int} {x2 : Int} {σ : Sg} {o : Rs}   (h : (∃ (s1 : Sg), Dd 293 [(.inr (.inr (some 682))), (.inl x1)] σ (.inl none, s1) ∧ (0 ≤ x2 ∧ x2 < 100) ∧ o = (.inl (some (.inl (if (s1 690 (x2).toNat) = (-1) then 1 else 0))), s1))) : Dd 350 [(.inr (.inr (some 682))), (.inl x1), (.inl x2)] σ o := by
  refine Dd_of (l := 3) (by decide +kernel) ?_
  show Gd 350 0 [(some (.inr (.inr (some 682)))), (some (.inl x1)), (some (.inl x2))] [] σ 0 0 o
  refine g_aload_n 1 (show op 350 0 = some (.aload_n 0, 1) by decide +kernel) rfl rfl ?_
  refine g_iload_n 2 (show op 350 1 = some (.iload_n 1, 1) by decide +kernel) rfl rfl ?_
  obtain ⟨s1, hD2, h⟩ := h
  refine g_call 5 [] (show op 350 2 = some (.invokevirtual 280, 3) by decide +kernel) (call_vi' (k' := 0) (n' := 0) (nj := 2) (j := 293) (k9 := 21) (t := []) (as := [(.inr (.inr (some 682))), (.inl x1)]) (by decide +kernel) rfl (by decide +kernel) rfl rfl rfl rfl rfl rfl (by decide +kernel) (by decide +kernel)) hD2 rfl ?_
  refine g_aload_n 6 (show op 350 5 = some (.aload_n 0, 1) by decide +kernel) rfl rfl ?_
  refine g_getR (ci := 11) (f := 9) (fin := true) (isR := true) 9 690 (show op 350 6 = some (.getfield 31, 3) by decide +kernel) rfl (by decide +kernel) (by decide +kernel) ?_
  refine g_iload_n 10 (show op 350 9 = some (.iload_n 2, 1) by decide +kernel) rfl rfl ?_
  obtain ⟨g3, h⟩ := h
  refine g_iaload 11 100 (show op 350 10 = some (.iaload, 1) by decide +kernel) rfl (by decide +kernel) g3 ?_
  refine g_iconst 12 (show op 350 11 = some (.iconst (-1), 1) by decide +kernel) rfl rfl ?_
  by_cases hc4 : (s1 690 (x2).toNat) = (-1)
  · refine g_icmpF 15 19 (show op 350 12 = some (.if_icmp .ne 7, 3) by decide +kernel) rfl rfl (decide_eq_false (fun h9 => h9 hc4)) ?_
    refine g_iconst 16 (show op 350 15 = some (.iconst 1, 1) by decide +kernel) rfl rfl ?_
    refine g_goto 20 (show op 350 16 = some (.goto 4, 3) by decide +kernel) rfl ?_
    have h9 := h; simp only [if_pos hc4] at h9; exact (g_zret (show op 350 20 = some (.ireturn, 1) by decide +kernel) (by decide +kernel) (by decide) h9)
  · refine g_icmpT 19 (show op 350 12 = some (.if_icmp .ne 7, 3) by decide +kernel) rfl (decide_eq_true hc4) ?_
    refine g_iconst 20 (show op 350 19 = some (.iconst 0, 1) by decide +kernel) rfl rfl ?_
    have h9 := h; simp only [if_neg hc4] at h9; exact (g_zret (show op 350 20 = some (.ireturn, 1) by decide +kernel) (by decide +kernel) (by decide) h9)
def C351_28 (x1 : Int) (x2 : Int) (x3 : Int) (d4 : Option AV) (d5 : Option AV) (d6 : Option AV) (d7 : Option AV) (σ : Sg) (o : Rs) : Prop := Gd 351 28 [(some (.inr (.inr (some 682)))), (some (.inl x1)), (some (.inl x2)), (some (.inl x3)), d4, d5, d6, d7] [] σ 0 0 o
def C351_29 (x1 : Int) (x2 : Int) (x3 : Int) (d4 : Option AV) (d5 : Option AV) (d6 : Option AV) (d7 : Option AV) (y0 : Int) (σ : Sg) (o : Rs) : Prop := Gd 351 29 [(some (.inr (.inr (some 682)))), (some (.inl x1)), (some (.inl x2)), (some (.inl x3)), d4, d5, d6, d7] [(.inl y0)] σ 0 0 o
def C351_69 (x1 : Int) (x2 : Int) (x3 : Int) (d4 : Option AV) (d5 : Option AV) (d6 : Option AV) (d7 : Option AV) (y1 : Int) (σ : Sg) (o : Rs) : Prop := Gd 351 69 [(some (.inr (.inr (some 682)))), (some (.inl x1)), (some (.inl x2)), (some (.inl x3)), d4, d5, d6, d7] [(.inl y1), (.inr (.inr (some 682)))] σ 0 0 o
def C351_116 (d1 : Option AV) (d2 : Option AV) (x3 : Int) (d4 : Option AV) (x5 : Int) (x6 : Int) (x7 : Int) (σ : Sg) (o : Rs) : Prop := Gd 351 116 [(some (.inr (.inr (some 682)))), d1, d2, (some (.inl x3)), d4, (some (.inl x5)), (some (.inl x6)), (some (.inl x7))] [] σ 0 0 o
def C351_189 (d1 : Option AV) (d2 : Option AV) (x3 : Int) (d4 : Option AV) (x5 : Int) (x6 : Int) (x7 : Int) (σ : Sg) (o : Rs) : Prop := Gd 351 189 [(some (.inr (.inr (some 682)))), d1, d2, (some (.inl x3)), d4, (some (.inl x5)), (some (.inl x6)), (some (.inl x7))] [] σ 0 0 o
theorem b351_28 {x1 : Int} {x2 : Int} {x3 : Int} {d4 : Option AV} {d5 : Option AV} {d6 : Option AV} {d7 : Option AV} {σ : Sg} {o : Rs}   (h : C351_29 x1 x2 x3 d4 d5 d6 d7 0 σ o) : C351_28 x1 x2 x3 d4 d5 d6 d7 σ o := by
  show Gd 351 28 [(some (.inr (.inr (some 682)))), (some (.inl x1)), (some (.inl x2)), (some (.inl x3)), d4, d5, d6, d7] [] σ 0 0 o
  refine g_iconst 29 (show op 351 28 = some (.iconst 0, 1) by decide +kernel) rfl rfl ?_
  exact h
theorem b351_29 {x1 : Int} {x2 : Int} {x3 : Int} {d4 : Option AV} {d5 : Option AV} {d6 : Option AV} {d7 : Option AV} {y0 : Int} {σ : Sg} {o : Rs}   (h : (if y0 = 0 then C351_69 x1 x2 x3 (some (.inl y0)) d5 d6 d7 1 σ o else (∃ (v2 : Int) (s1 : Sg), Dd 250 [(.inl x3)] σ (.inl (some (.inl v2)), s1) ∧ (if v2 = 0 then C351_69 x1 x2 x3 (some (.inl y0)) d5 d6 d7 2 s1 o else (-2147483648 ≤ (24 + x1) ∧ (24 + x1) ≤ 2147483647) ∧ (∃ (v6 : Int) (s5 : Sg), Dd 350 [(.inr (.inr (some 682))), (.inl (24 + x1)), (.inl x2)] s1 (.inl (some (.inl v6)), s5) ∧ C351_69 x1 x2 x3 (some (.inl y0)) d5 d6 d7 (if v6 = 0 then 3 else 0) s5 o))))) : C351_29 x1 x2 x3 d4 d5 d6 d7 y0 σ o := by
  show Gd 351 29 [(some (.inr (.inr (some 682)))), (some (.inl x1)), (some (.inl x2)), (some (.inl x3)), d4, d5, d6, d7] [(.inl y0)] σ 0 0 o
  refine g_istore 31 [(some (.inr (.inr (some 682)))), (some (.inl x1)), (some (.inl x2)), (some (.inl x3)), (some (.inl y0)), d5, d6, d7] (show op 351 29 = some (.istore 4, 2) by decide +kernel) rfl rfl rfl ?_
  refine g_aload_n 32 (show op 351 31 = some (.aload_n 0, 1) by decide +kernel) rfl rfl ?_
  refine g_iload 34 (show op 351 32 = some (.iload 4, 2) by decide +kernel) rfl rfl ?_
  by_cases hc8 : y0 = 0
  · rw [if_pos hc8] at h
    refine g_ifF 37 41 (show op 351 34 = some (.ifCond .ne 7, 3) by decide +kernel) rfl rfl (decide_eq_false (fun h9 => h9 hc8)) ?_
    refine g_iconst 38 (show op 351 37 = some (.iconst 1, 1) by decide +kernel) rfl rfl ?_
    refine g_goto 69 (show op 351 38 = some (.goto 31, 3) by decide +kernel) rfl ?_
    exact h
  · rw [if_neg hc8] at h
    refine g_ifT 41 (show op 351 34 = some (.ifCond .ne 7, 3) by decide +kernel) rfl (decide_eq_true hc8) ?_
    refine g_iload_n 42 (show op 351 41 = some (.iload_n 3, 1) by decide +kernel) rfl rfl ?_
    obtain ⟨v2, s1, hD3, h⟩ := h
    refine g_call 45 [(.inl v2), (.inr (.inr (some 682)))] (show op 351 42 = some (.invokestatic 169, 3) by decide +kernel) (call_st' (k' := 0) (n' := 0) (nj := 1) (j := 250) (t := [(.inr (.inr (some 682)))]) (as := [(.inl x3)]) (by decide +kernel) rfl (by decide +kernel) rfl rfl rfl rfl rfl) hD3 rfl ?_
    by_cases hc9 : v2 = 0
    · rw [if_pos hc9] at h
      refine g_ifF 48 52 (show op 351 45 = some (.ifCond .ne 7, 3) by decide +kernel) rfl rfl (decide_eq_false (fun h9 => h9 hc9)) ?_
      refine g_iconst 49 (show op 351 48 = some (.iconst 2, 1) by decide +kernel) rfl rfl ?_
      refine g_goto 69 (show op 351 49 = some (.goto 20, 3) by decide +kernel) rfl ?_
      exact h
    · rw [if_neg hc9] at h
      refine g_ifT 52 (show op 351 45 = some (.ifCond .ne 7, 3) by decide +kernel) rfl (decide_eq_true hc9) ?_
      refine g_aload_n 53 (show op 351 52 = some (.aload_n 0, 1) by decide +kernel) rfl rfl ?_
      refine g_bipush 55 (show op 351 53 = some (.bipush 24, 2) by decide +kernel) rfl (by decide) ?_
      refine g_iload_n 56 (show op 351 55 = some (.iload_n 1, 1) by decide +kernel) rfl rfl ?_
      obtain ⟨g4, h⟩ := h
      refine g_iadd 57 (show op 351 56 = some (.iadd, 1) by decide +kernel) rfl g4 ?_
      refine g_iload_n 58 (show op 351 57 = some (.iload_n 2, 1) by decide +kernel) rfl rfl ?_
      obtain ⟨v6, s5, hD7, h⟩ := h
      refine g_call 61 [(.inl v6), (.inr (.inr (some 682)))] (show op 351 58 = some (.invokevirtual 419, 3) by decide +kernel) (call_vi' (k' := 0) (n' := 0) (nj := 3) (j := 350) (k9 := 21) (t := [(.inr (.inr (some 682)))]) (as := [(.inr (.inr (some 682))), (.inl (24 + x1)), (.inl x2)]) (by decide +kernel) rfl (by decide +kernel) rfl rfl rfl rfl rfl rfl (by decide +kernel) (by decide +kernel)) hD7 rfl ?_
      by_cases hc10 : v6 = 0
      · refine g_ifT 68 (show op 351 61 = some (.ifCond .eq 7, 3) by decide +kernel) rfl (decide_eq_true hc10) ?_
        refine g_iconst 69 (show op 351 68 = some (.iconst 3, 1) by decide +kernel) rfl rfl ?_
        have h9 := h; simp only [if_pos hc10] at h9; exact h9
      · refine g_ifF 64 68 (show op 351 61 = some (.ifCond .eq 7, 3) by decide +kernel) rfl rfl (decide_eq_false hc10) ?_
        refine g_iconst 65 (show op 351 64 = some (.iconst 0, 1) by decide +kernel) rfl rfl ?_
        refine g_goto 69 (show op 351 65 = some (.goto 4, 3) by decide +kernel) rfl ?_
        have h9 := h; simp only [if_neg hc10] at h9; exact h9
theorem b351_69 {x1 : Int} {x2 : Int} {x3 : Int} {d4 : Option AV} {d5 : Option AV} {d6 : Option AV} {d7 : Option AV} {y1 : Int} {σ : Sg} {o : Rs}   (h : (∃ (v2 : Int) (s1 : Sg), Dd 245 [(.inr (.inr (some 682))), (.inl y1)] σ (.inl (some (.inl v2)), s1) ∧ (if v2 = 0 then o = (.inl (some (.inl 0)), s1) else (-2147483648 ≤ (24 + x1) ∧ (24 + x1) ≤ 2147483647) ∧ (-2147483648 ≤ (100 * (24 + x1)) ∧ (100 * (24 + x1)) ≤ 2147483647) ∧ (-2147483648 ≤ ((100 * (24 + x1)) + x2) ∧ ((100 * (24 + x1)) + x2) ≤ 2147483647) ∧ (0 ≤ ((100 * (24 + x1)) + x2) ∧ ((100 * (24 + x1)) + x2) < 4400) ∧ (-2147483648 ≤ (24 + x1) ∧ (24 + x1) ≤ 2147483647) ∧ (-2147483648 ≤ (100 * (24 + x1)) ∧ (100 * (24 + x1)) ≤ 2147483647) ∧ (-2147483648 ≤ ((100 * (24 + x1)) + x2) ∧ ((100 * (24 + x1)) + x2) ≤ 2147483647) ∧ (0 ≤ ((100 * (24 + x1)) + x2) ∧ ((100 * (24 + x1)) + x2) < 4400) ∧ (-2147483648 ≤ (x1 + 1) ∧ (x1 + 1) ≤ 2147483647) ∧ C351_116 (some (.inl x1)) (some (.inl x2)) x3 d4 (s1 686 (((100 * (24 + x1)) + x2)).toNat) x2 (x1 + 1) (upS s1 686 ((((100 * (24 + x1)) + x2)).toNat) x3) o))) : C351_69 x1 x2 x3 d4 d5 d6 d7 y1 σ o := by
  show Gd 351 69 [(some (.inr (.inr (some 682)))), (some (.inl x1)), (some (.inl x2)), (some (.inl x3)), d4, d5, d6, d7] [(.inl y1), (.inr (.inr (some 682)))] σ 0 0 o
  obtain ⟨v2, s1, hD3, h⟩ := h
  refine g_call 72 [(.inl v2)] (show op 351 69 = some (.invokevirtual 172, 3) by decide +kernel) (call_vi' (k' := 0) (n' := 0) (nj := 2) (j := 245) (k9 := 21) (t := []) (as := [(.inr (.inr (some 682))), (.inl y1)]) (by decide +kernel) rfl (by decide +kernel) rfl rfl rfl rfl rfl rfl (by decide +kernel) (by decide +kernel)) hD3 rfl ?_
  by_cases hc13 : v2 = 0
  · rw [if_pos hc13] at h
    refine g_ifF 75 77 (show op 351 72 = some (.ifCond .ne 5, 3) by decide +kernel) rfl rfl (decide_eq_false (fun h9 => h9 hc13)) ?_
    refine g_iconst 76 (show op 351 75 = some (.iconst 0, 1) by decide +kernel) rfl rfl ?_
    exact (g_iret (show op 351 76 = some (.ireturn, 1) by decide +kernel) (by decide +kernel) h)
  · rw [if_neg hc13] at h
    refine g_ifT 77 (show op 351 72 = some (.ifCond .ne 5, 3) by decide +kernel) rfl (decide_eq_true hc13) ?_
    refine g_aload_n 78 (show op 351 77 = some (.aload_n 0, 1) by decide +kernel) rfl rfl ?_
    refine g_getR (ci := 11) (f := 5) (fin := true) (isR := true) 81 686 (show op 351 78 = some (.getfield 19, 3) by decide +kernel) rfl (by decide +kernel) (by decide +kernel) ?_
    refine g_bipush 83 (show op 351 81 = some (.bipush 100, 2) by decide +kernel) rfl (by decide) ?_
    refine g_bipush 85 (show op 351 83 = some (.bipush 24, 2) by decide +kernel) rfl (by decide) ?_
    refine g_iload_n 86 (show op 351 85 = some (.iload_n 1, 1) by decide +kernel) rfl rfl ?_
    obtain ⟨g4, h⟩ := h
    refine g_iadd 87 (show op 351 86 = some (.iadd, 1) by decide +kernel) rfl g4 ?_
    obtain ⟨g5, h⟩ := h
    refine g_imul 88 (show op 351 87 = some (.imul, 1) by decide +kernel) rfl g5 ?_
    refine g_iload_n 89 (show op 351 88 = some (.iload_n 2, 1) by decide +kernel) rfl rfl ?_
    obtain ⟨g6, h⟩ := h
    refine g_iadd 90 (show op 351 89 = some (.iadd, 1) by decide +kernel) rfl g6 ?_
    obtain ⟨g7, h⟩ := h
    refine g_iaload 91 4400 (show op 351 90 = some (.iaload, 1) by decide +kernel) rfl (by decide +kernel) g7 ?_
    refine g_istore 93 [(some (.inr (.inr (some 682)))), (some (.inl x1)), (some (.inl x2)), (some (.inl x3)), d4, (some (.inl (s1 686 (((100 * (24 + x1)) + x2)).toNat))), d6, d7] (show op 351 91 = some (.istore 5, 2) by decide +kernel) rfl rfl rfl ?_
    refine g_iload_n 94 (show op 351 93 = some (.iload_n 2, 1) by decide +kernel) rfl rfl ?_
    refine g_istore 96 [(some (.inr (.inr (some 682)))), (some (.inl x1)), (some (.inl x2)), (some (.inl x3)), d4, (some (.inl (s1 686 (((100 * (24 + x1)) + x2)).toNat))), (some (.inl x2)), d7] (show op 351 94 = some (.istore 6, 2) by decide +kernel) rfl rfl rfl ?_
    refine g_aload_n 97 (show op 351 96 = some (.aload_n 0, 1) by decide +kernel) rfl rfl ?_
    refine g_getR (ci := 11) (f := 5) (fin := true) (isR := true) 100 686 (show op 351 97 = some (.getfield 19, 3) by decide +kernel) rfl (by decide +kernel) (by decide +kernel) ?_
    refine g_bipush 102 (show op 351 100 = some (.bipush 100, 2) by decide +kernel) rfl (by decide) ?_
    refine g_bipush 104 (show op 351 102 = some (.bipush 24, 2) by decide +kernel) rfl (by decide) ?_
    refine g_iload_n 105 (show op 351 104 = some (.iload_n 1, 1) by decide +kernel) rfl rfl ?_
    obtain ⟨g8, h⟩ := h
    refine g_iadd 106 (show op 351 105 = some (.iadd, 1) by decide +kernel) rfl g8 ?_
    obtain ⟨g9, h⟩ := h
    refine g_imul 107 (show op 351 106 = some (.imul, 1) by decide +kernel) rfl g9 ?_
    refine g_iload_n 108 (show op 351 107 = some (.iload_n 2, 1) by decide +kernel) rfl rfl ?_
    obtain ⟨g10, h⟩ := h
    refine g_iadd 109 (show op 351 108 = some (.iadd, 1) by decide +kernel) rfl g10 ?_
    refine g_iload_n 110 (show op 351 109 = some (.iload_n 3, 1) by decide +kernel) rfl rfl ?_
    obtain ⟨g11, h⟩ := h
    refine g_iastore 111 4400 (show op 351 110 = some (.iastore, 1) by decide +kernel) rfl (by decide +kernel) g11 ?_
    refine g_iload_n 112 (show op 351 111 = some (.iload_n 1, 1) by decide +kernel) rfl rfl ?_
    refine g_iconst 113 (show op 351 112 = some (.iconst 1, 1) by decide +kernel) rfl rfl ?_
    obtain ⟨g12, h⟩ := h
    refine g_iadd 114 (show op 351 113 = some (.iadd, 1) by decide +kernel) rfl g12 ?_
    refine g_istore 116 [(some (.inr (.inr (some 682)))), (some (.inl x1)), (some (.inl x2)), (some (.inl x3)), d4, (some (.inl (s1 686 (((100 * (24 + x1)) + x2)).toNat))), (some (.inl x2)), (some (.inl (x1 + 1)))] (show op 351 114 = some (.istore 7, 2) by decide +kernel) rfl rfl rfl ?_
    exact h
theorem b351_116 {d1 : Option AV} {d2 : Option AV} {x3 : Int} {d4 : Option AV} {x5 : Int} {x6 : Int} {x7 : Int} {σ : Sg} {o : Rs}   (h : (if x7 < (σ 682 40) then (if x6 = (-1) then o = (.inl (some (.inl x5)), σ) else (-2147483648 ≤ (24 + x7) ∧ (24 + x7) ≤ 2147483647) ∧ (-2147483648 ≤ (100 * (24 + x7)) ∧ (100 * (24 + x7)) ≤ 2147483647) ∧ (-2147483648 ≤ ((100 * (24 + x7)) + x6) ∧ ((100 * (24 + x7)) + x6) ≤ 2147483647) ∧ (0 ≤ ((100 * (24 + x7)) + x6) ∧ ((100 * (24 + x7)) + x6) < 4400) ∧ (-2147483648 ≤ (24 + x7) ∧ (24 + x7) ≤ 2147483647) ∧ (-2147483648 ≤ (100 * (24 + x7)) ∧ (100 * (24 + x7)) ≤ 2147483647) ∧ (-2147483648 ≤ ((100 * (24 + x7)) + x6) ∧ ((100 * (24 + x7)) + x6) ≤ 2147483647) ∧ (0 ≤ ((100 * (24 + x7)) + x6) ∧ ((100 * (24 + x7)) + x6) < 4400) ∧ (if ((upS σ 685 ((((100 * (24 + x7)) + x6)).toNat) x3) 687 (((100 * (24 + x7)) + x6)).toNat) = (-1) then C351_189 d1 d2 x3 d4 x5 ((upS σ 685 ((((100 * (24 + x7)) + x6)).toNat) x3) 687 (((100 * (24 + x7)) + x6)).toNat) x7 (upS σ 685 ((((100 * (24 + x7)) + x6)).toNat) x3) o else (-2147483648 ≤ (24 + x7) ∧ (24 + x7) ≤ 2147483647) ∧ (-2147483648 ≤ (100 * (24 + x7)) ∧ (100 * (24 + x7)) ≤ 2147483647) ∧ (-2147483648 ≤ ((100 * (24 + x7)) + ((upS σ 685 ((((100 * (24 + x7)) + x6)).toNat) x3) 687 (((100 * (24 + x7)) + x6)).toNat)) ∧ ((100 * (24 + x7)) + ((upS σ 685 ((((100 * (24 + x7)) + x6)).toNat) x3) 687 (((100 * (24 + x7)) + x6)).toNat)) ≤ 2147483647) ∧ (0 ≤ ((100 * (24 + x7)) + ((upS σ 685 ((((100 * (24 + x7)) + x6)).toNat) x3) 687 (((100 * (24 + x7)) + x6)).toNat)) ∧ ((100 * (24 + x7)) + ((upS σ 685 ((((100 * (24 + x7)) + x6)).toNat) x3) 687 (((100 * (24 + x7)) + x6)).toNat)) < 4400) ∧ C351_189 d1 d2 x3 d4 x5 ((upS σ 685 ((((100 * (24 + x7)) + x6)).toNat) x3) 687 (((100 * (24 + x7)) + x6)).toNat) x7 (upS (upS σ 685 ((((100 * (24 + x7)) + x6)).toNat) x3) 686 ((((100 * (24 + x7)) + ((upS σ 685 ((((100 * (24 + x7)) + x6)).toNat) x3) 687 (((100 * (24 + x7)) + x6)).toNat))).toNat) x3) o)) else o = (.inl (some (.inl x5)), σ))) : C351_116 d1 d2 x3 d4 x5 x6 x7 σ o := by
  show Gd 351 116 [(some (.inr (.inr (some 682)))), d1, d2, (some (.inl x3)), d4, (some (.inl x5)), (some (.inl x6)), (some (.inl x7))] [] σ 0 0 o
  refine g_iload 118 (show op 351 116 = some (.iload 7, 2) by decide +kernel) rfl rfl ?_
  refine g_aload_n 119 (show op 351 118 = some (.aload_n 0, 1) by decide +kernel) rfl rfl ?_
  refine g_getI (ci := 11) (f := 40) (fin := false) (isR := false) 122 (show op 351 119 = some (.getfield 397, 3) by decide +kernel) rfl (by decide +kernel) (by decide +kernel) ?_
  by_cases hc13 : x7 < (σ 682 40)
  · rw [if_pos hc13] at h
    refine g_icmpF 125 195 (show op 351 122 = some (.if_icmp .ge 73, 3) by decide +kernel) rfl rfl (decide_eq_false (Int.not_le.mpr hc13)) ?_
    refine g_iload 127 (show op 351 125 = some (.iload 6, 2) by decide +kernel) rfl rfl ?_
    refine g_iconst 128 (show op 351 127 = some (.iconst (-1), 1) by decide +kernel) rfl rfl ?_
    by_cases hc14 : x6 = (-1)
    · rw [if_pos hc14] at h
      refine g_icmpT 195 (show op 351 128 = some (.if_icmp .eq 67, 3) by decide +kernel) rfl (decide_eq_true hc14) ?_
      refine g_iload 197 (show op 351 195 = some (.iload 5, 2) by decide +kernel) rfl rfl ?_
      exact (g_iret (show op 351 197 = some (.ireturn, 1) by decide +kernel) (by decide +kernel) h)
    · rw [if_neg hc14] at h
      refine g_icmpF 131 195 (show op 351 128 = some (.if_icmp .eq 67, 3) by decide +kernel) rfl rfl (decide_eq_false hc14) ?_
      refine g_aload_n 132 (show op 351 131 = some (.aload_n 0, 1) by decide +kernel) rfl rfl ?_
      refine g_getR (ci := 11) (f := 4) (fin := true) (isR := true) 135 685 (show op 351 132 = some (.getfield 16, 3) by decide +kernel) rfl (by decide +kernel) (by decide +kernel) ?_
      refine g_bipush 137 (show op 351 135 = some (.bipush 100, 2) by decide +kernel) rfl (by decide) ?_
      refine g_bipush 139 (show op 351 137 = some (.bipush 24, 2) by decide +kernel) rfl (by decide) ?_
      refine g_iload 141 (show op 351 139 = some (.iload 7, 2) by decide +kernel) rfl rfl ?_
      obtain ⟨g1, h⟩ := h
      refine g_iadd 142 (show op 351 141 = some (.iadd, 1) by decide +kernel) rfl g1 ?_
      obtain ⟨g2, h⟩ := h
      refine g_imul 143 (show op 351 142 = some (.imul, 1) by decide +kernel) rfl g2 ?_
      refine g_iload 145 (show op 351 143 = some (.iload 6, 2) by decide +kernel) rfl rfl ?_
      obtain ⟨g3, h⟩ := h
      refine g_iadd 146 (show op 351 145 = some (.iadd, 1) by decide +kernel) rfl g3 ?_
      refine g_iload_n 147 (show op 351 146 = some (.iload_n 3, 1) by decide +kernel) rfl rfl ?_
      obtain ⟨g4, h⟩ := h
      refine g_iastore 148 4400 (show op 351 147 = some (.iastore, 1) by decide +kernel) rfl (by decide +kernel) g4 ?_
      refine g_aload_n 149 (show op 351 148 = some (.aload_n 0, 1) by decide +kernel) rfl rfl ?_
      refine g_getR (ci := 11) (f := 6) (fin := true) (isR := true) 152 687 (show op 351 149 = some (.getfield 22, 3) by decide +kernel) rfl (by decide +kernel) (by decide +kernel) ?_
      refine g_bipush 154 (show op 351 152 = some (.bipush 100, 2) by decide +kernel) rfl (by decide) ?_
      refine g_bipush 156 (show op 351 154 = some (.bipush 24, 2) by decide +kernel) rfl (by decide) ?_
      refine g_iload 158 (show op 351 156 = some (.iload 7, 2) by decide +kernel) rfl rfl ?_
      obtain ⟨g5, h⟩ := h
      refine g_iadd 159 (show op 351 158 = some (.iadd, 1) by decide +kernel) rfl g5 ?_
      obtain ⟨g6, h⟩ := h
      refine g_imul 160 (show op 351 159 = some (.imul, 1) by decide +kernel) rfl g6 ?_
      refine g_iload 162 (show op 351 160 = some (.iload 6, 2) by decide +kernel) rfl rfl ?_
      obtain ⟨g7, h⟩ := h
      refine g_iadd 163 (show op 351 162 = some (.iadd, 1) by decide +kernel) rfl g7 ?_
      obtain ⟨g8, h⟩ := h
      refine g_iaload 164 4400 (show op 351 163 = some (.iaload, 1) by decide +kernel) rfl (by decide +kernel) g8 ?_
      refine g_istore 166 [(some (.inr (.inr (some 682)))), d1, d2, (some (.inl x3)), d4, (some (.inl x5)), (some (.inl ((upS σ 685 ((((100 * (24 + x7)) + x6)).toNat) x3) 687 (((100 * (24 + x7)) + x6)).toNat))), (some (.inl x7))] (show op 351 164 = some (.istore 6, 2) by decide +kernel) rfl rfl rfl ?_
      refine g_iload 168 (show op 351 166 = some (.iload 6, 2) by decide +kernel) rfl rfl ?_
      refine g_iconst 169 (show op 351 168 = some (.iconst (-1), 1) by decide +kernel) rfl rfl ?_
      by_cases hc15 : ((upS σ 685 ((((100 * (24 + x7)) + x6)).toNat) x3) 687 (((100 * (24 + x7)) + x6)).toNat) = (-1)
      · rw [if_pos hc15] at h
        refine g_icmpT 189 (show op 351 169 = some (.if_icmp .eq 20, 3) by decide +kernel) rfl (decide_eq_true hc15) ?_
        exact h
      · rw [if_neg hc15] at h
        refine g_icmpF 172 189 (show op 351 169 = some (.if_icmp .eq 20, 3) by decide +kernel) rfl rfl (decide_eq_false hc15) ?_
        refine g_aload_n 173 (show op 351 172 = some (.aload_n 0, 1) by decide +kernel) rfl rfl ?_
        refine g_getR (ci := 11) (f := 5) (fin := true) (isR := true) 176 686 (show op 351 173 = some (.getfield 19, 3) by decide +kernel) rfl (by decide +kernel) (by decide +kernel) ?_
        refine g_bipush 178 (show op 351 176 = some (.bipush 100, 2) by decide +kernel) rfl (by decide) ?_
        refine g_bipush 180 (show op 351 178 = some (.bipush 24, 2) by decide +kernel) rfl (by decide) ?_
        refine g_iload 182 (show op 351 180 = some (.iload 7, 2) by decide +kernel) rfl rfl ?_
        obtain ⟨g9, h⟩ := h
        refine g_iadd 183 (show op 351 182 = some (.iadd, 1) by decide +kernel) rfl g9 ?_
        obtain ⟨g10, h⟩ := h
        refine g_imul 184 (show op 351 183 = some (.imul, 1) by decide +kernel) rfl g10 ?_
        refine g_iload 186 (show op 351 184 = some (.iload 6, 2) by decide +kernel) rfl rfl ?_
        obtain ⟨g11, h⟩ := h
        refine g_iadd 187 (show op 351 186 = some (.iadd, 1) by decide +kernel) rfl g11 ?_
        refine g_iload_n 188 (show op 351 187 = some (.iload_n 3, 1) by decide +kernel) rfl rfl ?_
        obtain ⟨g12, h⟩ := h
        refine g_iastore 189 4400 (show op 351 188 = some (.iastore, 1) by decide +kernel) rfl (by decide +kernel) g12 ?_
        exact h
  · rw [if_neg hc13] at h
    refine g_icmpT 195 (show op 351 122 = some (.if_icmp .ge 73, 3) by decide +kernel) rfl (decide_eq_true (Int.not_lt.mp hc13)) ?_
    refine g_iload 197 (show op 351 195 = some (.iload 5, 2) by decide +kernel) rfl rfl ?_
    exact (g_iret (show op 351 197 = some (.ireturn, 1) by decide +kernel) (by decide +kernel) h)
theorem b351_189 {d1 : Option AV} {d2 : Option AV} {x3 : Int} {d4 : Option AV} {x5 : Int} {x6 : Int} {x7 : Int} {σ : Sg} {o : Rs}   (h : (-2147483648 ≤ (x7 + 1) ∧ (x7 + 1) ≤ 2147483647) ∧ C351_116 d1 d2 x3 d4 x5 x6 (x7 + 1) σ o) : C351_189 d1 d2 x3 d4 x5 x6 x7 σ o := by
  show Gd 351 189 [(some (.inr (.inr (some 682)))), d1, d2, (some (.inl x3)), d4, (some (.inl x5)), (some (.inl x6)), (some (.inl x7))] [] σ 0 0 o
  obtain ⟨g1, h⟩ := h
  refine g_iinc 192 [(some (.inr (.inr (some 682)))), d1, d2, (some (.inl x3)), d4, (some (.inl x5)), (some (.inl x6)), (some (.inl (x7 + 1)))] (show op 351 189 = some (.iinc 7 1, 3) by decide +kernel) rfl rfl g1 rfl ?_
  refine g_goto 116 (show op 351 192 = some (.goto (-76), 3) by decide +kernel) rfl ?_
  exact h
/-- PatchBenchModel.edit (III)I -/
theorem b351 {x1 : Int} {x2 : Int} {x3 : Int} {σ : Sg} {o : Rs}   (h : (∃ (v2 : Int) (s1 : Sg), Dd 340 [(.inr (.inr (some 682))), (.inl x1)] σ (.inl (some (.inl v2)), s1) ∧ (if v2 = 0 then C351_28 x1 x2 x3 none none none none s1 o else (-2147483648 ≤ (24 + x1) ∧ (24 + x1) ≤ 2147483647) ∧ (0 ≤ (24 + x1) ∧ (24 + x1) < 44) ∧ (∃ (v7 : Int) (s6 : Sg), Dd 246 [(.inl x2), (.inl (s1 689 ((24 + x1)).toNat))] s1 (.inl (some (.inl v7)), s6) ∧ (if v7 = 0 then C351_28 x1 x2 x3 none none none none s6 o else C351_29 x1 x2 x3 none none none none 1 s6 o))))) : Dd 351 [(.inr (.inr (some 682))), (.inl x1), (.inl x2), (.inl x3)] σ o := by
  refine Dd_of (l := 8) (by decide +kernel) ?_
  show Gd 351 0 [(some (.inr (.inr (some 682)))), (some (.inl x1)), (some (.inl x2)), (some (.inl x3)), none, none, none, none] [] σ 0 0 o
  refine g_aload_n 1 (show op 351 0 = some (.aload_n 0, 1) by decide +kernel) rfl rfl ?_
  refine g_iload_n 2 (show op 351 1 = some (.iload_n 1, 1) by decide +kernel) rfl rfl ?_
  obtain ⟨v2, s1, hD3, h⟩ := h
  refine g_call 5 [(.inl v2)] (show op 351 2 = some (.invokevirtual 416, 3) by decide +kernel) (call_vi' (k' := 0) (n' := 0) (nj := 2) (j := 340) (k9 := 21) (t := []) (as := [(.inr (.inr (some 682))), (.inl x1)]) (by decide +kernel) rfl (by decide +kernel) rfl rfl rfl rfl rfl rfl (by decide +kernel) (by decide +kernel)) hD3 rfl ?_
  by_cases hc9 : v2 = 0
  · rw [if_pos hc9] at h
    refine g_ifT 28 (show op 351 5 = some (.ifCond .eq 23, 3) by decide +kernel) rfl (decide_eq_true hc9) ?_
    exact h
  · rw [if_neg hc9] at h
    refine g_ifF 8 28 (show op 351 5 = some (.ifCond .eq 23, 3) by decide +kernel) rfl rfl (decide_eq_false hc9) ?_
    refine g_iload_n 9 (show op 351 8 = some (.iload_n 2, 1) by decide +kernel) rfl rfl ?_
    refine g_aload_n 10 (show op 351 9 = some (.aload_n 0, 1) by decide +kernel) rfl rfl ?_
    refine g_getR (ci := 11) (f := 8) (fin := true) (isR := true) 13 689 (show op 351 10 = some (.getfield 28, 3) by decide +kernel) rfl (by decide +kernel) (by decide +kernel) ?_
    refine g_bipush 15 (show op 351 13 = some (.bipush 24, 2) by decide +kernel) rfl (by decide) ?_
    refine g_iload_n 16 (show op 351 15 = some (.iload_n 1, 1) by decide +kernel) rfl rfl ?_
    obtain ⟨g4, h⟩ := h
    refine g_iadd 17 (show op 351 16 = some (.iadd, 1) by decide +kernel) rfl g4 ?_
    obtain ⟨g5, h⟩ := h
    refine g_iaload 18 44 (show op 351 17 = some (.iaload, 1) by decide +kernel) rfl (by decide +kernel) g5 ?_
    obtain ⟨v7, s6, hD8, h⟩ := h
    refine g_call 21 [(.inl v7)] (show op 351 18 = some (.invokestatic 144, 3) by decide +kernel) (call_st' (k' := 0) (n' := 0) (nj := 2) (j := 246) (t := []) (as := [(.inl x2), (.inl (s1 689 ((24 + x1)).toNat))]) (by decide +kernel) rfl (by decide +kernel) rfl rfl rfl rfl rfl) hD8 rfl ?_
    by_cases hc10 : v7 = 0
    · rw [if_pos hc10] at h
      refine g_ifT 28 (show op 351 21 = some (.ifCond .eq 7, 3) by decide +kernel) rfl (decide_eq_true hc10) ?_
      exact h
    · rw [if_neg hc10] at h
      refine g_ifF 24 28 (show op 351 21 = some (.ifCond .eq 7, 3) by decide +kernel) rfl rfl (decide_eq_false hc10) ?_
      refine g_iconst 25 (show op 351 24 = some (.iconst 1, 1) by decide +kernel) rfl rfl ?_
      refine g_goto 29 (show op 351 25 = some (.goto 4, 3) by decide +kernel) rfl ?_
      exact h
def C352_35 (x1 : Int) (x2 : Int) (d3 : Option AV) (y1 : Int) (σ : Sg) (o : Rs) : Prop := Gd 352 35 [(some (.inr (.inr (some 682)))), (some (.inl x1)), (some (.inl x2)), d3] [(.inl y1), (.inr (.inr (some 682)))] σ 0 0 o
theorem b352_35 {x1 : Int} {x2 : Int} {d3 : Option AV} {y1 : Int} {σ : Sg} {o : Rs}   (h : (∃ (v2 : Int) (s1 : Sg), Dd 245 [(.inr (.inr (some 682))), (.inl y1)] σ (.inl (some (.inl v2)), s1) ∧ (if v2 = 0 then o = (.inl (some (.inl 0)), s1) else (-2147483648 ≤ (24 + (s1 682 40)) ∧ (24 + (s1 682 40)) ≤ 2147483647) ∧ (-2147483648 ≤ ((24 + (s1 682 40)) - 1) ∧ ((24 + (s1 682 40)) - 1) ≤ 2147483647) ∧ (-2147483648 ≤ (100 * ((24 + (s1 682 40)) - 1)) ∧ (100 * ((24 + (s1 682 40)) - 1)) ≤ 2147483647) ∧ (0 ≤ ((24 + (s1 682 40)) - 1) ∧ ((24 + (s1 682 40)) - 1) < 44) ∧ (∃ (s8 : Sg), Dd 263 [(.inr (.inr (some 682))), (.inr (.inr (some 685))), (.inl (100 * ((24 + (s1 682 40)) - 1))), (.inl (s1 688 (((24 + (s1 682 40)) - 1)).toNat))] s1 (.inl none, s8) ∧ (-2147483648 ≤ (16 * x1) ∧ (16 * x1) ≤ 2147483647) ∧ (0 ≤ x1 ∧ x1 < 4) ∧ (∃ (s12 : Sg), Dd 264 [(.inr (.inr (some 682))), (.inr (.inr (some 683))), (.inl (16 * x1)), (.inl (s8 684 (x1).toNat))] s8 (.inl none, s12) ∧ (∃ (s14 : Sg), Dd 287 [(.inr (.inr (some 682))), (.inl ((24 + (s1 682 40)) - 1)), (.inl x2)] s12 (.inl none, s14) ∧ o = (.inl (some (.inl (s14 704 (0 : Int).toNat))), s14))))))) : C352_35 x1 x2 d3 y1 σ o := by
  show Gd 352 35 [(some (.inr (.inr (some 682)))), (some (.inl x1)), (some (.inl x2)), d3] [(.inl y1), (.inr (.inr (some 682)))] σ 0 0 o
  obtain ⟨v2, s1, hD3, h⟩ := h
  refine g_call 38 [(.inl v2)] (show op 352 35 = some (.invokevirtual 172, 3) by decide +kernel) (call_vi' (k' := 0) (n' := 0) (nj := 2) (j := 245) (k9 := 21) (t := []) (as := [(.inr (.inr (some 682))), (.inl y1)]) (by decide +kernel) rfl (by decide +kernel) rfl rfl rfl rfl rfl rfl (by decide +kernel) (by decide +kernel)) hD3 rfl ?_
  by_cases hc16 : v2 = 0
  · rw [if_pos hc16] at h
    refine g_ifF 41 43 (show op 352 38 = some (.ifCond .ne 5, 3) by decide +kernel) rfl rfl (decide_eq_false (fun h9 => h9 hc16)) ?_
    refine g_iconst 42 (show op 352 41 = some (.iconst 0, 1) by decide +kernel) rfl rfl ?_
    exact (g_iret (show op 352 42 = some (.ireturn, 1) by decide +kernel) (by decide +kernel) h)
  · rw [if_neg hc16] at h
    refine g_ifT 43 (show op 352 38 = some (.ifCond .ne 5, 3) by decide +kernel) rfl (decide_eq_true hc16) ?_
    refine g_bipush 45 (show op 352 43 = some (.bipush 24, 2) by decide +kernel) rfl (by decide) ?_
    refine g_aload_n 46 (show op 352 45 = some (.aload_n 0, 1) by decide +kernel) rfl rfl ?_
    refine g_getI (ci := 11) (f := 40) (fin := false) (isR := false) 49 (show op 352 46 = some (.getfield 397, 3) by decide +kernel) rfl (by decide +kernel) (by decide +kernel) ?_
    obtain ⟨g4, h⟩ := h
    refine g_iadd 50 (show op 352 49 = some (.iadd, 1) by decide +kernel) rfl g4 ?_
    refine g_iconst 51 (show op 352 50 = some (.iconst 1, 1) by decide +kernel) rfl rfl ?_
    obtain ⟨g5, h⟩ := h
    refine g_isub 52 (show op 352 51 = some (.isub, 1) by decide +kernel) rfl g5 ?_
    refine g_istore_n 53 [(some (.inr (.inr (some 682)))), (some (.inl x1)), (some (.inl x2)), (some (.inl ((24 + (s1 682 40)) - 1)))] (show op 352 52 = some (.istore_n 3, 1) by decide +kernel) rfl rfl rfl ?_
    refine g_aload_n 54 (show op 352 53 = some (.aload_n 0, 1) by decide +kernel) rfl rfl ?_
    refine g_aload_n 55 (show op 352 54 = some (.aload_n 0, 1) by decide +kernel) rfl rfl ?_
    refine g_getR (ci := 11) (f := 4) (fin := true) (isR := true) 58 685 (show op 352 55 = some (.getfield 16, 3) by decide +kernel) rfl (by decide +kernel) (by decide +kernel) ?_
    refine g_bipush 60 (show op 352 58 = some (.bipush 100, 2) by decide +kernel) rfl (by decide) ?_
    refine g_iload_n 61 (show op 352 60 = some (.iload_n 3, 1) by decide +kernel) rfl rfl ?_
    obtain ⟨g6, h⟩ := h
    refine g_imul 62 (show op 352 61 = some (.imul, 1) by decide +kernel) rfl g6 ?_
    refine g_aload_n 63 (show op 352 62 = some (.aload_n 0, 1) by decide +kernel) rfl rfl ?_
    refine g_getR (ci := 11) (f := 7) (fin := true) (isR := true) 66 688 (show op 352 63 = some (.getfield 25, 3) by decide +kernel) rfl (by decide +kernel) (by decide +kernel) ?_
    refine g_iload_n 67 (show op 352 66 = some (.iload_n 3, 1) by decide +kernel) rfl rfl ?_
    obtain ⟨g7, h⟩ := h
    refine g_iaload 68 44 (show op 352 67 = some (.iaload, 1) by decide +kernel) rfl (by decide +kernel) g7 ?_
    obtain ⟨s8, hD9, h⟩ := h
    refine g_call 71 [] (show op 352 68 = some (.invokevirtual 230, 3) by decide +kernel) (call_vi' (k' := 0) (n' := 0) (nj := 4) (j := 263) (k9 := 21) (t := []) (as := [(.inr (.inr (some 682))), (.inr (.inr (some 685))), (.inl (100 * ((24 + (s1 682 40)) - 1))), (.inl (s1 688 (((24 + (s1 682 40)) - 1)).toNat))]) (by decide +kernel) rfl (by decide +kernel) rfl rfl rfl rfl rfl rfl (by decide +kernel) (by decide +kernel)) hD9 rfl ?_
    refine g_aload_n 72 (show op 352 71 = some (.aload_n 0, 1) by decide +kernel) rfl rfl ?_
    refine g_aload_n 73 (show op 352 72 = some (.aload_n 0, 1) by decide +kernel) rfl rfl ?_
    refine g_getR (ci := 11) (f := 1) (fin := true) (isR := true) 76 683 (show op 352 73 = some (.getfield 7, 3) by decide +kernel) rfl (by decide +kernel) (by decide +kernel) ?_
    refine g_bipush 78 (show op 352 76 = some (.bipush 16, 2) by decide +kernel) rfl (by decide) ?_
    refine g_iload_n 79 (show op 352 78 = some (.iload_n 1, 1) by decide +kernel) rfl rfl ?_
    obtain ⟨g10, h⟩ := h
    refine g_imul 80 (show op 352 79 = some (.imul, 1) by decide +kernel) rfl g10 ?_
    refine g_aload_n 81 (show op 352 80 = some (.aload_n 0, 1) by decide +kernel) rfl rfl ?_
    refine g_getR (ci := 11) (f := 2) (fin := true) (isR := true) 84 684 (show op 352 81 = some (.getfield 13, 3) by decide +kernel) rfl (by decide +kernel) (by decide +kernel) ?_
    refine g_iload_n 85 (show op 352 84 = some (.iload_n 1, 1) by decide +kernel) rfl rfl ?_
    obtain ⟨g11, h⟩ := h
    refine g_iaload 86 4 (show op 352 85 = some (.iaload, 1) by decide +kernel) rfl (by decide +kernel) g11 ?_
    obtain ⟨s12, hD13, h⟩ := h
    refine g_call 89 [] (show op 352 86 = some (.invokevirtual 234, 3) by decide +kernel) (call_vi' (k' := 0) (n' := 0) (nj := 4) (j := 264) (k9 := 21) (t := []) (as := [(.inr (.inr (some 682))), (.inr (.inr (some 683))), (.inl (16 * x1)), (.inl (s8 684 (x1).toNat))]) (by decide +kernel) rfl (by decide +kernel) rfl rfl rfl rfl rfl rfl (by decide +kernel) (by decide +kernel)) hD13 rfl ?_
    refine g_aload_n 90 (show op 352 89 = some (.aload_n 0, 1) by decide +kernel) rfl rfl ?_
    refine g_iload_n 91 (show op 352 90 = some (.iload_n 3, 1) by decide +kernel) rfl rfl ?_
    refine g_iload_n 92 (show op 352 91 = some (.iload_n 2, 1) by decide +kernel) rfl rfl ?_
    obtain ⟨s14, hD15, h⟩ := h
    refine g_call 95 [] (show op 352 92 = some (.invokevirtual 287, 3) by decide +kernel) (call_vi' (k' := 0) (n' := 0) (nj := 3) (j := 287) (k9 := 21) (t := []) (as := [(.inr (.inr (some 682))), (.inl ((24 + (s1 682 40)) - 1)), (.inl x2)]) (by decide +kernel) rfl (by decide +kernel) rfl rfl rfl rfl rfl rfl (by decide +kernel) (by decide +kernel)) hD15 rfl ?_
    refine g_aload_n 96 (show op 352 95 = some (.aload_n 0, 1) by decide +kernel) rfl rfl ?_
    refine g_getR (ci := 11) (f := 30) (fin := true) (isR := true) 99 704 (show op 352 96 = some (.getfield 73, 3) by decide +kernel) rfl (by decide +kernel) (by decide +kernel) ?_
    refine g_iconst 100 (show op 352 99 = some (.iconst 0, 1) by decide +kernel) rfl rfl ?_
    refine g_iaload 101 2 (show op 352 100 = some (.iaload, 1) by decide +kernel) rfl (by decide +kernel) (by decide) ?_
    exact (g_iret (show op 352 101 = some (.ireturn, 1) by decide +kernel) (by decide +kernel) h)
/-- PatchBenchModel.refresh (II)I -/
theorem b352 {x1 : Int} {x2 : Int} {σ : Sg} {o : Rs}   (h : (∃ (v2 : Int) (s1 : Sg), Dd 247 [(.inl x1)] σ (.inl (some (.inl v2)), s1) ∧ (if v2 = 0 then C352_35 x1 x2 none 1 s1 o else (∃ (v5 : Int) (s4 : Sg), Dd 275 [(.inl x2)] s1 (.inl (some (.inl v5)), s4) ∧ C352_35 x1 x2 none (if v5 = 0 then 2 else (if (s4 682 40) = 0 then 3 else 0)) s4 o)))) : Dd 352 [(.inr (.inr (some 682))), (.inl x1), (.inl x2)] σ o := by
  refine Dd_of (l := 4) (by decide +kernel) ?_
  show Gd 352 0 [(some (.inr (.inr (some 682)))), (some (.inl x1)), (some (.inl x2)), none] [] σ 0 0 o
  refine g_aload_n 1 (show op 352 0 = some (.aload_n 0, 1) by decide +kernel) rfl rfl ?_
  refine g_iload_n 2 (show op 352 1 = some (.iload_n 1, 1) by decide +kernel) rfl rfl ?_
  obtain ⟨v2, s1, hD3, h⟩ := h
  refine g_call 5 [(.inl v2), (.inr (.inr (some 682)))] (show op 352 2 = some (.invokestatic 166, 3) by decide +kernel) (call_st' (k' := 0) (n' := 0) (nj := 1) (j := 247) (t := [(.inr (.inr (some 682)))]) (as := [(.inl x1)]) (by decide +kernel) rfl (by decide +kernel) rfl rfl rfl rfl rfl) hD3 rfl ?_
  by_cases hc7 : v2 = 0
  · rw [if_pos hc7] at h
    refine g_ifF 8 12 (show op 352 5 = some (.ifCond .ne 7, 3) by decide +kernel) rfl rfl (decide_eq_false (fun h9 => h9 hc7)) ?_
    refine g_iconst 9 (show op 352 8 = some (.iconst 1, 1) by decide +kernel) rfl rfl ?_
    refine g_goto 35 (show op 352 9 = some (.goto 26, 3) by decide +kernel) rfl ?_
    exact h
  · rw [if_neg hc7] at h
    refine g_ifT 12 (show op 352 5 = some (.ifCond .ne 7, 3) by decide +kernel) rfl (decide_eq_true hc7) ?_
    refine g_iload_n 13 (show op 352 12 = some (.iload_n 2, 1) by decide +kernel) rfl rfl ?_
    obtain ⟨v5, s4, hD6, h⟩ := h
    refine g_call 16 [(.inl v5), (.inr (.inr (some 682)))] (show op 352 13 = some (.invokestatic 237, 3) by decide +kernel) (call_st' (k' := 0) (n' := 0) (nj := 1) (j := 275) (t := [(.inr (.inr (some 682)))]) (as := [(.inl x2)]) (by decide +kernel) rfl (by decide +kernel) rfl rfl rfl rfl rfl) hD6 rfl ?_
    by_cases hc8 : v5 = 0
    · refine g_ifF 19 23 (show op 352 16 = some (.ifCond .ne 7, 3) by decide +kernel) rfl rfl (decide_eq_false (fun h9 => h9 hc8)) ?_
      refine g_iconst 20 (show op 352 19 = some (.iconst 2, 1) by decide +kernel) rfl rfl ?_
      refine g_goto 35 (show op 352 20 = some (.goto 15, 3) by decide +kernel) rfl ?_
      have h9 := h; simp only [if_pos hc8] at h9; exact h9
    · refine g_ifT 23 (show op 352 16 = some (.ifCond .ne 7, 3) by decide +kernel) rfl (decide_eq_true hc8) ?_
      refine g_aload_n 24 (show op 352 23 = some (.aload_n 0, 1) by decide +kernel) rfl rfl ?_
      refine g_getI (ci := 11) (f := 40) (fin := false) (isR := false) 27 (show op 352 24 = some (.getfield 397, 3) by decide +kernel) rfl (by decide +kernel) (by decide +kernel) ?_
      by_cases hc9 : (s4 682 40) = 0
      · refine g_ifF 30 34 (show op 352 27 = some (.ifCond .ne 7, 3) by decide +kernel) rfl rfl (decide_eq_false (fun h9 => h9 hc9)) ?_
        refine g_iconst 31 (show op 352 30 = some (.iconst 3, 1) by decide +kernel) rfl rfl ?_
        refine g_goto 35 (show op 352 31 = some (.goto 4, 3) by decide +kernel) rfl ?_
        have h9 := h; simp only [if_neg hc8, if_pos hc9] at h9; exact h9
      · refine g_ifT 34 (show op 352 27 = some (.ifCond .ne 7, 3) by decide +kernel) rfl (decide_eq_true hc9) ?_
        refine g_iconst 35 (show op 352 34 = some (.iconst 0, 1) by decide +kernel) rfl rfl ?_
        have h9 := h; simp only [if_neg hc8, if_neg hc9] at h9; exact h9
end
