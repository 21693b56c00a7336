noncomputable section
def C280_8 (x1 : Int) (x2 : Int) (x3 : Int) (x4 : Int) (x5 : Int) (d6 : Option AV) (σ : Sg) (o : Rs) : Prop := Gd 280 8 [(some (.inr (.inr (some 682)))), (some (.inl x1)), (some (.inl x2)), (some (.inl x3)), (some (.inl x4)), (some (.inl x5)), d6] [] σ 0 0 o
def C280_30 (x1 : Int) (x2 : Int) (x3 : Int) (x4 : Int) (x5 : Int) (d6 : Option AV) (σ : Sg) (o : Rs) : Prop := Gd 280 30 [(some (.inr (.inr (some 682)))), (some (.inl x1)), (some (.inl x2)), (some (.inl x3)), (some (.inl x4)), (some (.inl x5)), d6] [] σ 0 0 o
def C280_67 (x1 : Int) (x2 : Int) (x3 : Int) (x4 : Int) (x5 : Int) (d6 : Option AV) (σ : Sg) (o : Rs) : Prop := Gd 280 67 [(some (.inr (.inr (some 682)))), (some (.inl x1)), (some (.inl x2)), (some (.inl x3)), (some (.inl x4)), (some (.inl x5)), d6] [] σ 0 0 o
def C280_94 (x1 : Int) (x2 : Int) (x3 : Int) (x4 : Int) (d5 : Option AV) (x6 : Int) (σ : Sg) (o : Rs) : Prop := Gd 280 94 [(some (.inr (.inr (some 682)))), (some (.inl x1)), (some (.inl x2)), (some (.inl x3)), (some (.inl x4)), d5, (some (.inl x6))] [] σ 0 0 o
def C280_127 (x1 : Int) (x2 : Int) (x3 : Int) (x4 : Int) (d5 : Option AV) (x6 : Int) (σ : Sg) (o : Rs) : Prop := Gd 280 127 [(some (.inr (.inr (some 682)))), (some (.inl x1)), (some (.inl x2)), (some (.inl x3)), (some (.inl x4)), d5, (some (.inl x6))] [] σ 0 0 o
def C280_159 (x1 : Int) (x2 : Int) (x3 : Int) (x4 : Int) (d5 : Option AV) (x6 : Int) (y0 : Int) (σ : Sg) (o : Rs) : Prop := Gd 280 159 [(some (.inr (.inr (some 682)))), (some (.inl x1)), (some (.inl x2)), (some (.inl x3)), (some (.inl x4)), d5, (some (.inl x6))] [(.inl y0)] σ 0 0 o
theorem b280_8 {x1 : Int} {x2 : Int} {x3 : Int} {x4 : Int} {x5 : Int} {d6 : Option AV} {σ : Sg} {o : Rs}   (h : (0 ≤ x1 ∧ x1 < 44) ∧ (if (σ 688 (x1).toNat) ≤ x4 then (0 ≤ x1 ∧ x1 < 44) ∧ (if x5 < (σ 689 (x1).toNat) then C280_30 x1 x2 x3 x4 x5 d6 σ o else (0 ≤ x2 ∧ x2 < 2) ∧ o = (.inl (some (.inl x3)), (upS σ 704 ((x2).toNat) x3))) else C280_30 x1 x2 x3 x4 x5 d6 σ o)) : C280_8 x1 x2 x3 x4 x5 d6 σ o := by
  show Gd 280 8 [(some (.inr (.inr (some 682)))), (some (.inl x1)), (some (.inl x2)), (some (.inl x3)), (some (.inl x4)), (some (.inl x5)), d6] [] σ 0 0 o
  refine g_iload 10 (show op 280 8 = some (.iload 4, 2) by decide +kernel) rfl rfl ?_
  refine g_aload_n 11 (show op 280 10 = some (.aload_n 0, 1) by decide +kernel) rfl rfl ?_
  refine g_getR (ci := 11) (f := 7) (fin := true) (isR := true) 14 688 (show op 280 11 = some (.getfield 25, 3) by decide +kernel) rfl (by decide +kernel) (by decide +kernel) ?_
  refine g_iload_n 15 (show op 280 14 = some (.iload_n 1, 1) by decide +kernel) rfl rfl ?_
  obtain ⟨g1, h⟩ := h
  refine g_iaload 16 44 (show op 280 15 = some (.iaload, 1) by decide +kernel) rfl (by decide +kernel) g1 ?_
  by_cases hc4 : (σ 688 (x1).toNat) ≤ x4
  · rw [if_pos hc4] at h
    refine g_icmpF 19 30 (show op 280 16 = some (.if_icmp .lt 14, 3) by decide +kernel) rfl rfl (decide_eq_false (Int.not_lt.mpr hc4)) ?_
    refine g_iload 21 (show op 280 19 = some (.iload 5, 2) by decide +kernel) rfl rfl ?_
    refine g_aload_n 22 (show op 280 21 = some (.aload_n 0, 1) by decide +kernel) rfl rfl ?_
    refine g_getR (ci := 11) (f := 8) (fin := true) (isR := true) 25 689 (show op 280 22 = some (.getfield 28, 3) by decide +kernel) rfl (by decide +kernel) (by decide +kernel) ?_
    refine g_iload_n 26 (show op 280 25 = some (.iload_n 1, 1) by decide +kernel) rfl rfl ?_
    obtain ⟨g2, h⟩ := h
    refine g_iaload 27 44 (show op 280 26 = some (.iaload, 1) by decide +kernel) rfl (by decide +kernel) g2 ?_
    by_cases hc5 : x5 < (σ 689 (x1).toNat)
    · rw [if_pos hc5] at h
      refine g_icmpF 30 201 (show op 280 27 = some (.if_icmp .ge 174, 3) by decide +kernel) rfl rfl (decide_eq_false (Int.not_le.mpr hc5)) ?_
      exact h
    · rw [if_neg hc5] at h
      refine g_icmpT 201 (show op 280 27 = some (.if_icmp .ge 174, 3) by decide +kernel) rfl (decide_eq_true (Int.not_lt.mp hc5)) ?_
      refine g_aload_n 202 (show op 280 201 = some (.aload_n 0, 1) by decide +kernel) rfl rfl ?_
      refine g_getR (ci := 11) (f := 30) (fin := true) (isR := true) 205 704 (show op 280 202 = some (.getfield 73, 3) by decide +kernel) rfl (by decide +kernel) (by decide +kernel) ?_
      refine g_iload_n 206 (show op 280 205 = some (.iload_n 2, 1) by decide +kernel) rfl rfl ?_
      refine g_iload_n 207 (show op 280 206 = some (.iload_n 3, 1) by decide +kernel) rfl rfl ?_
      obtain ⟨g3, h⟩ := h
      refine g_iastore 208 2 (show op 280 207 = some (.iastore, 1) by decide +kernel) rfl (by decide +kernel) g3 ?_
      refine g_iload_n 209 (show op 280 208 = some (.iload_n 3, 1) by decide +kernel) rfl rfl ?_
      exact (g_iret (show op 280 209 = some (.ireturn, 1) by decide +kernel) (by decide +kernel) h)
  · rw [if_neg hc4] at h
    refine g_icmpT 30 (show op 280 16 = some (.if_icmp .lt 14, 3) by decide +kernel) rfl (decide_eq_true (Int.not_le.mp hc4)) ?_
    exact h
theorem b280_30 {x1 : Int} {x2 : Int} {x3 : Int} {x4 : Int} {x5 : Int} {d6 : Option AV} {σ : Sg} {o : Rs}   (h : (0 ≤ x1 ∧ x1 < 44) ∧ (if x4 < (σ 688 (x1).toNat) then (-2147483648 ≤ (100 * x1) ∧ (100 * x1) ≤ 2147483647) ∧ (-2147483648 ≤ ((100 * x1) + x4) ∧ ((100 * x1) + x4) ≤ 2147483647) ∧ (0 ≤ ((100 * x1) + x4) ∧ ((100 * x1) + x4) < 4400) ∧ (if (σ 687 (((100 * x1) + x4)).toNat) = x5 then (-2147483648 ≤ (x4 + 1) ∧ (x4 + 1) ≤ 2147483647) ∧ (-2147483648 ≤ (x5 + 1) ∧ (x5 + 1) ≤ 2147483647) ∧ C280_8 x1 x2 x3 (x4 + 1) (x5 + 1) d6 σ o else C280_67 x1 x2 x3 x4 x5 d6 σ o) else C280_67 x1 x2 x3 x4 x5 d6 σ o)) : C280_30 x1 x2 x3 x4 x5 d6 σ o := by
  show Gd 280 30 [(some (.inr (.inr (some 682)))), (some (.inl x1)), (some (.inl x2)), (some (.inl x3)), (some (.inl x4)), (some (.inl x5)), d6] [] σ 0 0 o
  refine g_iload 32 (show op 280 30 = some (.iload 4, 2) by decide +kernel) rfl rfl ?_
  refine g_aload_n 33 (show op 280 32 = some (.aload_n 0, 1) by decide +kernel) rfl rfl ?_
  refine g_getR (ci := 11) (f := 7) (fin := true) (isR := true) 36 688 (show op 280 33 = some (.getfield 25, 3) by decide +kernel) rfl (by decide +kernel) (by decide +kernel) ?_
  refine g_iload_n 37 (show op 280 36 = some (.iload_n 1, 1) by decide +kernel) rfl rfl ?_
  obtain ⟨g1, h⟩ := h
  refine g_iaload 38 44 (show op 280 37 = some (.iaload, 1) by decide +kernel) rfl (by decide +kernel) g1 ?_
  by_cases hc7 : x4 < (σ 688 (x1).toNat)
  · rw [if_pos hc7] at h
    refine g_icmpF 41 67 (show op 280 38 = some (.if_icmp .ge 29, 3) by decide +kernel) rfl rfl (decide_eq_false (Int.not_le.mpr hc7)) ?_
    refine g_aload_n 42 (show op 280 41 = some (.aload_n 0, 1) by decide +kernel) rfl rfl ?_
    refine g_getR (ci := 11) (f := 6) (fin := true) (isR := true) 45 687 (show op 280 42 = some (.getfield 22, 3) by decide +kernel) rfl (by decide +kernel) (by decide +kernel) ?_
    refine g_bipush 47 (show op 280 45 = some (.bipush 100, 2) by decide +kernel) rfl (by decide) ?_
    refine g_iload_n 48 (show op 280 47 = some (.iload_n 1, 1) by decide +kernel) rfl rfl ?_
    obtain ⟨g2, h⟩ := h
    refine g_imul 49 (show op 280 48 = some (.imul, 1) by decide +kernel) rfl g2 ?_
    refine g_iload 51 (show op 280 49 = some (.iload 4, 2) by decide +kernel) rfl rfl ?_
    obtain ⟨g3, h⟩ := h
    refine g_iadd 52 (show op 280 51 = some (.iadd, 1) by decide +kernel) rfl g3 ?_
    obtain ⟨g4, h⟩ := h
    refine g_iaload 53 4400 (show op 280 52 = some (.iaload, 1) by decide +kernel) rfl (by decide +kernel) g4 ?_
    refine g_iload 55 (show op 280 53 = some (.iload 5, 2) by decide +kernel) rfl rfl ?_
    by_cases hc8 : (σ 687 (((100 * x1) + x4)).toNat) = x5
    · rw [if_pos hc8] at h
      refine g_icmpF 58 67 (show op 280 55 = some (.if_icmp .ne 12, 3) by decide +kernel) rfl rfl (decide_eq_false (fun h9 => h9 hc8)) ?_
      obtain ⟨g5, h⟩ := h
      refine g_iinc 61 [(some (.inr (.inr (some 682)))), (some (.inl x1)), (some (.inl x2)), (some (.inl x3)), (some (.inl (x4 + 1))), (some (.inl x5)), d6] (show op 280 58 = some (.iinc 4 1, 3) by decide +kernel) rfl rfl g5 rfl ?_
      obtain ⟨g6, h⟩ := h
      refine g_iinc 64 [(some (.inr (.inr (some 682)))), (some (.inl x1)), (some (.inl x2)), (some (.inl x3)), (some (.inl (x4 + 1))), (some (.inl (x5 + 1))), d6] (show op 280 61 = some (.iinc 5 1, 3) by decide +kernel) rfl rfl g6 rfl ?_
      refine g_goto 8 (show op 280 64 = some (.goto (-56), 3) by decide +kernel) rfl ?_
      exact h
    · rw [if_neg hc8] at h
      refine g_icmpT 67 (show op 280 55 = some (.if_icmp .ne 12, 3) by decide +kernel) rfl (decide_eq_true hc8) ?_
      exact h
  · rw [if_neg hc7] at h
    refine g_icmpT 67 (show op 280 38 = some (.if_icmp .ge 29, 3) by decide +kernel) rfl (decide_eq_true (Int.not_lt.mp hc7)) ?_
    exact h
theorem b280_67 {x1 : Int} {x2 : Int} {x3 : Int} {x4 : Int} {x5 : Int} {d6 : Option AV} {σ : Sg} {o : Rs}   (h : (-2147483648 ≤ (128 * x2) ∧ (128 * x2) ≤ 2147483647) ∧ (-2147483648 ≤ ((128 * x2) + x3) ∧ ((128 * x2) + x3) ≤ 2147483647) ∧ (0 ≤ ((128 * x2) + x3) ∧ ((128 * x2) + x3) < 256) ∧ (0 ≤ ((128 * x2) + x3) ∧ ((128 * x2) + x3) < 256) ∧ C280_94 x1 x2 x3 x4 (some (.inl x5)) ((128 * x2) + x3) (upS (upS σ 700 ((((128 * x2) + x3)).toNat) x4) 702 ((((128 * x2) + x3)).toNat) x5) o) : C280_67 x1 x2 x3 x4 x5 d6 σ o := by
  show Gd 280 67 [(some (.inr (.inr (some 682)))), (some (.inl x1)), (some (.inl x2)), (some (.inl x3)), (some (.inl x4)), (some (.inl x5)), d6] [] σ 0 0 o
  refine g_sipush 70 (show op 280 67 = some (.sipush 128, 3) by decide +kernel) rfl (by decide) ?_
  refine g_iload_n 71 (show op 280 70 = some (.iload_n 2, 1) by decide +kernel) rfl rfl ?_
  obtain ⟨g1, h⟩ := h
  refine g_imul 72 (show op 280 71 = some (.imul, 1) by decide +kernel) rfl g1 ?_
  refine g_iload_n 73 (show op 280 72 = some (.iload_n 3, 1) by decide +kernel) rfl rfl ?_
  obtain ⟨g2, h⟩ := h
  refine g_iadd 74 (show op 280 73 = some (.iadd, 1) by decide +kernel) rfl g2 ?_
  refine g_istore 76 [(some (.inr (.inr (some 682)))), (some (.inl x1)), (some (.inl x2)), (some (.inl x3)), (some (.inl x4)), (some (.inl x5)), (some (.inl ((128 * x2) + x3)))] (show op 280 74 = some (.istore 6, 2) by decide +kernel) rfl rfl rfl ?_
  refine g_aload_n 77 (show op 280 76 = some (.aload_n 0, 1) by decide +kernel) rfl rfl ?_
  refine g_getR (ci := 11) (f := 26) (fin := true) (isR := true) 80 700 (show op 280 77 = some (.getfield 61, 3) by decide +kernel) rfl (by decide +kernel) (by decide +kernel) ?_
  refine g_iload 82 (show op 280 80 = some (.iload 6, 2) by decide +kernel) rfl rfl ?_
  refine g_iload 84 (show op 280 82 = some (.iload 4, 2) by decide +kernel) rfl rfl ?_
  obtain ⟨g3, h⟩ := h
  refine g_iastore 85 256 (show op 280 84 = some (.iastore, 1) by decide +kernel) rfl (by decide +kernel) g3 ?_
  refine g_aload_n 86 (show op 280 85 = some (.aload_n 0, 1) by decide +kernel) rfl rfl ?_
  refine g_getR (ci := 11) (f := 28) (fin := true) (isR := true) 89 702 (show op 280 86 = some (.getfield 67, 3) by decide +kernel) rfl (by decide +kernel) (by decide +kernel) ?_
  refine g_iload 91 (show op 280 89 = some (.iload 6, 2) by decide +kernel) rfl rfl ?_
  refine g_iload 93 (show op 280 91 = some (.iload 5, 2) by decide +kernel) rfl rfl ?_
  obtain ⟨g4, h⟩ := h
  refine g_iastore 94 256 (show op 280 93 = some (.iastore, 1) by decide +kernel) rfl (by decide +kernel) g4 ?_
  exact h
theorem b280_94 {x1 : Int} {x2 : Int} {x3 : Int} {x4 : Int} {d5 : Option AV} {x6 : Int} {σ : Sg} {o : Rs}   (h : (0 ≤ x1 ∧ x1 < 44) ∧ (if x4 < (σ 688 (x1).toNat) then (-2147483648 ≤ (100 * x1) ∧ (100 * x1) ≤ 2147483647) ∧ (-2147483648 ≤ ((100 * x1) + x4) ∧ ((100 * x1) + x4) ≤ 2147483647) ∧ (0 ≤ ((100 * x1) + x4) ∧ ((100 * x1) + x4) < 4400) ∧ (if (σ 687 (((100 * x1) + x4)).toNat) = (-1) then (-2147483648 ≤ (x4 + 1) ∧ (x4 + 1) ≤ 2147483647) ∧ C280_94 x1 x2 x3 (x4 + 1) d5 x6 σ o else C280_127 x1 x2 x3 x4 d5 x6 σ o) else C280_127 x1 x2 x3 x4 d5 x6 σ o)) : C280_94 x1 x2 x3 x4 d5 x6 σ o := by
  show Gd 280 94 [(some (.inr (.inr (some 682)))), (some (.inl x1)), (some (.inl x2)), (some (.inl x3)), (some (.inl x4)), d5, (some (.inl x6))] [] σ 0 0 o
  refine g_iload 96 (show op 280 94 = some (.iload 4, 2) by decide +kernel) rfl rfl ?_
  refine g_aload_n 97 (show op 280 96 = some (.aload_n 0, 1) by decide +kernel) rfl rfl ?_
  refine g_getR (ci := 11) (f := 7) (fin := true) (isR := true) 100 688 (show op 280 97 = some (.getfield 25, 3) by decide +kernel) rfl (by decide +kernel) (by decide +kernel) ?_
  refine g_iload_n 101 (show op 280 100 = some (.iload_n 1, 1) by decide +kernel) rfl rfl ?_
  obtain ⟨g1, h⟩ := h
  refine g_iaload 102 44 (show op 280 101 = some (.iaload, 1) by decide +kernel) rfl (by decide +kernel) g1 ?_
  by_cases hc6 : x4 < (σ 688 (x1).toNat)
  · rw [if_pos hc6] at h
    refine g_icmpF 105 127 (show op 280 102 = some (.if_icmp .ge 25, 3) by decide +kernel) rfl rfl (decide_eq_false (Int.not_le.mpr hc6)) ?_
    refine g_aload_n 106 (show op 280 105 = some (.aload_n 0, 1) by decide +kernel) rfl rfl ?_
    refine g_getR (ci := 11) (f := 6) (fin := true) (isR := true) 109 687 (show op 280 106 = some (.getfield 22, 3) by decide +kernel) rfl (by decide +kernel) (by decide +kernel) ?_
    refine g_bipush 111 (show op 280 109 = some (.bipush 100, 2) by decide +kernel) rfl (by decide) ?_
    refine g_iload_n 112 (show op 280 111 = some (.iload_n 1, 1) by decide +kernel) rfl rfl ?_
    obtain ⟨g2, h⟩ := h
    refine g_imul 113 (show op 280 112 = some (.imul, 1) by decide +kernel) rfl g2 ?_
    refine g_iload 115 (show op 280 113 = some (.iload 4, 2) by decide +kernel) rfl rfl ?_
    obtain ⟨g3, h⟩ := h
    refine g_iadd 116 (show op 280 115 = some (.iadd, 1) by decide +kernel) rfl g3 ?_
    obtain ⟨g4, h⟩ := h
    refine g_iaload 117 4400 (show op 280 116 = some (.iaload, 1) by decide +kernel) rfl (by decide +kernel) g4 ?_
    refine g_iconst 118 (show op 280 117 = some (.iconst (-1), 1) by decide +kernel) rfl rfl ?_
    by_cases hc7 : (σ 687 (((100 * x1) + x4)).toNat) = (-1)
    · rw [if_pos hc7] at h
      refine g_icmpF 121 127 (show op 280 118 = some (.if_icmp .ne 9, 3) by decide +kernel) rfl rfl (decide_eq_false (fun h9 => h9 hc7)) ?_
      obtain ⟨g5, h⟩ := h
      refine g_iinc 124 [(some (.inr (.inr (some 682)))), (some (.inl x1)), (some (.inl x2)), (some (.inl x3)), (some (.inl (x4 + 1))), d5, (some (.inl x6))] (show op 280 121 = some (.iinc 4 1, 3) by decide +kernel) rfl rfl g5 rfl ?_
      refine g_goto 94 (show op 280 124 = some (.goto (-30), 3) by decide +kernel) rfl ?_
      exact h
    · rw [if_neg hc7] at h
      refine g_icmpT 127 (show op 280 118 = some (.if_icmp .ne 9, 3) by decide +kernel) rfl (decide_eq_true hc7) ?_
      exact h
  · rw [if_neg hc6] at h
    refine g_icmpT 127 (show op 280 102 = some (.if_icmp .ge 25, 3) by decide +kernel) rfl (decide_eq_true (Int.not_lt.mp hc6)) ?_
    exact h
theorem b280_127 {x1 : Int} {x2 : Int} {x3 : Int} {x4 : Int} {d5 : Option AV} {x6 : Int} {σ : Sg} {o : Rs}   (h : (0 ≤ x1 ∧ x1 < 44) ∧ ((x4 < (σ 688 (x1).toNat)) → -2147483648 ≤ (100 * x1) ∧ (100 * x1) ≤ 2147483647) ∧ ((x4 < (σ 688 (x1).toNat)) → -2147483648 ≤ ((100 * x1) + x4) ∧ ((100 * x1) + x4) ≤ 2147483647) ∧ ((x4 < (σ 688 (x1).toNat)) → 0 ≤ ((100 * x1) + x4) ∧ ((100 * x1) + x4) < 4400) ∧ (¬ (x4 < (σ 688 (x1).toNat)) → 0 ≤ x1 ∧ x1 < 44) ∧ C280_159 x1 x2 x3 x4 d5 x6 (if x4 < (σ 688 (x1).toNat) then (σ 687 (((100 * x1) + x4)).toNat) else (σ 689 (x1).toNat)) σ o) : C280_127 x1 x2 x3 x4 d5 x6 σ o := by
  show Gd 280 127 [(some (.inr (.inr (some 682)))), (some (.inl x1)), (some (.inl x2)), (some (.inl x3)), (some (.inl x4)), d5, (some (.inl x6))] [] σ 0 0 o
  refine g_iload 129 (show op 280 127 = some (.iload 4, 2) by decide +kernel) rfl rfl ?_
  refine g_aload_n 130 (show op 280 129 = some (.aload_n 0, 1) by decide +kernel) rfl rfl ?_
  refine g_getR (ci := 11) (f := 7) (fin := true) (isR := true) 133 688 (show op 280 130 = some (.getfield 25, 3) by decide +kernel) rfl (by decide +kernel) (by decide +kernel) ?_
  refine g_iload_n 134 (show op 280 133 = some (.iload_n 1, 1) by decide +kernel) rfl rfl ?_
  obtain ⟨g1, h⟩ := h
  refine g_iaload 135 44 (show op 280 134 = some (.iaload, 1) by decide +kernel) rfl (by decide +kernel) g1 ?_
  obtain ⟨G7, G8, G9, G10, h⟩ := h
  by_cases hc6 : x4 < (σ 688 (x1).toNat)
  · refine g_icmpF 138 153 (show op 280 135 = some (.if_icmp .ge 18, 3) by decide +kernel) rfl rfl (decide_eq_false (Int.not_le.mpr hc6)) ?_
    refine g_aload_n 139 (show op 280 138 = some (.aload_n 0, 1) by decide +kernel) rfl rfl ?_
    refine g_getR (ci := 11) (f := 6) (fin := true) (isR := true) 142 687 (show op 280 139 = some (.getfield 22, 3) by decide +kernel) rfl (by decide +kernel) (by decide +kernel) ?_
    refine g_bipush 144 (show op 280 142 = some (.bipush 100, 2) by decide +kernel) rfl (by decide) ?_
    refine g_iload_n 145 (show op 280 144 = some (.iload_n 1, 1) by decide +kernel) rfl rfl ?_
    have g2 := G7 hc6
    refine g_imul 146 (show op 280 145 = some (.imul, 1) by decide +kernel) rfl g2 ?_
    refine g_iload 148 (show op 280 146 = some (.iload 4, 2) by decide +kernel) rfl rfl ?_
    have g3 := G8 hc6
    refine g_iadd 149 (show op 280 148 = some (.iadd, 1) by decide +kernel) rfl g3 ?_
    have g4 := G9 hc6
    refine g_iaload 150 4400 (show op 280 149 = some (.iaload, 1) by decide +kernel) rfl (by decide +kernel) g4 ?_
    refine g_goto 159 (show op 280 150 = some (.goto 9, 3) by decide +kernel) rfl ?_
    have h9 := h; simp only [if_pos hc6] at h9; exact h9
  · refine g_icmpT 153 (show op 280 135 = some (.if_icmp .ge 18, 3) by decide +kernel) rfl (decide_eq_true (Int.not_lt.mp hc6)) ?_
    refine g_aload_n 154 (show op 280 153 = some (.aload_n 0, 1) by decide +kernel) rfl rfl ?_
    refine g_getR (ci := 11) (f := 8) (fin := true) (isR := true) 157 689 (show op 280 154 = some (.getfield 28, 3) by decide +kernel) rfl (by decide +kernel) (by decide +kernel) ?_
    refine g_iload_n 158 (show op 280 157 = some (.iload_n 1, 1) by decide +kernel) rfl rfl ?_
    have g5 := G10 hc6
    refine g_iaload 159 44 (show op 280 158 = some (.iaload, 1) by decide +kernel) rfl (by decide +kernel) g5 ?_
    have h9 := h; simp only [if_neg hc6] at h9; exact h9
theorem b280_159 {x1 : Int} {x2 : Int} {x3 : Int} {x4 : Int} {d5 : Option AV} {x6 : Int} {y0 : Int} {σ : Sg} {o : Rs}   (h : (0 ≤ x6 ∧ x6 < 256) ∧ (-2147483648 ≤ (x4 - (σ 700 (x6).toNat)) ∧ (x4 - (σ 700 (x6).toNat)) ≤ 2147483647) ∧ (0 ≤ x6 ∧ x6 < 256) ∧ (0 ≤ x6 ∧ x6 < 256) ∧ (-2147483648 ≤ (y0 - ((upS σ 701 ((x6).toNat) (x4 - (σ 700 (x6).toNat))) 702 (x6).toNat)) ∧ (y0 - ((upS σ 701 ((x6).toNat) (x4 - (σ 700 (x6).toNat))) 702 (x6).toNat)) ≤ 2147483647) ∧ (0 ≤ x6 ∧ x6 < 256) ∧ (-2147483648 ≤ (x3 + 1) ∧ (x3 + 1) ≤ 2147483647) ∧ C280_8 x1 x2 (x3 + 1) x4 y0 (some (.inl x6)) (upS (upS σ 701 ((x6).toNat) (x4 - (σ 700 (x6).toNat))) 703 ((x6).toNat) (y0 - ((upS σ 701 ((x6).toNat) (x4 - (σ 700 (x6).toNat))) 702 (x6).toNat))) o) : C280_159 x1 x2 x3 x4 d5 x6 y0 σ o := by
  show Gd 280 159 [(some (.inr (.inr (some 682)))), (some (.inl x1)), (some (.inl x2)), (some (.inl x3)), (some (.inl x4)), d5, (some (.inl x6))] [(.inl y0)] σ 0 0 o
  refine g_istore 161 [(some (.inr (.inr (some 682)))), (some (.inl x1)), (some (.inl x2)), (some (.inl x3)), (some (.inl x4)), (some (.inl y0)), (some (.inl x6))] (show op 280 159 = some (.istore 5, 2) by decide +kernel) rfl rfl rfl ?_
  refine g_aload_n 162 (show op 280 161 = some (.aload_n 0, 1) by decide +kernel) rfl rfl ?_
  refine g_getR (ci := 11) (f := 27) (fin := true) (isR := true) 165 701 (show op 280 162 = some (.getfield 64, 3) by decide +kernel) rfl (by decide +kernel) (by decide +kernel) ?_
  refine g_iload 167 (show op 280 165 = some (.iload 6, 2) by decide +kernel) rfl rfl ?_
  refine g_iload 169 (show op 280 167 = some (.iload 4, 2) by decide +kernel) rfl rfl ?_
  refine g_aload_n 170 (show op 280 169 = some (.aload_n 0, 1) by decide +kernel) rfl rfl ?_
  refine g_getR (ci := 11) (f := 26) (fin := true) (isR := true) 173 700 (show op 280 170 = some (.getfield 61, 3) by decide +kernel) rfl (by decide +kernel) (by decide +kernel) ?_
  refine g_iload 175 (show op 280 173 = some (.iload 6, 2) by decide +kernel) rfl rfl ?_
  obtain ⟨g1, h⟩ := h
  refine g_iaload 176 256 (show op 280 175 = some (.iaload, 1) by decide +kernel) rfl (by decide +kernel) g1 ?_
  obtain ⟨g2, h⟩ := h
  refine g_isub 177 (show op 280 176 = some (.isub, 1) by decide +kernel) rfl g2 ?_
  obtain ⟨g3, h⟩ := h
  refine g_iastore 178 256 (show op 280 177 = some (.iastore, 1) by decide +kernel) rfl (by decide +kernel) g3 ?_
  refine g_aload_n 179 (show op 280 178 = some (.aload_n 0, 1) by decide +kernel) rfl rfl ?_
  refine g_getR (ci := 11) (f := 29) (fin := true) (isR := true) 182 703 (show op 280 179 = some (.getfield 70, 3) by decide +kernel) rfl (by decide +kernel) (by decide +kernel) ?_
  refine g_iload 184 (show op 280 182 = some (.iload 6, 2) by decide +kernel) rfl rfl ?_
  refine g_iload 186 (show op 280 184 = some (.iload 5, 2) by decide +kernel) rfl rfl ?_
  refine g_aload_n 187 (show op 280 186 = some (.aload_n 0, 1) by decide +kernel) rfl rfl ?_
  refine g_getR (ci := 11) (f := 28) (fin := true) (isR := true) 190 702 (show op 280 187 = some (.getfield 67, 3) by decide +kernel) rfl (by decide +kernel) (by decide +kernel) ?_
  refine g_iload 192 (show op 280 190 = some (.iload 6, 2) by decide +kernel) rfl rfl ?_
  obtain ⟨g4, h⟩ := h
  refine g_iaload 193 256 (show op 280 192 = some (.iaload, 1) by decide +kernel) rfl (by decide +kernel) g4 ?_
  obtain ⟨g5, h⟩ := h
  refine g_isub 194 (show op 280 193 = some (.isub, 1) by decide +kernel) rfl g5 ?_
  obtain ⟨g6, h⟩ := h
  refine g_iastore 195 256 (show op 280 194 = some (.iastore, 1) by decide +kernel) rfl (by decide +kernel) g6 ?_
  obtain ⟨g7, h⟩ := h
  refine g_iinc 198 [(some (.inr (.inr (some 682)))), (some (.inl x1)), (some (.inl x2)), (some (.inl (x3 + 1))), (some (.inl x4)), (some (.inl y0)), (some (.inl x6))] (show op 280 195 = some (.iinc 3 1, 3) by decide +kernel) rfl rfl g7 rfl ?_
  refine g_goto 8 (show op 280 198 = some (.goto (-190), 3) by decide +kernel) rfl ?_
  exact h
/-- PatchBenchModel.laysHunks (II)I -/
theorem b280 {x1 : Int} {x2 : Int} {σ : Sg} {o : Rs}   (h : C280_8 x1 x2 0 0 0 none σ o) : Dd 280 [(.inr (.inr (some 682))), (.inl x1), (.inl x2)] σ o := by
  refine Dd_of (l := 7) (by decide +kernel) ?_
  show Gd 280 0 [(some (.inr (.inr (some 682)))), (some (.inl x1)), (some (.inl x2)), none, none, none, none] [] σ 0 0 o
  refine g_iconst 1 (show op 280 0 = some (.iconst 0, 1) by decide +kernel) rfl rfl ?_
  refine g_istore_n 2 [(some (.inr (.inr (some 682)))), (some (.inl x1)), (some (.inl x2)), (some (.inl 0)), none, none, none] (show op 280 1 = some (.istore_n 3, 1) by decide +kernel) rfl rfl rfl ?_
  refine g_iconst 3 (show op 280 2 = some (.iconst 0, 1) by decide +kernel) rfl rfl ?_
  refine g_istore 5 [(some (.inr (.inr (some 682)))), (some (.inl x1)), (some (.inl x2)), (some (.inl 0)), (some (.inl 0)), none, none] (show op 280 3 = some (.istore 4, 2) by decide +kernel) rfl rfl rfl ?_
  refine g_iconst 6 (show op 280 5 = some (.iconst 0, 1) by decide +kernel) rfl rfl ?_
  refine g_istore 8 [(some (.inr (.inr (some 682)))), (some (.inl x1)), (some (.inl x2)), (some (.inl 0)), (some (.inl 0)), (some (.inl 0)), none] (show op 280 6 = some (.istore 5, 2) by decide +kernel) rfl rfl rfl ?_
  exact h
/-- PatchBenchModel.endOf (I)I -/
theorem b281 {x1 : Int} {σ : Sg} {o : Rs}   (h : (0 ≤ x1 ∧ x1 < 256) ∧ (0 ≤ x1 ∧ x1 < 256) ∧ (-2147483648 ≤ ((σ 700 (x1).toNat) + (σ 701 (x1).toNat)) ∧ ((σ 700 (x1).toNat) + (σ 701 (x1).toNat)) ≤ 2147483647) ∧ o = (.inl (some (.inl ((σ 700 (x1).toNat) + (σ 701 (x1).toNat)))), σ)) : Dd 281 [(.inr (.inr (some 682))), (.inl x1)] σ o := by
  refine Dd_of (l := 2) (by decide +kernel) ?_
  show Gd 281 0 [(some (.inr (.inr (some 682)))), (some (.inl x1))] [] σ 0 0 o
  refine g_aload_n 1 (show op 281 0 = some (.aload_n 0, 1) by decide +kernel) rfl rfl ?_
  refine g_getR (ci := 11) (f := 26) (fin := true) (isR := true) 4 700 (show op 281 1 = some (.getfield 61, 3) by decide +kernel) rfl (by decide +kernel) (by decide +kernel) ?_
  refine g_iload_n 5 (show op 281 4 = some (.iload_n 1, 1) by decide +kernel) rfl rfl ?_
  obtain ⟨g1, h⟩ := h
  refine g_iaload 6 256 (show op 281 5 = some (.iaload, 1) by decide +kernel) rfl (by decide +kernel) g1 ?_
  refine g_aload_n 7 (show op 281 6 = some (.aload_n 0, 1) by decide +kernel) rfl rfl ?_
  refine g_getR (ci := 11) (f := 27) (fin := true) (isR := true) 10 701 (show op 281 7 = some (.getfield 64, 3) by decide +kernel) rfl (by decide +kernel) (by decide +kernel) ?_
  refine g_iload_n 11 (show op 281 10 = some (.iload_n 1, 1) by decide +kernel) rfl rfl ?_
  obtain ⟨g2, h⟩ := h
  refine g_iaload 12 256 (show op 281 11 = some (.iaload, 1) by decide +kernel) rfl (by decide +kernel) g2 ?_
  obtain ⟨g3, h⟩ := h
  refine g_iadd 13 (show op 281 12 = some (.iadd, 1) by decide +kernel) rfl g3 ?_
  exact (g_iret (show op 281 13 = some (.ireturn, 1) by decide +kernel) (by decide +kernel) h)
def C282_21 (d0 : Option AV) (d1 : Option AV) (y0 : Int) (y1 : Int) (σ : Sg) (o : Rs) : Prop := Gd 282 21 [d0, d1] [(.inl y1), (.inl y0)] σ 0 0 o
theorem b282_21 {d0 : Option AV} {d1 : Option AV} {y0 : Int} {y1 : Int} {σ : Sg} {o : Rs}   (h : (-2147483648 ≤ (y0 - y1) ∧ (y0 - y1) ≤ 2147483647) ∧ o = (.inl (some (.inl (y0 - y1))), σ)) : C282_21 d0 d1 y0 y1 σ o := by
  show Gd 282 21 [d0, d1] [(.inl y1), (.inl y0)] σ 0 0 o
  obtain ⟨g1, h⟩ := h
  refine g_isub 22 (show op 282 21 = some (.isub, 1) by decide +kernel) rfl g1 ?_
  exact (g_iret (show op 282 22 = some (.ireturn, 1) by decide +kernel) (by decide +kernel) h)
/-- PatchBenchModel.gapAhead (I)I -/
theorem b282 {x1 : Int} {σ : Sg} {o : Rs}   (h : (0 ≤ x1 ∧ x1 < 256) ∧ (if x1 = 0 then C282_21 (some (.inr (.inr (some 682)))) (some (.inl x1)) (σ 700 (x1).toNat) 0 σ o else (-2147483648 ≤ (x1 - 1) ∧ (x1 - 1) ≤ 2147483647) ∧ (∃ (v4 : Int) (s3 : Sg), Dd 281 [(.inr (.inr (some 682))), (.inl (x1 - 1))] σ (.inl (some (.inl v4)), s3) ∧ C282_21 (some (.inr (.inr (some 682)))) (some (.inl x1)) (σ 700 (x1).toNat) v4 s3 o))) : Dd 282 [(.inr (.inr (some 682))), (.inl x1)] σ o := by
  refine Dd_of (l := 2) (by decide +kernel) ?_
  show Gd 282 0 [(some (.inr (.inr (some 682)))), (some (.inl x1))] [] σ 0 0 o
  refine g_aload_n 1 (show op 282 0 = some (.aload_n 0, 1) by decide +kernel) rfl rfl ?_
  refine g_getR (ci := 11) (f := 26) (fin := true) (isR := true) 4 700 (show op 282 1 = some (.getfield 61, 3) by decide +kernel) rfl (by decide +kernel) (by decide +kernel) ?_
  refine g_iload_n 5 (show op 282 4 = some (.iload_n 1, 1) by decide +kernel) rfl rfl ?_
  obtain ⟨g1, h⟩ := h
  refine g_iaload 6 256 (show op 282 5 = some (.iaload, 1) by decide +kernel) rfl (by decide +kernel) g1 ?_
  refine g_iload_n 7 (show op 282 6 = some (.iload_n 1, 1) by decide +kernel) rfl rfl ?_
  by_cases hc6 : x1 = 0
  · rw [if_pos hc6] at h
    refine g_ifF 10 14 (show op 282 7 = some (.ifCond .ne 7, 3) by decide +kernel) rfl rfl (decide_eq_false (fun h9 => h9 hc6)) ?_
    refine g_iconst 11 (show op 282 10 = some (.iconst 0, 1) by decide +kernel) rfl rfl ?_
    refine g_goto 21 (show op 282 11 = some (.goto 10, 3) by decide +kernel) rfl ?_
    exact h
  · rw [if_neg hc6] at h
    refine g_ifT 14 (show op 282 7 = some (.ifCond .ne 7, 3) by decide +kernel) rfl (decide_eq_true hc6) ?_
    refine g_aload_n 15 (show op 282 14 = some (.aload_n 0, 1) by decide +kernel) rfl rfl ?_
    refine g_iload_n 16 (show op 282 15 = some (.iload_n 1, 1) by decide +kernel) rfl rfl ?_
    refine g_iconst 17 (show op 282 16 = some (.iconst 1, 1) by decide +kernel) rfl rfl ?_
    obtain ⟨g2, h⟩ := h
    refine g_isub 18 (show op 282 17 = some (.isub, 1) by decide +kernel) rfl g2 ?_
    obtain ⟨v4, s3, hD5, h⟩ := h
    refine g_call 21 [(.inl v4), (.inl (σ 700 (x1).toNat))] (show op 282 18 = some (.invokevirtual 247, 3) by decide +kernel) (call_vi' (k' := 0) (n' := 0) (nj := 2) (j := 281) (k9 := 21) (t := [(.inl (σ 700 (x1).toNat))]) (as := [(.inr (.inr (some 682))), (.inl (x1 - 1))]) (by decide +kernel) rfl (by decide +kernel) rfl rfl rfl rfl rfl rfl (by decide +kernel) (by decide +kernel)) hD5 rfl ?_
    exact h
def C283_29 (d1 : Option AV) (x2 : Int) (y0 : Int) (σ : Sg) (o : Rs) : Prop := Gd 283 29 [(some (.inr (.inr (some 682)))), d1, (some (.inl x2))] [(.inl y0)] σ 0 0 o
theorem b283_29 {d1 : Option AV} {x2 : Int} {y0 : Int} {σ : Sg} {o : Rs}   (h : (∃ (v2 : Int) (s1 : Sg), Dd 281 [(.inr (.inr (some 682))), (.inl x2)] σ (.inl (some (.inl v2)), s1) ∧ (-2147483648 ≤ (y0 - v2) ∧ (y0 - v2) ≤ 2147483647) ∧ o = (.inl (some (.inl (y0 - v2))), s1))) : C283_29 d1 x2 y0 σ o := by
  show Gd 283 29 [(some (.inr (.inr (some 682)))), d1, (some (.inl x2))] [(.inl y0)] σ 0 0 o
  refine g_aload_n 30 (show op 283 29 = some (.aload_n 0, 1) by decide +kernel) rfl rfl ?_
  refine g_iload_n 31 (show op 283 30 = some (.iload_n 2, 1) by decide +kernel) rfl rfl ?_
  obtain ⟨v2, s1, hD3, h⟩ := h
  refine g_call 34 [(.inl v2), (.inl y0)] (show op 283 31 = some (.invokevirtual 247, 3) by decide +kernel) (call_vi' (k' := 0) (n' := 0) (nj := 2) (j := 281) (k9 := 21) (t := [(.inl y0)]) (as := [(.inr (.inr (some 682))), (.inl x2)]) (by decide +kernel) rfl (by decide +kernel) rfl rfl rfl rfl rfl rfl (by decide +kernel) (by decide +kernel)) hD3 rfl ?_
  obtain ⟨g4, h⟩ := h
  refine g_isub 35 (show op 283 34 = some (.isub, 1) by decide +kernel) rfl g4 ?_
  exact (g_iret (show op 283 35 = some (.ireturn, 1) by decide +kernel) (by decide +kernel) h)
/-- PatchBenchModel.gapBehind (II)I -/
theorem b283 {x1 : Int} {x2 : Int} {σ : Sg} {o : Rs}   (h : (-2147483648 ≤ ((σ 704 (0 : Int).toNat) - 1) ∧ ((σ 704 (0 : Int).toNat) - 1) ≤ 2147483647) ∧ ((x2 = ((σ 704 (0 : Int).toNat) - 1)) → 0 ≤ x1 ∧ x1 < 44) ∧ (¬ (x2 = ((σ 704 (0 : Int).toNat) - 1)) → -2147483648 ≤ (x2 + 1) ∧ (x2 + 1) ≤ 2147483647) ∧ (¬ (x2 = ((σ 704 (0 : Int).toNat) - 1)) → 0 ≤ (x2 + 1) ∧ (x2 + 1) < 256) ∧ C283_29 (some (.inl x1)) x2 (if x2 = ((σ 704 (0 : Int).toNat) - 1) then (σ 688 (x1).toNat) else (σ 700 ((x2 + 1)).toNat)) σ o) : Dd 283 [(.inr (.inr (some 682))), (.inl x1), (.inl x2)] σ o := by
  refine Dd_of (l := 3) (by decide +kernel) ?_
  show Gd 283 0 [(some (.inr (.inr (some 682)))), (some (.inl x1)), (some (.inl x2))] [] σ 0 0 o
  refine g_iload_n 1 (show op 283 0 = some (.iload_n 2, 1) by decide +kernel) rfl rfl ?_
  refine g_aload_n 2 (show op 283 1 = some (.aload_n 0, 1) by decide +kernel) rfl rfl ?_
  refine g_getR (ci := 11) (f := 30) (fin := true) (isR := true) 5 704 (show op 283 2 = some (.getfield 73, 3) by decide +kernel) rfl (by decide +kernel) (by decide +kernel) ?_
  refine g_iconst 6 (show op 283 5 = some (.iconst 0, 1) by decide +kernel) rfl rfl ?_
  refine g_iaload 7 2 (show op 283 6 = some (.iaload, 1) by decide +kernel) rfl (by decide +kernel) (by decide) ?_
  refine g_iconst 8 (show op 283 7 = some (.iconst 1, 1) by decide +kernel) rfl rfl ?_
  obtain ⟨g1, h⟩ := h
  refine g_isub 9 (show op 283 8 = some (.isub, 1) by decide +kernel) rfl g1 ?_
  obtain ⟨G6, G7, G8, h⟩ := h
  by_cases hc5 : x2 = ((σ 704 (0 : Int).toNat) - 1)
  · refine g_icmpF 12 21 (show op 283 9 = some (.if_icmp .ne 12, 3) by decide +kernel) rfl rfl (decide_eq_false (fun h9 => h9 hc5)) ?_
    refine g_aload_n 13 (show op 283 12 = some (.aload_n 0, 1) by decide +kernel) rfl rfl ?_
    refine g_getR (ci := 11) (f := 7) (fin := true) (isR := true) 16 688 (show op 283 13 = some (.getfield 25, 3) by decide +kernel) rfl (by decide +kernel) (by decide +kernel) ?_
    refine g_iload_n 17 (show op 283 16 = some (.iload_n 1, 1) by decide +kernel) rfl rfl ?_
    have g2 := G6 hc5
    refine g_iaload 18 44 (show op 283 17 = some (.iaload, 1) by decide +kernel) rfl (by decide +kernel) g2 ?_
    refine g_goto 29 (show op 283 18 = some (.goto 11, 3) by decide +kernel) rfl ?_
    have h9 := h; simp only [if_pos hc5] at h9; exact h9
  · refine g_icmpT 21 (show op 283 9 = some (.if_icmp .ne 12, 3) by decide +kernel) rfl (decide_eq_true hc5) ?_
    refine g_aload_n 22 (show op 283 21 = some (.aload_n 0, 1) by decide +kernel) rfl rfl ?_
    refine g_getR (ci := 11) (f := 26) (fin := true) (isR := true) 25 700 (show op 283 22 = some (.getfield 61, 3) by decide +kernel) rfl (by decide +kernel) (by decide +kernel) ?_
    refine g_iload_n 26 (show op 283 25 = some (.iload_n 2, 1) by decide +kernel) rfl rfl ?_
    refine g_iconst 27 (show op 283 26 = some (.iconst 1, 1) by decide +kernel) rfl rfl ?_
    have g3 := G7 hc5
    refine g_iadd 28 (show op 283 27 = some (.iadd, 1) by decide +kernel) rfl g3 ?_
    have g4 := G8 hc5
    refine g_iaload 29 256 (show op 283 28 = some (.iaload, 1) by decide +kernel) rfl (by decide +kernel) g4 ?_
    have h9 := h; simp only [if_neg hc5] at h9; exact h9
def C284_69 (x1 : Int) (d2 : Option AV) (x3 : Int) (x4 : Int) (x5 : Int) (x6 : Int) (y1 : Int) (y2 : Int) (σ : Sg) (o : Rs) : Prop := Gd 284 69 [(some (.inr (.inr (some 682)))), (some (.inl x1)), d2, (some (.inl x3)), (some (.inl x4)), (some (.inl x5)), (some (.inl x6))] [(.inl y2), (.inl y1), (.inr (.inr (some 687)))] σ 0 0 o
def C284_24 (d0 : Option AV) (d1 : Option AV) (d2 : Option AV) (d3 : Option AV) (x4 : Int) (x5 : Int) (x6 : Int) (y1 : Int) (y2 : Int) (σ : Sg) (o : Rs) : Prop := Gd 284 24 [d0, d1, d2, d3, (some (.inl x4)), (some (.inl x5)), (some (.inl x6))] [(.inl y2), (.inl y1), (.inr (.inr (some 687)))] σ 0 0 o
def C284_84 (x1 : Int) (d2 : Option AV) (x3 : Int) (d4 : Option AV) (x5 : Int) (x6 : Int) (y1 : Int) (y2 : Int) (σ : Sg) (o : Rs) : Prop := Gd 284 84 [(some (.inr (.inr (some 682)))), (some (.inl x1)), d2, (some (.inl x3)), d4, (some (.inl x5)), (some (.inl x6))] [(.inl y2), (.inl y1), (.inr (.inr (some 687)))] σ 0 0 o
def C284_42 (d0 : Option AV) (d1 : Option AV) (d2 : Option AV) (d3 : Option AV) (d4 : Option AV) (d5 : Option AV) (d6 : Option AV) (y1 : Int) (y2 : Int) (σ : Sg) (o : Rs) : Prop := Gd 284 42 [d0, d1, d2, d3, d4, d5, d6] [(.inl y2), (.inl y1), (.inr (.inr (some 687)))] σ 0 0 o
def C284_108 (d0 : Option AV) (d1 : Option AV) (d2 : Option AV) (d3 : Option AV) (d4 : Option AV) (d5 : Option AV) (d6 : Option AV) (y1 : Int) (y2 : Int) (σ : Sg) (o : Rs) : Prop := Gd 284 108 [d0, d1, d2, d3, d4, d5, d6] [(.inl y2), (.inl y1), (.inr (.inr (some 687)))] σ 0 0 o
theorem b284_69 {x1 : Int} {d2 : Option AV} {x3 : Int} {x4 : Int} {x5 : Int} {x6 : Int} {y1 : Int} {y2 : Int} {σ : Sg} {o : Rs}   (h : (-2147483648 ≤ (y1 + y2) ∧ (y1 + y2) ≤ 2147483647) ∧ (¬ (x6 = 0) → -2147483648 ≤ (x4 - 1) ∧ (x4 - 1) ≤ 2147483647) ∧ C284_84 x1 d2 x3 (some (.inl x4)) x5 x6 (y1 + y2) (if x6 = 0 then x4 else (x4 - 1)) σ o) : C284_69 x1 d2 x3 x4 x5 x6 y1 y2 σ o := by
  show Gd 284 69 [(some (.inr (.inr (some 682)))), (some (.inl x1)), d2, (some (.inl x3)), (some (.inl x4)), (some (.inl x5)), (some (.inl x6))] [(.inl y2), (.inl y1), (.inr (.inr (some 687)))] σ 0 0 o
  obtain ⟨g1, h⟩ := h
  refine g_iadd 70 (show op 284 69 = some (.iadd, 1) by decide +kernel) rfl g1 ?_
  refine g_iload 72 (show op 284 70 = some (.iload 6, 2) by decide +kernel) rfl rfl ?_
  obtain ⟨G4, h⟩ := h
  by_cases hc3 : x6 = 0
  · refine g_ifT 82 (show op 284 72 = some (.ifCond .eq 10, 3) by decide +kernel) rfl (decide_eq_true hc3) ?_
    refine g_iload 84 (show op 284 82 = some (.iload 4, 2) by decide +kernel) rfl rfl ?_
    have h9 := h; simp only [if_pos hc3] at h9; exact h9
  · refine g_ifF 75 82 (show op 284 72 = some (.ifCond .eq 10, 3) by decide +kernel) rfl rfl (decide_eq_false hc3) ?_
    refine g_iload 77 (show op 284 75 = some (.iload 4, 2) by decide +kernel) rfl rfl ?_
    refine g_iconst 78 (show op 284 77 = some (.iconst 1, 1) by decide +kernel) rfl rfl ?_
    have g2 := G4 hc3
    refine g_isub 79 (show op 284 78 = some (.isub, 1) by decide +kernel) rfl g2 ?_
    refine g_goto 84 (show op 284 79 = some (.goto 5, 3) by decide +kernel) rfl ?_
    have h9 := h; simp only [if_neg hc3] at h9; exact h9
theorem b284_24 {d0 : Option AV} {d1 : Option AV} {d2 : Option AV} {d3 : Option AV} {x4 : Int} {x5 : Int} {x6 : Int} {y1 : Int} {y2 : Int} {σ : Sg} {o : Rs}   (h : (-2147483648 ≤ (y1 + y2) ∧ (y1 + y2) ≤ 2147483647) ∧ (¬ (x6 = 0) → -2147483648 ≤ (x4 + x5) ∧ (x4 + x5) ≤ 2147483647) ∧ (¬ (x6 = 0) → -2147483648 ≤ ((x4 + x5) - 1) ∧ ((x4 + x5) - 1) ≤ 2147483647) ∧ C284_42 d0 d1 d2 d3 (some (.inl x4)) (some (.inl x5)) (some (.inl x6)) (y1 + y2) (if x6 = 0 then x4 else ((x4 + x5) - 1)) σ o) : C284_24 d0 d1 d2 d3 x4 x5 x6 y1 y2 σ o := by
  show Gd 284 24 [d0, d1, d2, d3, (some (.inl x4)), (some (.inl x5)), (some (.inl x6))] [(.inl y2), (.inl y1), (.inr (.inr (some 687)))] σ 0 0 o
  obtain ⟨g1, h⟩ := h
  refine g_iadd 25 (show op 284 24 = some (.iadd, 1) by decide +kernel) rfl g1 ?_
  refine g_iload 27 (show op 284 25 = some (.iload 6, 2) by decide +kernel) rfl rfl ?_
  obtain ⟨G5, G6, h⟩ := h
  by_cases hc4 : x6 = 0
  · refine g_ifT 40 (show op 284 27 = some (.ifCond .eq 13, 3) by decide +kernel) rfl (decide_eq_true hc4) ?_
    refine g_iload 42 (show op 284 40 = some (.iload 4, 2) by decide +kernel) rfl rfl ?_
    have h9 := h; simp only [if_pos hc4] at h9; exact h9
  · refine g_ifF 30 40 (show op 284 27 = some (.ifCond .eq 13, 3) by decide +kernel) rfl rfl (decide_eq_false hc4) ?_
    refine g_iload 32 (show op 284 30 = some (.iload 4, 2) by decide +kernel) rfl rfl ?_
    refine g_iload 34 (show op 284 32 = some (.iload 5, 2) by decide +kernel) rfl rfl ?_
    have g2 := G5 hc4
    refine g_iadd 35 (show op 284 34 = some (.iadd, 1) by decide +kernel) rfl g2 ?_
    refine g_iconst 36 (show op 284 35 = some (.iconst 1, 1) by decide +kernel) rfl rfl ?_
    have g3 := G6 hc4
    refine g_isub 37 (show op 284 36 = some (.isub, 1) by decide +kernel) rfl g3 ?_
    refine g_goto 42 (show op 284 37 = some (.goto 5, 3) by decide +kernel) rfl ?_
    have h9 := h; simp only [if_neg hc4] at h9; exact h9
theorem b284_84 {x1 : Int} {d2 : Option AV} {x3 : Int} {d4 : Option AV} {x5 : Int} {x6 : Int} {y1 : Int} {y2 : Int} {σ : Sg} {o : Rs}   (h : (0 ≤ y1 ∧ y1 < 4400) ∧ (-2147483648 ≤ (100 * x1) ∧ (100 * x1) ≤ 2147483647) ∧ ((x6 = 0) → -2147483648 ≤ (x3 + x5) ∧ (x3 + x5) ≤ 2147483647) ∧ (¬ (x6 = 0) → -2147483648 ≤ (x3 - 1) ∧ (x3 - 1) ≤ 2147483647) ∧ C284_108 (some (.inr (.inr (some 682)))) (some (.inl x1)) d2 (some (.inl x3)) d4 (some (.inl x5)) (some (.inl x6)) (100 * x1) (if x6 = 0 then (x3 + x5) else (x3 - 1)) (upS σ 687 ((y1).toNat) y2) o) : C284_84 x1 d2 x3 d4 x5 x6 y1 y2 σ o := by
  show Gd 284 84 [(some (.inr (.inr (some 682)))), (some (.inl x1)), d2, (some (.inl x3)), d4, (some (.inl x5)), (some (.inl x6))] [(.inl y2), (.inl y1), (.inr (.inr (some 687)))] σ 0 0 o
  obtain ⟨g1, h⟩ := h
  refine g_iastore 85 4400 (show op 284 84 = some (.iastore, 1) by decide +kernel) rfl (by decide +kernel) g1 ?_
  refine g_aload_n 86 (show op 284 85 = some (.aload_n 0, 1) by decide +kernel) rfl rfl ?_
  refine g_getR (ci := 11) (f := 6) (fin := true) (isR := true) 89 687 (show op 284 86 = some (.getfield 22, 3) by decide +kernel) rfl (by decide +kernel) (by decide +kernel) ?_
  refine g_bipush 91 (show op 284 89 = some (.bipush 100, 2) by decide +kernel) rfl (by decide) ?_
  refine g_iload_n 92 (show op 284 91 = some (.iload_n 1, 1) by decide +kernel) rfl rfl ?_
  obtain ⟨g2, h⟩ := h
  refine g_imul 93 (show op 284 92 = some (.imul, 1) by decide +kernel) rfl g2 ?_
  refine g_iload 95 (show op 284 93 = some (.iload 6, 2) by decide +kernel) rfl rfl ?_
  obtain ⟨G6, G7, h⟩ := h
  by_cases hc5 : x6 = 0
  · refine g_ifT 104 (show op 284 95 = some (.ifCond .eq 9, 3) by decide +kernel) rfl (decide_eq_true hc5) ?_
    refine g_iload_n 105 (show op 284 104 = some (.iload_n 3, 1) by decide +kernel) rfl rfl ?_
    refine g_iload 107 (show op 284 105 = some (.iload 5, 2) by decide +kernel) rfl rfl ?_
    have g3 := G6 hc5
    refine g_iadd 108 (show op 284 107 = some (.iadd, 1) by decide +kernel) rfl g3 ?_
    have h9 := h; simp only [if_pos hc5] at h9; exact h9
  · refine g_ifF 98 104 (show op 284 95 = some (.ifCond .eq 9, 3) by decide +kernel) rfl rfl (decide_eq_false hc5) ?_
    refine g_iload_n 99 (show op 284 98 = some (.iload_n 3, 1) by decide +kernel) rfl rfl ?_
    refine g_iconst 100 (show op 284 99 = some (.iconst 1, 1) by decide +kernel) rfl rfl ?_
    have g4 := G7 hc5
    refine g_isub 101 (show op 284 100 = some (.isub, 1) by decide +kernel) rfl g4 ?_
    refine g_goto 108 (show op 284 101 = some (.goto 7, 3) by decide +kernel) rfl ?_
    have h9 := h; simp only [if_neg hc5] at h9; exact h9
theorem b284_42 {d0 : Option AV} {d1 : Option AV} {d2 : Option AV} {d3 : Option AV} {d4 : Option AV} {d5 : Option AV} {d6 : Option AV} {y1 : Int} {y2 : Int} {σ : Sg} {o : Rs}   (h : (0 ≤ y1 ∧ y1 < 4400) ∧ o = (.inl none, (upS σ 687 ((y1).toNat) y2))) : C284_42 d0 d1 d2 d3 d4 d5 d6 y1 y2 σ o := by
  show Gd 284 42 [d0, d1, d2, d3, d4, d5, d6] [(.inl y2), (.inl y1), (.inr (.inr (some 687)))] σ 0 0 o
  obtain ⟨g1, h⟩ := h
  refine g_iastore 43 4400 (show op 284 42 = some (.iastore, 1) by decide +kernel) rfl (by decide +kernel) g1 ?_
  refine g_goto 111 (show op 284 43 = some (.goto 68, 3) by decide +kernel) rfl ?_
  exact g_vret (show op 284 111 = some (.return_, 1) by decide +kernel) (by decide +kernel) h
theorem b284_108 {d0 : Option AV} {d1 : Option AV} {d2 : Option AV} {d3 : Option AV} {d4 : Option AV} {d5 : Option AV} {d6 : Option AV} {y1 : Int} {y2 : Int} {σ : Sg} {o : Rs}   (h : (-2147483648 ≤ (y1 + y2) ∧ (y1 + y2) ≤ 2147483647) ∧ (0 ≤ (y1 + y2) ∧ (y1 + y2) < 4400) ∧ o = (.inl none, (upS σ 687 (((y1 + y2)).toNat) (-1)))) : C284_108 d0 d1 d2 d3 d4 d5 d6 y1 y2 σ o := by
  show Gd 284 108 [d0, d1, d2, d3, d4, d5, d6] [(.inl y2), (.inl y1), (.inr (.inr (some 687)))] σ 0 0 o
  obtain ⟨g1, h⟩ := h
  refine g_iadd 109 (show op 284 108 = some (.iadd, 1) by decide +kernel) rfl g1 ?_
  refine g_iconst 110 (show op 284 109 = some (.iconst (-1), 1) by decide +kernel) rfl rfl ?_
  obtain ⟨g2, h⟩ := h
  refine g_iastore 111 4400 (show op 284 110 = some (.iastore, 1) by decide +kernel) rfl (by decide +kernel) g2 ?_
  exact g_vret (show op 284 111 = some (.return_, 1) by decide +kernel) (by decide +kernel) h
/-- PatchBenchModel.shiftsBy (IZIIIZ)V -/
theorem b284 {x1 : Int} {x2 : Int} {x3 : Int} {x4 : Int} {x5 : Int} {x6 : Int} {σ : Sg} {o : Rs}   (h : (if x2 = 0 then (-2147483648 ≤ (100 * x1) ∧ (100 * x1) ≤ 2147483647) ∧ (¬ (x6 = 0) → -2147483648 ≤ (x3 + x5) ∧ (x3 + x5) ≤ 2147483647) ∧ (¬ (x6 = 0) → -2147483648 ≤ ((x3 + x5) - 1) ∧ ((x3 + x5) - 1) ≤ 2147483647) ∧ C284_69 x1 (some (.inl x2)) x3 x4 x5 x6 (100 * x1) (if x6 = 0 then x3 else ((x3 + x5) - 1)) σ o else (-2147483648 ≤ (100 * x1) ∧ (100 * x1) ≤ 2147483647) ∧ (¬ (x6 = 0) → -2147483648 ≤ (x3 - 1) ∧ (x3 - 1) ≤ 2147483647) ∧ C284_24 (some (.inr (.inr (some 682)))) (some (.inl x1)) (some (.inl x2)) (some (.inl x3)) x4 x5 x6 (100 * x1) (if x6 = 0 then x3 else (x3 - 1)) σ o)) : Dd 284 [(.inr (.inr (some 682))), (.inl x1), (.inl x2), (.inl x3), (.inl x4), (.inl x5), (.inl x6)] σ o := by
  refine Dd_of (l := 7) (by decide +kernel) ?_
  show Gd 284 0 [(some (.inr (.inr (some 682)))), (some (.inl x1)), (some (.inl x2)), (some (.inl x3)), (some (.inl x4)), (some (.inl x5)), (some (.inl x6))] [] σ 0 0 o
  refine g_iload_n 1 (show op 284 0 = some (.iload_n 2, 1) by decide +kernel) rfl rfl ?_
  by_cases hc6 : x2 = 0
  · rw [if_pos hc6] at h
    refine g_ifT 46 (show op 284 1 = some (.ifCond .eq 45, 3) by decide +kernel) rfl (decide_eq_true hc6) ?_
    refine g_aload_n 47 (show op 284 46 = some (.aload_n 0, 1) by decide +kernel) rfl rfl ?_
    refine g_getR (ci := 11) (f := 6) (fin := true) (isR := true) 50 687 (show op 284 47 = some (.getfield 22, 3) by decide +kernel) rfl (by decide +kernel) (by decide +kernel) ?_
    refine g_bipush 52 (show op 284 50 = some (.bipush 100, 2) by decide +kernel) rfl (by decide) ?_
    refine g_iload_n 53 (show op 284 52 = some (.iload_n 1, 1) by decide +kernel) rfl rfl ?_
    obtain ⟨g1, h⟩ := h
    refine g_imul 54 (show op 284 53 = some (.imul, 1) by decide +kernel) rfl g1 ?_
    refine g_iload 56 (show op 284 54 = some (.iload 6, 2) by decide +kernel) rfl rfl ?_
    obtain ⟨G8, G9, h⟩ := h
    by_cases hc7 : x6 = 0
    · refine g_ifT 68 (show op 284 56 = some (.ifCond .eq 12, 3) by decide +kernel) rfl (decide_eq_true hc7) ?_
      refine g_iload_n 69 (show op 284 68 = some (.iload_n 3, 1) by decide +kernel) rfl rfl ?_
      have h9 := h; simp only [if_pos hc7] at h9; exact h9
    · refine g_ifF 59 68 (show op 284 56 = some (.ifCond .eq 12, 3) by decide +kernel) rfl rfl (decide_eq_false hc7) ?_
      refine g_iload_n 60 (show op 284 59 = some (.iload_n 3, 1) by decide +kernel) rfl rfl ?_
      refine g_iload 62 (show op 284 60 = some (.iload 5, 2) by decide +kernel) rfl rfl ?_
      have g2 := G8 hc7
      refine g_iadd 63 (show op 284 62 = some (.iadd, 1) by decide +kernel) rfl g2 ?_
      refine g_iconst 64 (show op 284 63 = some (.iconst 1, 1) by decide +kernel) rfl rfl ?_
      have g3 := G9 hc7
      refine g_isub 65 (show op 284 64 = some (.isub, 1) by decide +kernel) rfl g3 ?_
      refine g_goto 69 (show op 284 65 = some (.goto 4, 3) by decide +kernel) rfl ?_
      have h9 := h; simp only [if_neg hc7] at h9; exact h9
  · rw [if_neg hc6] at h
    refine g_ifF 4 46 (show op 284 1 = some (.ifCond .eq 45, 3) by decide +kernel) rfl rfl (decide_eq_false hc6) ?_
    refine g_aload_n 5 (show op 284 4 = some (.aload_n 0, 1) by decide +kernel) rfl rfl ?_
    refine g_getR (ci := 11) (f := 6) (fin := true) (isR := true) 8 687 (show op 284 5 = some (.getfield 22, 3) by decide +kernel) rfl (by decide +kernel) (by decide +kernel) ?_
    refine g_bipush 10 (show op 284 8 = some (.bipush 100, 2) by decide +kernel) rfl (by decide) ?_
    refine g_iload_n 11 (show op 284 10 = some (.iload_n 1, 1) by decide +kernel) rfl rfl ?_
    obtain ⟨g4, h⟩ := h
    refine g_imul 12 (show op 284 11 = some (.imul, 1) by decide +kernel) rfl g4 ?_
    refine g_iload 14 (show op 284 12 = some (.iload 6, 2) by decide +kernel) rfl rfl ?_
    obtain ⟨G11, h⟩ := h
    by_cases hc10 : x6 = 0
    · refine g_ifT 23 (show op 284 14 = some (.ifCond .eq 9, 3) by decide +kernel) rfl (decide_eq_true hc10) ?_
      refine g_iload_n 24 (show op 284 23 = some (.iload_n 3, 1) by decide +kernel) rfl rfl ?_
      have h9 := h; simp only [if_pos hc10] at h9; exact h9
    · refine g_ifF 17 23 (show op 284 14 = some (.ifCond .eq 9, 3) by decide +kernel) rfl rfl (decide_eq_false hc10) ?_
      refine g_iload_n 18 (show op 284 17 = some (.iload_n 3, 1) by decide +kernel) rfl rfl ?_
      refine g_iconst 19 (show op 284 18 = some (.iconst 1, 1) by decide +kernel) rfl rfl ?_
      have g5 := G11 hc10
      refine g_isub 20 (show op 284 19 = some (.isub, 1) by decide +kernel) rfl g5 ?_
      refine g_goto 24 (show op 284 20 = some (.goto 4, 3) by decide +kernel) rfl ?_
      have h9 := h; simp only [if_neg hc10] at h9; exact h9
def C285_14 (x1 : Int) (x2 : Int) (d3 : Option AV) (d4 : Option AV) (d5 : Option AV) (d6 : Option AV) (d7 : Option AV) (d8 : Option AV) (d9 : Option AV) (d10 : Option AV) (d11 : Option AV) (d12 : Option AV) (d13 : Option AV) (d14 : Option AV) (y0 : Int) (σ : Sg) (o : Rs) : Prop := Gd 285 14 [(some (.inr (.inr (some 682)))), (some (.inl x1)), (some (.inl x2)), d3, d4, d5, d6, d7, d8, d9, d10, d11, d12, d13, d14] [(.inl y0)] σ 0 0 o
def C285_29 (x1 : Int) (x2 : Int) (x3 : Int) (d4 : Option AV) (d5 : Option AV) (d6 : Option AV) (d7 : Option AV) (d8 : Option AV) (d9 : Option AV) (d10 : Option AV) (d11 : Option AV) (d12 : Option AV) (d13 : Option AV) (d14 : Option AV) (σ : Sg) (o : Rs) : Prop := Gd 285 29 [(some (.inr (.inr (some 682)))), (some (.inl x1)), (some (.inl x2)), (some (.inl x3)), d4, d5, d6, d7, d8, d9, d10, d11, d12, d13, d14] [] σ 0 0 o
def C285_52 (x1 : Int) (x2 : Int) (x3 : Int) (d4 : Option AV) (d5 : Option AV) (d6 : Option AV) (d7 : Option AV) (d8 : Option AV) (d9 : Option AV) (d10 : Option AV) (d11 : Option AV) (d12 : Option AV) (d13 : Option AV) (d14 : Option AV) (y0 : Int) (y1 : Int) (σ : Sg) (o : Rs) : Prop := Gd 285 52 [(some (.inr (.inr (some 682)))), (some (.inl x1)), (some (.inl x2)), (some (.inl x3)), d4, d5, d6, d7, d8, d9, d10, d11, d12, d13, d14] [(.inl y1), (.inl y0)] σ 0 0 o
def C285_84 (x1 : Int) (x2 : Int) (x3 : Int) (x4 : Int) (x5 : Int) (d6 : Option AV) (d7 : Option AV) (d8 : Option AV) (d9 : Option AV) (d10 : Option AV) (d11 : Option AV) (d12 : Option AV) (d13 : Option AV) (d14 : Option AV) (y0 : Int) (y1 : Int) (σ : Sg) (o : Rs) : Prop := Gd 285 84 [(some (.inr (.inr (some 682)))), (some (.inl x1)), (some (.inl x2)), (some (.inl x3)), (some (.inl x4)), (some (.inl x5)), d6, d7, d8, d9, d10, d11, d12, d13, d14] [(.inl y1), (.inl y0)] σ 0 0 o
def C285_110 (x1 : Int) (x2 : Int) (x3 : Int) (x4 : Int) (x5 : Int) (x6 : Int) (d7 : Option AV) (d8 : Option AV) (d9 : Option AV) (d10 : Option AV) (d11 : Option AV) (d12 : Option AV) (d13 : Option AV) (d14 : Option AV) (y0 : Int) (y1 : Int) (σ : Sg) (o : Rs) : Prop := Gd 285 110 [(some (.inr (.inr (some 682)))), (some (.inl x1)), (some (.inl x2)), (some (.inl x3)), (some (.inl x4)), (some (.inl x5)), (some (.inl x6)), d7, d8, d9, d10, d11, d12, d13, d14] [(.inl y1), (.inl y0)] σ 0 0 o
def C285_116 (x1 : Int) (x2 : Int) (x3 : Int) (x4 : Int) (x5 : Int) (x6 : Int) (x7 : Int) (x8 : Int) (d9 : Option AV) (d10 : Option AV) (d11 : Option AV) (d12 : Option AV) (d13 : Option AV) (d14 : Option AV) (σ : Sg) (o : Rs) : Prop := Gd 285 116 [(some (.inr (.inr (some 682)))), (some (.inl x1)), (some (.inl x2)), (some (.inl x3)), (some (.inl x4)), (some (.inl x5)), (some (.inl x6)), (some (.inl x7)), (some (.inl x8)), d9, d10, d11, d12, d13, d14] [] σ 0 0 o
def C285_159 (x1 : Int) (x2 : Int) (x3 : Int) (x4 : Int) (x5 : Int) (d6 : Option AV) (x7 : Int) (x8 : Int) (d9 : Option AV) (d10 : Option AV) (d11 : Option AV) (d12 : Option AV) (d13 : Option AV) (d14 : Option AV) (σ : Sg) (o : Rs) : Prop := Gd 285 159 [(some (.inr (.inr (some 682)))), (some (.inl x1)), (some (.inl x2)), (some (.inl x3)), (some (.inl x4)), (some (.inl x5)), d6, (some (.inl x7)), (some (.inl x8)), d9, d10, d11, d12, d13, d14] [] σ 0 0 o
def C285_162 (x1 : Int) (x2 : Int) (x3 : Int) (x4 : Int) (x5 : Int) (d6 : Option AV) (x7 : Int) (x8 : Int) (x9 : Int) (d10 : Option AV) (d11 : Option AV) (d12 : Option AV) (d13 : Option AV) (d14 : Option AV) (σ : Sg) (o : Rs) : Prop := Gd 285 162 [(some (.inr (.inr (some 682)))), (some (.inl x1)), (some (.inl x2)), (some (.inl x3)), (some (.inl x4)), (some (.inl x5)), d6, (some (.inl x7)), (some (.inl x8)), (some (.inl x9)), d10, d11, d12, d13, d14] [] σ 0 0 o
def C285_201 (x1 : Int) (x2 : Int) (x3 : Int) (x4 : Int) (x5 : Int) (d6 : Option AV) (d7 : Option AV) (x8 : Int) (x9 : Int) (d10 : Option AV) (d11 : Option AV) (d12 : Option AV) (d13 : Option AV) (d14 : Option AV) (σ : Sg) (o : Rs) : Prop := Gd 285 201 [(some (.inr (.inr (some 682)))), (some (.inl x1)), (some (.inl x2)), (some (.inl x3)), (some (.inl x4)), (some (.inl x5)), d6, d7, (some (.inl x8)), (some (.inl x9)), d10, d11, d12, d13, d14] [] σ 0 0 o
def C285_212 (x1 : Int) (x2 : Int) (x3 : Int) (x4 : Int) (x5 : Int) (d6 : Option AV) (d7 : Option AV) (d8 : Option AV) (x9 : Int) (x10 : Int) (x11 : Int) (x12 : Int) (d13 : Option AV) (d14 : Option AV) (σ : Sg) (o : Rs) : Prop := Gd 285 212 [(some (.inr (.inr (some 682)))), (some (.inl x1)), (some (.inl x2)), (some (.inl x3)), (some (.inl x4)), (some (.inl x5)), d6, d7, d8, (some (.inl x9)), (some (.inl x10)), (some (.inl x11)), (some (.inl x12)), d13, d14] [] σ 0 0 o
def C285_246 (x1 : Int) (x2 : Int) (x3 : Int) (x4 : Int) (x5 : Int) (d6 : Option AV) (d7 : Option AV) (d8 : Option AV) (x9 : Int) (x10 : Int) (x11 : Int) (x12 : Int) (d13 : Option AV) (d14 : Option AV) (σ : Sg) (o : Rs) : Prop := Gd 285 246 [(some (.inr (.inr (some 682)))), (some (.inl x1)), (some (.inl x2)), (some (.inl x3)), (some (.inl x4)), (some (.inl x5)), d6, d7, d8, (some (.inl x9)), (some (.inl x10)), (some (.inl x11)), (some (.inl x12)), d13, d14] [] σ 0 0 o
def C285_251 (x1 : Int) (x2 : Int) (x3 : Int) (x4 : Int) (x5 : Int) (d6 : Option AV) (d7 : Option AV) (d8 : Option AV) (x9 : Int) (x10 : Int) (x11 : Int) (x12 : Int) (d13 : Option AV) (d14 : Option AV) (y0 : Int) (σ : Sg) (o : Rs) : Prop := Gd 285 251 [(some (.inr (.inr (some 682)))), (some (.inl x1)), (some (.inl x2)), (some (.inl x3)), (some (.inl x4)), (some (.inl x5)), d6, d7, d8, (some (.inl x9)), (some (.inl x10)), (some (.inl x11)), (some (.inl x12)), d13, d14] [(.inl y0)] σ 0 0 o
def C285_339 (x1 : Int) (d2 : Option AV) (x3 : Int) (d4 : Option AV) (x5 : Int) (d6 : Option AV) (d7 : Option AV) (d8 : Option AV) (d9 : Option AV) (x10 : Int) (d11 : Option AV) (x12 : Int) (x13 : Int) (x14 : Int) (σ : Sg) (o : Rs) : Prop := Gd 285 339 [(some (.inr (.inr (some 682)))), (some (.inl x1)), d2, (some (.inl x3)), d4, (some (.inl x5)), d6, d7, d8, d9, (some (.inl x10)), d11, (some (.inl x12)), (some (.inl x13)), (some (.inl x14))] [] σ 0 0 o
def C285_264 (x1 : Int) (x2 : Int) (x3 : Int) (x4 : Int) (x5 : Int) (d6 : Option AV) (d7 : Option AV) (d8 : Option AV) (x9 : Int) (x10 : Int) (x11 : Int) (x12 : Int) (d13 : Option AV) (d14 : Option AV) (y0 : Int) (σ : Sg) (o : Rs) : Prop := Gd 285 264 [(some (.inr (.inr (some 682)))), (some (.inl x1)), (some (.inl x2)), (some (.inl x3)), (some (.inl x4)), (some (.inl x5)), d6, d7, d8, (some (.inl x9)), (some (.inl x10)), (some (.inl x11)), (some (.inl x12)), d13, d14] [(.inl y0)] σ 0 0 o
def C285_365 (x1 : Int) (d2 : Option AV) (x3 : Int) (d4 : Option AV) (x5 : Int) (d6 : Option AV) (d7 : Option AV) (d8 : Option AV) (d9 : Option AV) (x10 : Int) (d11 : Option AV) (x12 : Int) (x13 : Int) (x14 : Int) (y1 : Int) (y2 : Int) (y3 : Int) (y4 : Int) (y5 : Int) (y6 : Int) (σ : Sg) (o : Rs) : Prop := Gd 285 365 [(some (.inr (.inr (some 682)))), (some (.inl x1)), d2, (some (.inl x3)), d4, (some (.inl x5)), d6, d7, d8, d9, (some (.inl x10)), d11, (some (.inl x12)), (some (.inl x13)), (some (.inl x14))] [(.inl y6), (.inl y5), (.inl y4), (.inl y3), (.inl y2), (.inl y1), (.inr (.inr (some 682)))] σ 0 0 o
def C285_296 (x1 : Int) (x2 : Int) (x3 : Int) (x4 : Int) (x5 : Int) (d6 : Option AV) (d7 : Option AV) (d8 : Option AV) (x9 : Int) (d10 : Option AV) (x11 : Int) (x12 : Int) (d13 : Option AV) (x14 : Int) (y0 : Int) (σ : Sg) (o : Rs) : Prop := Gd 285 296 [(some (.inr (.inr (some 682)))), (some (.inl x1)), (some (.inl x2)), (some (.inl x3)), (some (.inl x4)), (some (.inl x5)), d6, d7, d8, (some (.inl x9)), d10, (some (.inl x11)), (some (.inl x12)), d13, (some (.inl x14))] [(.inl y0)] σ 0 0 o
def C285_380 (x1 : Int) (d2 : Option AV) (x3 : Int) (d4 : Option AV) (x5 : Int) (d6 : Option AV) (d7 : Option AV) (d8 : Option AV) (d9 : Option AV) (x10 : Int) (d11 : Option AV) (d12 : Option AV) (x13 : Int) (x14 : Int) (y0 : Int) (y1 : Int) (σ : Sg) (o : Rs) : Prop := Gd 285 380 [(some (.inr (.inr (some 682)))), (some (.inl x1)), d2, (some (.inl x3)), d4, (some (.inl x5)), d6, d7, d8, d9, (some (.inl x10)), d11, d12, (some (.inl x13)), (some (.inl x14))] [(.inl y1), (.inl y0)] σ 0 0 o
def C285_312 (x1 : Int) (x2 : Int) (x3 : Int) (x4 : Int) (x5 : Int) (d6 : Option AV) (d7 : Option AV) (d8 : Option AV) (x9 : Int) (x10 : Int) (d11 : Option AV) (x12 : Int) (d13 : Option AV) (d14 : Option AV) (y0 : Int) (σ : Sg) (o : Rs) : Prop := Gd 285 312 [(some (.inr (.inr (some 682)))), (some (.inl x1)), (some (.inl x2)), (some (.inl x3)), (some (.inl x4)), (some (.inl x5)), d6, d7, d8, (some (.inl x9)), (some (.inl x10)), d11, (some (.inl x12)), d13, d14] [(.inl y0)] σ 0 0 o
def C285_395 (x1 : Int) (d2 : Option AV) (x3 : Int) (d4 : Option AV) (x5 : Int) (d6 : Option AV) (d7 : Option AV) (d8 : Option AV) (d9 : Option AV) (x10 : Int) (d11 : Option AV) (x12 : Int) (d13 : Option AV) (x14 : Int) (y0 : Int) (y1 : Int) (σ : Sg) (o : Rs) : Prop := Gd 285 395 [(some (.inr (.inr (some 682)))), (some (.inl x1)), d2, (some (.inl x3)), d4, (some (.inl x5)), d6, d7, d8, d9, (some (.inl x10)), d11, (some (.inl x12)), d13, (some (.inl x14))] [(.inl y1), (.inl y0)] σ 0 0 o
def C285_410 (x1 : Int) (d2 : Option AV) (x3 : Int) (d4 : Option AV) (x5 : Int) (d6 : Option AV) (d7 : Option AV) (d8 : Option AV) (d9 : Option AV) (x10 : Int) (d11 : Option AV) (x12 : Int) (x13 : Int) (d14 : Option AV) (y0 : Int) (y1 : Int) (σ : Sg) (o : Rs) : Prop := Gd 285 410 [(some (.inr (.inr (some 682)))), (some (.inl x1)), d2, (some (.inl x3)), d4, (some (.inl x5)), d6, d7, d8, d9, (some (.inl x10)), d11, (some (.inl x12)), (some (.inl x13)), d14] [(.inl y1), (.inl y0)] σ 0 0 o
theorem b285_14 {x1 : Int} {x2 : Int} {d3 : Option AV} {d4 : Option AV} {d5 : Option AV} {d6 : Option AV} {d7 : Option AV} {d8 : Option AV} {d9 : Option AV} {d10 : Option AV} {d11 : Option AV} {d12 : Option AV} {d13 : Option AV} {d14 : Option AV} {y0 : Int} {σ : Sg} {o : Rs}   (h : (if y0 = 0 then (0 ≤ x2 ∧ x2 < 256) ∧ (if 0 < (σ 703 (x2).toNat) then o = (.inl none, σ) else C285_29 x1 x2 y0 d4 d5 d6 d7 d8 d9 d10 d11 d12 d13 d14 σ o) else C285_29 x1 x2 y0 d4 d5 d6 d7 d8 d9 d10 d11 d12 d13 d14 σ o)) : C285_14 x1 x2 d3 d4 d5 d6 d7 d8 d9 d10 d11 d12 d13 d14 y0 σ o := by
  show Gd 285 14 [(some (.inr (.inr (some 682)))), (some (.inl x1)), (some (.inl x2)), d3, d4, d5, d6, d7, d8, d9, d10, d11, d12, d13, d14] [(.inl y0)] σ 0 0 o
  refine g_istore_n 15 [(some (.inr (.inr (some 682)))), (some (.inl x1)), (some (.inl x2)), (some (.inl y0)), d4, d5, d6, d7, d8, d9, d10, d11, d12, d13, d14] (show op 285 14 = some (.istore_n 3, 1) by decide +kernel) rfl rfl rfl ?_
  refine g_iload_n 16 (show op 285 15 = some (.iload_n 3, 1) by decide +kernel) rfl rfl ?_
  by_cases hc2 : y0 = 0
  · rw [if_pos hc2] at h
    refine g_ifF 19 29 (show op 285 16 = some (.ifCond .ne 13, 3) by decide +kernel) rfl rfl (decide_eq_false (fun h9 => h9 hc2)) ?_
    refine g_aload_n 20 (show op 285 19 = some (.aload_n 0, 1) by decide +kernel) rfl rfl ?_
    refine g_getR (ci := 11) (f := 29) (fin := true) (isR := true) 23 703 (show op 285 20 = some (.getfield 70, 3) by decide +kernel) rfl (by decide +kernel) (by decide +kernel) ?_
    refine g_iload_n 24 (show op 285 23 = some (.iload_n 2, 1) by decide +kernel) rfl rfl ?_
    obtain ⟨g1, h⟩ := h
    refine g_iaload 25 256 (show op 285 24 = some (.iaload, 1) by decide +kernel) rfl (by decide +kernel) g1 ?_
    by_cases hc3 : 0 < (σ 703 (x2).toNat)
    · rw [if_pos hc3] at h
      refine g_ifF 28 29 (show op 285 25 = some (.ifCond .le 4, 3) by decide +kernel) rfl rfl (decide_eq_false (Int.not_le.mpr hc3)) ?_
      exact g_vret (show op 285 28 = some (.return_, 1) by decide +kernel) (by decide +kernel) h
    · rw [if_neg hc3] at h
      refine g_ifT 29 (show op 285 25 = some (.ifCond .le 4, 3) by decide +kernel) rfl (decide_eq_true (Int.not_lt.mp hc3)) ?_
      exact h
  · rw [if_neg hc2] at h
    refine g_ifT 29 (show op 285 16 = some (.ifCond .ne 13, 3) by decide +kernel) rfl (decide_eq_true hc2) ?_
    exact h
theorem b285_29 {x1 : Int} {x2 : Int} {x3 : Int} {d4 : Option AV} {d5 : Option AV} {d6 : Option AV} {d7 : Option AV} {d8 : Option AV} {d9 : Option AV} {d10 : Option AV} {d11 : Option AV} {d12 : Option AV} {d13 : Option AV} {d14 : Option AV} {σ : Sg} {o : Rs}   (h : (-2147483648 ≤ (100 * x1) ∧ (100 * x1) ≤ 2147483647) ∧ ((x3 = 0) → 0 ≤ x2 ∧ x2 < 256) ∧ (¬ (x3 = 0) → 0 ≤ x2 ∧ x2 < 256) ∧ C285_52 x1 x2 x3 d4 d5 d6 d7 d8 d9 d10 d11 d12 d13 d14 (100 * x1) (if x3 = 0 then (σ 700 (x2).toNat) else (σ 702 (x2).toNat)) σ o) : C285_29 x1 x2 x3 d4 d5 d6 d7 d8 d9 d10 d11 d12 d13 d14 σ o := by
  show Gd 285 29 [(some (.inr (.inr (some 682)))), (some (.inl x1)), (some (.inl x2)), (some (.inl x3)), d4, d5, d6, d7, d8, d9, d10, d11, d12, d13, d14] [] σ 0 0 o
  refine g_bipush 31 (show op 285 29 = some (.bipush 100, 2) by decide +kernel) rfl (by decide) ?_
  refine g_iload_n 32 (show op 285 31 = some (.iload_n 1, 1) by decide +kernel) rfl rfl ?_
  obtain ⟨g1, h⟩ := h
  refine g_imul 33 (show op 285 32 = some (.imul, 1) by decide +kernel) rfl g1 ?_
  refine g_iload_n 34 (show op 285 33 = some (.iload_n 3, 1) by decide +kernel) rfl rfl ?_
  obtain ⟨G5, G6, h⟩ := h
  by_cases hc4 : x3 = 0
  · refine g_ifT 46 (show op 285 34 = some (.ifCond .eq 12, 3) by decide +kernel) rfl (decide_eq_true hc4) ?_
    refine g_aload_n 47 (show op 285 46 = some (.aload_n 0, 1) by decide +kernel) rfl rfl ?_
    refine g_getR (ci := 11) (f := 26) (fin := true) (isR := true) 50 700 (show op 285 47 = some (.getfield 61, 3) by decide +kernel) rfl (by decide +kernel) (by decide +kernel) ?_
    refine g_iload_n 51 (show op 285 50 = some (.iload_n 2, 1) by decide +kernel) rfl rfl ?_
    have g2 := G5 hc4
    refine g_iaload 52 256 (show op 285 51 = some (.iaload, 1) by decide +kernel) rfl (by decide +kernel) g2 ?_
    have h9 := h; simp only [if_pos hc4] at h9; exact h9
  · refine g_ifF 37 46 (show op 285 34 = some (.ifCond .eq 12, 3) by decide +kernel) rfl rfl (decide_eq_false hc4) ?_
    refine g_aload_n 38 (show op 285 37 = some (.aload_n 0, 1) by decide +kernel) rfl rfl ?_
    refine g_getR (ci := 11) (f := 28) (fin := true) (isR := true) 41 702 (show op 285 38 = some (.getfield 67, 3) by decide +kernel) rfl (by decide +kernel) (by decide +kernel) ?_
    refine g_iload_n 42 (show op 285 41 = some (.iload_n 2, 1) by decide +kernel) rfl rfl ?_
    have g3 := G6 hc4
    refine g_iaload 43 256 (show op 285 42 = some (.iaload, 1) by decide +kernel) rfl (by decide +kernel) g3 ?_
    refine g_goto 52 (show op 285 43 = some (.goto 9, 3) by decide +kernel) rfl ?_
    have h9 := h; simp only [if_neg hc4] at h9; exact h9
theorem b285_52 {x1 : Int} {x2 : Int} {x3 : Int} {d4 : Option AV} {d5 : Option AV} {d6 : Option AV} {d7 : Option AV} {d8 : Option AV} {d9 : Option AV} {d10 : Option AV} {d11 : Option AV} {d12 : Option AV} {d13 : Option AV} {d14 : Option AV} {y0 : Int} {y1 : Int} {σ : Sg} {o : Rs}   (h : (-2147483648 ≤ (y0 + y1) ∧ (y0 + y1) ≤ 2147483647) ∧ (0 ≤ x2 ∧ x2 < 256) ∧ (0 ≤ x2 ∧ x2 < 256) ∧ (-2147483648 ≤ ((σ 703 (x2).toNat) + (σ 701 (x2).toNat)) ∧ ((σ 703 (x2).toNat) + (σ 701 (x2).toNat)) ≤ 2147483647) ∧ (∃ (v6 : Int) (s5 : Sg), Dd 282 [(.inr (.inr (some 682))), (.inl x2)] σ (.inl (some (.inl v6)), s5) ∧ C285_84 x1 x2 x3 (y0 + y1) ((σ 703 (x2).toNat) + (σ 701 (x2).toNat)) d6 d7 d8 d9 d10 d11 d12 d13 d14 v6 (if x2 = 0 then 0 else 1) s5 o)) : C285_52 x1 x2 x3 d4 d5 d6 d7 d8 d9 d10 d11 d12 d13 d14 y0 y1 σ o := by
  show Gd 285 52 [(some (.inr (.inr (some 682)))), (some (.inl x1)), (some (.inl x2)), (some (.inl x3)), d4, d5, d6, d7, d8, d9, d10, d11, d12, d13, d14] [(.inl y1), (.inl y0)] σ 0 0 o
  obtain ⟨g1, h⟩ := h
  refine g_iadd 53 (show op 285 52 = some (.iadd, 1) by decide +kernel) rfl g1 ?_
  refine g_istore 55 [(some (.inr (.inr (some 682)))), (some (.inl x1)), (some (.inl x2)), (some (.inl x3)), (some (.inl (y0 + y1))), d5, d6, d7, d8, d9, d10, d11, d12, d13, d14] (show op 285 53 = some (.istore 4, 2) by decide +kernel) rfl rfl rfl ?_
  refine g_aload_n 56 (show op 285 55 = some (.aload_n 0, 1) by decide +kernel) rfl rfl ?_
  refine g_getR (ci := 11) (f := 29) (fin := true) (isR := true) 59 703 (show op 285 56 = some (.getfield 70, 3) by decide +kernel) rfl (by decide +kernel) (by decide +kernel) ?_
  refine g_iload_n 60 (show op 285 59 = some (.iload_n 2, 1) by decide +kernel) rfl rfl ?_
  obtain ⟨g2, h⟩ := h
  refine g_iaload 61 256 (show op 285 60 = some (.iaload, 1) by decide +kernel) rfl (by decide +kernel) g2 ?_
  refine g_aload_n 62 (show op 285 61 = some (.aload_n 0, 1) by decide +kernel) rfl rfl ?_
  refine g_getR (ci := 11) (f := 27) (fin := true) (isR := true) 65 701 (show op 285 62 = some (.getfield 64, 3) by decide +kernel) rfl (by decide +kernel) (by decide +kernel) ?_
  refine g_iload_n 66 (show op 285 65 = some (.iload_n 2, 1) by decide +kernel) rfl rfl ?_
  obtain ⟨g3, h⟩ := h
  refine g_iaload 67 256 (show op 285 66 = some (.iaload, 1) by decide +kernel) rfl (by decide +kernel) g3 ?_
  obtain ⟨g4, h⟩ := h
  refine g_iadd 68 (show op 285 67 = some (.iadd, 1) by decide +kernel) rfl g4 ?_
  refine g_istore 70 [(some (.inr (.inr (some 682)))), (some (.inl x1)), (some (.inl x2)), (some (.inl x3)), (some (.inl (y0 + y1))), (some (.inl ((σ 703 (x2).toNat) + (σ 701 (x2).toNat)))), d6, d7, d8, d9, d10, d11, d12, d13, d14] (show op 285 68 = some (.istore 5, 2) by decide +kernel) rfl rfl rfl ?_
  refine g_aload_n 71 (show op 285 70 = some (.aload_n 0, 1) by decide +kernel) rfl rfl ?_
  refine g_iload_n 72 (show op 285 71 = some (.iload_n 2, 1) by decide +kernel) rfl rfl ?_
  obtain ⟨v6, s5, hD7, h⟩ := h
  refine g_call 75 [(.inl v6)] (show op 285 72 = some (.invokevirtual 250, 3) by decide +kernel) (call_vi' (k' := 0) (n' := 0) (nj := 2) (j := 282) (k9 := 21) (t := []) (as := [(.inr (.inr (some 682))), (.inl x2)]) (by decide +kernel) rfl (by decide +kernel) rfl rfl rfl rfl rfl rfl (by decide +kernel) (by decide +kernel)) hD7 rfl ?_
  refine g_iload_n 76 (show op 285 75 = some (.iload_n 2, 1) by decide +kernel) rfl rfl ?_
  by_cases hc8 : x2 = 0
  · refine g_ifF 79 83 (show op 285 76 = some (.ifCond .ne 7, 3) by decide +kernel) rfl rfl (decide_eq_false (fun h9 => h9 hc8)) ?_
    refine g_iconst 80 (show op 285 79 = some (.iconst 0, 1) by decide +kernel) rfl rfl ?_
    refine g_goto 84 (show op 285 80 = some (.goto 4, 3) by decide +kernel) rfl ?_
    have h9 := h; simp only [if_pos hc8] at h9; exact h9
  · refine g_ifT 83 (show op 285 76 = some (.ifCond .ne 7, 3) by decide +kernel) rfl (decide_eq_true hc8) ?_
    refine g_iconst 84 (show op 285 83 = some (.iconst 1, 1) by decide +kernel) rfl rfl ?_
    have h9 := h; simp only [if_neg hc8] at h9; exact h9
theorem b285_84 {x1 : Int} {x2 : Int} {x3 : Int} {x4 : Int} {x5 : Int} {d6 : Option AV} {d7 : Option AV} {d8 : Option AV} {d9 : Option AV} {d10 : Option AV} {d11 : Option AV} {d12 : Option AV} {d13 : Option AV} {d14 : Option AV} {y0 : Int} {y1 : Int} {σ : Sg} {o : Rs}   (h : (-2147483648 ≤ (y0 - y1) ∧ (y0 - y1) ≤ 2147483647) ∧ (∃ (v3 : Int) (s2 : Sg), Dd 283 [(.inr (.inr (some 682))), (.inl x1), (.inl x2)] σ (.inl (some (.inl v3)), s2) ∧ (-2147483648 ≤ ((s2 704 (0 : Int).toNat) - 1) ∧ ((s2 704 (0 : Int).toNat) - 1) ≤ 2147483647) ∧ C285_110 x1 x2 x3 x4 x5 (y0 - y1) d7 d8 d9 d10 d11 d12 d13 d14 v3 (if x2 = ((s2 704 (0 : Int).toNat) - 1) then 0 else 1) s2 o)) : C285_84 x1 x2 x3 x4 x5 d6 d7 d8 d9 d10 d11 d12 d13 d14 y0 y1 σ o := by
  show Gd 285 84 [(some (.inr (.inr (some 682)))), (some (.inl x1)), (some (.inl x2)), (some (.inl x3)), (some (.inl x4)), (some (.inl x5)), d6, d7, d8, d9, d10, d11, d12, d13, d14] [(.inl y1), (.inl y0)] σ 0 0 o
  obtain ⟨g1, h⟩ := h
  refine g_isub 85 (show op 285 84 = some (.isub, 1) by decide +kernel) rfl g1 ?_
  refine g_istore 87 [(some (.inr (.inr (some 682)))), (some (.inl x1)), (some (.inl x2)), (some (.inl x3)), (some (.inl x4)), (some (.inl x5)), (some (.inl (y0 - y1))), d7, d8, d9, d10, d11, d12, d13, d14] (show op 285 85 = some (.istore 6, 2) by decide +kernel) rfl rfl rfl ?_
  refine g_aload_n 88 (show op 285 87 = some (.aload_n 0, 1) by decide +kernel) rfl rfl ?_
  refine g_iload_n 89 (show op 285 88 = some (.iload_n 1, 1) by decide +kernel) rfl rfl ?_
  refine g_iload_n 90 (show op 285 89 = some (.iload_n 2, 1) by decide +kernel) rfl rfl ?_
  obtain ⟨v3, s2, hD4, h⟩ := h
  refine g_call 93 [(.inl v3)] (show op 285 90 = some (.invokevirtual 253, 3) by decide +kernel) (call_vi' (k' := 0) (n' := 0) (nj := 3) (j := 283) (k9 := 21) (t := []) (as := [(.inr (.inr (some 682))), (.inl x1), (.inl x2)]) (by decide +kernel) rfl (by decide +kernel) rfl rfl rfl rfl rfl rfl (by decide +kernel) (by decide +kernel)) hD4 rfl ?_
  refine g_iload_n 94 (show op 285 93 = some (.iload_n 2, 1) by decide +kernel) rfl rfl ?_
  refine g_aload_n 95 (show op 285 94 = some (.aload_n 0, 1) by decide +kernel) rfl rfl ?_
  refine g_getR (ci := 11) (f := 30) (fin := true) (isR := true) 98 704 (show op 285 95 = some (.getfield 73, 3) by decide +kernel) rfl (by decide +kernel) (by decide +kernel) ?_
  refine g_iconst 99 (show op 285 98 = some (.iconst 0, 1) by decide +kernel) rfl rfl ?_
  refine g_iaload 100 2 (show op 285 99 = some (.iaload, 1) by decide +kernel) rfl (by decide +kernel) (by decide) ?_
  refine g_iconst 101 (show op 285 100 = some (.iconst 1, 1) by decide +kernel) rfl rfl ?_
  obtain ⟨g5, h⟩ := h
  refine g_isub 102 (show op 285 101 = some (.isub, 1) by decide +kernel) rfl g5 ?_
  by_cases hc6 : x2 = ((s2 704 (0 : Int).toNat) - 1)
  · refine g_icmpF 105 109 (show op 285 102 = some (.if_icmp .ne 7, 3) by decide +kernel) rfl rfl (decide_eq_false (fun h9 => h9 hc6)) ?_
    refine g_iconst 106 (show op 285 105 = some (.iconst 0, 1) by decide +kernel) rfl rfl ?_
    refine g_goto 110 (show op 285 106 = some (.goto 4, 3) by decide +kernel) rfl ?_
    have h9 := h; simp only [if_pos hc6] at h9; exact h9
  · refine g_icmpT 109 (show op 285 102 = some (.if_icmp .ne 7, 3) by decide +kernel) rfl (decide_eq_true hc6) ?_
    refine g_iconst 110 (show op 285 109 = some (.iconst 1, 1) by decide +kernel) rfl rfl ?_
    have h9 := h; simp only [if_neg hc6] at h9; exact h9
theorem b285_110 {x1 : Int} {x2 : Int} {x3 : Int} {x4 : Int} {x5 : Int} {x6 : Int} {d7 : Option AV} {d8 : Option AV} {d9 : Option AV} {d10 : Option AV} {d11 : Option AV} {d12 : Option AV} {d13 : Option AV} {d14 : Option AV} {y0 : Int} {y1 : Int} {σ : Sg} {o : Rs}   (h : (-2147483648 ≤ (y0 - y1) ∧ (y0 - y1) ≤ 2147483647) ∧ C285_116 x1 x2 x3 x4 x5 x6 (y0 - y1) 0 d9 d10 d11 d12 d13 d14 σ o) : C285_110 x1 x2 x3 x4 x5 x6 d7 d8 d9 d10 d11 d12 d13 d14 y0 y1 σ o := by
  show Gd 285 110 [(some (.inr (.inr (some 682)))), (some (.inl x1)), (some (.inl x2)), (some (.inl x3)), (some (.inl x4)), (some (.inl x5)), (some (.inl x6)), d7, d8, d9, d10, d11, d12, d13, d14] [(.inl y1), (.inl y0)] σ 0 0 o
  obtain ⟨g1, h⟩ := h
  refine g_isub 111 (show op 285 110 = some (.isub, 1) by decide +kernel) rfl g1 ?_
  refine g_istore 113 [(some (.inr (.inr (some 682)))), (some (.inl x1)), (some (.inl x2)), (some (.inl x3)), (some (.inl x4)), (some (.inl x5)), (some (.inl x6)), (some (.inl (y0 - y1))), d8, d9, d10, d11, d12, d13, d14] (show op 285 111 = some (.istore 7, 2) by decide +kernel) rfl rfl rfl ?_
  refine g_iconst 114 (show op 285 113 = some (.iconst 0, 1) by decide +kernel) rfl rfl ?_
  refine g_istore 116 [(some (.inr (.inr (some 682)))), (some (.inl x1)), (some (.inl x2)), (some (.inl x3)), (some (.inl x4)), (some (.inl x5)), (some (.inl x6)), (some (.inl (y0 - y1))), (some (.inl 0)), d9, d10, d11, d12, d13, d14] (show op 285 114 = some (.istore 8, 2) by decide +kernel) rfl rfl rfl ?_
  exact h
theorem b285_116 {x1 : Int} {x2 : Int} {x3 : Int} {x4 : Int} {x5 : Int} {x6 : Int} {x7 : Int} {x8 : Int} {d9 : Option AV} {d10 : Option AV} {d11 : Option AV} {d12 : Option AV} {d13 : Option AV} {d14 : Option AV} {σ : Sg} {o : Rs}   (h : (if x8 < x6 then (-2147483648 ≤ (x4 - x8) ∧ (x4 - x8) ≤ 2147483647) ∧ (-2147483648 ≤ ((x4 - x8) - 1) ∧ ((x4 - x8) - 1) ≤ 2147483647) ∧ (∃ (v4 : Int) (s3 : Sg), Dd 286 [(.inr (.inr (some 682))), (.inl x3), (.inl ((x4 - x8) - 1))] σ (.inl (some (.inl v4)), s3) ∧ (-2147483648 ≤ (x4 + x5) ∧ (x4 + x5) ≤ 2147483647) ∧ (-2147483648 ≤ ((x4 + x5) - x8) ∧ ((x4 + x5) - x8) ≤ 2147483647) ∧ (-2147483648 ≤ (((x4 + x5) - x8) - 1) ∧ (((x4 + x5) - x8) - 1) ≤ 2147483647) ∧ (∃ (v10 : Int) (s9 : Sg), Dd 286 [(.inr (.inr (some 682))), (.inl x3), (.inl (((x4 + x5) - x8) - 1))] s3 (.inl (some (.inl v10)), s9) ∧ (if v4 = v10 then (-2147483648 ≤ (x8 + 1) ∧ (x8 + 1) ≤ 2147483647) ∧ C285_116 x1 x2 x3 x4 x5 x6 x7 (x8 + 1) d9 d10 d11 d12 d13 d14 s9 o else C285_159 x1 x2 x3 x4 x5 (some (.inl x6)) x7 x8 d9 d10 d11 d12 d13 d14 s9 o))) else C285_159 x1 x2 x3 x4 x5 (some (.inl x6)) x7 x8 d9 d10 d11 d12 d13 d14 σ o)) : C285_116 x1 x2 x3 x4 x5 x6 x7 x8 d9 d10 d11 d12 d13 d14 σ o := by
  show Gd 285 116 [(some (.inr (.inr (some 682)))), (some (.inl x1)), (some (.inl x2)), (some (.inl x3)), (some (.inl x4)), (some (.inl x5)), (some (.inl x6)), (some (.inl x7)), (some (.inl x8)), d9, d10, d11, d12, d13, d14] [] σ 0 0 o
  refine g_iload 118 (show op 285 116 = some (.iload 8, 2) by decide +kernel) rfl rfl ?_
  refine g_iload 120 (show op 285 118 = some (.iload 6, 2) by decide +kernel) rfl rfl ?_
  by_cases hc13 : x8 < x6
  · rw [if_pos hc13] at h
    refine g_icmpF 123 159 (show op 285 120 = some (.if_icmp .ge 39, 3) by decide +kernel) rfl rfl (decide_eq_false (Int.not_le.mpr hc13)) ?_
    refine g_aload_n 124 (show op 285 123 = some (.aload_n 0, 1) by decide +kernel) rfl rfl ?_
    refine g_iload_n 125 (show op 285 124 = some (.iload_n 3, 1) by decide +kernel) rfl rfl ?_
    refine g_iload 127 (show op 285 125 = some (.iload 4, 2) by decide +kernel) rfl rfl ?_
    refine g_iload 129 (show op 285 127 = some (.iload 8, 2) by decide +kernel) rfl rfl ?_
    obtain ⟨g1, h⟩ := h
    refine g_isub 130 (show op 285 129 = some (.isub, 1) by decide +kernel) rfl g1 ?_
    refine g_iconst 131 (show op 285 130 = some (.iconst 1, 1) by decide +kernel) rfl rfl ?_
    obtain ⟨g2, h⟩ := h
    refine g_isub 132 (show op 285 131 = some (.isub, 1) by decide +kernel) rfl g2 ?_
    obtain ⟨v4, s3, hD5, h⟩ := h
    refine g_call 135 [(.inl v4)] (show op 285 132 = some (.invokevirtual 256, 3) by decide +kernel) (call_vi' (k' := 0) (n' := 0) (nj := 3) (j := 286) (k9 := 21) (t := []) (as := [(.inr (.inr (some 682))), (.inl x3), (.inl ((x4 - x8) - 1))]) (by decide +kernel) rfl (by decide +kernel) rfl rfl rfl rfl rfl rfl (by decide +kernel) (by decide +kernel)) hD5 rfl ?_
    refine g_aload_n 136 (show op 285 135 = some (.aload_n 0, 1) by decide +kernel) rfl rfl ?_
    refine g_iload_n 137 (show op 285 136 = some (.iload_n 3, 1) by decide +kernel) rfl rfl ?_
    refine g_iload 139 (show op 285 137 = some (.iload 4, 2) by decide +kernel) rfl rfl ?_
    refine g_iload 141 (show op 285 139 = some (.iload 5, 2) by decide +kernel) rfl rfl ?_
    obtain ⟨g6, h⟩ := h
    refine g_iadd 142 (show op 285 141 = some (.iadd, 1) by decide +kernel) rfl g6 ?_
    refine g_iload 144 (show op 285 142 = some (.iload 8, 2) by decide +kernel) rfl rfl ?_
    obtain ⟨g7, h⟩ := h
    refine g_isub 145 (show op 285 144 = some (.isub, 1) by decide +kernel) rfl g7 ?_
    refine g_iconst 146 (show op 285 145 = some (.iconst 1, 1) by decide +kernel) rfl rfl ?_
    obtain ⟨g8, h⟩ := h
    refine g_isub 147 (show op 285 146 = some (.isub, 1) by decide +kernel) rfl g8 ?_
    obtain ⟨v10, s9, hD11, h⟩ := h
    refine g_call 150 [(.inl v10), (.inl v4)] (show op 285 147 = some (.invokevirtual 256, 3) by decide +kernel) (call_vi' (k' := 0) (n' := 0) (nj := 3) (j := 286) (k9 := 21) (t := [(.inl v4)]) (as := [(.inr (.inr (some 682))), (.inl x3), (.inl (((x4 + x5) - x8) - 1))]) (by decide +kernel) rfl (by decide +kernel) rfl rfl rfl rfl rfl rfl (by decide +kernel) (by decide +kernel)) hD11 rfl ?_
    by_cases hc14 : v4 = v10
    · rw [if_pos hc14] at h
      refine g_icmpF 153 159 (show op 285 150 = some (.if_icmp .ne 9, 3) by decide +kernel) rfl rfl (decide_eq_false (fun h9 => h9 hc14)) ?_
      obtain ⟨g12, h⟩ := h
      refine g_iinc 156 [(some (.inr (.inr (some 682)))), (some (.inl x1)), (some (.inl x2)), (some (.inl x3)), (some (.inl x4)), (some (.inl x5)), (some (.inl x6)), (some (.inl x7)), (some (.inl (x8 + 1))), d9, d10, d11, d12, d13, d14] (show op 285 153 = some (.iinc 8 1, 3) by decide +kernel) rfl rfl g12 rfl ?_
      refine g_goto 116 (show op 285 156 = some (.goto (-40), 3) by decide +kernel) rfl ?_
      exact h
    · rw [if_neg hc14] at h
      refine g_icmpT 159 (show op 285 150 = some (.if_icmp .ne 9, 3) by decide +kernel) rfl (decide_eq_true hc14) ?_
      exact h
  · rw [if_neg hc13] at h
    refine g_icmpT 159 (show op 285 120 = some (.if_icmp .ge 39, 3) by decide +kernel) rfl (decide_eq_true (Int.not_lt.mp hc13)) ?_
    exact h
theorem b285_159 {x1 : Int} {x2 : Int} {x3 : Int} {x4 : Int} {x5 : Int} {d6 : Option AV} {x7 : Int} {x8 : Int} {d9 : Option AV} {d10 : Option AV} {d11 : Option AV} {d12 : Option AV} {d13 : Option AV} {d14 : Option AV} {σ : Sg} {o : Rs}   (h : C285_162 x1 x2 x3 x4 x5 d6 x7 x8 0 d10 d11 d12 d13 d14 σ o) : C285_159 x1 x2 x3 x4 x5 d6 x7 x8 d9 d10 d11 d12 d13 d14 σ o := by
  show Gd 285 159 [(some (.inr (.inr (some 682)))), (some (.inl x1)), (some (.inl x2)), (some (.inl x3)), (some (.inl x4)), (some (.inl x5)), d6, (some (.inl x7)), (some (.inl x8)), d9, d10, d11, d12, d13, d14] [] σ 0 0 o
  refine g_iconst 160 (show op 285 159 = some (.iconst 0, 1) by decide +kernel) rfl rfl ?_
  refine g_istore 162 [(some (.inr (.inr (some 682)))), (some (.inl x1)), (some (.inl x2)), (some (.inl x3)), (some (.inl x4)), (some (.inl x5)), d6, (some (.inl x7)), (some (.inl x8)), (some (.inl 0)), d10, d11, d12, d13, d14] (show op 285 160 = some (.istore 9, 2) by decide +kernel) rfl rfl rfl ?_
  exact h
theorem b285_162 {x1 : Int} {x2 : Int} {x3 : Int} {x4 : Int} {x5 : Int} {d6 : Option AV} {x7 : Int} {x8 : Int} {x9 : Int} {d10 : Option AV} {d11 : Option AV} {d12 : Option AV} {d13 : Option AV} {d14 : Option AV} {σ : Sg} {o : Rs}   (h : (if x9 < x7 then (-2147483648 ≤ (x4 + x5) ∧ (x4 + x5) ≤ 2147483647) ∧ (-2147483648 ≤ ((x4 + x5) + x9) ∧ ((x4 + x5) + x9) ≤ 2147483647) ∧ (∃ (v4 : Int) (s3 : Sg), Dd 286 [(.inr (.inr (some 682))), (.inl x3), (.inl ((x4 + x5) + x9))] σ (.inl (some (.inl v4)), s3) ∧ (-2147483648 ≤ (x4 + x9) ∧ (x4 + x9) ≤ 2147483647) ∧ (∃ (v8 : Int) (s7 : Sg), Dd 286 [(.inr (.inr (some 682))), (.inl x3), (.inl (x4 + x9))] s3 (.inl (some (.inl v8)), s7) ∧ (if v4 = v8 then (-2147483648 ≤ (x9 + 1) ∧ (x9 + 1) ≤ 2147483647) ∧ C285_162 x1 x2 x3 x4 x5 d6 x7 x8 (x9 + 1) d10 d11 d12 d13 d14 s7 o else C285_201 x1 x2 x3 x4 x5 d6 (some (.inl x7)) x8 x9 d10 d11 d12 d13 d14 s7 o))) else C285_201 x1 x2 x3 x4 x5 d6 (some (.inl x7)) x8 x9 d10 d11 d12 d13 d14 σ o)) : C285_162 x1 x2 x3 x4 x5 d6 x7 x8 x9 d10 d11 d12 d13 d14 σ o := by
  show Gd 285 162 [(some (.inr (.inr (some 682)))), (some (.inl x1)), (some (.inl x2)), (some (.inl x3)), (some (.inl x4)), (some (.inl x5)), d6, (some (.inl x7)), (some (.inl x8)), (some (.inl x9)), d10, d11, d12, d13, d14] [] σ 0 0 o
  refine g_iload 164 (show op 285 162 = some (.iload 9, 2) by decide +kernel) rfl rfl ?_
  refine g_iload 166 (show op 285 164 = some (.iload 7, 2) by decide +kernel) rfl rfl ?_
  by_cases hc11 : x9 < x7
  · rw [if_pos hc11] at h
    refine g_icmpF 169 201 (show op 285 166 = some (.if_icmp .ge 35, 3) by decide +kernel) rfl rfl (decide_eq_false (Int.not_le.mpr hc11)) ?_
    refine g_aload_n 170 (show op 285 169 = some (.aload_n 0, 1) by decide +kernel) rfl rfl ?_
    refine g_iload_n 171 (show op 285 170 = some (.iload_n 3, 1) by decide +kernel) rfl rfl ?_
    refine g_iload 173 (show op 285 171 = some (.iload 4, 2) by decide +kernel) rfl rfl ?_
    refine g_iload 175 (show op 285 173 = some (.iload 5, 2) by decide +kernel) rfl rfl ?_
    obtain ⟨g1, h⟩ := h
    refine g_iadd 176 (show op 285 175 = some (.iadd, 1) by decide +kernel) rfl g1 ?_
    refine g_iload 178 (show op 285 176 = some (.iload 9, 2) by decide +kernel) rfl rfl ?_
    obtain ⟨g2, h⟩ := h
    refine g_iadd 179 (show op 285 178 = some (.iadd, 1) by decide +kernel) rfl g2 ?_
    obtain ⟨v4, s3, hD5, h⟩ := h
    refine g_call 182 [(.inl v4)] (show op 285 179 = some (.invokevirtual 256, 3) by decide +kernel) (call_vi' (k' := 0) (n' := 0) (nj := 3) (j := 286) (k9 := 21) (t := []) (as := [(.inr (.inr (some 682))), (.inl x3), (.inl ((x4 + x5) + x9))]) (by decide +kernel) rfl (by decide +kernel) rfl rfl rfl rfl rfl rfl (by decide +kernel) (by decide +kernel)) hD5 rfl ?_
    refine g_aload_n 183 (show op 285 182 = some (.aload_n 0, 1) by decide +kernel) rfl rfl ?_
    refine g_iload_n 184 (show op 285 183 = some (.iload_n 3, 1) by decide +kernel) rfl rfl ?_
    refine g_iload 186 (show op 285 184 = some (.iload 4, 2) by decide +kernel) rfl rfl ?_
    refine g_iload 188 (show op 285 186 = some (.iload 9, 2) by decide +kernel) rfl rfl ?_
    obtain ⟨g6, h⟩ := h
    refine g_iadd 189 (show op 285 188 = some (.iadd, 1) by decide +kernel) rfl g6 ?_
    obtain ⟨v8, s7, hD9, h⟩ := h
    refine g_call 192 [(.inl v8), (.inl v4)] (show op 285 189 = some (.invokevirtual 256, 3) by decide +kernel) (call_vi' (k' := 0) (n' := 0) (nj := 3) (j := 286) (k9 := 21) (t := [(.inl v4)]) (as := [(.inr (.inr (some 682))), (.inl x3), (.inl (x4 + x9))]) (by decide +kernel) rfl (by decide +kernel) rfl rfl rfl rfl rfl rfl (by decide +kernel) (by decide +kernel)) hD9 rfl ?_
    by_cases hc12 : v4 = v8
    · rw [if_pos hc12] at h
      refine g_icmpF 195 201 (show op 285 192 = some (.if_icmp .ne 9, 3) by decide +kernel) rfl rfl (decide_eq_false (fun h9 => h9 hc12)) ?_
      obtain ⟨g10, h⟩ := h
      refine g_iinc 198 [(some (.inr (.inr (some 682)))), (some (.inl x1)), (some (.inl x2)), (some (.inl x3)), (some (.inl x4)), (some (.inl x5)), d6, (some (.inl x7)), (some (.inl x8)), (some (.inl (x9 + 1))), d10, d11, d12, d13, d14] (show op 285 195 = some (.iinc 9 1, 3) by decide +kernel) rfl rfl g10 rfl ?_
      refine g_goto 162 (show op 285 198 = some (.goto (-36), 3) by decide +kernel) rfl ?_
      exact h
    · rw [if_neg hc12] at h
      refine g_icmpT 201 (show op 285 192 = some (.if_icmp .ne 9, 3) by decide +kernel) rfl (decide_eq_true hc12) ?_
      exact h
  · rw [if_neg hc11] at h
    refine g_icmpT 201 (show op 285 166 = some (.if_icmp .ge 35, 3) by decide +kernel) rfl (decide_eq_true (Int.not_lt.mp hc11)) ?_
    exact h
theorem b285_201 {x1 : Int} {x2 : Int} {x3 : Int} {x4 : Int} {x5 : Int} {d6 : Option AV} {d7 : Option AV} {x8 : Int} {x9 : Int} {d10 : Option AV} {d11 : Option AV} {d12 : Option AV} {d13 : Option AV} {d14 : Option AV} {σ : Sg} {o : Rs}   (h : (-2147483648 ≤ (-x8) ∧ (-x8) ≤ 2147483647) ∧ C285_212 x1 x2 x3 x4 x5 d6 d7 (some (.inl x8)) x9 0 (-1) (-x8) d13 d14 σ o) : C285_201 x1 x2 x3 x4 x5 d6 d7 x8 x9 d10 d11 d12 d13 d14 σ o := by
  show Gd 285 201 [(some (.inr (.inr (some 682)))), (some (.inl x1)), (some (.inl x2)), (some (.inl x3)), (some (.inl x4)), (some (.inl x5)), d6, d7, (some (.inl x8)), (some (.inl x9)), d10, d11, d12, d13, d14] [] σ 0 0 o
  refine g_iconst 202 (show op 285 201 = some (.iconst 0, 1) by decide +kernel) rfl rfl ?_
  refine g_istore 204 [(some (.inr (.inr (some 682)))), (some (.inl x1)), (some (.inl x2)), (some (.inl x3)), (some (.inl x4)), (some (.inl x5)), d6, d7, (some (.inl x8)), (some (.inl x9)), (some (.inl 0)), d11, d12, d13, d14] (show op 285 202 = some (.istore 10, 2) by decide +kernel) rfl rfl rfl ?_
  refine g_iconst 205 (show op 285 204 = some (.iconst (-1), 1) by decide +kernel) rfl rfl ?_
  refine g_istore 207 [(some (.inr (.inr (some 682)))), (some (.inl x1)), (some (.inl x2)), (some (.inl x3)), (some (.inl x4)), (some (.inl x5)), d6, d7, (some (.inl x8)), (some (.inl x9)), (some (.inl 0)), (some (.inl (-1))), d12, d13, d14] (show op 285 205 = some (.istore 11, 2) by decide +kernel) rfl rfl rfl ?_
  refine g_iload 209 (show op 285 207 = some (.iload 8, 2) by decide +kernel) rfl rfl ?_
  obtain ⟨g1, h⟩ := h
  refine g_ineg 210 (show op 285 209 = some (.ineg, 1) by decide +kernel) rfl g1 ?_
  refine g_istore 212 [(some (.inr (.inr (some 682)))), (some (.inl x1)), (some (.inl x2)), (some (.inl x3)), (some (.inl x4)), (some (.inl x5)), d6, d7, (some (.inl x8)), (some (.inl x9)), (some (.inl 0)), (some (.inl (-1))), (some (.inl (-x8))), d13, d14] (show op 285 210 = some (.istore 12, 2) by decide +kernel) rfl rfl rfl ?_
  exact h
theorem b285_212 {x1 : Int} {x2 : Int} {x3 : Int} {x4 : Int} {x5 : Int} {d6 : Option AV} {d7 : Option AV} {d8 : Option AV} {x9 : Int} {x10 : Int} {x11 : Int} {x12 : Int} {d13 : Option AV} {d14 : Option AV} {σ : Sg} {o : Rs}   (h : (if x12 ≤ x9 then (-2147483648 ≤ (x4 + x12) ∧ (x4 + x12) ≤ 2147483647) ∧ (-2147483648 ≤ (100 * x1) ∧ (100 * x1) ≤ 2147483647) ∧ (if (x4 + x12) = (100 * x1) then C285_246 x1 x2 x3 x4 x5 d6 d7 d8 x9 x10 x11 x12 d13 d14 σ o else (-2147483648 ≤ (x4 + x12) ∧ (x4 + x12) ≤ 2147483647) ∧ (-2147483648 ≤ ((x4 + x12) - 1) ∧ ((x4 + x12) - 1) ≤ 2147483647) ∧ (∃ (v6 : Int) (s5 : Sg), Dd 286 [(.inr (.inr (some 682))), (.inl x3), (.inl ((x4 + x12) - 1))] σ (.inl (some (.inl v6)), s5) ∧ (if v6 = 0 then C285_246 x1 x2 x3 x4 x5 d6 d7 d8 x9 x10 x11 x12 d13 d14 s5 o else C285_251 x1 x2 x3 x4 x5 d6 d7 d8 x9 x10 x11 x12 d13 d14 0 s5 o))) else (0 ≤ x2 ∧ x2 < 256) ∧ (0 ≤ x2 ∧ x2 < 256) ∧ C285_339 x1 (some (.inl x2)) x3 (some (.inl x4)) x5 d6 d7 d8 (some (.inl x9)) x10 (some (.inl x11)) (σ 700 (x2).toNat) (σ 702 (x2).toNat) 0 σ o)) : C285_212 x1 x2 x3 x4 x5 d6 d7 d8 x9 x10 x11 x12 d13 d14 σ o := by
  show Gd 285 212 [(some (.inr (.inr (some 682)))), (some (.inl x1)), (some (.inl x2)), (some (.inl x3)), (some (.inl x4)), (some (.inl x5)), d6, d7, d8, (some (.inl x9)), (some (.inl x10)), (some (.inl x11)), (some (.inl x12)), d13, d14] [] σ 0 0 o
  refine g_iload 214 (show op 285 212 = some (.iload 12, 2) by decide +kernel) rfl rfl ?_
  refine g_iload 216 (show op 285 214 = some (.iload 9, 2) by decide +kernel) rfl rfl ?_
  by_cases hc10 : x12 ≤ x9
  · rw [if_pos hc10] at h
    refine g_icmpF 219 320 (show op 285 216 = some (.if_icmp .gt 104, 3) by decide +kernel) rfl rfl (decide_eq_false (Int.not_lt.mpr hc10)) ?_
    refine g_iload 221 (show op 285 219 = some (.iload 4, 2) by decide +kernel) rfl rfl ?_
    refine g_iload 223 (show op 285 221 = some (.iload 12, 2) by decide +kernel) rfl rfl ?_
    obtain ⟨g1, h⟩ := h
    refine g_iadd 224 (show op 285 223 = some (.iadd, 1) by decide +kernel) rfl g1 ?_
    refine g_bipush 226 (show op 285 224 = some (.bipush 100, 2) by decide +kernel) rfl (by decide) ?_
    refine g_iload_n 227 (show op 285 226 = some (.iload_n 1, 1) by decide +kernel) rfl rfl ?_
    obtain ⟨g2, h⟩ := h
    refine g_imul 228 (show op 285 227 = some (.imul, 1) by decide +kernel) rfl g2 ?_
    by_cases hc11 : (x4 + x12) = (100 * x1)
    · rw [if_pos hc11] at h
      refine g_icmpT 246 (show op 285 228 = some (.if_icmp .eq 18, 3) by decide +kernel) rfl (decide_eq_true hc11) ?_
      exact h
    · rw [if_neg hc11] at h
      refine g_icmpF 231 246 (show op 285 228 = some (.if_icmp .eq 18, 3) by decide +kernel) rfl rfl (decide_eq_false hc11) ?_
      refine g_aload_n 232 (show op 285 231 = some (.aload_n 0, 1) by decide +kernel) rfl rfl ?_
      refine g_iload_n 233 (show op 285 232 = some (.iload_n 3, 1) by decide +kernel) rfl rfl ?_
      refine g_iload 235 (show op 285 233 = some (.iload 4, 2) by decide +kernel) rfl rfl ?_
      refine g_iload 237 (show op 285 235 = some (.iload 12, 2) by decide +kernel) rfl rfl ?_
      obtain ⟨g3, h⟩ := h
      refine g_iadd 238 (show op 285 237 = some (.iadd, 1) by decide +kernel) rfl g3 ?_
      refine g_iconst 239 (show op 285 238 = some (.iconst 1, 1) by decide +kernel) rfl rfl ?_
      obtain ⟨g4, h⟩ := h
      refine g_isub 240 (show op 285 239 = some (.isub, 1) by decide +kernel) rfl g4 ?_
      obtain ⟨v6, s5, hD7, h⟩ := h
      refine g_call 243 [(.inl v6)] (show op 285 240 = some (.invokevirtual 256, 3) by decide +kernel) (call_vi' (k' := 0) (n' := 0) (nj := 3) (j := 286) (k9 := 21) (t := []) (as := [(.inr (.inr (some 682))), (.inl x3), (.inl ((x4 + x12) - 1))]) (by decide +kernel) rfl (by decide +kernel) rfl rfl rfl rfl rfl rfl (by decide +kernel) (by decide +kernel)) hD7 rfl ?_
      by_cases hc12 : v6 = 0
      · rw [if_pos hc12] at h
        refine g_ifF 246 250 (show op 285 243 = some (.ifCond .ne 7, 3) by decide +kernel) rfl rfl (decide_eq_false (fun h9 => h9 hc12)) ?_
        exact h
      · rw [if_neg hc12] at h
        refine g_ifT 250 (show op 285 243 = some (.ifCond .ne 7, 3) by decide +kernel) rfl (decide_eq_true hc12) ?_
        refine g_iconst 251 (show op 285 250 = some (.iconst 0, 1) by decide +kernel) rfl rfl ?_
        exact h
  · rw [if_neg hc10] at h
    refine g_icmpT 320 (show op 285 216 = some (.if_icmp .gt 104, 3) by decide +kernel) rfl (decide_eq_true (Int.not_le.mp hc10)) ?_
    refine g_aload_n 321 (show op 285 320 = some (.aload_n 0, 1) by decide +kernel) rfl rfl ?_
    refine g_getR (ci := 11) (f := 26) (fin := true) (isR := true) 324 700 (show op 285 321 = some (.getfield 61, 3) by decide +kernel) rfl (by decide +kernel) (by decide +kernel) ?_
    refine g_iload_n 325 (show op 285 324 = some (.iload_n 2, 1) by decide +kernel) rfl rfl ?_
    obtain ⟨g8, h⟩ := h
    refine g_iaload 326 256 (show op 285 325 = some (.iaload, 1) by decide +kernel) rfl (by decide +kernel) g8 ?_
    refine g_istore 328 [(some (.inr (.inr (some 682)))), (some (.inl x1)), (some (.inl x2)), (some (.inl x3)), (some (.inl x4)), (some (.inl x5)), d6, d7, d8, (some (.inl x9)), (some (.inl x10)), (some (.inl x11)), (some (.inl (σ 700 (x2).toNat))), d13, d14] (show op 285 326 = some (.istore 12, 2) by decide +kernel) rfl rfl rfl ?_
    refine g_aload_n 329 (show op 285 328 = some (.aload_n 0, 1) by decide +kernel) rfl rfl ?_
    refine g_getR (ci := 11) (f := 28) (fin := true) (isR := true) 332 702 (show op 285 329 = some (.getfield 67, 3) by decide +kernel) rfl (by decide +kernel) (by decide +kernel) ?_
    refine g_iload_n 333 (show op 285 332 = some (.iload_n 2, 1) by decide +kernel) rfl rfl ?_
    obtain ⟨g9, h⟩ := h
    refine g_iaload 334 256 (show op 285 333 = some (.iaload, 1) by decide +kernel) rfl (by decide +kernel) g9 ?_
    refine g_istore 336 [(some (.inr (.inr (some 682)))), (some (.inl x1)), (some (.inl x2)), (some (.inl x3)), (some (.inl x4)), (some (.inl x5)), d6, d7, d8, (some (.inl x9)), (some (.inl x10)), (some (.inl x11)), (some (.inl (σ 700 (x2).toNat))), (some (.inl (σ 702 (x2).toNat))), d14] (show op 285 334 = some (.istore 13, 2) by decide +kernel) rfl rfl rfl ?_
    refine g_iconst 337 (show op 285 336 = some (.iconst 0, 1) by decide +kernel) rfl rfl ?_
    refine g_istore 339 [(some (.inr (.inr (some 682)))), (some (.inl x1)), (some (.inl x2)), (some (.inl x3)), (some (.inl x4)), (some (.inl x5)), d6, d7, d8, (some (.inl x9)), (some (.inl x10)), (some (.inl x11)), (some (.inl (σ 700 (x2).toNat))), (some (.inl (σ 702 (x2).toNat))), (some (.inl 0))] (show op 285 337 = some (.istore 14, 2) by decide +kernel) rfl rfl rfl ?_
    exact h
theorem b285_246 {x1 : Int} {x2 : Int} {x3 : Int} {x4 : Int} {x5 : Int} {d6 : Option AV} {d7 : Option AV} {d8 : Option AV} {x9 : Int} {x10 : Int} {x11 : Int} {x12 : Int} {d13 : Option AV} {d14 : Option AV} {σ : Sg} {o : Rs}   (h : C285_251 x1 x2 x3 x4 x5 d6 d7 d8 x9 x10 x11 x12 d13 d14 1 σ o) : C285_246 x1 x2 x3 x4 x5 d6 d7 d8 x9 x10 x11 x12 d13 d14 σ o := by
  show Gd 285 246 [(some (.inr (.inr (some 682)))), (some (.inl x1)), (some (.inl x2)), (some (.inl x3)), (some (.inl x4)), (some (.inl x5)), d6, d7, d8, (some (.inl x9)), (some (.inl x10)), (some (.inl x11)), (some (.inl x12)), d13, d14] [] σ 0 0 o
  refine g_iconst 247 (show op 285 246 = some (.iconst 1, 1) by decide +kernel) rfl rfl ?_
  refine g_goto 251 (show op 285 247 = some (.goto 4, 3) by decide +kernel) rfl ?_
  exact h
theorem b285_251 {x1 : Int} {x2 : Int} {x3 : Int} {x4 : Int} {x5 : Int} {d6 : Option AV} {d7 : Option AV} {d8 : Option AV} {x9 : Int} {x10 : Int} {x11 : Int} {x12 : Int} {d13 : Option AV} {d14 : Option AV} {y0 : Int} {σ : Sg} {o : Rs}   (h : C285_264 x1 x2 x3 x4 x5 d6 d7 d8 x9 x10 x11 x12 (some (.inl y0)) d14 (if y0 = 0 then 0 else 10) σ o) : C285_251 x1 x2 x3 x4 x5 d6 d7 d8 x9 x10 x11 x12 d13 d14 y0 σ o := by
  show Gd 285 251 [(some (.inr (.inr (some 682)))), (some (.inl x1)), (some (.inl x2)), (some (.inl x3)), (some (.inl x4)), (some (.inl x5)), d6, d7, d8, (some (.inl x9)), (some (.inl x10)), (some (.inl x11)), (some (.inl x12)), d13, d14] [(.inl y0)] σ 0 0 o
  refine g_istore 253 [(some (.inr (.inr (some 682)))), (some (.inl x1)), (some (.inl x2)), (some (.inl x3)), (some (.inl x4)), (some (.inl x5)), d6, d7, d8, (some (.inl x9)), (some (.inl x10)), (some (.inl x11)), (some (.inl x12)), (some (.inl y0)), d14] (show op 285 251 = some (.istore 13, 2) by decide +kernel) rfl rfl rfl ?_
  refine g_iload 255 (show op 285 253 = some (.iload 13, 2) by decide +kernel) rfl rfl ?_
  by_cases hc1 : y0 = 0
  · refine g_ifT 263 (show op 285 255 = some (.ifCond .eq 8, 3) by decide +kernel) rfl (decide_eq_true hc1) ?_
    refine g_iconst 264 (show op 285 263 = some (.iconst 0, 1) by decide +kernel) rfl rfl ?_
    have h9 := h; simp only [if_pos hc1] at h9; exact h9
  · refine g_ifF 258 263 (show op 285 255 = some (.ifCond .eq 8, 3) by decide +kernel) rfl rfl (decide_eq_false hc1) ?_
    refine g_bipush 260 (show op 285 258 = some (.bipush 10, 2) by decide +kernel) rfl (by decide) ?_
    refine g_goto 264 (show op 285 260 = some (.goto 4, 3) by decide +kernel) rfl ?_
    have h9 := h; simp only [if_neg hc1] at h9; exact h9
theorem b285_339 {x1 : Int} {d2 : Option AV} {x3 : Int} {d4 : Option AV} {x5 : Int} {d6 : Option AV} {d7 : Option AV} {d8 : Option AV} {d9 : Option AV} {x10 : Int} {d11 : Option AV} {x12 : Int} {x13 : Int} {x14 : Int} {σ : Sg} {o : Rs}   (h : (if x14 = x10 then o = (.inl none, σ) else C285_365 x1 d2 x3 d4 x5 d6 d7 d8 d9 x10 d11 x12 x13 x14 x1 x3 x12 x13 x5 (if x10 < 0 then 1 else 0) σ o)) : C285_339 x1 d2 x3 d4 x5 d6 d7 d8 d9 x10 d11 x12 x13 x14 σ o := by
  show Gd 285 339 [(some (.inr (.inr (some 682)))), (some (.inl x1)), d2, (some (.inl x3)), d4, (some (.inl x5)), d6, d7, d8, d9, (some (.inl x10)), d11, (some (.inl x12)), (some (.inl x13)), (some (.inl x14))] [] σ 0 0 o
  refine g_iload 341 (show op 285 339 = some (.iload 14, 2) by decide +kernel) rfl rfl ?_
  refine g_iload 343 (show op 285 341 = some (.iload 10, 2) by decide +kernel) rfl rfl ?_
  by_cases hc1 : x14 = x10
  · rw [if_pos hc1] at h
    refine g_icmpT 416 (show op 285 343 = some (.if_icmp .eq 73, 3) by decide +kernel) rfl (decide_eq_true hc1) ?_
    exact g_vret (show op 285 416 = some (.return_, 1) by decide +kernel) (by decide +kernel) h
  · rw [if_neg hc1] at h
    refine g_icmpF 346 416 (show op 285 343 = some (.if_icmp .eq 73, 3) by decide +kernel) rfl rfl (decide_eq_false hc1) ?_
    refine g_aload_n 347 (show op 285 346 = some (.aload_n 0, 1) by decide +kernel) rfl rfl ?_
    refine g_iload_n 348 (show op 285 347 = some (.iload_n 1, 1) by decide +kernel) rfl rfl ?_
    refine g_iload_n 349 (show op 285 348 = some (.iload_n 3, 1) by decide +kernel) rfl rfl ?_
    refine g_iload 351 (show op 285 349 = some (.iload 12, 2) by decide +kernel) rfl rfl ?_
    refine g_iload 353 (show op 285 351 = some (.iload 13, 2) by decide +kernel) rfl rfl ?_
    refine g_iload 355 (show op 285 353 = some (.iload 5, 2) by decide +kernel) rfl rfl ?_
    refine g_iload 357 (show op 285 355 = some (.iload 10, 2) by decide +kernel) rfl rfl ?_
    by_cases hc2 : x10 < 0
    · refine g_ifF 360 364 (show op 285 357 = some (.ifCond .ge 7, 3) by decide +kernel) rfl rfl (decide_eq_false (Int.not_le.mpr hc2)) ?_
      refine g_iconst 361 (show op 285 360 = some (.iconst 1, 1) by decide +kernel) rfl rfl ?_
      refine g_goto 365 (show op 285 361 = some (.goto 4, 3) by decide +kernel) rfl ?_
      have h9 := h; simp only [if_pos hc2] at h9; exact h9
    · refine g_ifT 364 (show op 285 357 = some (.ifCond .ge 7, 3) by decide +kernel) rfl (decide_eq_true (Int.not_lt.mp hc2)) ?_
      refine g_iconst 365 (show op 285 364 = some (.iconst 0, 1) by decide +kernel) rfl rfl ?_
      have h9 := h; simp only [if_neg hc2] at h9; exact h9
theorem b285_264 {x1 : Int} {x2 : Int} {x3 : Int} {x4 : Int} {x5 : Int} {d6 : Option AV} {d7 : Option AV} {d8 : Option AV} {x9 : Int} {x10 : Int} {x11 : Int} {x12 : Int} {d13 : Option AV} {d14 : Option AV} {y0 : Int} {σ : Sg} {o : Rs}   (h : (-2147483648 ≤ (y0 + 3) ∧ (y0 + 3) ≤ 2147483647) ∧ (-2147483648 ≤ (x4 + x12) ∧ (x4 + x12) ≤ 2147483647) ∧ (∃ (v4 : Int) (s3 : Sg), Dd 286 [(.inr (.inr (some 682))), (.inl x3), (.inl (x4 + x12))] σ (.inl (some (.inl v4)), s3) ∧ (∃ (v7 : Int) (s6 : Sg), Dd 251 [(.inl v4)] s3 (.inl (some (.inl v7)), s6) ∧ (-2147483648 ≤ ((y0 + 3) - v7) ∧ ((y0 + 3) - v7) ≤ 2147483647) ∧ C285_296 x1 x2 x3 x4 x5 d6 d7 d8 x9 (some (.inl x10)) x11 x12 d13 ((y0 + 3) - v7) (if x11 ≤ ((y0 + 3) - v7) then x12 else x10) s6 o))) : C285_264 x1 x2 x3 x4 x5 d6 d7 d8 x9 x10 x11 x12 d13 d14 y0 σ o := by
  show Gd 285 264 [(some (.inr (.inr (some 682)))), (some (.inl x1)), (some (.inl x2)), (some (.inl x3)), (some (.inl x4)), (some (.inl x5)), d6, d7, d8, (some (.inl x9)), (some (.inl x10)), (some (.inl x11)), (some (.inl x12)), d13, d14] [(.inl y0)] σ 0 0 o
  refine g_iconst 265 (show op 285 264 = some (.iconst 3, 1) by decide +kernel) rfl rfl ?_
  obtain ⟨g1, h⟩ := h
  refine g_iadd 266 (show op 285 265 = some (.iadd, 1) by decide +kernel) rfl g1 ?_
  refine g_aload_n 267 (show op 285 266 = some (.aload_n 0, 1) by decide +kernel) rfl rfl ?_
  refine g_iload_n 268 (show op 285 267 = some (.iload_n 3, 1) by decide +kernel) rfl rfl ?_
  refine g_iload 270 (show op 285 268 = some (.iload 4, 2) by decide +kernel) rfl rfl ?_
  refine g_iload 272 (show op 285 270 = some (.iload 12, 2) by decide +kernel) rfl rfl ?_
  obtain ⟨g2, h⟩ := h
  refine g_iadd 273 (show op 285 272 = some (.iadd, 1) by decide +kernel) rfl g2 ?_
  obtain ⟨v4, s3, hD5, h⟩ := h
  refine g_call 276 [(.inl v4), (.inl (y0 + 3))] (show op 285 273 = some (.invokevirtual 256, 3) by decide +kernel) (call_vi' (k' := 0) (n' := 0) (nj := 3) (j := 286) (k9 := 21) (t := [(.inl (y0 + 3))]) (as := [(.inr (.inr (some 682))), (.inl x3), (.inl (x4 + x12))]) (by decide +kernel) rfl (by decide +kernel) rfl rfl rfl rfl rfl rfl (by decide +kernel) (by decide +kernel)) hD5 rfl ?_
  obtain ⟨v7, s6, hD8, h⟩ := h
  refine g_call 279 [(.inl v7), (.inl (y0 + 3))] (show op 285 276 = some (.invokestatic 260, 3) by decide +kernel) (call_st' (k' := 0) (n' := 0) (nj := 1) (j := 251) (t := [(.inl (y0 + 3))]) (as := [(.inl v4)]) (by decide +kernel) rfl (by decide +kernel) rfl rfl rfl rfl rfl) hD8 rfl ?_
  obtain ⟨g9, h⟩ := h
  refine g_isub 280 (show op 285 279 = some (.isub, 1) by decide +kernel) rfl g9 ?_
  refine g_istore 282 [(some (.inr (.inr (some 682)))), (some (.inl x1)), (some (.inl x2)), (some (.inl x3)), (some (.inl x4)), (some (.inl x5)), d6, d7, d8, (some (.inl x9)), (some (.inl x10)), (some (.inl x11)), (some (.inl x12)), d13, (some (.inl ((y0 + 3) - v7)))] (show op 285 280 = some (.istore 14, 2) by decide +kernel) rfl rfl rfl ?_
  refine g_iload 284 (show op 285 282 = some (.iload 14, 2) by decide +kernel) rfl rfl ?_
  refine g_iload 286 (show op 285 284 = some (.iload 11, 2) by decide +kernel) rfl rfl ?_
  by_cases hc10 : x11 ≤ ((y0 + 3) - v7)
  · refine g_icmpF 289 294 (show op 285 286 = some (.if_icmp .lt 8, 3) by decide +kernel) rfl rfl (decide_eq_false (Int.not_lt.mpr hc10)) ?_
    refine g_iload 291 (show op 285 289 = some (.iload 12, 2) by decide +kernel) rfl rfl ?_
    refine g_goto 296 (show op 285 291 = some (.goto 5, 3) by decide +kernel) rfl ?_
    have h9 := h; simp only [if_pos hc10] at h9; exact h9
  · refine g_icmpT 294 (show op 285 286 = some (.if_icmp .lt 8, 3) by decide +kernel) rfl (decide_eq_true (Int.not_le.mp hc10)) ?_
    refine g_iload 296 (show op 285 294 = some (.iload 10, 2) by decide +kernel) rfl rfl ?_
    have h9 := h; simp only [if_neg hc10] at h9; exact h9
theorem b285_365 {x1 : Int} {d2 : Option AV} {x3 : Int} {d4 : Option AV} {x5 : Int} {d6 : Option AV} {d7 : Option AV} {d8 : Option AV} {d9 : Option AV} {x10 : Int} {d11 : Option AV} {x12 : Int} {x13 : Int} {x14 : Int} {y1 : Int} {y2 : Int} {y3 : Int} {y4 : Int} {y5 : Int} {y6 : Int} {σ : Sg} {o : Rs}   (h : (∃ (s1 : Sg), Dd 284 [(.inr (.inr (some 682))), (.inl y1), (.inl y2), (.inl y3), (.inl y4), (.inl y5), (.inl y6)] σ (.inl none, s1) ∧ C285_380 x1 d2 x3 d4 x5 d6 d7 d8 d9 x10 d11 (some (.inl x12)) x13 x14 x12 (if x10 < 0 then (-1) else 1) s1 o)) : C285_365 x1 d2 x3 d4 x5 d6 d7 d8 d9 x10 d11 x12 x13 x14 y1 y2 y3 y4 y5 y6 σ o := by
  show Gd 285 365 [(some (.inr (.inr (some 682)))), (some (.inl x1)), d2, (some (.inl x3)), d4, (some (.inl x5)), d6, d7, d8, d9, (some (.inl x10)), d11, (some (.inl x12)), (some (.inl x13)), (some (.inl x14))] [(.inl y6), (.inl y5), (.inl y4), (.inl y3), (.inl y2), (.inl y1), (.inr (.inr (some 682)))] σ 0 0 o
  obtain ⟨s1, hD2, h⟩ := h
  refine g_call 368 [] (show op 285 365 = some (.invokevirtual 263, 3) by decide +kernel) (call_vi' (k' := 0) (n' := 0) (nj := 7) (j := 284) (k9 := 21) (t := []) (as := [(.inr (.inr (some 682))), (.inl y1), (.inl y2), (.inl y3), (.inl y4), (.inl y5), (.inl y6)]) (by decide +kernel) rfl (by decide +kernel) rfl rfl rfl rfl rfl rfl (by decide +kernel) (by decide +kernel)) hD2 rfl ?_
  refine g_iload 370 (show op 285 368 = some (.iload 12, 2) by decide +kernel) rfl rfl ?_
  refine g_iload 372 (show op 285 370 = some (.iload 10, 2) by decide +kernel) rfl rfl ?_
  by_cases hc3 : x10 < 0
  · refine g_ifF 375 379 (show op 285 372 = some (.ifCond .ge 7, 3) by decide +kernel) rfl rfl (decide_eq_false (Int.not_le.mpr hc3)) ?_
    refine g_iconst 376 (show op 285 375 = some (.iconst (-1), 1) by decide +kernel) rfl rfl ?_
    refine g_goto 380 (show op 285 376 = some (.goto 4, 3) by decide +kernel) rfl ?_
    have h9 := h; simp only [if_pos hc3] at h9; exact h9
  · refine g_ifT 379 (show op 285 372 = some (.ifCond .ge 7, 3) by decide +kernel) rfl (decide_eq_true (Int.not_lt.mp hc3)) ?_
    refine g_iconst 380 (show op 285 379 = some (.iconst 1, 1) by decide +kernel) rfl rfl ?_
    have h9 := h; simp only [if_neg hc3] at h9; exact h9
theorem b285_296 {x1 : Int} {x2 : Int} {x3 : Int} {x4 : Int} {x5 : Int} {d6 : Option AV} {d7 : Option AV} {d8 : Option AV} {x9 : Int} {d10 : Option AV} {x11 : Int} {x12 : Int} {d13 : Option AV} {x14 : Int} {y0 : Int} {σ : Sg} {o : Rs}   (h : C285_312 x1 x2 x3 x4 x5 d6 d7 d8 x9 y0 (some (.inl x11)) x12 d13 (some (.inl x14)) (if x11 ≤ x14 then x14 else x11) σ o) : C285_296 x1 x2 x3 x4 x5 d6 d7 d8 x9 d10 x11 x12 d13 x14 y0 σ o := by
  show Gd 285 296 [(some (.inr (.inr (some 682)))), (some (.inl x1)), (some (.inl x2)), (some (.inl x3)), (some (.inl x4)), (some (.inl x5)), d6, d7, d8, (some (.inl x9)), d10, (some (.inl x11)), (some (.inl x12)), d13, (some (.inl x14))] [(.inl y0)] σ 0 0 o
  refine g_istore 298 [(some (.inr (.inr (some 682)))), (some (.inl x1)), (some (.inl x2)), (some (.inl x3)), (some (.inl x4)), (some (.inl x5)), d6, d7, d8, (some (.inl x9)), (some (.inl y0)), (some (.inl x11)), (some (.inl x12)), d13, (some (.inl x14))] (show op 285 296 = some (.istore 10, 2) by decide +kernel) rfl rfl rfl ?_
  refine g_iload 300 (show op 285 298 = some (.iload 14, 2) by decide +kernel) rfl rfl ?_
  refine g_iload 302 (show op 285 300 = some (.iload 11, 2) by decide +kernel) rfl rfl ?_
  by_cases hc1 : x11 ≤ x14
  · refine g_icmpF 305 310 (show op 285 302 = some (.if_icmp .lt 8, 3) by decide +kernel) rfl rfl (decide_eq_false (Int.not_lt.mpr hc1)) ?_
    refine g_iload 307 (show op 285 305 = some (.iload 14, 2) by decide +kernel) rfl rfl ?_
    refine g_goto 312 (show op 285 307 = some (.goto 5, 3) by decide +kernel) rfl ?_
    have h9 := h; simp only [if_pos hc1] at h9; exact h9
  · refine g_icmpT 310 (show op 285 302 = some (.if_icmp .lt 8, 3) by decide +kernel) rfl (decide_eq_true (Int.not_le.mp hc1)) ?_
    refine g_iload 312 (show op 285 310 = some (.iload 11, 2) by decide +kernel) rfl rfl ?_
    have h9 := h; simp only [if_neg hc1] at h9; exact h9
theorem b285_380 {x1 : Int} {d2 : Option AV} {x3 : Int} {d4 : Option AV} {x5 : Int} {d6 : Option AV} {d7 : Option AV} {d8 : Option AV} {d9 : Option AV} {x10 : Int} {d11 : Option AV} {d12 : Option AV} {x13 : Int} {x14 : Int} {y0 : Int} {y1 : Int} {σ : Sg} {o : Rs}   (h : (-2147483648 ≤ (y0 + y1) ∧ (y0 + y1) ≤ 2147483647) ∧ C285_395 x1 d2 x3 d4 x5 d6 d7 d8 d9 x10 d11 (y0 + y1) (some (.inl x13)) x14 x13 (if x10 < 0 then (-1) else 1) σ o) : C285_380 x1 d2 x3 d4 x5 d6 d7 d8 d9 x10 d11 d12 x13 x14 y0 y1 σ o := by
  show Gd 285 380 [(some (.inr (.inr (some 682)))), (some (.inl x1)), d2, (some (.inl x3)), d4, (some (.inl x5)), d6, d7, d8, d9, (some (.inl x10)), d11, d12, (some (.inl x13)), (some (.inl x14))] [(.inl y1), (.inl y0)] σ 0 0 o
  obtain ⟨g1, h⟩ := h
  refine g_iadd 381 (show op 285 380 = some (.iadd, 1) by decide +kernel) rfl g1 ?_
  refine g_istore 383 [(some (.inr (.inr (some 682)))), (some (.inl x1)), d2, (some (.inl x3)), d4, (some (.inl x5)), d6, d7, d8, d9, (some (.inl x10)), d11, (some (.inl (y0 + y1))), (some (.inl x13)), (some (.inl x14))] (show op 285 381 = some (.istore 12, 2) by decide +kernel) rfl rfl rfl ?_
  refine g_iload 385 (show op 285 383 = some (.iload 13, 2) by decide +kernel) rfl rfl ?_
  refine g_iload 387 (show op 285 385 = some (.iload 10, 2) by decide +kernel) rfl rfl ?_
  by_cases hc2 : x10 < 0
  · refine g_ifF 390 394 (show op 285 387 = some (.ifCond .ge 7, 3) by decide +kernel) rfl rfl (decide_eq_false (Int.not_le.mpr hc2)) ?_
    refine g_iconst 391 (show op 285 390 = some (.iconst (-1), 1) by decide +kernel) rfl rfl ?_
    refine g_goto 395 (show op 285 391 = some (.goto 4, 3) by decide +kernel) rfl ?_
    have h9 := h; simp only [if_pos hc2] at h9; exact h9
  · refine g_ifT 394 (show op 285 387 = some (.ifCond .ge 7, 3) by decide +kernel) rfl (decide_eq_true (Int.not_lt.mp hc2)) ?_
    refine g_iconst 395 (show op 285 394 = some (.iconst 1, 1) by decide +kernel) rfl rfl ?_
    have h9 := h; simp only [if_neg hc2] at h9; exact h9
theorem b285_312 {x1 : Int} {x2 : Int} {x3 : Int} {x4 : Int} {x5 : Int} {d6 : Option AV} {d7 : Option AV} {d8 : Option AV} {x9 : Int} {x10 : Int} {d11 : Option AV} {x12 : Int} {d13 : Option AV} {d14 : Option AV} {y0 : Int} {σ : Sg} {o : Rs}   (h : (-2147483648 ≤ (x12 + 1) ∧ (x12 + 1) ≤ 2147483647) ∧ C285_212 x1 x2 x3 x4 x5 d6 d7 d8 x9 x10 y0 (x12 + 1) d13 d14 σ o) : C285_312 x1 x2 x3 x4 x5 d6 d7 d8 x9 x10 d11 x12 d13 d14 y0 σ o := by
  show Gd 285 312 [(some (.inr (.inr (some 682)))), (some (.inl x1)), (some (.inl x2)), (some (.inl x3)), (some (.inl x4)), (some (.inl x5)), d6, d7, d8, (some (.inl x9)), (some (.inl x10)), d11, (some (.inl x12)), d13, d14] [(.inl y0)] σ 0 0 o
  refine g_istore 314 [(some (.inr (.inr (some 682)))), (some (.inl x1)), (some (.inl x2)), (some (.inl x3)), (some (.inl x4)), (some (.inl x5)), d6, d7, d8, (some (.inl x9)), (some (.inl x10)), (some (.inl y0)), (some (.inl x12)), d13, d14] (show op 285 312 = some (.istore 11, 2) by decide +kernel) rfl rfl rfl ?_
  obtain ⟨g1, h⟩ := h
  refine g_iinc 317 [(some (.inr (.inr (some 682)))), (some (.inl x1)), (some (.inl x2)), (some (.inl x3)), (some (.inl x4)), (some (.inl x5)), d6, d7, d8, (some (.inl x9)), (some (.inl x10)), (some (.inl y0)), (some (.inl (x12 + 1))), d13, d14] (show op 285 314 = some (.iinc 12 1, 3) by decide +kernel) rfl rfl g1 rfl ?_
  refine g_goto 212 (show op 285 317 = some (.goto (-105), 3) by decide +kernel) rfl ?_
  exact h
theorem b285_395 {x1 : Int} {d2 : Option AV} {x3 : Int} {d4 : Option AV} {x5 : Int} {d6 : Option AV} {d7 : Option AV} {d8 : Option AV} {d9 : Option AV} {x10 : Int} {d11 : Option AV} {x12 : Int} {d13 : Option AV} {x14 : Int} {y0 : Int} {y1 : Int} {σ : Sg} {o : Rs}   (h : (-2147483648 ≤ (y0 + y1) ∧ (y0 + y1) ≤ 2147483647) ∧ C285_410 x1 d2 x3 d4 x5 d6 d7 d8 d9 x10 d11 x12 (y0 + y1) (some (.inl x14)) x14 (if x10 < 0 then (-1) else 1) σ o) : C285_395 x1 d2 x3 d4 x5 d6 d7 d8 d9 x10 d11 x12 d13 x14 y0 y1 σ o := by
  show Gd 285 395 [(some (.inr (.inr (some 682)))), (some (.inl x1)), d2, (some (.inl x3)), d4, (some (.inl x5)), d6, d7, d8, d9, (some (.inl x10)), d11, (some (.inl x12)), d13, (some (.inl x14))] [(.inl y1), (.inl y0)] σ 0 0 o
  obtain ⟨g1, h⟩ := h
  refine g_iadd 396 (show op 285 395 = some (.iadd, 1) by decide +kernel) rfl g1 ?_
  refine g_istore 398 [(some (.inr (.inr (some 682)))), (some (.inl x1)), d2, (some (.inl x3)), d4, (some (.inl x5)), d6, d7, d8, d9, (some (.inl x10)), d11, (some (.inl x12)), (some (.inl (y0 + y1))), (some (.inl x14))] (show op 285 396 = some (.istore 13, 2) by decide +kernel) rfl rfl rfl ?_
  refine g_iload 400 (show op 285 398 = some (.iload 14, 2) by decide +kernel) rfl rfl ?_
  refine g_iload 402 (show op 285 400 = some (.iload 10, 2) by decide +kernel) rfl rfl ?_
  by_cases hc2 : x10 < 0
  · refine g_ifF 405 409 (show op 285 402 = some (.ifCond .ge 7, 3) by decide +kernel) rfl rfl (decide_eq_false (Int.not_le.mpr hc2)) ?_
    refine g_iconst 406 (show op 285 405 = some (.iconst (-1), 1) by decide +kernel) rfl rfl ?_
    refine g_goto 410 (show op 285 406 = some (.goto 4, 3) by decide +kernel) rfl ?_
    have h9 := h; simp only [if_pos hc2] at h9; exact h9
  · refine g_ifT 409 (show op 285 402 = some (.ifCond .ge 7, 3) by decide +kernel) rfl (decide_eq_true (Int.not_lt.mp hc2)) ?_
    refine g_iconst 410 (show op 285 409 = some (.iconst 1, 1) by decide +kernel) rfl rfl ?_
    have h9 := h; simp only [if_neg hc2] at h9; exact h9
theorem b285_410 {x1 : Int} {d2 : Option AV} {x3 : Int} {d4 : Option AV} {x5 : Int} {d6 : Option AV} {d7 : Option AV} {d8 : Option AV} {d9 : Option AV} {x10 : Int} {d11 : Option AV} {x12 : Int} {x13 : Int} {d14 : Option AV} {y0 : Int} {y1 : Int} {σ : Sg} {o : Rs}   (h : (-2147483648 ≤ (y0 + y1) ∧ (y0 + y1) ≤ 2147483647) ∧ C285_339 x1 d2 x3 d4 x5 d6 d7 d8 d9 x10 d11 x12 x13 (y0 + y1) σ o) : C285_410 x1 d2 x3 d4 x5 d6 d7 d8 d9 x10 d11 x12 x13 d14 y0 y1 σ o := by
  show Gd 285 410 [(some (.inr (.inr (some 682)))), (some (.inl x1)), d2, (some (.inl x3)), d4, (some (.inl x5)), d6, d7, d8, d9, (some (.inl x10)), d11, (some (.inl x12)), (some (.inl x13)), d14] [(.inl y1), (.inl y0)] σ 0 0 o
  obtain ⟨g1, h⟩ := h
  refine g_iadd 411 (show op 285 410 = some (.iadd, 1) by decide +kernel) rfl g1 ?_
  refine g_istore 413 [(some (.inr (.inr (some 682)))), (some (.inl x1)), d2, (some (.inl x3)), d4, (some (.inl x5)), d6, d7, d8, d9, (some (.inl x10)), d11, (some (.inl x12)), (some (.inl x13)), (some (.inl (y0 + y1)))] (show op 285 411 = some (.istore 14, 2) by decide +kernel) rfl rfl rfl ?_
  refine g_goto 339 (show op 285 413 = some (.goto (-74), 3) by decide +kernel) rfl ?_
  exact h
/-- PatchBenchModel.shifts (II)V -/
theorem b285 {x1 : Int} {x2 : Int} {σ : Sg} {o : Rs}   (h : (0 ≤ x2 ∧ x2 < 256) ∧ C285_14 x1 x2 none none none none none none none none none none none none (if (σ 701 (x2).toNat) = 0 then 1 else 0) σ o) : Dd 285 [(.inr (.inr (some 682))), (.inl x1), (.inl x2)] σ o := by
  refine Dd_of (l := 15) (by decide +kernel) ?_
  show Gd 285 0 [(some (.inr (.inr (some 682)))), (some (.inl x1)), (some (.inl x2)), none, none, none, none, none, none, none, none, none, none, none, none] [] σ 0 0 o
  refine g_aload_n 1 (show op 285 0 = some (.aload_n 0, 1) by decide +kernel) rfl rfl ?_
  refine g_getR (ci := 11) (f := 27) (fin := true) (isR := true) 4 701 (show op 285 1 = some (.getfield 64, 3) by decide +kernel) rfl (by decide +kernel) (by decide +kernel) ?_
  refine g_iload_n 5 (show op 285 4 = some (.iload_n 2, 1) by decide +kernel) rfl rfl ?_
  obtain ⟨g1, h⟩ := h
  refine g_iaload 6 256 (show op 285 5 = some (.iaload, 1) by decide +kernel) rfl (by decide +kernel) g1 ?_
  by_cases hc2 : (σ 701 (x2).toNat) = 0
  · refine g_ifF 9 13 (show op 285 6 = some (.ifCond .ne 7, 3) by decide +kernel) rfl rfl (decide_eq_false (fun h9 => h9 hc2)) ?_
    refine g_iconst 10 (show op 285 9 = some (.iconst 1, 1) by decide +kernel) rfl rfl ?_
    refine g_goto 14 (show op 285 10 = some (.goto 4, 3) by decide +kernel) rfl ?_
    have h9 := h; simp only [if_pos hc2] at h9; exact h9
  · refine g_ifT 13 (show op 285 6 = some (.ifCond .ne 7, 3) by decide +kernel) rfl (decide_eq_true hc2) ?_
    refine g_iconst 14 (show op 285 13 = some (.iconst 0, 1) by decide +kernel) rfl rfl ?_
    have h9 := h; simp only [if_neg hc2] at h9; exact h9
/-- PatchBenchModel.lineOf (ZI)I -/
theorem b286 {x1 : Int} {x2 : Int} {σ : Sg} {o : Rs}   (h : ((x1 = 0) → 0 ≤ x2 ∧ x2 < 4400) ∧ (¬ (x1 = 0) → 0 ≤ x2 ∧ x2 < 4400) ∧ o = (.inl (some (.inl (if x1 = 0 then (σ 685 (x2).toNat) else (σ 686 (x2).toNat)))), σ)) : Dd 286 [(.inr (.inr (some 682))), (.inl x1), (.inl x2)] σ o := by
  refine Dd_of (l := 3) (by decide +kernel) ?_
  show Gd 286 0 [(some (.inr (.inr (some 682)))), (some (.inl x1)), (some (.inl x2))] [] σ 0 0 o
  refine g_iload_n 1 (show op 286 0 = some (.iload_n 1, 1) by decide +kernel) rfl rfl ?_
  obtain ⟨G4, G5, h⟩ := h
  by_cases hc3 : x1 = 0
  · refine g_ifT 13 (show op 286 1 = some (.ifCond .eq 12, 3) by decide +kernel) rfl (decide_eq_true hc3) ?_
    refine g_aload_n 14 (show op 286 13 = some (.aload_n 0, 1) by decide +kernel) rfl rfl ?_
    refine g_getR (ci := 11) (f := 4) (fin := true) (isR := true) 17 685 (show op 286 14 = some (.getfield 16, 3) by decide +kernel) rfl (by decide +kernel) (by decide +kernel) ?_
    refine g_iload_n 18 (show op 286 17 = some (.iload_n 2, 1) by decide +kernel) rfl rfl ?_
    have g1 := G4 hc3
    refine g_iaload 19 4400 (show op 286 18 = some (.iaload, 1) by decide +kernel) rfl (by decide +kernel) g1 ?_
    have h9 := h; simp only [if_pos hc3] at h9; exact (g_iret (show op 286 19 = some (.ireturn, 1) by decide +kernel) (by decide +kernel) h9)
  · refine g_ifF 4 13 (show op 286 1 = some (.ifCond .eq 12, 3) by decide +kernel) rfl rfl (decide_eq_false hc3) ?_
    refine g_aload_n 5 (show op 286 4 = some (.aload_n 0, 1) by decide +kernel) rfl rfl ?_
    refine g_getR (ci := 11) (f := 5) (fin := true) (isR := true) 8 686 (show op 286 5 = some (.getfield 19, 3) by decide +kernel) rfl (by decide +kernel) (by decide +kernel) ?_
    refine g_iload_n 9 (show op 286 8 = some (.iload_n 2, 1) by decide +kernel) rfl rfl ?_
    have g2 := G5 hc3
    refine g_iaload 10 4400 (show op 286 9 = some (.iaload, 1) by decide +kernel) rfl (by decide +kernel) g2 ?_
    refine g_goto 19 (show op 286 10 = some (.goto 9, 3) by decide +kernel) rfl ?_
    have h9 := h; simp only [if_neg hc3] at h9; exact (g_iret (show op 286 19 = some (.ireturn, 1) by decide +kernel) (by decide +kernel) h9)
def C287_29 (x1 : Int) (d2 : Option AV) (d3 : Option AV) (x4 : Int) (d5 : Option AV) (σ : Sg) (o : Rs) : Prop := Gd 287 29 [(some (.inr (.inr (some 682)))), (some (.inl x1)), d2, d3, (some (.inl x4)), d5] [] σ 0 0 o
def C287_85 (x1 : Int) (d2 : Option AV) (d3 : Option AV) (x4 : Int) (d5 : Option AV) (σ : Sg) (o : Rs) : Prop := Gd 287 85 [(some (.inr (.inr (some 682)))), (some (.inl x1)), d2, d3, (some (.inl x4)), d5] [] σ 0 0 o
def C287_130 (x1 : Int) (d2 : Option AV) (d3 : Option AV) (x4 : Int) (x5 : Int) (σ : Sg) (o : Rs) : Prop := Gd 287 130 [(some (.inr (.inr (some 682)))), (some (.inl x1)), d2, d3, (some (.inl x4)), (some (.inl x5))] [] σ 0 0 o
theorem b287_29 {x1 : Int} {d2 : Option AV} {d3 : Option AV} {x4 : Int} {d5 : Option AV} {σ : Sg} {o : Rs}   (h : (if x4 < (σ 682 12) then (-2147483648 ≤ (100 * x1) ∧ (100 * x1) ≤ 2147483647) ∧ (-2147483648 ≤ ((100 * x1) + x4) ∧ ((100 * x1) + x4) ≤ 2147483647) ∧ (0 ≤ x4 ∧ x4 < 64) ∧ (0 ≤ ((100 * x1) + x4) ∧ ((100 * x1) + x4) < 4400) ∧ (-2147483648 ≤ (100 * x1) ∧ (100 * x1) ≤ 2147483647) ∧ (-2147483648 ≤ ((100 * x1) + x4) ∧ ((100 * x1) + x4) ≤ 2147483647) ∧ (0 ≤ x4 ∧ x4 < 64) ∧ (0 ≤ ((100 * x1) + x4) ∧ ((100 * x1) + x4) < 4400) ∧ (-2147483648 ≤ (x4 + 1) ∧ (x4 + 1) ≤ 2147483647) ∧ C287_29 x1 d2 d3 (x4 + 1) d5 (upS (upS σ 685 ((((100 * x1) + x4)).toNat) (σ 691 (x4).toNat)) 687 ((((100 * x1) + x4)).toNat) ((upS σ 685 ((((100 * x1) + x4)).toNat) (σ 691 (x4).toNat)) 693 (x4).toNat)) o else C287_85 x1 d2 d3 0 d5 σ o)) : C287_29 x1 d2 d3 x4 d5 σ o := by
  show Gd 287 29 [(some (.inr (.inr (some 682)))), (some (.inl x1)), d2, d3, (some (.inl x4)), d5] [] σ 0 0 o
  refine g_iload 31 (show op 287 29 = some (.iload 4, 2) by decide +kernel) rfl rfl ?_
  refine g_aload_n 32 (show op 287 31 = some (.aload_n 0, 1) by decide +kernel) rfl rfl ?_
  refine g_getI (ci := 11) (f := 12) (fin := false) (isR := false) 35 (show op 287 32 = some (.getfield 181, 3) by decide +kernel) rfl (by decide +kernel) (by decide +kernel) ?_
  by_cases hc10 : x4 < (σ 682 12)
  · rw [if_pos hc10] at h
    refine g_icmpF 38 82 (show op 287 35 = some (.if_icmp .ge 47, 3) by decide +kernel) rfl rfl (decide_eq_false (Int.not_le.mpr hc10)) ?_
    refine g_aload_n 39 (show op 287 38 = some (.aload_n 0, 1) by decide +kernel) rfl rfl ?_
    refine g_getR (ci := 11) (f := 4) (fin := true) (isR := true) 42 685 (show op 287 39 = some (.getfield 16, 3) by decide +kernel) rfl (by decide +kernel) (by decide +kernel) ?_
    refine g_bipush 44 (show op 287 42 = some (.bipush 100, 2) by decide +kernel) rfl (by decide) ?_
    refine g_iload_n 45 (show op 287 44 = some (.iload_n 1, 1) by decide +kernel) rfl rfl ?_
    obtain ⟨g1, h⟩ := h
    refine g_imul 46 (show op 287 45 = some (.imul, 1) by decide +kernel) rfl g1 ?_
    refine g_iload 48 (show op 287 46 = some (.iload 4, 2) by decide +kernel) rfl rfl ?_
    obtain ⟨g2, h⟩ := h
    refine g_iadd 49 (show op 287 48 = some (.iadd, 1) by decide +kernel) rfl g2 ?_
    refine g_aload_n 50 (show op 287 49 = some (.aload_n 0, 1) by decide +kernel) rfl rfl ?_
    refine g_getR (ci := 11) (f := 10) (fin := true) (isR := true) 53 691 (show op 287 50 = some (.getfield 34, 3) by decide +kernel) rfl (by decide +kernel) (by decide +kernel) ?_
    refine g_iload 55 (show op 287 53 = some (.iload 4, 2) by decide +kernel) rfl rfl ?_
    obtain ⟨g3, h⟩ := h
    refine g_iaload 56 64 (show op 287 55 = some (.iaload, 1) by decide +kernel) rfl (by decide +kernel) g3 ?_
    obtain ⟨g4, h⟩ := h
    refine g_iastore 57 4400 (show op 287 56 = some (.iastore, 1) by decide +kernel) rfl (by decide +kernel) g4 ?_
    refine g_aload_n 58 (show op 287 57 = some (.aload_n 0, 1) by decide +kernel) rfl rfl ?_
    refine g_getR (ci := 11) (f := 6) (fin := true) (isR := true) 61 687 (show op 287 58 = some (.getfield 22, 3) by decide +kernel) rfl (by decide +kernel) (by decide +kernel) ?_
    refine g_bipush 63 (show op 287 61 = some (.bipush 100, 2) by decide +kernel) rfl (by decide) ?_
    refine g_iload_n 64 (show op 287 63 = some (.iload_n 1, 1) by decide +kernel) rfl rfl ?_
    obtain ⟨g5, h⟩ := h
    refine g_imul 65 (show op 287 64 = some (.imul, 1) by decide +kernel) rfl g5 ?_
    refine g_iload 67 (show op 287 65 = some (.iload 4, 2) by decide +kernel) rfl rfl ?_
    obtain ⟨g6, h⟩ := h
    refine g_iadd 68 (show op 287 67 = some (.iadd, 1) by decide +kernel) rfl g6 ?_
    refine g_aload_n 69 (show op 287 68 = some (.aload_n 0, 1) by decide +kernel) rfl rfl ?_
    refine g_getR (ci := 11) (f := 14) (fin := true) (isR := true) 72 693 (show op 287 69 = some (.getfield 40, 3) by decide +kernel) rfl (by decide +kernel) (by decide +kernel) ?_
    refine g_iload 74 (show op 287 72 = some (.iload 4, 2) by decide +kernel) rfl rfl ?_
    obtain ⟨g7, h⟩ := h
    refine g_iaload 75 64 (show op 287 74 = some (.iaload, 1) by decide +kernel) rfl (by decide +kernel) g7 ?_
    obtain ⟨g8, h⟩ := h
    refine g_iastore 76 4400 (show op 287 75 = some (.iastore, 1) by decide +kernel) rfl (by decide +kernel) g8 ?_
    obtain ⟨g9, h⟩ := h
    refine g_iinc 79 [(some (.inr (.inr (some 682)))), (some (.inl x1)), d2, d3, (some (.inl (x4 + 1))), d5] (show op 287 76 = some (.iinc 4 1, 3) by decide +kernel) rfl rfl g9 rfl ?_
    refine g_goto 29 (show op 287 79 = some (.goto (-50), 3) by decide +kernel) rfl ?_
    exact h
  · rw [if_neg hc10] at h
    refine g_icmpT 82 (show op 287 35 = some (.if_icmp .ge 47, 3) by decide +kernel) rfl (decide_eq_true (Int.not_lt.mp hc10)) ?_
    refine g_iconst 83 (show op 287 82 = some (.iconst 0, 1) by decide +kernel) rfl rfl ?_
    refine g_istore 85 [(some (.inr (.inr (some 682)))), (some (.inl x1)), d2, d3, (some (.inl 0)), d5] (show op 287 83 = some (.istore 4, 2) by decide +kernel) rfl rfl rfl ?_
    exact h
theorem b287_85 {x1 : Int} {d2 : Option AV} {d3 : Option AV} {x4 : Int} {d5 : Option AV} {σ : Sg} {o : Rs}   (h : (if x4 < (σ 682 13) then (-2147483648 ≤ (100 * x1) ∧ (100 * x1) ≤ 2147483647) ∧ (-2147483648 ≤ ((100 * x1) + x4) ∧ ((100 * x1) + x4) ≤ 2147483647) ∧ (0 ≤ x4 ∧ x4 < 64) ∧ (0 ≤ ((100 * x1) + x4) ∧ ((100 * x1) + x4) < 4400) ∧ (-2147483648 ≤ (x4 + 1) ∧ (x4 + 1) ≤ 2147483647) ∧ C287_85 x1 d2 d3 (x4 + 1) d5 (upS σ 686 ((((100 * x1) + x4)).toNat) (σ 692 (x4).toNat)) o else (∃ (v7 : Int) (s6 : Sg), Dd 280 [(.inr (.inr (some 682))), (.inl x1), (.inl 0)] σ (.inl (some (.inl v7)), s6) ∧ C287_130 x1 d2 d3 v7 0 s6 o))) : C287_85 x1 d2 d3 x4 d5 σ o := by
  show Gd 287 85 [(some (.inr (.inr (some 682)))), (some (.inl x1)), d2, d3, (some (.inl x4)), d5] [] σ 0 0 o
  refine g_iload 87 (show op 287 85 = some (.iload 4, 2) by decide +kernel) rfl rfl ?_
  refine g_aload_n 88 (show op 287 87 = some (.aload_n 0, 1) by decide +kernel) rfl rfl ?_
  refine g_getI (ci := 11) (f := 13) (fin := false) (isR := false) 91 (show op 287 88 = some (.getfield 184, 3) by decide +kernel) rfl (by decide +kernel) (by decide +kernel) ?_
  by_cases hc9 : x4 < (σ 682 13)
  · rw [if_pos hc9] at h
    refine g_icmpF 94 119 (show op 287 91 = some (.if_icmp .ge 28, 3) by decide +kernel) rfl rfl (decide_eq_false (Int.not_le.mpr hc9)) ?_
    refine g_aload_n 95 (show op 287 94 = some (.aload_n 0, 1) by decide +kernel) rfl rfl ?_
    refine g_getR (ci := 11) (f := 5) (fin := true) (isR := true) 98 686 (show op 287 95 = some (.getfield 19, 3) by decide +kernel) rfl (by decide +kernel) (by decide +kernel) ?_
    refine g_bipush 100 (show op 287 98 = some (.bipush 100, 2) by decide +kernel) rfl (by decide) ?_
    refine g_iload_n 101 (show op 287 100 = some (.iload_n 1, 1) by decide +kernel) rfl rfl ?_
    obtain ⟨g1, h⟩ := h
    refine g_imul 102 (show op 287 101 = some (.imul, 1) by decide +kernel) rfl g1 ?_
    refine g_iload 104 (show op 287 102 = some (.iload 4, 2) by decide +kernel) rfl rfl ?_
    obtain ⟨g2, h⟩ := h
    refine g_iadd 105 (show op 287 104 = some (.iadd, 1) by decide +kernel) rfl g2 ?_
    refine g_aload_n 106 (show op 287 105 = some (.aload_n 0, 1) by decide +kernel) rfl rfl ?_
    refine g_getR (ci := 11) (f := 11) (fin := true) (isR := true) 109 692 (show op 287 106 = some (.getfield 37, 3) by decide +kernel) rfl (by decide +kernel) (by decide +kernel) ?_
    refine g_iload 111 (show op 287 109 = some (.iload 4, 2) by decide +kernel) rfl rfl ?_
    obtain ⟨g3, h⟩ := h
    refine g_iaload 112 64 (show op 287 111 = some (.iaload, 1) by decide +kernel) rfl (by decide +kernel) g3 ?_
    obtain ⟨g4, h⟩ := h
    refine g_iastore 113 4400 (show op 287 112 = some (.iastore, 1) by decide +kernel) rfl (by decide +kernel) g4 ?_
    obtain ⟨g5, h⟩ := h
    refine g_iinc 116 [(some (.inr (.inr (some 682)))), (some (.inl x1)), d2, d3, (some (.inl (x4 + 1))), d5] (show op 287 113 = some (.iinc 4 1, 3) by decide +kernel) rfl rfl g5 rfl ?_
    refine g_goto 85 (show op 287 116 = some (.goto (-31), 3) by decide +kernel) rfl ?_
    exact h
  · rw [if_neg hc9] at h
    refine g_icmpT 119 (show op 287 91 = some (.if_icmp .ge 28, 3) by decide +kernel) rfl (decide_eq_true (Int.not_lt.mp hc9)) ?_
    refine g_aload_n 120 (show op 287 119 = some (.aload_n 0, 1) by decide +kernel) rfl rfl ?_
    refine g_iload_n 121 (show op 287 120 = some (.iload_n 1, 1) by decide +kernel) rfl rfl ?_
    refine g_iconst 122 (show op 287 121 = some (.iconst 0, 1) by decide +kernel) rfl rfl ?_
    obtain ⟨v7, s6, hD8, h⟩ := h
    refine g_call 125 [(.inl v7)] (show op 287 122 = some (.invokevirtual 267, 3) by decide +kernel) (call_vi' (k' := 0) (n' := 0) (nj := 3) (j := 280) (k9 := 21) (t := []) (as := [(.inr (.inr (some 682))), (.inl x1), (.inl 0)]) (by decide +kernel) rfl (by decide +kernel) rfl rfl rfl rfl rfl rfl (by decide +kernel) (by decide +kernel)) hD8 rfl ?_
    refine g_istore 127 [(some (.inr (.inr (some 682)))), (some (.inl x1)), d2, d3, (some (.inl v7)), d5] (show op 287 125 = some (.istore 4, 2) by decide +kernel) rfl rfl rfl ?_
    refine g_iconst 128 (show op 287 127 = some (.iconst 0, 1) by decide +kernel) rfl rfl ?_
    refine g_istore 130 [(some (.inr (.inr (some 682)))), (some (.inl x1)), d2, d3, (some (.inl v7)), (some (.inl 0))] (show op 287 128 = some (.istore 5, 2) by decide +kernel) rfl rfl rfl ?_
    exact h
theorem b287_130 {x1 : Int} {d2 : Option AV} {d3 : Option AV} {x4 : Int} {x5 : Int} {σ : Sg} {o : Rs}   (h : (if x5 < x4 then (∃ (s1 : Sg), Dd 285 [(.inr (.inr (some 682))), (.inl x1), (.inl x5)] σ (.inl none, s1) ∧ (∃ (v4 : Int) (s3 : Sg), Dd 280 [(.inr (.inr (some 682))), (.inl x1), (.inl 0)] s1 (.inl (some (.inl v4)), s3) ∧ (-2147483648 ≤ (x5 + 1) ∧ (x5 + 1) ≤ 2147483647) ∧ C287_130 x1 d2 d3 v4 (x5 + 1) s3 o)) else o = (.inl none, σ))) : C287_130 x1 d2 d3 x4 x5 σ o := by
  show Gd 287 130 [(some (.inr (.inr (some 682)))), (some (.inl x1)), d2, d3, (some (.inl x4)), (some (.inl x5))] [] σ 0 0 o
  refine g_iload 132 (show op 287 130 = some (.iload 5, 2) by decide +kernel) rfl rfl ?_
  refine g_iload 134 (show op 287 132 = some (.iload 4, 2) by decide +kernel) rfl rfl ?_
  by_cases hc7 : x5 < x4
  · rw [if_pos hc7] at h
    refine g_icmpF 137 158 (show op 287 134 = some (.if_icmp .ge 24, 3) by decide +kernel) rfl rfl (decide_eq_false (Int.not_le.mpr hc7)) ?_
    refine g_aload_n 138 (show op 287 137 = some (.aload_n 0, 1) by decide +kernel) rfl rfl ?_
    refine g_iload_n 139 (show op 287 138 = some (.iload_n 1, 1) by decide +kernel) rfl rfl ?_
    refine g_iload 141 (show op 287 139 = some (.iload 5, 2) by decide +kernel) rfl rfl ?_
    obtain ⟨s1, hD2, h⟩ := h
    refine g_call 144 [] (show op 287 141 = some (.invokevirtual 270, 3) by decide +kernel) (call_vi' (k' := 0) (n' := 0) (nj := 3) (j := 285) (k9 := 21) (t := []) (as := [(.inr (.inr (some 682))), (.inl x1), (.inl x5)]) (by decide +kernel) rfl (by decide +kernel) rfl rfl rfl rfl rfl rfl (by decide +kernel) (by decide +kernel)) hD2 rfl ?_
    refine g_aload_n 145 (show op 287 144 = some (.aload_n 0, 1) by decide +kernel) rfl rfl ?_
    refine g_iload_n 146 (show op 287 145 = some (.iload_n 1, 1) by decide +kernel) rfl rfl ?_
    refine g_iconst 147 (show op 287 146 = some (.iconst 0, 1) by decide +kernel) rfl rfl ?_
    obtain ⟨v4, s3, hD5, h⟩ := h
    refine g_call 150 [(.inl v4)] (show op 287 147 = some (.invokevirtual 267, 3) by decide +kernel) (call_vi' (k' := 0) (n' := 0) (nj := 3) (j := 280) (k9 := 21) (t := []) (as := [(.inr (.inr (some 682))), (.inl x1), (.inl 0)]) (by decide +kernel) rfl (by decide +kernel) rfl rfl rfl rfl rfl rfl (by decide +kernel) (by decide +kernel)) hD5 rfl ?_
    refine g_istore 152 [(some (.inr (.inr (some 682)))), (some (.inl x1)), d2, d3, (some (.inl v4)), (some (.inl x5))] (show op 287 150 = some (.istore 4, 2) by decide +kernel) rfl rfl rfl ?_
    obtain ⟨g6, h⟩ := h
    refine g_iinc 155 [(some (.inr (.inr (some 682)))), (some (.inl x1)), d2, d3, (some (.inl v4)), (some (.inl (x5 + 1)))] (show op 287 152 = some (.iinc 5 1, 3) by decide +kernel) rfl rfl g6 rfl ?_
    refine g_goto 130 (show op 287 155 = some (.goto (-25), 3) by decide +kernel) rfl ?_
    exact h
  · rw [if_neg hc7] at h
    refine g_icmpT 158 (show op 287 134 = some (.if_icmp .ge 24, 3) by decide +kernel) rfl (decide_eq_true (Int.not_lt.mp hc7)) ?_
    exact g_vret (show op 287 158 = some (.return_, 1) by decide +kernel) (by decide +kernel) h
/-- PatchBenchModel.makes (II)V -/
theorem b287 {x1 : Int} {x2 : Int} {σ : Sg} {o : Rs}   (h : (∃ (v2 : Int) (s1 : Sg), Dd 274 [(.inr (.inr (some 682))), (.inl x2)] σ (.inl (some (.inl v2)), s1) ∧ (0 ≤ x1 ∧ x1 < 44) ∧ (0 ≤ x1 ∧ x1 < 44) ∧ C287_29 x1 (some (.inl x2)) (some (.inl v2)) 0 none (upS (upS s1 688 ((x1).toNat) (s1 682 12)) 689 ((x1).toNat) ((upS s1 688 ((x1).toNat) (s1 682 12)) 682 13)) o)) : Dd 287 [(.inr (.inr (some 682))), (.inl x1), (.inl x2)] σ o := by
  refine Dd_of (l := 6) (by decide +kernel) ?_
  show Gd 287 0 [(some (.inr (.inr (some 682)))), (some (.inl x1)), (some (.inl x2)), none, none, none] [] σ 0 0 o
  refine g_aload_n 1 (show op 287 0 = some (.aload_n 0, 1) by decide +kernel) rfl rfl ?_
  refine g_iload_n 2 (show op 287 1 = some (.iload_n 2, 1) by decide +kernel) rfl rfl ?_
  obtain ⟨v2, s1, hD3, h⟩ := h
  refine g_call 5 [(.inl v2)] (show op 287 2 = some (.invokevirtual 244, 3) by decide +kernel) (call_vi' (k' := 0) (n' := 0) (nj := 2) (j := 274) (k9 := 21) (t := []) (as := [(.inr (.inr (some 682))), (.inl x2)]) (by decide +kernel) rfl (by decide +kernel) rfl rfl rfl rfl rfl rfl (by decide +kernel) (by decide +kernel)) hD3 rfl ?_
  refine g_istore_n 6 [(some (.inr (.inr (some 682)))), (some (.inl x1)), (some (.inl x2)), (some (.inl v2)), none, none] (show op 287 5 = some (.istore_n 3, 1) by decide +kernel) rfl rfl rfl ?_
  refine g_aload_n 7 (show op 287 6 = some (.aload_n 0, 1) by decide +kernel) rfl rfl ?_
  refine g_getR (ci := 11) (f := 7) (fin := true) (isR := true) 10 688 (show op 287 7 = some (.getfield 25, 3) by decide +kernel) rfl (by decide +kernel) (by decide +kernel) ?_
  refine g_iload_n 11 (show op 287 10 = some (.iload_n 1, 1) by decide +kernel) rfl rfl ?_
  refine g_aload_n 12 (show op 287 11 = some (.aload_n 0, 1) by decide +kernel) rfl rfl ?_
  refine g_getI (ci := 11) (f := 12) (fin := false) (isR := false) 15 (show op 287 12 = some (.getfield 181, 3) by decide +kernel) rfl (by decide +kernel) (by decide +kernel) ?_
  obtain ⟨g4, h⟩ := h
  refine g_iastore 16 44 (show op 287 15 = some (.iastore, 1) by decide +kernel) rfl (by decide +kernel) g4 ?_
  refine g_aload_n 17 (show op 287 16 = some (.aload_n 0, 1) by decide +kernel) rfl rfl ?_
  refine g_getR (ci := 11) (f := 8) (fin := true) (isR := true) 20 689 (show op 287 17 = some (.getfield 28, 3) by decide +kernel) rfl (by decide +kernel) (by decide +kernel) ?_
  refine g_iload_n 21 (show op 287 20 = some (.iload_n 1, 1) by decide +kernel) rfl rfl ?_
  refine g_aload_n 22 (show op 287 21 = some (.aload_n 0, 1) by decide +kernel) rfl rfl ?_
  refine g_getI (ci := 11) (f := 13) (fin := false) (isR := false) 25 (show op 287 22 = some (.getfield 184, 3) by decide +kernel) rfl (by decide +kernel) (by decide +kernel) ?_
  obtain ⟨g5, h⟩ := h
  refine g_iastore 26 44 (show op 287 25 = some (.iastore, 1) by decide +kernel) rfl (by decide +kernel) g5 ?_
  refine g_iconst 27 (show op 287 26 = some (.iconst 0, 1) by decide +kernel) rfl rfl ?_
  refine g_istore 29 [(some (.inr (.inr (some 682)))), (some (.inl x1)), (some (.inl x2)), (some (.inl v2)), (some (.inl 0)), none] (show op 287 27 = some (.istore 4, 2) by decide +kernel) rfl rfl rfl ?_
  exact h
def C288_26 (x1 : Int) (x2 : Int) (x3 : Int) (σ : Sg) (o : Rs) : Prop := Gd 288 26 [(some (.inr (.inr (some 682)))), (some (.inl x1)), (some (.inl x2)), (some (.inl x3))] [] σ 0 0 o
theorem b288_26 {x1 : Int} {x2 : Int} {x3 : Int} {σ : Sg} {o : Rs}   (h : (if x3 < 100 then (-2147483648 ≤ (100 * x2) ∧ (100 * x2) ≤ 2147483647) ∧ (-2147483648 ≤ ((100 * x2) + x3) ∧ ((100 * x2) + x3) ≤ 2147483647) ∧ (-2147483648 ≤ (100 * x1) ∧ (100 * x1) ≤ 2147483647) ∧ (-2147483648 ≤ ((100 * x1) + x3) ∧ ((100 * x1) + x3) ≤ 2147483647) ∧ (0 ≤ ((100 * x1) + x3) ∧ ((100 * x1) + x3) < 4400) ∧ (0 ≤ ((100 * x2) + x3) ∧ ((100 * x2) + x3) < 4400) ∧ (-2147483648 ≤ (100 * x2) ∧ (100 * x2) ≤ 2147483647) ∧ (-2147483648 ≤ ((100 * x2) + x3) ∧ ((100 * x2) + x3) ≤ 2147483647) ∧ (-2147483648 ≤ (100 * x1) ∧ (100 * x1) ≤ 2147483647) ∧ (-2147483648 ≤ ((100 * x1) + x3) ∧ ((100 * x1) + x3) ≤ 2147483647) ∧ (0 ≤ ((100 * x1) + x3) ∧ ((100 * x1) + x3) < 4400) ∧ (0 ≤ ((100 * x2) + x3) ∧ ((100 * x2) + x3) < 4400) ∧ (-2147483648 ≤ (100 * x2) ∧ (100 * x2) ≤ 2147483647) ∧ (-2147483648 ≤ ((100 * x2) + x3) ∧ ((100 * x2) + x3) ≤ 2147483647) ∧ (-2147483648 ≤ (100 * x1) ∧ (100 * x1) ≤ 2147483647) ∧ (-2147483648 ≤ ((100 * x1) + x3) ∧ ((100 * x1) + x3) ≤ 2147483647) ∧ (0 ≤ ((100 * x1) + x3) ∧ ((100 * x1) + x3) < 4400) ∧ (0 ≤ ((100 * x2) + x3) ∧ ((100 * x2) + x3) < 4400) ∧ (-2147483648 ≤ (x3 + 1) ∧ (x3 + 1) ≤ 2147483647) ∧ C288_26 x1 x2 (x3 + 1) (upS (upS (upS σ 685 ((((100 * x2) + x3)).toNat) (σ 685 (((100 * x1) + x3)).toNat)) 686 ((((100 * x2) + x3)).toNat) ((upS σ 685 ((((100 * x2) + x3)).toNat) (σ 685 (((100 * x1) + x3)).toNat)) 686 (((100 * x1) + x3)).toNat)) 687 ((((100 * x2) + x3)).toNat) ((upS (upS σ 685 ((((100 * x2) + x3)).toNat) (σ 685 (((100 * x1) + x3)).toNat)) 686 ((((100 * x2) + x3)).toNat) ((upS σ 685 ((((100 * x2) + x3)).toNat) (σ 685 (((100 * x1) + x3)).toNat)) 686 (((100 * x1) + x3)).toNat)) 687 (((100 * x1) + x3)).toNat)) o else o = (.inl none, σ))) : C288_26 x1 x2 x3 σ o := by
  show Gd 288 26 [(some (.inr (.inr (some 682)))), (some (.inl x1)), (some (.inl x2)), (some (.inl x3))] [] σ 0 0 o
  refine g_iload_n 27 (show op 288 26 = some (.iload_n 3, 1) by decide +kernel) rfl rfl ?_
  refine g_bipush 29 (show op 288 27 = some (.bipush 100, 2) by decide +kernel) rfl (by decide) ?_
  by_cases hc20 : x3 < 100
  · rw [if_pos hc20] at h
    refine g_icmpF 32 104 (show op 288 29 = some (.if_icmp .ge 75, 3) by decide +kernel) rfl rfl (decide_eq_false (Int.not_le.mpr hc20)) ?_
    refine g_aload_n 33 (show op 288 32 = some (.aload_n 0, 1) by decide +kernel) rfl rfl ?_
    refine g_getR (ci := 11) (f := 4) (fin := true) (isR := true) 36 685 (show op 288 33 = some (.getfield 16, 3) by decide +kernel) rfl (by decide +kernel) (by decide +kernel) ?_
    refine g_bipush 38 (show op 288 36 = some (.bipush 100, 2) by decide +kernel) rfl (by decide) ?_
    refine g_iload_n 39 (show op 288 38 = some (.iload_n 2, 1) by decide +kernel) rfl rfl ?_
    obtain ⟨g1, h⟩ := h
    refine g_imul 40 (show op 288 39 = some (.imul, 1) by decide +kernel) rfl g1 ?_
    refine g_iload_n 41 (show op 288 40 = some (.iload_n 3, 1) by decide +kernel) rfl rfl ?_
    obtain ⟨g2, h⟩ := h
    refine g_iadd 42 (show op 288 41 = some (.iadd, 1) by decide +kernel) rfl g2 ?_
    refine g_aload_n 43 (show op 288 42 = some (.aload_n 0, 1) by decide +kernel) rfl rfl ?_
    refine g_getR (ci := 11) (f := 4) (fin := true) (isR := true) 46 685 (show op 288 43 = some (.getfield 16, 3) by decide +kernel) rfl (by decide +kernel) (by decide +kernel) ?_
    refine g_bipush 48 (show op 288 46 = some (.bipush 100, 2) by decide +kernel) rfl (by decide) ?_
    refine g_iload_n 49 (show op 288 48 = some (.iload_n 1, 1) by decide +kernel) rfl rfl ?_
    obtain ⟨g3, h⟩ := h
    refine g_imul 50 (show op 288 49 = some (.imul, 1) by decide +kernel) rfl g3 ?_
    refine g_iload_n 51 (show op 288 50 = some (.iload_n 3, 1) by decide +kernel) rfl rfl ?_
    obtain ⟨g4, h⟩ := h
    refine g_iadd 52 (show op 288 51 = some (.iadd, 1) by decide +kernel) rfl g4 ?_
    obtain ⟨g5, h⟩ := h
    refine g_iaload 53 4400 (show op 288 52 = some (.iaload, 1) by decide +kernel) rfl (by decide +kernel) g5 ?_
    obtain ⟨g6, h⟩ := h
    refine g_iastore 54 4400 (show op 288 53 = some (.iastore, 1) by decide +kernel) rfl (by decide +kernel) g6 ?_
    refine g_aload_n 55 (show op 288 54 = some (.aload_n 0, 1) by decide +kernel) rfl rfl ?_
    refine g_getR (ci := 11) (f := 5) (fin := true) (isR := true) 58 686 (show op 288 55 = some (.getfield 19, 3) by decide +kernel) rfl (by decide +kernel) (by decide +kernel) ?_
    refine g_bipush 60 (show op 288 58 = some (.bipush 100, 2) by decide +kernel) rfl (by decide) ?_
    refine g_iload_n 61 (show op 288 60 = some (.iload_n 2, 1) by decide +kernel) rfl rfl ?_
    obtain ⟨g7, h⟩ := h
    refine g_imul 62 (show op 288 61 = some (.imul, 1) by decide +kernel) rfl g7 ?_
    refine g_iload_n 63 (show op 288 62 = some (.iload_n 3, 1) by decide +kernel) rfl rfl ?_
    obtain ⟨g8, h⟩ := h
    refine g_iadd 64 (show op 288 63 = some (.iadd, 1) by decide +kernel) rfl g8 ?_
    refine g_aload_n 65 (show op 288 64 = some (.aload_n 0, 1) by decide +kernel) rfl rfl ?_
    refine g_getR (ci := 11) (f := 5) (fin := true) (isR := true) 68 686 (show op 288 65 = some (.getfield 19, 3) by decide +kernel) rfl (by decide +kernel) (by decide +kernel) ?_
    refine g_bipush 70 (show op 288 68 = some (.bipush 100, 2) by decide +kernel) rfl (by decide) ?_
    refine g_iload_n 71 (show op 288 70 = some (.iload_n 1, 1) by decide +kernel) rfl rfl ?_
    obtain ⟨g9, h⟩ := h
    refine g_imul 72 (show op 288 71 = some (.imul, 1) by decide +kernel) rfl g9 ?_
    refine g_iload_n 73 (show op 288 72 = some (.iload_n 3, 1) by decide +kernel) rfl rfl ?_
    obtain ⟨g10, h⟩ := h
    refine g_iadd 74 (show op 288 73 = some (.iadd, 1) by decide +kernel) rfl g10 ?_
    obtain ⟨g11, h⟩ := h
    refine g_iaload 75 4400 (show op 288 74 = some (.iaload, 1) by decide +kernel) rfl (by decide +kernel) g11 ?_
    obtain ⟨g12, h⟩ := h
    refine g_iastore 76 4400 (show op 288 75 = some (.iastore, 1) by decide +kernel) rfl (by decide +kernel) g12 ?_
    refine g_aload_n 77 (show op 288 76 = some (.aload_n 0, 1) by decide +kernel) rfl rfl ?_
    refine g_getR (ci := 11) (f := 6) (fin := true) (isR := true) 80 687 (show op 288 77 = some (.getfield 22, 3) by decide +kernel) rfl (by decide +kernel) (by decide +kernel) ?_
    refine g_bipush 82 (show op 288 80 = some (.bipush 100, 2) by decide +kernel) rfl (by decide) ?_
    refine g_iload_n 83 (show op 288 82 = some (.iload_n 2, 1) by decide +kernel) rfl rfl ?_
    obtain ⟨g13, h⟩ := h
    refine g_imul 84 (show op 288 83 = some (.imul, 1) by decide +kernel) rfl g13 ?_
    refine g_iload_n 85 (show op 288 84 = some (.iload_n 3, 1) by decide +kernel) rfl rfl ?_
    obtain ⟨g14, h⟩ := h
    refine g_iadd 86 (show op 288 85 = some (.iadd, 1) by decide +kernel) rfl g14 ?_
    refine g_aload_n 87 (show op 288 86 = some (.aload_n 0, 1) by decide +kernel) rfl rfl ?_
    refine g_getR (ci := 11) (f := 6) (fin := true) (isR := true) 90 687 (show op 288 87 = some (.getfield 22, 3) by decide +kernel) rfl (by decide +kernel) (by decide +kernel) ?_
    refine g_bipush 92 (show op 288 90 = some (.bipush 100, 2) by decide +kernel) rfl (by decide) ?_
    refine g_iload_n 93 (show op 288 92 = some (.iload_n 1, 1) by decide +kernel) rfl rfl ?_
    obtain ⟨g15, h⟩ := h
    refine g_imul 94 (show op 288 93 = some (.imul, 1) by decide +kernel) rfl g15 ?_
    refine g_iload_n 95 (show op 288 94 = some (.iload_n 3, 1) by decide +kernel) rfl rfl ?_
    obtain ⟨g16, h⟩ := h
    refine g_iadd 96 (show op 288 95 = some (.iadd, 1) by decide +kernel) rfl g16 ?_
    obtain ⟨g17, h⟩ := h
    refine g_iaload 97 4400 (show op 288 96 = some (.iaload, 1) by decide +kernel) rfl (by decide +kernel) g17 ?_
    obtain ⟨g18, h⟩ := h
    refine g_iastore 98 4400 (show op 288 97 = some (.iastore, 1) by decide +kernel) rfl (by decide +kernel) g18 ?_
    obtain ⟨g19, h⟩ := h
    refine g_iinc 101 [(some (.inr (.inr (some 682)))), (some (.inl x1)), (some (.inl x2)), (some (.inl (x3 + 1)))] (show op 288 98 = some (.iinc 3 1, 3) by decide +kernel) rfl rfl g19 rfl ?_
    refine g_goto 26 (show op 288 101 = some (.goto (-75), 3) by decide +kernel) rfl ?_
    exact h
  · rw [if_neg hc20] at h
    refine g_icmpT 104 (show op 288 29 = some (.if_icmp .ge 75, 3) by decide +kernel) rfl (decide_eq_true (Int.not_lt.mp hc20)) ?_
    exact g_vret (show op 288 104 = some (.return_, 1) by decide +kernel) (by decide +kernel) h
/-- PatchBenchModel.copies (II)V -/
theorem b288 {x1 : Int} {x2 : Int} {σ : Sg} {o : Rs}   (h : (0 ≤ x1 ∧ x1 < 44) ∧ (0 ≤ x2 ∧ x2 < 44) ∧ (0 ≤ x1 ∧ x1 < 44) ∧ (0 ≤ x2 ∧ x2 < 44) ∧ C288_26 x1 x2 0 (upS (upS σ 688 ((x2).toNat) (σ 688 (x1).toNat)) 689 ((x2).toNat) ((upS σ 688 ((x2).toNat) (σ 688 (x1).toNat)) 689 (x1).toNat)) o) : Dd 288 [(.inr (.inr (some 682))), (.inl x1), (.inl x2)] σ o := by
  refine Dd_of (l := 4) (by decide +kernel) ?_
  show Gd 288 0 [(some (.inr (.inr (some 682)))), (some (.inl x1)), (some (.inl x2)), none] [] σ 0 0 o
  refine g_aload_n 1 (show op 288 0 = some (.aload_n 0, 1) by decide +kernel) rfl rfl ?_
  refine g_getR (ci := 11) (f := 7) (fin := true) (isR := true) 4 688 (show op 288 1 = some (.getfield 25, 3) by decide +kernel) rfl (by decide +kernel) (by decide +kernel) ?_
  refine g_iload_n 5 (show op 288 4 = some (.iload_n 2, 1) by decide +kernel) rfl rfl ?_
  refine g_aload_n 6 (show op 288 5 = some (.aload_n 0, 1) by decide +kernel) rfl rfl ?_
  refine g_getR (ci := 11) (f := 7) (fin := true) (isR := true) 9 688 (show op 288 6 = some (.getfield 25, 3) by decide +kernel) rfl (by decide +kernel) (by decide +kernel) ?_
  refine g_iload_n 10 (show op 288 9 = some (.iload_n 1, 1) by decide +kernel) rfl rfl ?_
  obtain ⟨g1, h⟩ := h
  refine g_iaload 11 44 (show op 288 10 = some (.iaload, 1) by decide +kernel) rfl (by decide +kernel) g1 ?_
  obtain ⟨g2, h⟩ := h
  refine g_iastore 12 44 (show op 288 11 = some (.iastore, 1) by decide +kernel) rfl (by decide +kernel) g2 ?_
  refine g_aload_n 13 (show op 288 12 = some (.aload_n 0, 1) by decide +kernel) rfl rfl ?_
  refine g_getR (ci := 11) (f := 8) (fin := true) (isR := true) 16 689 (show op 288 13 = some (.getfield 28, 3) by decide +kernel) rfl (by decide +kernel) (by decide +kernel) ?_
  refine g_iload_n 17 (show op 288 16 = some (.iload_n 2, 1) by decide +kernel) rfl rfl ?_
  refine g_aload_n 18 (show op 288 17 = some (.aload_n 0, 1) by decide +kernel) rfl rfl ?_
  refine g_getR (ci := 11) (f := 8) (fin := true) (isR := true) 21 689 (show op 288 18 = some (.getfield 28, 3) by decide +kernel) rfl (by decide +kernel) (by decide +kernel) ?_
  refine g_iload_n 22 (show op 288 21 = some (.iload_n 1, 1) by decide +kernel) rfl rfl ?_
  obtain ⟨g3, h⟩ := h
  refine g_iaload 23 44 (show op 288 22 = some (.iaload, 1) by decide +kernel) rfl (by decide +kernel) g3 ?_
  obtain ⟨g4, h⟩ := h
  refine g_iastore 24 44 (show op 288 23 = some (.iastore, 1) by decide +kernel) rfl (by decide +kernel) g4 ?_
  refine g_iconst 25 (show op 288 24 = some (.iconst 0, 1) by decide +kernel) rfl rfl ?_
  refine g_istore_n 26 [(some (.inr (.inr (some 682)))), (some (.inl x1)), (some (.inl x2)), (some (.inl 0))] (show op 288 25 = some (.istore_n 3, 1) by decide +kernel) rfl rfl rfl ?_
  exact h
/-- PatchBenchModel.numbers (I)I -/
theorem b289 {x1 : Int} {σ : Sg} {o : Rs}   (h : (∃ (s1 : Sg), Dd 288 [(.inr (.inr (some 682))), (.inl x1), (.inl (σ 682 3))] σ (.inl none, s1) ∧ (-2147483648 ≤ ((s1 682 3) + 1) ∧ ((s1 682 3) + 1) ≤ 2147483647) ∧ (-2147483648 ≤ (((upS s1 682 3 ((s1 682 3) + 1)) 682 3) - 1) ∧ (((upS s1 682 3 ((s1 682 3) + 1)) 682 3) - 1) ≤ 2147483647) ∧ o = (.inl (some (.inl (((upS s1 682 3 ((s1 682 3) + 1)) 682 3) - 1))), (upS s1 682 3 ((s1 682 3) + 1))))) : Dd 289 [(.inr (.inr (some 682))), (.inl x1)] σ o := by
  refine Dd_of (l := 2) (by decide +kernel) ?_
  show Gd 289 0 [(some (.inr (.inr (some 682)))), (some (.inl x1))] [] σ 0 0 o
  refine g_aload_n 1 (show op 289 0 = some (.aload_n 0, 1) by decide +kernel) rfl rfl ?_
  refine g_iload_n 2 (show op 289 1 = some (.iload_n 1, 1) by decide +kernel) rfl rfl ?_
  refine g_aload_n 3 (show op 289 2 = some (.aload_n 0, 1) by decide +kernel) rfl rfl ?_
  refine g_getI (ci := 11) (f := 3) (fin := false) (isR := false) 6 (show op 289 3 = some (.getfield 148, 3) by decide +kernel) rfl (by decide +kernel) (by decide +kernel) ?_
  obtain ⟨s1, hD2, h⟩ := h
  refine g_call 9 [] (show op 289 6 = some (.invokevirtual 273, 3) by decide +kernel) (call_vi' (k' := 0) (n' := 0) (nj := 3) (j := 288) (k9 := 21) (t := []) (as := [(.inr (.inr (some 682))), (.inl x1), (.inl (σ 682 3))]) (by decide +kernel) rfl (by decide +kernel) rfl rfl rfl rfl rfl rfl (by decide +kernel) (by decide +kernel)) hD2 rfl ?_
  refine g_aload_n 10 (show op 289 9 = some (.aload_n 0, 1) by decide +kernel) rfl rfl ?_
  refine g_dup 11 (show op 289 10 = some (.dup, 1) by decide +kernel) rfl rfl ?_
  refine g_getI (ci := 11) (f := 3) (fin := false) (isR := false) 14 (show op 289 11 = some (.getfield 148, 3) by decide +kernel) rfl (by decide +kernel) (by decide +kernel) ?_
  refine g_iconst 15 (show op 289 14 = some (.iconst 1, 1) by decide +kernel) rfl rfl ?_
  obtain ⟨g3, h⟩ := h
  refine g_iadd 16 (show op 289 15 = some (.iadd, 1) by decide +kernel) rfl g3 ?_
  refine g_putI (ci := 11) (f := 3) 19 (show op 289 16 = some (.putfield 148, 3) by decide +kernel) rfl (by decide +kernel) (by decide +kernel) ?_
  refine g_aload_n 20 (show op 289 19 = some (.aload_n 0, 1) by decide +kernel) rfl rfl ?_
  refine g_getI (ci := 11) (f := 3) (fin := false) (isR := false) 23 (show op 289 20 = some (.getfield 148, 3) by decide +kernel) rfl (by decide +kernel) (by decide +kernel) ?_
  refine g_iconst 24 (show op 289 23 = some (.iconst 1, 1) by decide +kernel) rfl rfl ?_
  obtain ⟨g4, h⟩ := h
  refine g_isub 25 (show op 289 24 = some (.isub, 1) by decide +kernel) rfl g4 ?_
  exact (g_iret (show op 289 25 = some (.ireturn, 1) by decide +kernel) (by decide +kernel) h)
def C290_20 (x1 : Int) (x2 : Int) (d3 : Option AV) (d4 : Option AV) (y0 : Int) (σ : Sg) (o : Rs) : Prop := Gd 290 20 [(some (.inr (.inr (some 682)))), (some (.inl x1)), (some (.inl x2)), d3, d4] [(.inl y0)] σ 0 0 o
def C290_24 (x1 : Int) (x2 : Int) (x3 : Int) (x4 : Int) (σ : Sg) (o : Rs) : Prop := Gd 290 24 [(some (.inr (.inr (some 682)))), (some (.inl x1)), (some (.inl x2)), (some (.inl x3)), (some (.inl x4))] [] σ 0 0 o
def C290_71 (x1 : Int) (x2 : Int) (d3 : Option AV) (x4 : Int) (y0 : Int) (σ : Sg) (o : Rs) : Prop := Gd 290 71 [(some (.inr (.inr (some 682)))), (some (.inl x1)), (some (.inl x2)), d3, (some (.inl x4))] [(.inl y0)] σ 0 0 o
theorem b290_20 {x1 : Int} {x2 : Int} {d3 : Option AV} {d4 : Option AV} {y0 : Int} {σ : Sg} {o : Rs}   (h : C290_24 x1 x2 y0 0 σ o) : C290_20 x1 x2 d3 d4 y0 σ o := by
  show Gd 290 20 [(some (.inr (.inr (some 682)))), (some (.inl x1)), (some (.inl x2)), d3, d4] [(.inl y0)] σ 0 0 o
  refine g_istore_n 21 [(some (.inr (.inr (some 682)))), (some (.inl x1)), (some (.inl x2)), (some (.inl y0)), d4] (show op 290 20 = some (.istore_n 3, 1) by decide +kernel) rfl rfl rfl ?_
  refine g_iconst 22 (show op 290 21 = some (.iconst 0, 1) by decide +kernel) rfl rfl ?_
  refine g_istore 24 [(some (.inr (.inr (some 682)))), (some (.inl x1)), (some (.inl x2)), (some (.inl y0)), (some (.inl 0))] (show op 290 22 = some (.istore 4, 2) by decide +kernel) rfl rfl rfl ?_
  exact h
theorem b290_24 {x1 : Int} {x2 : Int} {x3 : Int} {x4 : Int} {σ : Sg} {o : Rs}   (h : (0 ≤ x1 ∧ x1 < 44) ∧ (if x4 < (σ 689 (x1).toNat) then (if x3 = 0 then (x3 = 0 ∨ x3 = 1) ∧ o = (.inl (some (.inl x3)), σ) else (-2147483648 ≤ (100 * x1) ∧ (100 * x1) ≤ 2147483647) ∧ (-2147483648 ≤ ((100 * x1) + x4) ∧ ((100 * x1) + x4) ≤ 2147483647) ∧ (0 ≤ ((100 * x1) + x4) ∧ ((100 * x1) + x4) < 4400) ∧ (-2147483648 ≤ (100 * x2) ∧ (100 * x2) ≤ 2147483647) ∧ (-2147483648 ≤ ((100 * x2) + x4) ∧ ((100 * x2) + x4) ≤ 2147483647) ∧ (0 ≤ ((100 * x2) + x4) ∧ ((100 * x2) + x4) < 4400) ∧ C290_71 x1 x2 (some (.inl x3)) x4 (if (σ 686 (((100 * x1) + x4)).toNat) = (σ 685 (((100 * x2) + x4)).toNat) then 1 else 0) σ o) else (x3 = 0 ∨ x3 = 1) ∧ o = (.inl (some (.inl x3)), σ))) : C290_24 x1 x2 x3 x4 σ o := by
  show Gd 290 24 [(some (.inr (.inr (some 682)))), (some (.inl x1)), (some (.inl x2)), (some (.inl x3)), (some (.inl x4))] [] σ 0 0 o
  refine g_iload 26 (show op 290 24 = some (.iload 4, 2) by decide +kernel) rfl rfl ?_
  refine g_aload_n 27 (show op 290 26 = some (.aload_n 0, 1) by decide +kernel) rfl rfl ?_
  refine g_getR (ci := 11) (f := 8) (fin := true) (isR := true) 30 689 (show op 290 27 = some (.getfield 28, 3) by decide +kernel) rfl (by decide +kernel) (by decide +kernel) ?_
  refine g_iload_n 31 (show op 290 30 = some (.iload_n 1, 1) by decide +kernel) rfl rfl ?_
  obtain ⟨g1, h⟩ := h
  refine g_iaload 32 44 (show op 290 31 = some (.iaload, 1) by decide +kernel) rfl (by decide +kernel) g1 ?_
  by_cases hc10 : x4 < (σ 689 (x1).toNat)
  · rw [if_pos hc10] at h
    refine g_icmpF 35 78 (show op 290 32 = some (.if_icmp .ge 46, 3) by decide +kernel) rfl rfl (decide_eq_false (Int.not_le.mpr hc10)) ?_
    refine g_iload_n 36 (show op 290 35 = some (.iload_n 3, 1) by decide +kernel) rfl rfl ?_
    by_cases hc11 : x3 = 0
    · rw [if_pos hc11] at h
      refine g_ifT 78 (show op 290 36 = some (.ifCond .eq 42, 3) by decide +kernel) rfl (decide_eq_true hc11) ?_
      refine g_iload_n 79 (show op 290 78 = some (.iload_n 3, 1) by decide +kernel) rfl rfl ?_
      obtain ⟨g2, h⟩ := h
      exact (g_zret (show op 290 79 = some (.ireturn, 1) by decide +kernel) (by decide +kernel) g2 h)
    · rw [if_neg hc11] at h
      refine g_ifF 39 78 (show op 290 36 = some (.ifCond .eq 42, 3) by decide +kernel) rfl rfl (decide_eq_false hc11) ?_
      refine g_aload_n 40 (show op 290 39 = some (.aload_n 0, 1) by decide +kernel) rfl rfl ?_
      refine g_getR (ci := 11) (f := 5) (fin := true) (isR := true) 43 686 (show op 290 40 = some (.getfield 19, 3) by decide +kernel) rfl (by decide +kernel) (by decide +kernel) ?_
      refine g_bipush 45 (show op 290 43 = some (.bipush 100, 2) by decide +kernel) rfl (by decide) ?_
      refine g_iload_n 46 (show op 290 45 = some (.iload_n 1, 1) by decide +kernel) rfl rfl ?_
      obtain ⟨g3, h⟩ := h
      refine g_imul 47 (show op 290 46 = some (.imul, 1) by decide +kernel) rfl g3 ?_
      refine g_iload 49 (show op 290 47 = some (.iload 4, 2) by decide +kernel) rfl rfl ?_
      obtain ⟨g4, h⟩ := h
      refine g_iadd 50 (show op 290 49 = some (.iadd, 1) by decide +kernel) rfl g4 ?_
      obtain ⟨g5, h⟩ := h
      refine g_iaload 51 4400 (show op 290 50 = some (.iaload, 1) by decide +kernel) rfl (by decide +kernel) g5 ?_
      refine g_aload_n 52 (show op 290 51 = some (.aload_n 0, 1) by decide +kernel) rfl rfl ?_
      refine g_getR (ci := 11) (f := 4) (fin := true) (isR := true) 55 685 (show op 290 52 = some (.getfield 16, 3) by decide +kernel) rfl (by decide +kernel) (by decide +kernel) ?_
      refine g_bipush 57 (show op 290 55 = some (.bipush 100, 2) by decide +kernel) rfl (by decide) ?_
      refine g_iload_n 58 (show op 290 57 = some (.iload_n 2, 1) by decide +kernel) rfl rfl ?_
      obtain ⟨g6, h⟩ := h
      refine g_imul 59 (show op 290 58 = some (.imul, 1) by decide +kernel) rfl g6 ?_
      refine g_iload 61 (show op 290 59 = some (.iload 4, 2) by decide +kernel) rfl rfl ?_
      obtain ⟨g7, h⟩ := h
      refine g_iadd 62 (show op 290 61 = some (.iadd, 1) by decide +kernel) rfl g7 ?_
      obtain ⟨g8, h⟩ := h
      refine g_iaload 63 4400 (show op 290 62 = some (.iaload, 1) by decide +kernel) rfl (by decide +kernel) g8 ?_
      by_cases hc12 : (σ 686 (((100 * x1) + x4)).toNat) = (σ 685 (((100 * x2) + x4)).toNat)
      · refine g_icmpF 66 70 (show op 290 63 = some (.if_icmp .ne 7, 3) by decide +kernel) rfl rfl (decide_eq_false (fun h9 => h9 hc12)) ?_
        refine g_iconst 67 (show op 290 66 = some (.iconst 1, 1) by decide +kernel) rfl rfl ?_
        refine g_goto 71 (show op 290 67 = some (.goto 4, 3) by decide +kernel) rfl ?_
        have h9 := h; simp only [if_pos hc12] at h9; exact h9
      · refine g_icmpT 70 (show op 290 63 = some (.if_icmp .ne 7, 3) by decide +kernel) rfl (decide_eq_true hc12) ?_
        refine g_iconst 71 (show op 290 70 = some (.iconst 0, 1) by decide +kernel) rfl rfl ?_
        have h9 := h; simp only [if_neg hc12] at h9; exact h9
  · rw [if_neg hc10] at h
    refine g_icmpT 78 (show op 290 32 = some (.if_icmp .ge 46, 3) by decide +kernel) rfl (decide_eq_true (Int.not_lt.mp hc10)) ?_
    refine g_iload_n 79 (show op 290 78 = some (.iload_n 3, 1) by decide +kernel) rfl rfl ?_
    obtain ⟨g9, h⟩ := h
    exact (g_zret (show op 290 79 = some (.ireturn, 1) by decide +kernel) (by decide +kernel) g9 h)
theorem b290_71 {x1 : Int} {x2 : Int} {d3 : Option AV} {x4 : Int} {y0 : Int} {σ : Sg} {o : Rs}   (h : (-2147483648 ≤ (x4 + 1) ∧ (x4 + 1) ≤ 2147483647) ∧ C290_24 x1 x2 y0 (x4 + 1) σ o) : C290_71 x1 x2 d3 x4 y0 σ o := by
  show Gd 290 71 [(some (.inr (.inr (some 682)))), (some (.inl x1)), (some (.inl x2)), d3, (some (.inl x4))] [(.inl y0)] σ 0 0 o
  refine g_istore_n 72 [(some (.inr (.inr (some 682)))), (some (.inl x1)), (some (.inl x2)), (some (.inl y0)), (some (.inl x4))] (show op 290 71 = some (.istore_n 3, 1) by decide +kernel) rfl rfl rfl ?_
  obtain ⟨g1, h⟩ := h
  refine g_iinc 75 [(some (.inr (.inr (some 682)))), (some (.inl x1)), (some (.inl x2)), (some (.inl y0)), (some (.inl (x4 + 1)))] (show op 290 72 = some (.iinc 4 1, 3) by decide +kernel) rfl rfl g1 rfl ?_
  refine g_goto 24 (show op 290 75 = some (.goto (-51), 3) by decide +kernel) rfl ?_
  exact h
/-- PatchBenchModel.follows (II)Z -/
theorem b290 {x1 : Int} {x2 : Int} {σ : Sg} {o : Rs}   (h : (0 ≤ x1 ∧ x1 < 44) ∧ (0 ≤ x2 ∧ x2 < 44) ∧ C290_20 x1 x2 none none (if (σ 689 (x1).toNat) = (σ 688 (x2).toNat) then 1 else 0) σ o) : Dd 290 [(.inr (.inr (some 682))), (.inl x1), (.inl x2)] σ o := by
  refine Dd_of (l := 5) (by decide +kernel) ?_
  show Gd 290 0 [(some (.inr (.inr (some 682)))), (some (.inl x1)), (some (.inl x2)), none, none] [] σ 0 0 o
  refine g_aload_n 1 (show op 290 0 = some (.aload_n 0, 1) by decide +kernel) rfl rfl ?_
  refine g_getR (ci := 11) (f := 8) (fin := true) (isR := true) 4 689 (show op 290 1 = some (.getfield 28, 3) by decide +kernel) rfl (by decide +kernel) (by decide +kernel) ?_
  refine g_iload_n 5 (show op 290 4 = some (.iload_n 1, 1) by decide +kernel) rfl rfl ?_
  obtain ⟨g1, h⟩ := h
  refine g_iaload 6 44 (show op 290 5 = some (.iaload, 1) by decide +kernel) rfl (by decide +kernel) g1 ?_
  refine g_aload_n 7 (show op 290 6 = some (.aload_n 0, 1) by decide +kernel) rfl rfl ?_
  refine g_getR (ci := 11) (f := 7) (fin := true) (isR := true) 10 688 (show op 290 7 = some (.getfield 25, 3) by decide +kernel) rfl (by decide +kernel) (by decide +kernel) ?_
  refine g_iload_n 11 (show op 290 10 = some (.iload_n 2, 1) by decide +kernel) rfl rfl ?_
  obtain ⟨g2, h⟩ := h
  refine g_iaload 12 44 (show op 290 11 = some (.iaload, 1) by decide +kernel) rfl (by decide +kernel) g2 ?_
  by_cases hc3 : (σ 689 (x1).toNat) = (σ 688 (x2).toNat)
  · refine g_icmpF 15 19 (show op 290 12 = some (.if_icmp .ne 7, 3) by decide +kernel) rfl rfl (decide_eq_false (fun h9 => h9 hc3)) ?_
    refine g_iconst 16 (show op 290 15 = some (.iconst 1, 1) by decide +kernel) rfl rfl ?_
    refine g_goto 20 (show op 290 16 = some (.goto 4, 3) by decide +kernel) rfl ?_
    have h9 := h; simp only [if_pos hc3] at h9; exact h9
  · refine g_icmpT 19 (show op 290 12 = some (.if_icmp .ne 7, 3) by decide +kernel) rfl (decide_eq_true hc3) ?_
    refine g_iconst 20 (show op 290 19 = some (.iconst 0, 1) by decide +kernel) rfl rfl ?_
    have h9 := h; simp only [if_neg hc3] at h9; exact h9
/-- PatchBenchModel.touch (IIII)Z -/
theorem b291 {x0 : Int} {x1 : Int} {x2 : Int} {x3 : Int} {σ : Sg} {o : Rs}   (h : o = (.inl (some (.inl (if x0 ≤ x3 then (if x2 ≤ x1 then 1 else 0) else 0))), σ)) : Dd 291 [(.inl x0), (.inl x1), (.inl x2), (.inl x3)] σ o := by
  refine Dd_of (l := 4) (by decide +kernel) ?_
  show Gd 291 0 [(some (.inl x0)), (some (.inl x1)), (some (.inl x2)), (some (.inl x3))] [] σ 0 0 o
  refine g_iload_n 1 (show op 291 0 = some (.iload_n 0, 1) by decide +kernel) rfl rfl ?_
  refine g_iload_n 2 (show op 291 1 = some (.iload_n 3, 1) by decide +kernel) rfl rfl ?_
  by_cases hc1 : x0 ≤ x3
  · refine g_icmpF 5 14 (show op 291 2 = some (.if_icmp .gt 12, 3) by decide +kernel) rfl rfl (decide_eq_false (Int.not_lt.mpr hc1)) ?_
    refine g_iload_n 6 (show op 291 5 = some (.iload_n 2, 1) by decide +kernel) rfl rfl ?_
    refine g_iload_n 7 (show op 291 6 = some (.iload_n 1, 1) by decide +kernel) rfl rfl ?_
    by_cases hc2 : x2 ≤ x1
    · refine g_icmpF 10 14 (show op 291 7 = some (.if_icmp .gt 7, 3) by decide +kernel) rfl rfl (decide_eq_false (Int.not_lt.mpr hc2)) ?_
      refine g_iconst 11 (show op 291 10 = some (.iconst 1, 1) by decide +kernel) rfl rfl ?_
      refine g_goto 15 (show op 291 11 = some (.goto 4, 3) by decide +kernel) rfl ?_
      have h9 := h; simp only [if_pos hc1, if_pos hc2] at h9; exact (g_zret (show op 291 15 = some (.ireturn, 1) by decide +kernel) (by decide +kernel) (by decide) h9)
    · refine g_icmpT 14 (show op 291 7 = some (.if_icmp .gt 7, 3) by decide +kernel) rfl (decide_eq_true (Int.not_le.mp hc2)) ?_
      refine g_iconst 15 (show op 291 14 = some (.iconst 0, 1) by decide +kernel) rfl rfl ?_
      have h9 := h; simp only [if_pos hc1, if_neg hc2] at h9; exact (g_zret (show op 291 15 = some (.ireturn, 1) by decide +kernel) (by decide +kernel) (by decide) h9)
  · refine g_icmpT 14 (show op 291 2 = some (.if_icmp .gt 12, 3) by decide +kernel) rfl (decide_eq_true (Int.not_le.mp hc1)) ?_
    refine g_iconst 15 (show op 291 14 = some (.iconst 0, 1) by decide +kernel) rfl rfl ?_
    have h9 := h; simp only [if_neg hc1] at h9; exact (g_zret (show op 291 15 = some (.ireturn, 1) by decide +kernel) (by decide +kernel) (by decide) h9)
def C292_21 (d1 : Option AV) (d2 : Option AV) (x3 : Int) (x4 : Int) (x5 : Int) (x6 : Int) (d7 : Option AV) (σ : Sg) (o : Rs) : Prop := Gd 292 21 [(some (.inr (.inr (some 682)))), d1, d2, (some (.inl x3)), (some (.inl x4)), (some (.inl x5)), (some (.inl x6)), d7] [] σ 0 0 o
def C292_32 (d1 : Option AV) (d2 : Option AV) (x3 : Int) (x4 : Int) (x5 : Int) (x6 : Int) (x7 : Int) (σ : Sg) (o : Rs) : Prop := Gd 292 32 [(some (.inr (.inr (some 682)))), d1, d2, (some (.inl x3)), (some (.inl x4)), (some (.inl x5)), (some (.inl x6)), (some (.inl x7))] [] σ 0 0 o
def C292_103 (d1 : Option AV) (d2 : Option AV) (x3 : Int) (x4 : Int) (d5 : Option AV) (x6 : Int) (x7 : Int) (y0 : Int) (σ : Sg) (o : Rs) : Prop := Gd 292 103 [(some (.inr (.inr (some 682)))), d1, d2, (some (.inl x3)), (some (.inl x4)), d5, (some (.inl x6)), (some (.inl x7))] [(.inl y0)] σ 0 0 o
def C292_98 (d1 : Option AV) (d2 : Option AV) (x3 : Int) (x4 : Int) (d5 : Option AV) (x6 : Int) (x7 : Int) (σ : Sg) (o : Rs) : Prop := Gd 292 98 [(some (.inr (.inr (some 682)))), d1, d2, (some (.inl x3)), (some (.inl x4)), d5, (some (.inl x6)), (some (.inl x7))] [] σ 0 0 o
theorem b292_21 {d1 : Option AV} {d2 : Option AV} {x3 : Int} {x4 : Int} {x5 : Int} {x6 : Int} {d7 : Option AV} {σ : Sg} {o : Rs}   (h : (if x6 < x3 then C292_32 d1 d2 x3 x4 x5 x6 128 σ o else (x5 = 0 ∨ x5 = 1) ∧ o = (.inl (some (.inl x5)), σ))) : C292_21 d1 d2 x3 x4 x5 x6 d7 σ o := by
  show Gd 292 21 [(some (.inr (.inr (some 682)))), d1, d2, (some (.inl x3)), (some (.inl x4)), (some (.inl x5)), (some (.inl x6)), d7] [] σ 0 0 o
  refine g_iload 23 (show op 292 21 = some (.iload 6, 2) by decide +kernel) rfl rfl ?_
  refine g_iload_n 24 (show op 292 23 = some (.iload_n 3, 1) by decide +kernel) rfl rfl ?_
  by_cases hc2 : x6 < x3
  · rw [if_pos hc2] at h
    refine g_icmpF 27 117 (show op 292 24 = some (.if_icmp .ge 93, 3) by decide +kernel) rfl rfl (decide_eq_false (Int.not_le.mpr hc2)) ?_
    refine g_sipush 30 (show op 292 27 = some (.sipush 128, 3) by decide +kernel) rfl (by decide) ?_
    refine g_istore 32 [(some (.inr (.inr (some 682)))), d1, d2, (some (.inl x3)), (some (.inl x4)), (some (.inl x5)), (some (.inl x6)), (some (.inl 128))] (show op 292 30 = some (.istore 7, 2) by decide +kernel) rfl rfl rfl ?_
    exact h
  · rw [if_neg hc2] at h
    refine g_icmpT 117 (show op 292 24 = some (.if_icmp .ge 93, 3) by decide +kernel) rfl (decide_eq_true (Int.not_lt.mp hc2)) ?_
    refine g_iload 119 (show op 292 117 = some (.iload 5, 2) by decide +kernel) rfl rfl ?_
    obtain ⟨g1, h⟩ := h
    exact (g_zret (show op 292 119 = some (.ireturn, 1) by decide +kernel) (by decide +kernel) g1 h)
theorem b292_32 {d1 : Option AV} {d2 : Option AV} {x3 : Int} {x4 : Int} {x5 : Int} {x6 : Int} {x7 : Int} {σ : Sg} {o : Rs}   (h : (-2147483648 ≤ (128 + x4) ∧ (128 + x4) ≤ 2147483647) ∧ (if x7 < (128 + x4) then (if x5 = 0 then (0 ≤ x6 ∧ x6 < 256) ∧ (0 ≤ x6 ∧ x6 < 256) ∧ (0 ≤ x6 ∧ x6 < 256) ∧ (-2147483648 ≤ ((σ 702 (x6).toNat) + (σ 703 (x6).toNat)) ∧ ((σ 702 (x6).toNat) + (σ 703 (x6).toNat)) ≤ 2147483647) ∧ (0 ≤ x7 ∧ x7 < 256) ∧ (0 ≤ x7 ∧ x7 < 256) ∧ (0 ≤ x7 ∧ x7 < 256) ∧ (-2147483648 ≤ ((σ 700 (x7).toNat) + (σ 701 (x7).toNat)) ∧ ((σ 700 (x7).toNat) + (σ 701 (x7).toNat)) ≤ 2147483647) ∧ (∃ (v11 : Int) (s10 : Sg), Dd 291 [(.inl (σ 702 (x6).toNat)), (.inl ((σ 702 (x6).toNat) + (σ 703 (x6).toNat))), (.inl (σ 700 (x7).toNat)), (.inl ((σ 700 (x7).toNat) + (σ 701 (x7).toNat)))] σ (.inl (some (.inl v11)), s10) ∧ (if v11 = 0 then C292_103 d1 d2 x3 x4 (some (.inl x5)) x6 x7 0 s10 o else C292_98 d1 d2 x3 x4 (some (.inl x5)) x6 x7 s10 o)) else C292_98 d1 d2 x3 x4 (some (.inl x5)) x6 x7 σ o) else (-2147483648 ≤ (x6 + 1) ∧ (x6 + 1) ≤ 2147483647) ∧ C292_21 d1 d2 x3 x4 x5 (x6 + 1) (some (.inl x7)) σ o)) : C292_32 d1 d2 x3 x4 x5 x6 x7 σ o := by
  show Gd 292 32 [(some (.inr (.inr (some 682)))), d1, d2, (some (.inl x3)), (some (.inl x4)), (some (.inl x5)), (some (.inl x6)), (some (.inl x7))] [] σ 0 0 o
  refine g_iload 34 (show op 292 32 = some (.iload 7, 2) by decide +kernel) rfl rfl ?_
  refine g_sipush 37 (show op 292 34 = some (.sipush 128, 3) by decide +kernel) rfl (by decide) ?_
  refine g_iload 39 (show op 292 37 = some (.iload 4, 2) by decide +kernel) rfl rfl ?_
  obtain ⟨g1, h⟩ := h
  refine g_iadd 40 (show op 292 39 = some (.iadd, 1) by decide +kernel) rfl g1 ?_
  by_cases hc14 : x7 < (128 + x4)
  · rw [if_pos hc14] at h
    refine g_icmpF 43 111 (show op 292 40 = some (.if_icmp .ge 71, 3) by decide +kernel) rfl rfl (decide_eq_false (Int.not_le.mpr hc14)) ?_
    refine g_iload 45 (show op 292 43 = some (.iload 5, 2) by decide +kernel) rfl rfl ?_
    by_cases hc15 : x5 = 0
    · rw [if_pos hc15] at h
      refine g_ifF 48 98 (show op 292 45 = some (.ifCond .ne 53, 3) by decide +kernel) rfl rfl (decide_eq_false (fun h9 => h9 hc15)) ?_
      refine g_aload_n 49 (show op 292 48 = some (.aload_n 0, 1) by decide +kernel) rfl rfl ?_
      refine g_getR (ci := 11) (f := 28) (fin := true) (isR := true) 52 702 (show op 292 49 = some (.getfield 67, 3) by decide +kernel) rfl (by decide +kernel) (by decide +kernel) ?_
      refine g_iload 54 (show op 292 52 = some (.iload 6, 2) by decide +kernel) rfl rfl ?_
      obtain ⟨g2, h⟩ := h
      refine g_iaload 55 256 (show op 292 54 = some (.iaload, 1) by decide +kernel) rfl (by decide +kernel) g2 ?_
      refine g_aload_n 56 (show op 292 55 = some (.aload_n 0, 1) by decide +kernel) rfl rfl ?_
      refine g_getR (ci := 11) (f := 28) (fin := true) (isR := true) 59 702 (show op 292 56 = some (.getfield 67, 3) by decide +kernel) rfl (by decide +kernel) (by decide +kernel) ?_
      refine g_iload 61 (show op 292 59 = some (.iload 6, 2) by decide +kernel) rfl rfl ?_
      obtain ⟨g3, h⟩ := h
      refine g_iaload 62 256 (show op 292 61 = some (.iaload, 1) by decide +kernel) rfl (by decide +kernel) g3 ?_
      refine g_aload_n 63 (show op 292 62 = some (.aload_n 0, 1) by decide +kernel) rfl rfl ?_
      refine g_getR (ci := 11) (f := 29) (fin := true) (isR := true) 66 703 (show op 292 63 = some (.getfield 70, 3) by decide +kernel) rfl (by decide +kernel) (by decide +kernel) ?_
      refine g_iload 68 (show op 292 66 = some (.iload 6, 2) by decide +kernel) rfl rfl ?_
      obtain ⟨g4, h⟩ := h
      refine g_iaload 69 256 (show op 292 68 = some (.iaload, 1) by decide +kernel) rfl (by decide +kernel) g4 ?_
      obtain ⟨g5, h⟩ := h
      refine g_iadd 70 (show op 292 69 = some (.iadd, 1) by decide +kernel) rfl g5 ?_
      refine g_aload_n 71 (show op 292 70 = some (.aload_n 0, 1) by decide +kernel) rfl rfl ?_
      refine g_getR (ci := 11) (f := 26) (fin := true) (isR := true) 74 700 (show op 292 71 = some (.getfield 61, 3) by decide +kernel) rfl (by decide +kernel) (by decide +kernel) ?_
      refine g_iload 76 (show op 292 74 = some (.iload 7, 2) by decide +kernel) rfl rfl ?_
      obtain ⟨g6, h⟩ := h
      refine g_iaload 77 256 (show op 292 76 = some (.iaload, 1) by decide +kernel) rfl (by decide +kernel) g6 ?_
      refine g_aload_n 78 (show op 292 77 = some (.aload_n 0, 1) by decide +kernel) rfl rfl ?_
      refine g_getR (ci := 11) (f := 26) (fin := true) (isR := true) 81 700 (show op 292 78 = some (.getfield 61, 3) by decide +kernel) rfl (by decide +kernel) (by decide +kernel) ?_
      refine g_iload 83 (show op 292 81 = some (.iload 7, 2) by decide +kernel) rfl rfl ?_
      obtain ⟨g7, h⟩ := h
      refine g_iaload 84 256 (show op 292 83 = some (.iaload, 1) by decide +kernel) rfl (by decide +kernel) g7 ?_
      refine g_aload_n 85 (show op 292 84 = some (.aload_n 0, 1) by decide +kernel) rfl rfl ?_
      refine g_getR (ci := 11) (f := 27) (fin := true) (isR := true) 88 701 (show op 292 85 = some (.getfield 64, 3) by decide +kernel) rfl (by decide +kernel) (by decide +kernel) ?_
      refine g_iload 90 (show op 292 88 = some (.iload 7, 2) by decide +kernel) rfl rfl ?_
      obtain ⟨g8, h⟩ := h
      refine g_iaload 91 256 (show op 292 90 = some (.iaload, 1) by decide +kernel) rfl (by decide +kernel) g8 ?_
      obtain ⟨g9, h⟩ := h
      refine g_iadd 92 (show op 292 91 = some (.iadd, 1) by decide +kernel) rfl g9 ?_
      obtain ⟨v11, s10, hD12, h⟩ := h
      refine g_call 95 [(.inl v11)] (show op 292 92 = some (.invokestatic 276, 3) by decide +kernel) (call_st' (k' := 0) (n' := 0) (nj := 4) (j := 291) (t := []) (as := [(.inl (σ 702 (x6).toNat)), (.inl ((σ 702 (x6).toNat) + (σ 703 (x6).toNat))), (.inl (σ 700 (x7).toNat)), (.inl ((σ 700 (x7).toNat) + (σ 701 (x7).toNat)))]) (by decide +kernel) rfl (by decide +kernel) rfl rfl rfl rfl rfl) hD12 rfl ?_
      by_cases hc16 : v11 = 0
      · rw [if_pos hc16] at h
        refine g_ifT 102 (show op 292 95 = some (.ifCond .eq 7, 3) by decide +kernel) rfl (decide_eq_true hc16) ?_
        refine g_iconst 103 (show op 292 102 = some (.iconst 0, 1) by decide +kernel) rfl rfl ?_
        exact h
      · rw [if_neg hc16] at h
        refine g_ifF 98 102 (show op 292 95 = some (.ifCond .eq 7, 3) by decide +kernel) rfl rfl (decide_eq_false hc16) ?_
        exact h
    · rw [if_neg hc15] at h
      refine g_ifT 98 (show op 292 45 = some (.ifCond .ne 53, 3) by decide +kernel) rfl (decide_eq_true hc15) ?_
      exact h
  · rw [if_neg hc14] at h
    refine g_icmpT 111 (show op 292 40 = some (.if_icmp .ge 71, 3) by decide +kernel) rfl (decide_eq_true (Int.not_lt.mp hc14)) ?_
    obtain ⟨g13, h⟩ := h
    refine g_iinc 114 [(some (.inr (.inr (some 682)))), d1, d2, (some (.inl x3)), (some (.inl x4)), (some (.inl x5)), (some (.inl (x6 + 1))), (some (.inl x7))] (show op 292 111 = some (.iinc 6 1, 3) by decide +kernel) rfl rfl g13 rfl ?_
    refine g_goto 21 (show op 292 114 = some (.goto (-93), 3) by decide +kernel) rfl ?_
    exact h
theorem b292_103 {d1 : Option AV} {d2 : Option AV} {x3 : Int} {x4 : Int} {d5 : Option AV} {x6 : Int} {x7 : Int} {y0 : Int} {σ : Sg} {o : Rs}   (h : (-2147483648 ≤ (x7 + 1) ∧ (x7 + 1) ≤ 2147483647) ∧ C292_32 d1 d2 x3 x4 y0 x6 (x7 + 1) σ o) : C292_103 d1 d2 x3 x4 d5 x6 x7 y0 σ o := by
  show Gd 292 103 [(some (.inr (.inr (some 682)))), d1, d2, (some (.inl x3)), (some (.inl x4)), d5, (some (.inl x6)), (some (.inl x7))] [(.inl y0)] σ 0 0 o
  refine g_istore 105 [(some (.inr (.inr (some 682)))), d1, d2, (some (.inl x3)), (some (.inl x4)), (some (.inl y0)), (some (.inl x6)), (some (.inl x7))] (show op 292 103 = some (.istore 5, 2) by decide +kernel) rfl rfl rfl ?_
  obtain ⟨g1, h⟩ := h
  refine g_iinc 108 [(some (.inr (.inr (some 682)))), d1, d2, (some (.inl x3)), (some (.inl x4)), (some (.inl y0)), (some (.inl x6)), (some (.inl (x7 + 1)))] (show op 292 105 = some (.iinc 7 1, 3) by decide +kernel) rfl rfl g1 rfl ?_
  refine g_goto 32 (show op 292 108 = some (.goto (-76), 3) by decide +kernel) rfl ?_
  exact h
theorem b292_98 {d1 : Option AV} {d2 : Option AV} {x3 : Int} {x4 : Int} {d5 : Option AV} {x6 : Int} {x7 : Int} {σ : Sg} {o : Rs}   (h : C292_103 d1 d2 x3 x4 d5 x6 x7 1 σ o) : C292_98 d1 d2 x3 x4 d5 x6 x7 σ o := by
  show Gd 292 98 [(some (.inr (.inr (some 682)))), d1, d2, (some (.inl x3)), (some (.inl x4)), d5, (some (.inl x6)), (some (.inl x7))] [] σ 0 0 o
  refine g_iconst 99 (show op 292 98 = some (.iconst 1, 1) by decide +kernel) rfl rfl ?_
  refine g_goto 103 (show op 292 99 = some (.goto 4, 3) by decide +kernel) rfl ?_
  exact h
/-- PatchBenchModel.dependsOn (II)Z -/
theorem b292 {x1 : Int} {x2 : Int} {σ : Sg} {o : Rs}   (h : (∃ (v2 : Int) (s1 : Sg), Dd 280 [(.inr (.inr (some 682))), (.inl x1), (.inl 0)] σ (.inl (some (.inl v2)), s1) ∧ (∃ (v5 : Int) (s4 : Sg), Dd 280 [(.inr (.inr (some 682))), (.inl x2), (.inl 1)] s1 (.inl (some (.inl v5)), s4) ∧ C292_21 (some (.inl x1)) (some (.inl x2)) v2 v5 0 0 none s4 o))) : Dd 292 [(.inr (.inr (some 682))), (.inl x1), (.inl x2)] σ o := by
  refine Dd_of (l := 8) (by decide +kernel) ?_
  show Gd 292 0 [(some (.inr (.inr (some 682)))), (some (.inl x1)), (some (.inl x2)), none, none, none, none, none] [] σ 0 0 o
  refine g_aload_n 1 (show op 292 0 = some (.aload_n 0, 1) by decide +kernel) rfl rfl ?_
  refine g_iload_n 2 (show op 292 1 = some (.iload_n 1, 1) by decide +kernel) rfl rfl ?_
  refine g_iconst 3 (show op 292 2 = some (.iconst 0, 1) by decide +kernel) rfl rfl ?_
  obtain ⟨v2, s1, hD3, h⟩ := h
  refine g_call 6 [(.inl v2)] (show op 292 3 = some (.invokevirtual 267, 3) by decide +kernel) (call_vi' (k' := 0) (n' := 0) (nj := 3) (j := 280) (k9 := 21) (t := []) (as := [(.inr (.inr (some 682))), (.inl x1), (.inl 0)]) (by decide +kernel) rfl (by decide +kernel) rfl rfl rfl rfl rfl rfl (by decide +kernel) (by decide +kernel)) hD3 rfl ?_
  refine g_istore_n 7 [(some (.inr (.inr (some 682)))), (some (.inl x1)), (some (.inl x2)), (some (.inl v2)), none, none, none, none] (show op 292 6 = some (.istore_n 3, 1) by decide +kernel) rfl rfl rfl ?_
  refine g_aload_n 8 (show op 292 7 = some (.aload_n 0, 1) by decide +kernel) rfl rfl ?_
  refine g_iload_n 9 (show op 292 8 = some (.iload_n 2, 1) by decide +kernel) rfl rfl ?_
  refine g_iconst 10 (show op 292 9 = some (.iconst 1, 1) by decide +kernel) rfl rfl ?_
  obtain ⟨v5, s4, hD6, h⟩ := h
  refine g_call 13 [(.inl v5)] (show op 292 10 = some (.invokevirtual 267, 3) by decide +kernel) (call_vi' (k' := 0) (n' := 0) (nj := 3) (j := 280) (k9 := 21) (t := []) (as := [(.inr (.inr (some 682))), (.inl x2), (.inl 1)]) (by decide +kernel) rfl (by decide +kernel) rfl rfl rfl rfl rfl rfl (by decide +kernel) (by decide +kernel)) hD6 rfl ?_
  refine g_istore 15 [(some (.inr (.inr (some 682)))), (some (.inl x1)), (some (.inl x2)), (some (.inl v2)), (some (.inl v5)), none, none, none] (show op 292 13 = some (.istore 4, 2) by decide +kernel) rfl rfl rfl ?_
  refine g_iconst 16 (show op 292 15 = some (.iconst 0, 1) by decide +kernel) rfl rfl ?_
  refine g_istore 18 [(some (.inr (.inr (some 682)))), (some (.inl x1)), (some (.inl x2)), (some (.inl v2)), (some (.inl v5)), (some (.inl 0)), none, none] (show op 292 16 = some (.istore 5, 2) by decide +kernel) rfl rfl rfl ?_
  refine g_iconst 19 (show op 292 18 = some (.iconst 0, 1) by decide +kernel) rfl rfl ?_
  refine g_istore 21 [(some (.inr (.inr (some 682)))), (some (.inl x1)), (some (.inl x2)), (some (.inl v2)), (some (.inl v5)), (some (.inl 0)), (some (.inl 0)), none] (show op 292 19 = some (.istore 6, 2) by decide +kernel) rfl rfl rfl ?_
  exact h
def C293_2 (x1 : Int) (x2 : Int) (σ : Sg) (o : Rs) : Prop := Gd 293 2 [(some (.inr (.inr (some 682)))), (some (.inl x1)), (some (.inl x2))] [] σ 0 0 o
def C293_27 (x1 : Int) (x2 : Int) (σ : Sg) (o : Rs) : Prop := Gd 293 27 [(some (.inr (.inr (some 682)))), (some (.inl x1)), (some (.inl x2))] [] σ 0 0 o
def C293_69 (x1 : Int) (x2 : Int) (σ : Sg) (o : Rs) : Prop := Gd 293 69 [(some (.inr (.inr (some 682)))), (some (.inl x1)), (some (.inl x2))] [] σ 0 0 o
theorem b293_2 {x1 : Int} {x2 : Int} {σ : Sg} {o : Rs}   (h : (0 ≤ x1 ∧ x1 < 44) ∧ (if x2 < (σ 689 (x1).toNat) then (0 ≤ x2 ∧ x2 < 100) ∧ (-2147483648 ≤ (x2 + 1) ∧ (x2 + 1) ≤ 2147483647) ∧ C293_2 x1 (x2 + 1) (upS σ 690 ((x2).toNat) (-1)) o else C293_27 x1 0 σ o)) : C293_2 x1 x2 σ o := by
  show Gd 293 2 [(some (.inr (.inr (some 682)))), (some (.inl x1)), (some (.inl x2))] [] σ 0 0 o
  refine g_iload_n 3 (show op 293 2 = some (.iload_n 2, 1) by decide +kernel) rfl rfl ?_
  refine g_aload_n 4 (show op 293 3 = some (.aload_n 0, 1) by decide +kernel) rfl rfl ?_
  refine g_getR (ci := 11) (f := 8) (fin := true) (isR := true) 7 689 (show op 293 4 = some (.getfield 28, 3) by decide +kernel) rfl (by decide +kernel) (by decide +kernel) ?_
  refine g_iload_n 8 (show op 293 7 = some (.iload_n 1, 1) by decide +kernel) rfl rfl ?_
  obtain ⟨g1, h⟩ := h
  refine g_iaload 9 44 (show op 293 8 = some (.iaload, 1) by decide +kernel) rfl (by decide +kernel) g1 ?_
  by_cases hc4 : x2 < (σ 689 (x1).toNat)
  · rw [if_pos hc4] at h
    refine g_icmpF 12 25 (show op 293 9 = some (.if_icmp .ge 16, 3) by decide +kernel) rfl rfl (decide_eq_false (Int.not_le.mpr hc4)) ?_
    refine g_aload_n 13 (show op 293 12 = some (.aload_n 0, 1) by decide +kernel) rfl rfl ?_
    refine g_getR (ci := 11) (f := 9) (fin := true) (isR := true) 16 690 (show op 293 13 = some (.getfield 31, 3) by decide +kernel) rfl (by decide +kernel) (by decide +kernel) ?_
    refine g_iload_n 17 (show op 293 16 = some (.iload_n 2, 1) by decide +kernel) rfl rfl ?_
    refine g_iconst 18 (show op 293 17 = some (.iconst (-1), 1) by decide +kernel) rfl rfl ?_
    obtain ⟨g2, h⟩ := h
    refine g_iastore 19 100 (show op 293 18 = some (.iastore, 1) by decide +kernel) rfl (by decide +kernel) g2 ?_
    obtain ⟨g3, h⟩ := h
    refine g_iinc 22 [(some (.inr (.inr (some 682)))), (some (.inl x1)), (some (.inl (x2 + 1)))] (show op 293 19 = some (.iinc 2 1, 3) by decide +kernel) rfl rfl g3 rfl ?_
    refine g_goto 2 (show op 293 22 = some (.goto (-20), 3) by decide +kernel) rfl ?_
    exact h
  · rw [if_neg hc4] at h
    refine g_icmpT 25 (show op 293 9 = some (.if_icmp .ge 16, 3) by decide +kernel) rfl (decide_eq_true (Int.not_lt.mp hc4)) ?_
    refine g_iconst 26 (show op 293 25 = some (.iconst 0, 1) by decide +kernel) rfl rfl ?_
    refine g_istore_n 27 [(some (.inr (.inr (some 682)))), (some (.inl x1)), (some (.inl 0))] (show op 293 26 = some (.istore_n 2, 1) by decide +kernel) rfl rfl rfl ?_
    exact h
theorem b293_27 {x1 : Int} {x2 : Int} {σ : Sg} {o : Rs}   (h : (0 ≤ x1 ∧ x1 < 44) ∧ (if x2 < (σ 688 (x1).toNat) then (-2147483648 ≤ (100 * x1) ∧ (100 * x1) ≤ 2147483647) ∧ (-2147483648 ≤ ((100 * x1) + x2) ∧ ((100 * x1) + x2) ≤ 2147483647) ∧ (0 ≤ ((100 * x1) + x2) ∧ ((100 * x1) + x2) < 4400) ∧ (if (σ 687 (((100 * x1) + x2)).toNat) = (-1) then C293_69 x1 x2 σ o else (-2147483648 ≤ (100 * x1) ∧ (100 * x1) ≤ 2147483647) ∧ (-2147483648 ≤ ((100 * x1) + x2) ∧ ((100 * x1) + x2) ≤ 2147483647) ∧ (0 ≤ ((100 * x1) + x2) ∧ ((100 * x1) + x2) < 4400) ∧ (0 ≤ (σ 687 (((100 * x1) + x2)).toNat) ∧ (σ 687 (((100 * x1) + x2)).toNat) < 100) ∧ C293_69 x1 x2 (upS σ 690 (((σ 687 (((100 * x1) + x2)).toNat)).toNat) x2) o) else o = (.inl none, σ))) : C293_27 x1 x2 σ o := by
  show Gd 293 27 [(some (.inr (.inr (some 682)))), (some (.inl x1)), (some (.inl x2))] [] σ 0 0 o
  refine g_iload_n 28 (show op 293 27 = some (.iload_n 2, 1) by decide +kernel) rfl rfl ?_
  refine g_aload_n 29 (show op 293 28 = some (.aload_n 0, 1) by decide +kernel) rfl rfl ?_
  refine g_getR (ci := 11) (f := 7) (fin := true) (isR := true) 32 688 (show op 293 29 = some (.getfield 25, 3) by decide +kernel) rfl (by decide +kernel) (by decide +kernel) ?_
  refine g_iload_n 33 (show op 293 32 = some (.iload_n 1, 1) by decide +kernel) rfl rfl ?_
  obtain ⟨g1, h⟩ := h
  refine g_iaload 34 44 (show op 293 33 = some (.iaload, 1) by decide +kernel) rfl (by decide +kernel) g1 ?_
  by_cases hc9 : x2 < (σ 688 (x1).toNat)
  · rw [if_pos hc9] at h
    refine g_icmpF 37 75 (show op 293 34 = some (.if_icmp .ge 41, 3) by decide +kernel) rfl rfl (decide_eq_false (Int.not_le.mpr hc9)) ?_
    refine g_aload_n 38 (show op 293 37 = some (.aload_n 0, 1) by decide +kernel) rfl rfl ?_
    refine g_getR (ci := 11) (f := 6) (fin := true) (isR := true) 41 687 (show op 293 38 = some (.getfield 22, 3) by decide +kernel) rfl (by decide +kernel) (by decide +kernel) ?_
    refine g_bipush 43 (show op 293 41 = some (.bipush 100, 2) by decide +kernel) rfl (by decide) ?_
    refine g_iload_n 44 (show op 293 43 = some (.iload_n 1, 1) by decide +kernel) rfl rfl ?_
    obtain ⟨g2, h⟩ := h
    refine g_imul 45 (show op 293 44 = some (.imul, 1) by decide +kernel) rfl g2 ?_
    refine g_iload_n 46 (show op 293 45 = some (.iload_n 2, 1) by decide +kernel) rfl rfl ?_
    obtain ⟨g3, h⟩ := h
    refine g_iadd 47 (show op 293 46 = some (.iadd, 1) by decide +kernel) rfl g3 ?_
    obtain ⟨g4, h⟩ := h
    refine g_iaload 48 4400 (show op 293 47 = some (.iaload, 1) by decide +kernel) rfl (by decide +kernel) g4 ?_
    refine g_iconst 49 (show op 293 48 = some (.iconst (-1), 1) by decide +kernel) rfl rfl ?_
    by_cases hc10 : (σ 687 (((100 * x1) + x2)).toNat) = (-1)
    · rw [if_pos hc10] at h
      refine g_icmpT 69 (show op 293 49 = some (.if_icmp .eq 20, 3) by decide +kernel) rfl (decide_eq_true hc10) ?_
      exact h
    · rw [if_neg hc10] at h
      refine g_icmpF 52 69 (show op 293 49 = some (.if_icmp .eq 20, 3) by decide +kernel) rfl rfl (decide_eq_false hc10) ?_
      refine g_aload_n 53 (show op 293 52 = some (.aload_n 0, 1) by decide +kernel) rfl rfl ?_
      refine g_getR (ci := 11) (f := 9) (fin := true) (isR := true) 56 690 (show op 293 53 = some (.getfield 31, 3) by decide +kernel) rfl (by decide +kernel) (by decide +kernel) ?_
      refine g_aload_n 57 (show op 293 56 = some (.aload_n 0, 1) by decide +kernel) rfl rfl ?_
      refine g_getR (ci := 11) (f := 6) (fin := true) (isR := true) 60 687 (show op 293 57 = some (.getfield 22, 3) by decide +kernel) rfl (by decide +kernel) (by decide +kernel) ?_
      refine g_bipush 62 (show op 293 60 = some (.bipush 100, 2) by decide +kernel) rfl (by decide) ?_
      refine g_iload_n 63 (show op 293 62 = some (.iload_n 1, 1) by decide +kernel) rfl rfl ?_
      obtain ⟨g5, h⟩ := h
      refine g_imul 64 (show op 293 63 = some (.imul, 1) by decide +kernel) rfl g5 ?_
      refine g_iload_n 65 (show op 293 64 = some (.iload_n 2, 1) by decide +kernel) rfl rfl ?_
      obtain ⟨g6, h⟩ := h
      refine g_iadd 66 (show op 293 65 = some (.iadd, 1) by decide +kernel) rfl g6 ?_
      obtain ⟨g7, h⟩ := h
      refine g_iaload 67 4400 (show op 293 66 = some (.iaload, 1) by decide +kernel) rfl (by decide +kernel) g7 ?_
      refine g_iload_n 68 (show op 293 67 = some (.iload_n 2, 1) by decide +kernel) rfl rfl ?_
      obtain ⟨g8, h⟩ := h
      refine g_iastore 69 100 (show op 293 68 = some (.iastore, 1) by decide +kernel) rfl (by decide +kernel) g8 ?_
      exact h
  · rw [if_neg hc9] at h
    refine g_icmpT 75 (show op 293 34 = some (.if_icmp .ge 41, 3) by decide +kernel) rfl (decide_eq_true (Int.not_lt.mp hc9)) ?_
    exact g_vret (show op 293 75 = some (.return_, 1) by decide +kernel) (by decide +kernel) h
theorem b293_69 {x1 : Int} {x2 : Int} {σ : Sg} {o : Rs}   (h : (-2147483648 ≤ (x2 + 1) ∧ (x2 + 1) ≤ 2147483647) ∧ C293_27 x1 (x2 + 1) σ o) : C293_69 x1 x2 σ o := by
  show Gd 293 69 [(some (.inr (.inr (some 682)))), (some (.inl x1)), (some (.inl x2))] [] σ 0 0 o
  obtain ⟨g1, h⟩ := h
  refine g_iinc 72 [(some (.inr (.inr (some 682)))), (some (.inl x1)), (some (.inl (x2 + 1)))] (show op 293 69 = some (.iinc 2 1, 3) by decide +kernel) rfl rfl g1 rfl ?_
  refine g_goto 27 (show op 293 72 = some (.goto (-45), 3) by decide +kernel) rfl ?_
  exact h
/-- PatchBenchModel.laysInverse (I)V -/
theorem b293 {x1 : Int} {σ : Sg} {o : Rs}   (h : C293_2 x1 0 σ o) : Dd 293 [(.inr (.inr (some 682))), (.inl x1)] σ o := by
  refine Dd_of (l := 3) (by decide +kernel) ?_
  show Gd 293 0 [(some (.inr (.inr (some 682)))), (some (.inl x1)), none] [] σ 0 0 o
  refine g_iconst 1 (show op 293 0 = some (.iconst 0, 1) by decide +kernel) rfl rfl ?_
  refine g_istore_n 2 [(some (.inr (.inr (some 682)))), (some (.inl x1)), (some (.inl 0))] (show op 293 1 = some (.istore_n 2, 1) by decide +kernel) rfl rfl rfl ?_
  exact h
def C294_31 (x1 : Int) (x2 : Int) (x3 : Int) (σ : Sg) (o : Rs) : Prop := Gd 294 31 [(some (.inr (.inr (some 682)))), (some (.inl x1)), (some (.inl x2)), (some (.inl x3))] [] σ 0 0 o
def C294_88 (x1 : Int) (x2 : Int) (x3 : Int) (σ : Sg) (o : Rs) : Prop := Gd 294 88 [(some (.inr (.inr (some 682)))), (some (.inl x1)), (some (.inl x2)), (some (.inl x3))] [] σ 0 0 o
theorem b294_31 {x1 : Int} {x2 : Int} {x3 : Int} {σ : Sg} {o : Rs}   (h : (0 ≤ x2 ∧ x2 < 44) ∧ (if x3 < (σ 688 (x2).toNat) then (-2147483648 ≤ (100 * x2) ∧ (100 * x2) ≤ 2147483647) ∧ (-2147483648 ≤ ((100 * x2) + x3) ∧ ((100 * x2) + x3) ≤ 2147483647) ∧ (-2147483648 ≤ (100 * x1) ∧ (100 * x1) ≤ 2147483647) ∧ (-2147483648 ≤ ((100 * x1) + x3) ∧ ((100 * x1) + x3) ≤ 2147483647) ∧ (0 ≤ ((100 * x1) + x3) ∧ ((100 * x1) + x3) < 4400) ∧ (0 ≤ ((100 * x2) + x3) ∧ ((100 * x2) + x3) < 4400) ∧ (-2147483648 ≤ (100 * x2) ∧ (100 * x2) ≤ 2147483647) ∧ (-2147483648 ≤ ((100 * x2) + x3) ∧ ((100 * x2) + x3) ≤ 2147483647) ∧ (0 ≤ x3 ∧ x3 < 100) ∧ (0 ≤ ((100 * x2) + x3) ∧ ((100 * x2) + x3) < 4400) ∧ (-2147483648 ≤ (x3 + 1) ∧ (x3 + 1) ≤ 2147483647) ∧ C294_31 x1 x2 (x3 + 1) (upS (upS σ 685 ((((100 * x2) + x3)).toNat) (σ 686 (((100 * x1) + x3)).toNat)) 687 ((((100 * x2) + x3)).toNat) ((upS σ 685 ((((100 * x2) + x3)).toNat) (σ 686 (((100 * x1) + x3)).toNat)) 690 (x3).toNat)) o else C294_88 x1 x2 0 σ o)) : C294_31 x1 x2 x3 σ o := by
  show Gd 294 31 [(some (.inr (.inr (some 682)))), (some (.inl x1)), (some (.inl x2)), (some (.inl x3))] [] σ 0 0 o
  refine g_iload_n 32 (show op 294 31 = some (.iload_n 3, 1) by decide +kernel) rfl rfl ?_
  refine g_aload_n 33 (show op 294 32 = some (.aload_n 0, 1) by decide +kernel) rfl rfl ?_
  refine g_getR (ci := 11) (f := 7) (fin := true) (isR := true) 36 688 (show op 294 33 = some (.getfield 25, 3) by decide +kernel) rfl (by decide +kernel) (by decide +kernel) ?_
  refine g_iload_n 37 (show op 294 36 = some (.iload_n 2, 1) by decide +kernel) rfl rfl ?_
  obtain ⟨g1, h⟩ := h
  refine g_iaload 38 44 (show op 294 37 = some (.iaload, 1) by decide +kernel) rfl (by decide +kernel) g1 ?_
  by_cases hc13 : x3 < (σ 688 (x2).toNat)
  · rw [if_pos hc13] at h
    refine g_icmpF 41 86 (show op 294 38 = some (.if_icmp .ge 48, 3) by decide +kernel) rfl rfl (decide_eq_false (Int.not_le.mpr hc13)) ?_
    refine g_aload_n 42 (show op 294 41 = some (.aload_n 0, 1) by decide +kernel) rfl rfl ?_
    refine g_getR (ci := 11) (f := 4) (fin := true) (isR := true) 45 685 (show op 294 42 = some (.getfield 16, 3) by decide +kernel) rfl (by decide +kernel) (by decide +kernel) ?_
    refine g_bipush 47 (show op 294 45 = some (.bipush 100, 2) by decide +kernel) rfl (by decide) ?_
    refine g_iload_n 48 (show op 294 47 = some (.iload_n 2, 1) by decide +kernel) rfl rfl ?_
    obtain ⟨g2, h⟩ := h
    refine g_imul 49 (show op 294 48 = some (.imul, 1) by decide +kernel) rfl g2 ?_
    refine g_iload_n 50 (show op 294 49 = some (.iload_n 3, 1) by decide +kernel) rfl rfl ?_
    obtain ⟨g3, h⟩ := h
    refine g_iadd 51 (show op 294 50 = some (.iadd, 1) by decide +kernel) rfl g3 ?_
    refine g_aload_n 52 (show op 294 51 = some (.aload_n 0, 1) by decide +kernel) rfl rfl ?_
    refine g_getR (ci := 11) (f := 5) (fin := true) (isR := true) 55 686 (show op 294 52 = some (.getfield 19, 3) by decide +kernel) rfl (by decide +kernel) (by decide +kernel) ?_
    refine g_bipush 57 (show op 294 55 = some (.bipush 100, 2) by decide +kernel) rfl (by decide) ?_
    refine g_iload_n 58 (show op 294 57 = some (.iload_n 1, 1) by decide +kernel) rfl rfl ?_
    obtain ⟨g4, h⟩ := h
    refine g_imul 59 (show op 294 58 = some (.imul, 1) by decide +kernel) rfl g4 ?_
    refine g_iload_n 60 (show op 294 59 = some (.iload_n 3, 1) by decide +kernel) rfl rfl ?_
    obtain ⟨g5, h⟩ := h
    refine g_iadd 61 (show op 294 60 = some (.iadd, 1) by decide +kernel) rfl g5 ?_
    obtain ⟨g6, h⟩ := h
    refine g_iaload 62 4400 (show op 294 61 = some (.iaload, 1) by decide +kernel) rfl (by decide +kernel) g6 ?_
    obtain ⟨g7, h⟩ := h
    refine g_iastore 63 4400 (show op 294 62 = some (.iastore, 1) by decide +kernel) rfl (by decide +kernel) g7 ?_
    refine g_aload_n 64 (show op 294 63 = some (.aload_n 0, 1) by decide +kernel) rfl rfl ?_
    refine g_getR (ci := 11) (f := 6) (fin := true) (isR := true) 67 687 (show op 294 64 = some (.getfield 22, 3) by decide +kernel) rfl (by decide +kernel) (by decide +kernel) ?_
    refine g_bipush 69 (show op 294 67 = some (.bipush 100, 2) by decide +kernel) rfl (by decide) ?_
    refine g_iload_n 70 (show op 294 69 = some (.iload_n 2, 1) by decide +kernel) rfl rfl ?_
    obtain ⟨g8, h⟩ := h
    refine g_imul 71 (show op 294 70 = some (.imul, 1) by decide +kernel) rfl g8 ?_
    refine g_iload_n 72 (show op 294 71 = some (.iload_n 3, 1) by decide +kernel) rfl rfl ?_
    obtain ⟨g9, h⟩ := h
    refine g_iadd 73 (show op 294 72 = some (.iadd, 1) by decide +kernel) rfl g9 ?_
    refine g_aload_n 74 (show op 294 73 = some (.aload_n 0, 1) by decide +kernel) rfl rfl ?_
    refine g_getR (ci := 11) (f := 9) (fin := true) (isR := true) 77 690 (show op 294 74 = some (.getfield 31, 3) by decide +kernel) rfl (by decide +kernel) (by decide +kernel) ?_
    refine g_iload_n 78 (show op 294 77 = some (.iload_n 3, 1) by decide +kernel) rfl rfl ?_
    obtain ⟨g10, h⟩ := h
    refine g_iaload 79 100 (show op 294 78 = some (.iaload, 1) by decide +kernel) rfl (by decide +kernel) g10 ?_
    obtain ⟨g11, h⟩ := h
    refine g_iastore 80 4400 (show op 294 79 = some (.iastore, 1) by decide +kernel) rfl (by decide +kernel) g11 ?_
    obtain ⟨g12, h⟩ := h
    refine g_iinc 83 [(some (.inr (.inr (some 682)))), (some (.inl x1)), (some (.inl x2)), (some (.inl (x3 + 1)))] (show op 294 80 = some (.iinc 3 1, 3) by decide +kernel) rfl rfl g12 rfl ?_
    refine g_goto 31 (show op 294 83 = some (.goto (-52), 3) by decide +kernel) rfl ?_
    exact h
  · rw [if_neg hc13] at h
    refine g_icmpT 86 (show op 294 38 = some (.if_icmp .ge 48, 3) by decide +kernel) rfl (decide_eq_true (Int.not_lt.mp hc13)) ?_
    refine g_iconst 87 (show op 294 86 = some (.iconst 0, 1) by decide +kernel) rfl rfl ?_
    refine g_istore_n 88 [(some (.inr (.inr (some 682)))), (some (.inl x1)), (some (.inl x2)), (some (.inl 0))] (show op 294 87 = some (.istore_n 3, 1) by decide +kernel) rfl rfl rfl ?_
    exact h
theorem b294_88 {x1 : Int} {x2 : Int} {x3 : Int} {σ : Sg} {o : Rs}   (h : (0 ≤ x2 ∧ x2 < 44) ∧ (if x3 < (σ 689 (x2).toNat) then (-2147483648 ≤ (100 * x2) ∧ (100 * x2) ≤ 2147483647) ∧ (-2147483648 ≤ ((100 * x2) + x3) ∧ ((100 * x2) + x3) ≤ 2147483647) ∧ (-2147483648 ≤ (100 * x1) ∧ (100 * x1) ≤ 2147483647) ∧ (-2147483648 ≤ ((100 * x1) + x3) ∧ ((100 * x1) + x3) ≤ 2147483647) ∧ (0 ≤ ((100 * x1) + x3) ∧ ((100 * x1) + x3) < 4400) ∧ (0 ≤ ((100 * x2) + x3) ∧ ((100 * x2) + x3) < 4400) ∧ (-2147483648 ≤ (x3 + 1) ∧ (x3 + 1) ≤ 2147483647) ∧ C294_88 x1 x2 (x3 + 1) (upS σ 686 ((((100 * x2) + x3)).toNat) (σ 685 (((100 * x1) + x3)).toNat)) o else o = (.inl none, σ))) : C294_88 x1 x2 x3 σ o := by
  show Gd 294 88 [(some (.inr (.inr (some 682)))), (some (.inl x1)), (some (.inl x2)), (some (.inl x3))] [] σ 0 0 o
  refine g_iload_n 89 (show op 294 88 = some (.iload_n 3, 1) by decide +kernel) rfl rfl ?_
  refine g_aload_n 90 (show op 294 89 = some (.aload_n 0, 1) by decide +kernel) rfl rfl ?_
  refine g_getR (ci := 11) (f := 8) (fin := true) (isR := true) 93 689 (show op 294 90 = some (.getfield 28, 3) by decide +kernel) rfl (by decide +kernel) (by decide +kernel) ?_
  refine g_iload_n 94 (show op 294 93 = some (.iload_n 2, 1) by decide +kernel) rfl rfl ?_
  obtain ⟨g1, h⟩ := h
  refine g_iaload 95 44 (show op 294 94 = some (.iaload, 1) by decide +kernel) rfl (by decide +kernel) g1 ?_
  by_cases hc9 : x3 < (σ 689 (x2).toNat)
  · rw [if_pos hc9] at h
    refine g_icmpF 98 126 (show op 294 95 = some (.if_icmp .ge 31, 3) by decide +kernel) rfl rfl (decide_eq_false (Int.not_le.mpr hc9)) ?_
    refine g_aload_n 99 (show op 294 98 = some (.aload_n 0, 1) by decide +kernel) rfl rfl ?_
    refine g_getR (ci := 11) (f := 5) (fin := true) (isR := true) 102 686 (show op 294 99 = some (.getfield 19, 3) by decide +kernel) rfl (by decide +kernel) (by decide +kernel) ?_
    refine g_bipush 104 (show op 294 102 = some (.bipush 100, 2) by decide +kernel) rfl (by decide) ?_
    refine g_iload_n 105 (show op 294 104 = some (.iload_n 2, 1) by decide +kernel) rfl rfl ?_
    obtain ⟨g2, h⟩ := h
    refine g_imul 106 (show op 294 105 = some (.imul, 1) by decide +kernel) rfl g2 ?_
    refine g_iload_n 107 (show op 294 106 = some (.iload_n 3, 1) by decide +kernel) rfl rfl ?_
    obtain ⟨g3, h⟩ := h
    refine g_iadd 108 (show op 294 107 = some (.iadd, 1) by decide +kernel) rfl g3 ?_
    refine g_aload_n 109 (show op 294 108 = some (.aload_n 0, 1) by decide +kernel) rfl rfl ?_
    refine g_getR (ci := 11) (f := 4) (fin := true) (isR := true) 112 685 (show op 294 109 = some (.getfield 16, 3) by decide +kernel) rfl (by decide +kernel) (by decide +kernel) ?_
    refine g_bipush 114 (show op 294 112 = some (.bipush 100, 2) by decide +kernel) rfl (by decide) ?_
    refine g_iload_n 115 (show op 294 114 = some (.iload_n 1, 1) by decide +kernel) rfl rfl ?_
    obtain ⟨g4, h⟩ := h
    refine g_imul 116 (show op 294 115 = some (.imul, 1) by decide +kernel) rfl g4 ?_
    refine g_iload_n 117 (show op 294 116 = some (.iload_n 3, 1) by decide +kernel) rfl rfl ?_
    obtain ⟨g5, h⟩ := h
    refine g_iadd 118 (show op 294 117 = some (.iadd, 1) by decide +kernel) rfl g5 ?_
    obtain ⟨g6, h⟩ := h
    refine g_iaload 119 4400 (show op 294 118 = some (.iaload, 1) by decide +kernel) rfl (by decide +kernel) g6 ?_
    obtain ⟨g7, h⟩ := h
    refine g_iastore 120 4400 (show op 294 119 = some (.iastore, 1) by decide +kernel) rfl (by decide +kernel) g7 ?_
    obtain ⟨g8, h⟩ := h
    refine g_iinc 123 [(some (.inr (.inr (some 682)))), (some (.inl x1)), (some (.inl x2)), (some (.inl (x3 + 1)))] (show op 294 120 = some (.iinc 3 1, 3) by decide +kernel) rfl rfl g8 rfl ?_
    refine g_goto 88 (show op 294 123 = some (.goto (-35), 3) by decide +kernel) rfl ?_
    exact h
  · rw [if_neg hc9] at h
    refine g_icmpT 126 (show op 294 95 = some (.if_icmp .ge 31, 3) by decide +kernel) rfl (decide_eq_true (Int.not_lt.mp hc9)) ?_
    exact g_vret (show op 294 126 = some (.return_, 1) by decide +kernel) (by decide +kernel) h
/-- PatchBenchModel.inverts (II)V -/
theorem b294 {x1 : Int} {x2 : Int} {σ : Sg} {o : Rs}   (h : (∃ (s1 : Sg), Dd 293 [(.inr (.inr (some 682))), (.inl x1)] σ (.inl none, s1) ∧ (0 ≤ x1 ∧ x1 < 44) ∧ (0 ≤ x2 ∧ x2 < 44) ∧ (0 ≤ x1 ∧ x1 < 44) ∧ (0 ≤ x2 ∧ x2 < 44) ∧ C294_31 x1 x2 0 (upS (upS s1 688 ((x2).toNat) (s1 689 (x1).toNat)) 689 ((x2).toNat) ((upS s1 688 ((x2).toNat) (s1 689 (x1).toNat)) 688 (x1).toNat)) o)) : Dd 294 [(.inr (.inr (some 682))), (.inl x1), (.inl x2)] σ o := by
  refine Dd_of (l := 4) (by decide +kernel) ?_
  show Gd 294 0 [(some (.inr (.inr (some 682)))), (some (.inl x1)), (some (.inl x2)), none] [] σ 0 0 o
  refine g_aload_n 1 (show op 294 0 = some (.aload_n 0, 1) by decide +kernel) rfl rfl ?_
  refine g_iload_n 2 (show op 294 1 = some (.iload_n 1, 1) by decide +kernel) rfl rfl ?_
  obtain ⟨s1, hD2, h⟩ := h
  refine g_call 5 [] (show op 294 2 = some (.invokevirtual 280, 3) by decide +kernel) (call_vi' (k' := 0) (n' := 0) (nj := 2) (j := 293) (k9 := 21) (t := []) (as := [(.inr (.inr (some 682))), (.inl x1)]) (by decide +kernel) rfl (by decide +kernel) rfl rfl rfl rfl rfl rfl (by decide +kernel) (by decide +kernel)) hD2 rfl ?_
  refine g_aload_n 6 (show op 294 5 = some (.aload_n 0, 1) by decide +kernel) rfl rfl ?_
  refine g_getR (ci := 11) (f := 7) (fin := true) (isR := true) 9 688 (show op 294 6 = some (.getfield 25, 3) by decide +kernel) rfl (by decide +kernel) (by decide +kernel) ?_
  refine g_iload_n 10 (show op 294 9 = some (.iload_n 2, 1) by decide +kernel) rfl rfl ?_
  refine g_aload_n 11 (show op 294 10 = some (.aload_n 0, 1) by decide +kernel) rfl rfl ?_
  refine g_getR (ci := 11) (f := 8) (fin := true) (isR := true) 14 689 (show op 294 11 = some (.getfield 28, 3) by decide +kernel) rfl (by decide +kernel) (by decide +kernel) ?_
  refine g_iload_n 15 (show op 294 14 = some (.iload_n 1, 1) by decide +kernel) rfl rfl ?_
  obtain ⟨g3, h⟩ := h
  refine g_iaload 16 44 (show op 294 15 = some (.iaload, 1) by decide +kernel) rfl (by decide +kernel) g3 ?_
  obtain ⟨g4, h⟩ := h
  refine g_iastore 17 44 (show op 294 16 = some (.iastore, 1) by decide +kernel) rfl (by decide +kernel) g4 ?_
  refine g_aload_n 18 (show op 294 17 = some (.aload_n 0, 1) by decide +kernel) rfl rfl ?_
  refine g_getR (ci := 11) (f := 8) (fin := true) (isR := true) 21 689 (show op 294 18 = some (.getfield 28, 3) by decide +kernel) rfl (by decide +kernel) (by decide +kernel) ?_
  refine g_iload_n 22 (show op 294 21 = some (.iload_n 2, 1) by decide +kernel) rfl rfl ?_
  refine g_aload_n 23 (show op 294 22 = some (.aload_n 0, 1) by decide +kernel) rfl rfl ?_
  refine g_getR (ci := 11) (f := 7) (fin := true) (isR := true) 26 688 (show op 294 23 = some (.getfield 25, 3) by decide +kernel) rfl (by decide +kernel) (by decide +kernel) ?_
  refine g_iload_n 27 (show op 294 26 = some (.iload_n 1, 1) by decide +kernel) rfl rfl ?_
  obtain ⟨g5, h⟩ := h
  refine g_iaload 28 44 (show op 294 27 = some (.iaload, 1) by decide +kernel) rfl (by decide +kernel) g5 ?_
  obtain ⟨g6, h⟩ := h
  refine g_iastore 29 44 (show op 294 28 = some (.iastore, 1) by decide +kernel) rfl (by decide +kernel) g6 ?_
  refine g_iconst 30 (show op 294 29 = some (.iconst 0, 1) by decide +kernel) rfl rfl ?_
  refine g_istore_n 31 [(some (.inr (.inr (some 682)))), (some (.inl x1)), (some (.inl x2)), (some (.inl 0))] (show op 294 30 = some (.istore_n 3, 1) by decide +kernel) rfl rfl rfl ?_
  exact h
def C295_27 (x1 : Int) (x2 : Int) (x3 : Int) (x4 : Int) (d5 : Option AV) (d6 : Option AV) (d7 : Option AV) (d8 : Option AV) (d9 : Option AV) (σ : Sg) (o : Rs) : Prop := Gd 295 27 [(some (.inr (.inr (some 682)))), (some (.inl x1)), (some (.inl x2)), (some (.inl x3)), (some (.inl x4)), d5, d6, d7, d8, d9] [] σ 0 0 o
def C295_109 (x1 : Int) (x2 : Int) (x3 : Int) (x4 : Int) (d5 : Option AV) (d6 : Option AV) (d7 : Option AV) (d8 : Option AV) (d9 : Option AV) (y1 : Int) (y2 : Int) (σ : Sg) (o : Rs) : Prop := Gd 295 109 [(some (.inr (.inr (some 682)))), (some (.inl x1)), (some (.inl x2)), (some (.inl x3)), (some (.inl x4)), d5, d6, d7, d8, d9] [(.inl y2), (.inl y1), (.inr (.inr (some 687)))] σ 0 0 o
def C295_119 (d1 : Option AV) (x2 : Int) (x3 : Int) (x4 : Int) (d5 : Option AV) (d6 : Option AV) (d7 : Option AV) (d8 : Option AV) (d9 : Option AV) (σ : Sg) (o : Rs) : Prop := Gd 295 119 [(some (.inr (.inr (some 682)))), d1, (some (.inl x2)), (some (.inl x3)), (some (.inl x4)), d5, d6, d7, d8, d9] [] σ 0 0 o
def C295_171 (d1 : Option AV) (d2 : Option AV) (x3 : Int) (x4 : Int) (x5 : Int) (d6 : Option AV) (d7 : Option AV) (d8 : Option AV) (d9 : Option AV) (σ : Sg) (o : Rs) : Prop := Gd 295 171 [(some (.inr (.inr (some 682)))), d1, d2, (some (.inl x3)), (some (.inl x4)), (some (.inl x5)), d6, d7, d8, d9] [] σ 0 0 o
def C295_230 (d1 : Option AV) (d2 : Option AV) (x3 : Int) (x4 : Int) (x5 : Int) (x6 : Int) (x7 : Int) (x8 : Int) (x9 : Int) (σ : Sg) (o : Rs) : Prop := Gd 295 230 [(some (.inr (.inr (some 682)))), d1, d2, (some (.inl x3)), (some (.inl x4)), (some (.inl x5)), (some (.inl x6)), (some (.inl x7)), (some (.inl x8)), (some (.inl x9))] [] σ 0 0 o
def C295_284 (d1 : Option AV) (d2 : Option AV) (x3 : Int) (x4 : Int) (x5 : Int) (x6 : Int) (x7 : Int) (x8 : Int) (x9 : Int) (σ : Sg) (o : Rs) : Prop := Gd 295 284 [(some (.inr (.inr (some 682)))), d1, d2, (some (.inl x3)), (some (.inl x4)), (some (.inl x5)), (some (.inl x6)), (some (.inl x7)), (some (.inl x8)), (some (.inl x9))] [] σ 0 0 o
def C295_342 (d1 : Option AV) (d2 : Option AV) (x3 : Int) (x4 : Int) (x5 : Int) (d6 : Option AV) (d7 : Option AV) (d8 : Option AV) (d9 : Option AV) (σ : Sg) (o : Rs) : Prop := Gd 295 342 [(some (.inr (.inr (some 682)))), d1, d2, (some (.inl x3)), (some (.inl x4)), (some (.inl x5)), d6, d7, d8, d9] [] σ 0 0 o
theorem b295_27 {x1 : Int} {x2 : Int} {x3 : Int} {x4 : Int} {d5 : Option AV} {d6 : Option AV} {d7 : Option AV} {d8 : Option AV} {d9 : Option AV} {σ : Sg} {o : Rs}   (h : (0 ≤ x3 ∧ x3 < 44) ∧ (if x4 < (σ 688 (x3).toNat) then (-2147483648 ≤ (100 * x1) ∧ (100 * x1) ≤ 2147483647) ∧ (-2147483648 ≤ ((100 * x1) + x4) ∧ ((100 * x1) + x4) ≤ 2147483647) ∧ (0 ≤ ((100 * x1) + x4) ∧ ((100 * x1) + x4) < 4400) ∧ (-2147483648 ≤ (100 * x3) ∧ (100 * x3) ≤ 2147483647) ∧ (-2147483648 ≤ ((100 * x3) + x4) ∧ ((100 * x3) + x4) ≤ 2147483647) ∧ (-2147483648 ≤ (100 * x1) ∧ (100 * x1) ≤ 2147483647) ∧ (-2147483648 ≤ ((100 * x1) + x4) ∧ ((100 * x1) + x4) ≤ 2147483647) ∧ (0 ≤ ((100 * x1) + x4) ∧ ((100 * x1) + x4) < 4400) ∧ (0 ≤ ((100 * x3) + x4) ∧ ((100 * x3) + x4) < 4400) ∧ (-2147483648 ≤ (100 * x3) ∧ (100 * x3) ≤ 2147483647) ∧ (-2147483648 ≤ ((100 * x3) + x4) ∧ ((100 * x3) + x4) ≤ 2147483647) ∧ (¬ ((σ 687 (((100 * x1) + x4)).toNat) = (-1)) → -2147483648 ≤ (100 * x2) ∧ (100 * x2) ≤ 2147483647) ∧ (¬ ((σ 687 (((100 * x1) + x4)).toNat) = (-1)) → -2147483648 ≤ ((100 * x2) + (σ 687 (((100 * x1) + x4)).toNat)) ∧ ((100 * x2) + (σ 687 (((100 * x1) + x4)).toNat)) ≤ 2147483647) ∧ (¬ ((σ 687 (((100 * x1) + x4)).toNat) = (-1)) → 0 ≤ ((100 * x2) + (σ 687 (((100 * x1) + x4)).toNat)) ∧ ((100 * x2) + (σ 687 (((100 * x1) + x4)).toNat)) < 4400) ∧ C295_109 x1 x2 x3 x4 (some (.inl (σ 687 (((100 * x1) + x4)).toNat))) d6 d7 d8 d9 ((100 * x3) + x4) (if (σ 687 (((100 * x1) + x4)).toNat) = (-1) then (-1) else ((upS σ 685 ((((100 * x3) + x4)).toNat) (σ 685 (((100 * x1) + x4)).toNat)) 687 (((100 * x2) + (σ 687 (((100 * x1) + x4)).toNat))).toNat)) (upS σ 685 ((((100 * x3) + x4)).toNat) (σ 685 (((100 * x1) + x4)).toNat)) o else C295_119 (some (.inl x1)) x2 x3 0 d5 d6 d7 d8 d9 σ o)) : C295_27 x1 x2 x3 x4 d5 d6 d7 d8 d9 σ o := by
  show Gd 295 27 [(some (.inr (.inr (some 682)))), (some (.inl x1)), (some (.inl x2)), (some (.inl x3)), (some (.inl x4)), d5, d6, d7, d8, d9] [] σ 0 0 o
  refine g_iload 29 (show op 295 27 = some (.iload 4, 2) by decide +kernel) rfl rfl ?_
  refine g_aload_n 30 (show op 295 29 = some (.aload_n 0, 1) by decide +kernel) rfl rfl ?_
  refine g_getR (ci := 11) (f := 7) (fin := true) (isR := true) 33 688 (show op 295 30 = some (.getfield 25, 3) by decide +kernel) rfl (by decide +kernel) (by decide +kernel) ?_
  refine g_iload_n 34 (show op 295 33 = some (.iload_n 3, 1) by decide +kernel) rfl rfl ?_
  obtain ⟨g1, h⟩ := h
  refine g_iaload 35 44 (show op 295 34 = some (.iaload, 1) by decide +kernel) rfl (by decide +kernel) g1 ?_
  by_cases hc16 : x4 < (σ 688 (x3).toNat)
  · rw [if_pos hc16] at h
    refine g_icmpF 38 116 (show op 295 35 = some (.if_icmp .ge 81, 3) by decide +kernel) rfl rfl (decide_eq_false (Int.not_le.mpr hc16)) ?_
    refine g_aload_n 39 (show op 295 38 = some (.aload_n 0, 1) by decide +kernel) rfl rfl ?_
    refine g_getR (ci := 11) (f := 6) (fin := true) (isR := true) 42 687 (show op 295 39 = some (.getfield 22, 3) by decide +kernel) rfl (by decide +kernel) (by decide +kernel) ?_
    refine g_bipush 44 (show op 295 42 = some (.bipush 100, 2) by decide +kernel) rfl (by decide) ?_
    refine g_iload_n 45 (show op 295 44 = some (.iload_n 1, 1) by decide +kernel) rfl rfl ?_
    obtain ⟨g2, h⟩ := h
    refine g_imul 46 (show op 295 45 = some (.imul, 1) by decide +kernel) rfl g2 ?_
    refine g_iload 48 (show op 295 46 = some (.iload 4, 2) by decide +kernel) rfl rfl ?_
    obtain ⟨g3, h⟩ := h
    refine g_iadd 49 (show op 295 48 = some (.iadd, 1) by decide +kernel) rfl g3 ?_
    obtain ⟨g4, h⟩ := h
    refine g_iaload 50 4400 (show op 295 49 = some (.iaload, 1) by decide +kernel) rfl (by decide +kernel) g4 ?_
    refine g_istore 52 [(some (.inr (.inr (some 682)))), (some (.inl x1)), (some (.inl x2)), (some (.inl x3)), (some (.inl x4)), (some (.inl (σ 687 (((100 * x1) + x4)).toNat))), d6, d7, d8, d9] (show op 295 50 = some (.istore 5, 2) by decide +kernel) rfl rfl rfl ?_
    refine g_aload_n 53 (show op 295 52 = some (.aload_n 0, 1) by decide +kernel) rfl rfl ?_
    refine g_getR (ci := 11) (f := 4) (fin := true) (isR := true) 56 685 (show op 295 53 = some (.getfield 16, 3) by decide +kernel) rfl (by decide +kernel) (by decide +kernel) ?_
    refine g_bipush 58 (show op 295 56 = some (.bipush 100, 2) by decide +kernel) rfl (by decide) ?_
    refine g_iload_n 59 (show op 295 58 = some (.iload_n 3, 1) by decide +kernel) rfl rfl ?_
    obtain ⟨g5, h⟩ := h
    refine g_imul 60 (show op 295 59 = some (.imul, 1) by decide +kernel) rfl g5 ?_
    refine g_iload 62 (show op 295 60 = some (.iload 4, 2) by decide +kernel) rfl rfl ?_
    obtain ⟨g6, h⟩ := h
    refine g_iadd 63 (show op 295 62 = some (.iadd, 1) by decide +kernel) rfl g6 ?_
    refine g_aload_n 64 (show op 295 63 = some (.aload_n 0, 1) by decide +kernel) rfl rfl ?_
    refine g_getR (ci := 11) (f := 4) (fin := true) (isR := true) 67 685 (show op 295 64 = some (.getfield 16, 3) by decide +kernel) rfl (by decide +kernel) (by decide +kernel) ?_
    refine g_bipush 69 (show op 295 67 = some (.bipush 100, 2) by decide +kernel) rfl (by decide) ?_
    refine g_iload_n 70 (show op 295 69 = some (.iload_n 1, 1) by decide +kernel) rfl rfl ?_
    obtain ⟨g7, h⟩ := h
    refine g_imul 71 (show op 295 70 = some (.imul, 1) by decide +kernel) rfl g7 ?_
    refine g_iload 73 (show op 295 71 = some (.iload 4, 2) by decide +kernel) rfl rfl ?_
    obtain ⟨g8, h⟩ := h
    refine g_iadd 74 (show op 295 73 = some (.iadd, 1) by decide +kernel) rfl g8 ?_
    obtain ⟨g9, h⟩ := h
    refine g_iaload 75 4400 (show op 295 74 = some (.iaload, 1) by decide +kernel) rfl (by decide +kernel) g9 ?_
    obtain ⟨g10, h⟩ := h
    refine g_iastore 76 4400 (show op 295 75 = some (.iastore, 1) by decide +kernel) rfl (by decide +kernel) g10 ?_
    refine g_aload_n 77 (show op 295 76 = some (.aload_n 0, 1) by decide +kernel) rfl rfl ?_
    refine g_getR (ci := 11) (f := 6) (fin := true) (isR := true) 80 687 (show op 295 77 = some (.getfield 22, 3) by decide +kernel) rfl (by decide +kernel) (by decide +kernel) ?_
    refine g_bipush 82 (show op 295 80 = some (.bipush 100, 2) by decide +kernel) rfl (by decide) ?_
    refine g_iload_n 83 (show op 295 82 = some (.iload_n 3, 1) by decide +kernel) rfl rfl ?_
    obtain ⟨g11, h⟩ := h
    refine g_imul 84 (show op 295 83 = some (.imul, 1) by decide +kernel) rfl g11 ?_
    refine g_iload 86 (show op 295 84 = some (.iload 4, 2) by decide +kernel) rfl rfl ?_
    obtain ⟨g12, h⟩ := h
    refine g_iadd 87 (show op 295 86 = some (.iadd, 1) by decide +kernel) rfl g12 ?_
    refine g_iload 89 (show op 295 87 = some (.iload 5, 2) by decide +kernel) rfl rfl ?_
    refine g_iconst 90 (show op 295 89 = some (.iconst (-1), 1) by decide +kernel) rfl rfl ?_
    obtain ⟨G18, G19, G20, h⟩ := h
    by_cases hc17 : (σ 687 (((100 * x1) + x4)).toNat) = (-1)
    · refine g_icmpF 93 97 (show op 295 90 = some (.if_icmp .ne 7, 3) by decide +kernel) rfl rfl (decide_eq_false (fun h9 => h9 hc17)) ?_
      refine g_iconst 94 (show op 295 93 = some (.iconst (-1), 1) by decide +kernel) rfl rfl ?_
      refine g_goto 109 (show op 295 94 = some (.goto 15, 3) by decide +kernel) rfl ?_
      have h9 := h; simp only [if_pos hc17] at h9; exact h9
    · refine g_icmpT 97 (show op 295 90 = some (.if_icmp .ne 7, 3) by decide +kernel) rfl (decide_eq_true hc17) ?_
      refine g_aload_n 98 (show op 295 97 = some (.aload_n 0, 1) by decide +kernel) rfl rfl ?_
      refine g_getR (ci := 11) (f := 6) (fin := true) (isR := true) 101 687 (show op 295 98 = some (.getfield 22, 3) by decide +kernel) rfl (by decide +kernel) (by decide +kernel) ?_
      refine g_bipush 103 (show op 295 101 = some (.bipush 100, 2) by decide +kernel) rfl (by decide) ?_
      refine g_iload_n 104 (show op 295 103 = some (.iload_n 2, 1) by decide +kernel) rfl rfl ?_
      have g13 := G18 hc17
      refine g_imul 105 (show op 295 104 = some (.imul, 1) by decide +kernel) rfl g13 ?_
      refine g_iload 107 (show op 295 105 = some (.iload 5, 2) by decide +kernel) rfl rfl ?_
      have g14 := G19 hc17
      refine g_iadd 108 (show op 295 107 = some (.iadd, 1) by decide +kernel) rfl g14 ?_
      have g15 := G20 hc17
      refine g_iaload 109 4400 (show op 295 108 = some (.iaload, 1) by decide +kernel) rfl (by decide +kernel) g15 ?_
      have h9 := h; simp only [if_neg hc17] at h9; exact h9
  · rw [if_neg hc16] at h
    refine g_icmpT 116 (show op 295 35 = some (.if_icmp .ge 81, 3) by decide +kernel) rfl (decide_eq_true (Int.not_lt.mp hc16)) ?_
    refine g_iconst 117 (show op 295 116 = some (.iconst 0, 1) by decide +kernel) rfl rfl ?_
    refine g_istore 119 [(some (.inr (.inr (some 682)))), (some (.inl x1)), (some (.inl x2)), (some (.inl x3)), (some (.inl 0)), d5, d6, d7, d8, d9] (show op 295 117 = some (.istore 4, 2) by decide +kernel) rfl rfl rfl ?_
    exact h
theorem b295_109 {x1 : Int} {x2 : Int} {x3 : Int} {x4 : Int} {d5 : Option AV} {d6 : Option AV} {d7 : Option AV} {d8 : Option AV} {d9 : Option AV} {y1 : Int} {y2 : Int} {σ : Sg} {o : Rs}   (h : (0 ≤ y1 ∧ y1 < 4400) ∧ (-2147483648 ≤ (x4 + 1) ∧ (x4 + 1) ≤ 2147483647) ∧ C295_27 x1 x2 x3 (x4 + 1) d5 d6 d7 d8 d9 (upS σ 687 ((y1).toNat) y2) o) : C295_109 x1 x2 x3 x4 d5 d6 d7 d8 d9 y1 y2 σ o := by
  show Gd 295 109 [(some (.inr (.inr (some 682)))), (some (.inl x1)), (some (.inl x2)), (some (.inl x3)), (some (.inl x4)), d5, d6, d7, d8, d9] [(.inl y2), (.inl y1), (.inr (.inr (some 687)))] σ 0 0 o
  obtain ⟨g1, h⟩ := h
  refine g_iastore 110 4400 (show op 295 109 = some (.iastore, 1) by decide +kernel) rfl (by decide +kernel) g1 ?_
  obtain ⟨g2, h⟩ := h
  refine g_iinc 113 [(some (.inr (.inr (some 682)))), (some (.inl x1)), (some (.inl x2)), (some (.inl x3)), (some (.inl (x4 + 1))), d5, d6, d7, d8, d9] (show op 295 110 = some (.iinc 4 1, 3) by decide +kernel) rfl rfl g2 rfl ?_
  refine g_goto 27 (show op 295 113 = some (.goto (-86), 3) by decide +kernel) rfl ?_
  exact h
theorem b295_119 {d1 : Option AV} {x2 : Int} {x3 : Int} {x4 : Int} {d5 : Option AV} {d6 : Option AV} {d7 : Option AV} {d8 : Option AV} {d9 : Option AV} {σ : Sg} {o : Rs}   (h : (0 ≤ x3 ∧ x3 < 44) ∧ (if x4 < (σ 689 (x3).toNat) then (-2147483648 ≤ (100 * x3) ∧ (100 * x3) ≤ 2147483647) ∧ (-2147483648 ≤ ((100 * x3) + x4) ∧ ((100 * x3) + x4) ≤ 2147483647) ∧ (-2147483648 ≤ (100 * x2) ∧ (100 * x2) ≤ 2147483647) ∧ (-2147483648 ≤ ((100 * x2) + x4) ∧ ((100 * x2) + x4) ≤ 2147483647) ∧ (0 ≤ ((100 * x2) + x4) ∧ ((100 * x2) + x4) < 4400) ∧ (0 ≤ ((100 * x3) + x4) ∧ ((100 * x3) + x4) < 4400) ∧ (-2147483648 ≤ (x4 + 1) ∧ (x4 + 1) ≤ 2147483647) ∧ C295_119 d1 x2 x3 (x4 + 1) d5 d6 d7 d8 d9 (upS σ 686 ((((100 * x3) + x4)).toNat) (σ 686 (((100 * x2) + x4)).toNat)) o else (∃ (v10 : Int) (s9 : Sg), Dd 280 [(.inr (.inr (some 682))), (.inl x3), (.inl 0)] σ (.inl (some (.inl v10)), s9) ∧ C295_171 d1 (some (.inl x2)) x3 v10 0 d6 d7 d8 d9 s9 o))) : C295_119 d1 x2 x3 x4 d5 d6 d7 d8 d9 σ o := by
  show Gd 295 119 [(some (.inr (.inr (some 682)))), d1, (some (.inl x2)), (some (.inl x3)), (some (.inl x4)), d5, d6, d7, d8, d9] [] σ 0 0 o
  refine g_iload 121 (show op 295 119 = some (.iload 4, 2) by decide +kernel) rfl rfl ?_
  refine g_aload_n 122 (show op 295 121 = some (.aload_n 0, 1) by decide +kernel) rfl rfl ?_
  refine g_getR (ci := 11) (f := 8) (fin := true) (isR := true) 125 689 (show op 295 122 = some (.getfield 28, 3) by decide +kernel) rfl (by decide +kernel) (by decide +kernel) ?_
  refine g_iload_n 126 (show op 295 125 = some (.iload_n 3, 1) by decide +kernel) rfl rfl ?_
  obtain ⟨g1, h⟩ := h
  refine g_iaload 127 44 (show op 295 126 = some (.iaload, 1) by decide +kernel) rfl (by decide +kernel) g1 ?_
  by_cases hc12 : x4 < (σ 689 (x3).toNat)
  · rw [if_pos hc12] at h
    refine g_icmpF 130 160 (show op 295 127 = some (.if_icmp .ge 33, 3) by decide +kernel) rfl rfl (decide_eq_false (Int.not_le.mpr hc12)) ?_
    refine g_aload_n 131 (show op 295 130 = some (.aload_n 0, 1) by decide +kernel) rfl rfl ?_
    refine g_getR (ci := 11) (f := 5) (fin := true) (isR := true) 134 686 (show op 295 131 = some (.getfield 19, 3) by decide +kernel) rfl (by decide +kernel) (by decide +kernel) ?_
    refine g_bipush 136 (show op 295 134 = some (.bipush 100, 2) by decide +kernel) rfl (by decide) ?_
    refine g_iload_n 137 (show op 295 136 = some (.iload_n 3, 1) by decide +kernel) rfl rfl ?_
    obtain ⟨g2, h⟩ := h
    refine g_imul 138 (show op 295 137 = some (.imul, 1) by decide +kernel) rfl g2 ?_
    refine g_iload 140 (show op 295 138 = some (.iload 4, 2) by decide +kernel) rfl rfl ?_
    obtain ⟨g3, h⟩ := h
    refine g_iadd 141 (show op 295 140 = some (.iadd, 1) by decide +kernel) rfl g3 ?_
    refine g_aload_n 142 (show op 295 141 = some (.aload_n 0, 1) by decide +kernel) rfl rfl ?_
    refine g_getR (ci := 11) (f := 5) (fin := true) (isR := true) 145 686 (show op 295 142 = some (.getfield 19, 3) by decide +kernel) rfl (by decide +kernel) (by decide +kernel) ?_
    refine g_bipush 147 (show op 295 145 = some (.bipush 100, 2) by decide +kernel) rfl (by decide) ?_
    refine g_iload_n 148 (show op 295 147 = some (.iload_n 2, 1) by decide +kernel) rfl rfl ?_
    obtain ⟨g4, h⟩ := h
    refine g_imul 149 (show op 295 148 = some (.imul, 1) by decide +kernel) rfl g4 ?_
    refine g_iload 151 (show op 295 149 = some (.iload 4, 2) by decide +kernel) rfl rfl ?_
    obtain ⟨g5, h⟩ := h
    refine g_iadd 152 (show op 295 151 = some (.iadd, 1) by decide +kernel) rfl g5 ?_
    obtain ⟨g6, h⟩ := h
    refine g_iaload 153 4400 (show op 295 152 = some (.iaload, 1) by decide +kernel) rfl (by decide +kernel) g6 ?_
    obtain ⟨g7, h⟩ := h
    refine g_iastore 154 4400 (show op 295 153 = some (.iastore, 1) by decide +kernel) rfl (by decide +kernel) g7 ?_
    obtain ⟨g8, h⟩ := h
    refine g_iinc 157 [(some (.inr (.inr (some 682)))), d1, (some (.inl x2)), (some (.inl x3)), (some (.inl (x4 + 1))), d5, d6, d7, d8, d9] (show op 295 154 = some (.iinc 4 1, 3) by decide +kernel) rfl rfl g8 rfl ?_
    refine g_goto 119 (show op 295 157 = some (.goto (-38), 3) by decide +kernel) rfl ?_
    exact h
  · rw [if_neg hc12] at h
    refine g_icmpT 160 (show op 295 127 = some (.if_icmp .ge 33, 3) by decide +kernel) rfl (decide_eq_true (Int.not_lt.mp hc12)) ?_
    refine g_aload_n 161 (show op 295 160 = some (.aload_n 0, 1) by decide +kernel) rfl rfl ?_
    refine g_iload_n 162 (show op 295 161 = some (.iload_n 3, 1) by decide +kernel) rfl rfl ?_
    refine g_iconst 163 (show op 295 162 = some (.iconst 0, 1) by decide +kernel) rfl rfl ?_
    obtain ⟨v10, s9, hD11, h⟩ := h
    refine g_call 166 [(.inl v10)] (show op 295 163 = some (.invokevirtual 267, 3) by decide +kernel) (call_vi' (k' := 0) (n' := 0) (nj := 3) (j := 280) (k9 := 21) (t := []) (as := [(.inr (.inr (some 682))), (.inl x3), (.inl 0)]) (by decide +kernel) rfl (by decide +kernel) rfl rfl rfl rfl rfl rfl (by decide +kernel) (by decide +kernel)) hD11 rfl ?_
    refine g_istore 168 [(some (.inr (.inr (some 682)))), d1, (some (.inl x2)), (some (.inl x3)), (some (.inl v10)), d5, d6, d7, d8, d9] (show op 295 166 = some (.istore 4, 2) by decide +kernel) rfl rfl rfl ?_
    refine g_iconst 169 (show op 295 168 = some (.iconst 0, 1) by decide +kernel) rfl rfl ?_
    refine g_istore 171 [(some (.inr (.inr (some 682)))), d1, (some (.inl x2)), (some (.inl x3)), (some (.inl v10)), (some (.inl 0)), d6, d7, d8, d9] (show op 295 169 = some (.istore 5, 2) by decide +kernel) rfl rfl rfl ?_
    exact h
theorem b295_171 {d1 : Option AV} {d2 : Option AV} {x3 : Int} {x4 : Int} {x5 : Int} {d6 : Option AV} {d7 : Option AV} {d8 : Option AV} {d9 : Option AV} {σ : Sg} {o : Rs}   (h : (if x5 < x4 then (-2147483648 ≤ (100 * x3) ∧ (100 * x3) ≤ 2147483647) ∧ (0 ≤ x5 ∧ x5 < 256) ∧ (-2147483648 ≤ ((100 * x3) + (σ 700 (x5).toNat)) ∧ ((100 * x3) + (σ 700 (x5).toNat)) ≤ 2147483647) ∧ (0 ≤ x5 ∧ x5 < 256) ∧ (-2147483648 ≤ (((100 * x3) + (σ 700 (x5).toNat)) + (σ 701 (x5).toNat)) ∧ (((100 * x3) + (σ 700 (x5).toNat)) + (σ 701 (x5).toNat)) ≤ 2147483647) ∧ (-2147483648 ≤ (100 * x3) ∧ (100 * x3) ≤ 2147483647) ∧ (0 ≤ x5 ∧ x5 < 256) ∧ (-2147483648 ≤ ((100 * x3) + (σ 702 (x5).toNat)) ∧ ((100 * x3) + (σ 702 (x5).toNat)) ≤ 2147483647) ∧ (0 ≤ x5 ∧ x5 < 256) ∧ (-2147483648 ≤ (((100 * x3) + (σ 702 (x5).toNat)) + (σ 703 (x5).toNat)) ∧ (((100 * x3) + (σ 702 (x5).toNat)) + (σ 703 (x5).toNat)) ≤ 2147483647) ∧ C295_230 d1 d2 x3 x4 x5 ((100 * x3) + (σ 700 (x5).toNat)) (((100 * x3) + (σ 700 (x5).toNat)) + (σ 701 (x5).toNat)) ((100 * x3) + (σ 702 (x5).toNat)) (((100 * x3) + (σ 702 (x5).toNat)) + (σ 703 (x5).toNat)) σ o else o = (.inl none, σ))) : C295_171 d1 d2 x3 x4 x5 d6 d7 d8 d9 σ o := by
  show Gd 295 171 [(some (.inr (.inr (some 682)))), d1, d2, (some (.inl x3)), (some (.inl x4)), (some (.inl x5)), d6, d7, d8, d9] [] σ 0 0 o
  refine g_iload 173 (show op 295 171 = some (.iload 5, 2) by decide +kernel) rfl rfl ?_
  refine g_iload 175 (show op 295 173 = some (.iload 4, 2) by decide +kernel) rfl rfl ?_
  by_cases hc11 : x5 < x4
  · rw [if_pos hc11] at h
    refine g_icmpF 178 348 (show op 295 175 = some (.if_icmp .ge 173, 3) by decide +kernel) rfl rfl (decide_eq_false (Int.not_le.mpr hc11)) ?_
    refine g_bipush 180 (show op 295 178 = some (.bipush 100, 2) by decide +kernel) rfl (by decide) ?_
    refine g_iload_n 181 (show op 295 180 = some (.iload_n 3, 1) by decide +kernel) rfl rfl ?_
    obtain ⟨g1, h⟩ := h
    refine g_imul 182 (show op 295 181 = some (.imul, 1) by decide +kernel) rfl g1 ?_
    refine g_aload_n 183 (show op 295 182 = some (.aload_n 0, 1) by decide +kernel) rfl rfl ?_
    refine g_getR (ci := 11) (f := 26) (fin := true) (isR := true) 186 700 (show op 295 183 = some (.getfield 61, 3) by decide +kernel) rfl (by decide +kernel) (by decide +kernel) ?_
    refine g_iload 188 (show op 295 186 = some (.iload 5, 2) by decide +kernel) rfl rfl ?_
    obtain ⟨g2, h⟩ := h
    refine g_iaload 189 256 (show op 295 188 = some (.iaload, 1) by decide +kernel) rfl (by decide +kernel) g2 ?_
    obtain ⟨g3, h⟩ := h
    refine g_iadd 190 (show op 295 189 = some (.iadd, 1) by decide +kernel) rfl g3 ?_
    refine g_istore 192 [(some (.inr (.inr (some 682)))), d1, d2, (some (.inl x3)), (some (.inl x4)), (some (.inl x5)), (some (.inl ((100 * x3) + (σ 700 (x5).toNat)))), d7, d8, d9] (show op 295 190 = some (.istore 6, 2) by decide +kernel) rfl rfl rfl ?_
    refine g_iload 194 (show op 295 192 = some (.iload 6, 2) by decide +kernel) rfl rfl ?_
    refine g_aload_n 195 (show op 295 194 = some (.aload_n 0, 1) by decide +kernel) rfl rfl ?_
    refine g_getR (ci := 11) (f := 27) (fin := true) (isR := true) 198 701 (show op 295 195 = some (.getfield 64, 3) by decide +kernel) rfl (by decide +kernel) (by decide +kernel) ?_
    refine g_iload 200 (show op 295 198 = some (.iload 5, 2) by decide +kernel) rfl rfl ?_
    obtain ⟨g4, h⟩ := h
    refine g_iaload 201 256 (show op 295 200 = some (.iaload, 1) by decide +kernel) rfl (by decide +kernel) g4 ?_
    obtain ⟨g5, h⟩ := h
    refine g_iadd 202 (show op 295 201 = some (.iadd, 1) by decide +kernel) rfl g5 ?_
    refine g_istore 204 [(some (.inr (.inr (some 682)))), d1, d2, (some (.inl x3)), (some (.inl x4)), (some (.inl x5)), (some (.inl ((100 * x3) + (σ 700 (x5).toNat)))), (some (.inl (((100 * x3) + (σ 700 (x5).toNat)) + (σ 701 (x5).toNat)))), d8, d9] (show op 295 202 = some (.istore 7, 2) by decide +kernel) rfl rfl rfl ?_
    refine g_bipush 206 (show op 295 204 = some (.bipush 100, 2) by decide +kernel) rfl (by decide) ?_
    refine g_iload_n 207 (show op 295 206 = some (.iload_n 3, 1) by decide +kernel) rfl rfl ?_
    obtain ⟨g6, h⟩ := h
    refine g_imul 208 (show op 295 207 = some (.imul, 1) by decide +kernel) rfl g6 ?_
    refine g_aload_n 209 (show op 295 208 = some (.aload_n 0, 1) by decide +kernel) rfl rfl ?_
    refine g_getR (ci := 11) (f := 28) (fin := true) (isR := true) 212 702 (show op 295 209 = some (.getfield 67, 3) by decide +kernel) rfl (by decide +kernel) (by decide +kernel) ?_
    refine g_iload 214 (show op 295 212 = some (.iload 5, 2) by decide +kernel) rfl rfl ?_
    obtain ⟨g7, h⟩ := h
    refine g_iaload 215 256 (show op 295 214 = some (.iaload, 1) by decide +kernel) rfl (by decide +kernel) g7 ?_
    obtain ⟨g8, h⟩ := h
    refine g_iadd 216 (show op 295 215 = some (.iadd, 1) by decide +kernel) rfl g8 ?_
    refine g_istore 218 [(some (.inr (.inr (some 682)))), d1, d2, (some (.inl x3)), (some (.inl x4)), (some (.inl x5)), (some (.inl ((100 * x3) + (σ 700 (x5).toNat)))), (some (.inl (((100 * x3) + (σ 700 (x5).toNat)) + (σ 701 (x5).toNat)))), (some (.inl ((100 * x3) + (σ 702 (x5).toNat)))), d9] (show op 295 216 = some (.istore 8, 2) by decide +kernel) rfl rfl rfl ?_
    refine g_iload 220 (show op 295 218 = some (.iload 8, 2) by decide +kernel) rfl rfl ?_
    refine g_aload_n 221 (show op 295 220 = some (.aload_n 0, 1) by decide +kernel) rfl rfl ?_
    refine g_getR (ci := 11) (f := 29) (fin := true) (isR := true) 224 703 (show op 295 221 = some (.getfield 70, 3) by decide +kernel) rfl (by decide +kernel) (by decide +kernel) ?_
    refine g_iload 226 (show op 295 224 = some (.iload 5, 2) by decide +kernel) rfl rfl ?_
    obtain ⟨g9, h⟩ := h
    refine g_iaload 227 256 (show op 295 226 = some (.iaload, 1) by decide +kernel) rfl (by decide +kernel) g9 ?_
    obtain ⟨g10, h⟩ := h
    refine g_iadd 228 (show op 295 227 = some (.iadd, 1) by decide +kernel) rfl g10 ?_
    refine g_istore 230 [(some (.inr (.inr (some 682)))), d1, d2, (some (.inl x3)), (some (.inl x4)), (some (.inl x5)), (some (.inl ((100 * x3) + (σ 700 (x5).toNat)))), (some (.inl (((100 * x3) + (σ 700 (x5).toNat)) + (σ 701 (x5).toNat)))), (some (.inl ((100 * x3) + (σ 702 (x5).toNat)))), (some (.inl (((100 * x3) + (σ 702 (x5).toNat)) + (σ 703 (x5).toNat))))] (show op 295 228 = some (.istore 9, 2) by decide +kernel) rfl rfl rfl ?_
    exact h
  · rw [if_neg hc11] at h
    refine g_icmpT 348 (show op 295 175 = some (.if_icmp .ge 173, 3) by decide +kernel) rfl (decide_eq_true (Int.not_lt.mp hc11)) ?_
    exact g_vret (show op 295 348 = some (.return_, 1) by decide +kernel) (by decide +kernel) h
theorem b295_230 {d1 : Option AV} {d2 : Option AV} {x3 : Int} {x4 : Int} {x5 : Int} {x6 : Int} {x7 : Int} {x8 : Int} {x9 : Int} {σ : Sg} {o : Rs}   (h : (if x6 < x7 then (if x8 < x9 then (0 ≤ x6 ∧ x6 < 4400) ∧ (0 ≤ x8 ∧ x8 < 4400) ∧ (if (σ 685 (x6).toNat) = (σ 686 (x8).toNat) then (-2147483648 ≤ (100 * x3) ∧ (100 * x3) ≤ 2147483647) ∧ (-2147483648 ≤ (x8 - (100 * x3)) ∧ (x8 - (100 * x3)) ≤ 2147483647) ∧ (0 ≤ x6 ∧ x6 < 4400) ∧ (-2147483648 ≤ (x6 + 1) ∧ (x6 + 1) ≤ 2147483647) ∧ (-2147483648 ≤ (x8 + 1) ∧ (x8 + 1) ≤ 2147483647) ∧ C295_230 d1 d2 x3 x4 x5 (x6 + 1) x7 (x8 + 1) x9 (upS σ 687 ((x6).toNat) (x8 - (100 * x3))) o else C295_284 d1 d2 x3 x4 x5 x6 x7 x8 x9 σ o) else C295_284 d1 d2 x3 x4 x5 x6 x7 x8 x9 σ o) else C295_284 d1 d2 x3 x4 x5 x6 x7 x8 x9 σ o)) : C295_230 d1 d2 x3 x4 x5 x6 x7 x8 x9 σ o := by
  show Gd 295 230 [(some (.inr (.inr (some 682)))), d1, d2, (some (.inl x3)), (some (.inl x4)), (some (.inl x5)), (some (.inl x6)), (some (.inl x7)), (some (.inl x8)), (some (.inl x9))] [] σ 0 0 o
  refine g_iload 232 (show op 295 230 = some (.iload 6, 2) by decide +kernel) rfl rfl ?_
  refine g_iload 234 (show op 295 232 = some (.iload 7, 2) by decide +kernel) rfl rfl ?_
  by_cases hc8 : x6 < x7
  · rw [if_pos hc8] at h
    refine g_icmpF 237 284 (show op 295 234 = some (.if_icmp .ge 50, 3) by decide +kernel) rfl rfl (decide_eq_false (Int.not_le.mpr hc8)) ?_
    refine g_iload 239 (show op 295 237 = some (.iload 8, 2) by decide +kernel) rfl rfl ?_
    refine g_iload 241 (show op 295 239 = some (.iload 9, 2) by decide +kernel) rfl rfl ?_
    by_cases hc9 : x8 < x9
    · rw [if_pos hc9] at h
      refine g_icmpF 244 284 (show op 295 241 = some (.if_icmp .ge 43, 3) by decide +kernel) rfl rfl (decide_eq_false (Int.not_le.mpr hc9)) ?_
      refine g_aload_n 245 (show op 295 244 = some (.aload_n 0, 1) by decide +kernel) rfl rfl ?_
      refine g_getR (ci := 11) (f := 4) (fin := true) (isR := true) 248 685 (show op 295 245 = some (.getfield 16, 3) by decide +kernel) rfl (by decide +kernel) (by decide +kernel) ?_
      refine g_iload 250 (show op 295 248 = some (.iload 6, 2) by decide +kernel) rfl rfl ?_
      obtain ⟨g1, h⟩ := h
      refine g_iaload 251 4400 (show op 295 250 = some (.iaload, 1) by decide +kernel) rfl (by decide +kernel) g1 ?_
      refine g_aload_n 252 (show op 295 251 = some (.aload_n 0, 1) by decide +kernel) rfl rfl ?_
      refine g_getR (ci := 11) (f := 5) (fin := true) (isR := true) 255 686 (show op 295 252 = some (.getfield 19, 3) by decide +kernel) rfl (by decide +kernel) (by decide +kernel) ?_
      refine g_iload 257 (show op 295 255 = some (.iload 8, 2) by decide +kernel) rfl rfl ?_
      obtain ⟨g2, h⟩ := h
      refine g_iaload 258 4400 (show op 295 257 = some (.iaload, 1) by decide +kernel) rfl (by decide +kernel) g2 ?_
      by_cases hc10 : (σ 685 (x6).toNat) = (σ 686 (x8).toNat)
      · rw [if_pos hc10] at h
        refine g_icmpF 261 284 (show op 295 258 = some (.if_icmp .ne 26, 3) by decide +kernel) rfl rfl (decide_eq_false (fun h9 => h9 hc10)) ?_
        refine g_aload_n 262 (show op 295 261 = some (.aload_n 0, 1) by decide +kernel) rfl rfl ?_
        refine g_getR (ci := 11) (f := 6) (fin := true) (isR := true) 265 687 (show op 295 262 = some (.getfield 22, 3) by decide +kernel) rfl (by decide +kernel) (by decide +kernel) ?_
        refine g_iload 267 (show op 295 265 = some (.iload 6, 2) by decide +kernel) rfl rfl ?_
        refine g_iload 269 (show op 295 267 = some (.iload 8, 2) by decide +kernel) rfl rfl ?_
        refine g_bipush 271 (show op 295 269 = some (.bipush 100, 2) by decide +kernel) rfl (by decide) ?_
        refine g_iload_n 272 (show op 295 271 = some (.iload_n 3, 1) by decide +kernel) rfl rfl ?_
        obtain ⟨g3, h⟩ := h
        refine g_imul 273 (show op 295 272 = some (.imul, 1) by decide +kernel) rfl g3 ?_
        obtain ⟨g4, h⟩ := h
        refine g_isub 274 (show op 295 273 = some (.isub, 1) by decide +kernel) rfl g4 ?_
        obtain ⟨g5, h⟩ := h
        refine g_iastore 275 4400 (show op 295 274 = some (.iastore, 1) by decide +kernel) rfl (by decide +kernel) g5 ?_
        obtain ⟨g6, h⟩ := h
        refine g_iinc 278 [(some (.inr (.inr (some 682)))), d1, d2, (some (.inl x3)), (some (.inl x4)), (some (.inl x5)), (some (.inl (x6 + 1))), (some (.inl x7)), (some (.inl x8)), (some (.inl x9))] (show op 295 275 = some (.iinc 6 1, 3) by decide +kernel) rfl rfl g6 rfl ?_
        obtain ⟨g7, h⟩ := h
        refine g_iinc 281 [(some (.inr (.inr (some 682)))), d1, d2, (some (.inl x3)), (some (.inl x4)), (some (.inl x5)), (some (.inl (x6 + 1))), (some (.inl x7)), (some (.inl (x8 + 1))), (some (.inl x9))] (show op 295 278 = some (.iinc 8 1, 3) by decide +kernel) rfl rfl g7 rfl ?_
        refine g_goto 230 (show op 295 281 = some (.goto (-51), 3) by decide +kernel) rfl ?_
        exact h
      · rw [if_neg hc10] at h
        refine g_icmpT 284 (show op 295 258 = some (.if_icmp .ne 26, 3) by decide +kernel) rfl (decide_eq_true hc10) ?_
        exact h
    · rw [if_neg hc9] at h
      refine g_icmpT 284 (show op 295 241 = some (.if_icmp .ge 43, 3) by decide +kernel) rfl (decide_eq_true (Int.not_lt.mp hc9)) ?_
      exact h
  · rw [if_neg hc8] at h
    refine g_icmpT 284 (show op 295 234 = some (.if_icmp .ge 50, 3) by decide +kernel) rfl (decide_eq_true (Int.not_lt.mp hc8)) ?_
    exact h
theorem b295_284 {d1 : Option AV} {d2 : Option AV} {x3 : Int} {x4 : Int} {x5 : Int} {x6 : Int} {x7 : Int} {x8 : Int} {x9 : Int} {σ : Sg} {o : Rs}   (h : (if x6 < x7 then (if x8 < x9 then (-2147483648 ≤ (x7 - 1) ∧ (x7 - 1) ≤ 2147483647) ∧ (0 ≤ (x7 - 1) ∧ (x7 - 1) < 4400) ∧ (-2147483648 ≤ (x9 - 1) ∧ (x9 - 1) ≤ 2147483647) ∧ (0 ≤ (x9 - 1) ∧ (x9 - 1) < 4400) ∧ (if (σ 685 ((x7 - 1)).toNat) = (σ 686 ((x9 - 1)).toNat) then (-2147483648 ≤ (x7 + (-1)) ∧ (x7 + (-1)) ≤ 2147483647) ∧ (-2147483648 ≤ (x9 + (-1)) ∧ (x9 + (-1)) ≤ 2147483647) ∧ (-2147483648 ≤ (100 * x3) ∧ (100 * x3) ≤ 2147483647) ∧ (-2147483648 ≤ ((x9 + (-1)) - (100 * x3)) ∧ ((x9 + (-1)) - (100 * x3)) ≤ 2147483647) ∧ (0 ≤ (x7 + (-1)) ∧ (x7 + (-1)) < 4400) ∧ C295_284 d1 d2 x3 x4 x5 x6 (x7 + (-1)) x8 (x9 + (-1)) (upS σ 687 (((x7 + (-1))).toNat) ((x9 + (-1)) - (100 * x3))) o else C295_342 d1 d2 x3 x4 x5 (some (.inl x6)) (some (.inl x7)) (some (.inl x8)) (some (.inl x9)) σ o) else C295_342 d1 d2 x3 x4 x5 (some (.inl x6)) (some (.inl x7)) (some (.inl x8)) (some (.inl x9)) σ o) else C295_342 d1 d2 x3 x4 x5 (some (.inl x6)) (some (.inl x7)) (some (.inl x8)) (some (.inl x9)) σ o)) : C295_284 d1 d2 x3 x4 x5 x6 x7 x8 x9 σ o := by
  show Gd 295 284 [(some (.inr (.inr (some 682)))), d1, d2, (some (.inl x3)), (some (.inl x4)), (some (.inl x5)), (some (.inl x6)), (some (.inl x7)), (some (.inl x8)), (some (.inl x9))] [] σ 0 0 o
  refine g_iload 286 (show op 295 284 = some (.iload 6, 2) by decide +kernel) rfl rfl ?_
  refine g_iload 288 (show op 295 286 = some (.iload 7, 2) by decide +kernel) rfl rfl ?_
  by_cases hc10 : x6 < x7
  · rw [if_pos hc10] at h
    refine g_icmpF 291 342 (show op 295 288 = some (.if_icmp .ge 54, 3) by decide +kernel) rfl rfl (decide_eq_false (Int.not_le.mpr hc10)) ?_
    refine g_iload 293 (show op 295 291 = some (.iload 8, 2) by decide +kernel) rfl rfl ?_
    refine g_iload 295 (show op 295 293 = some (.iload 9, 2) by decide +kernel) rfl rfl ?_
    by_cases hc11 : x8 < x9
    · rw [if_pos hc11] at h
      refine g_icmpF 298 342 (show op 295 295 = some (.if_icmp .ge 47, 3) by decide +kernel) rfl rfl (decide_eq_false (Int.not_le.mpr hc11)) ?_
      refine g_aload_n 299 (show op 295 298 = some (.aload_n 0, 1) by decide +kernel) rfl rfl ?_
      refine g_getR (ci := 11) (f := 4) (fin := true) (isR := true) 302 685 (show op 295 299 = some (.getfield 16, 3) by decide +kernel) rfl (by decide +kernel) (by decide +kernel) ?_
      refine g_iload 304 (show op 295 302 = some (.iload 7, 2) by decide +kernel) rfl rfl ?_
      refine g_iconst 305 (show op 295 304 = some (.iconst 1, 1) by decide +kernel) rfl rfl ?_
      obtain ⟨g1, h⟩ := h
      refine g_isub 306 (show op 295 305 = some (.isub, 1) by decide +kernel) rfl g1 ?_
      obtain ⟨g2, h⟩ := h
      refine g_iaload 307 4400 (show op 295 306 = some (.iaload, 1) by decide +kernel) rfl (by decide +kernel) g2 ?_
      refine g_aload_n 308 (show op 295 307 = some (.aload_n 0, 1) by decide +kernel) rfl rfl ?_
      refine g_getR (ci := 11) (f := 5) (fin := true) (isR := true) 311 686 (show op 295 308 = some (.getfield 19, 3) by decide +kernel) rfl (by decide +kernel) (by decide +kernel) ?_
      refine g_iload 313 (show op 295 311 = some (.iload 9, 2) by decide +kernel) rfl rfl ?_
      refine g_iconst 314 (show op 295 313 = some (.iconst 1, 1) by decide +kernel) rfl rfl ?_
      obtain ⟨g3, h⟩ := h
      refine g_isub 315 (show op 295 314 = some (.isub, 1) by decide +kernel) rfl g3 ?_
      obtain ⟨g4, h⟩ := h
      refine g_iaload 316 4400 (show op 295 315 = some (.iaload, 1) by decide +kernel) rfl (by decide +kernel) g4 ?_
      by_cases hc12 : (σ 685 ((x7 - 1)).toNat) = (σ 686 ((x9 - 1)).toNat)
      · rw [if_pos hc12] at h
        refine g_icmpF 319 342 (show op 295 316 = some (.if_icmp .ne 26, 3) by decide +kernel) rfl rfl (decide_eq_false (fun h9 => h9 hc12)) ?_
        obtain ⟨g5, h⟩ := h
        refine g_iinc 322 [(some (.inr (.inr (some 682)))), d1, d2, (some (.inl x3)), (some (.inl x4)), (some (.inl x5)), (some (.inl x6)), (some (.inl (x7 + (-1)))), (some (.inl x8)), (some (.inl x9))] (show op 295 319 = some (.iinc 7 (-1), 3) by decide +kernel) rfl rfl g5 rfl ?_
        obtain ⟨g6, h⟩ := h
        refine g_iinc 325 [(some (.inr (.inr (some 682)))), d1, d2, (some (.inl x3)), (some (.inl x4)), (some (.inl x5)), (some (.inl x6)), (some (.inl (x7 + (-1)))), (some (.inl x8)), (some (.inl (x9 + (-1))))] (show op 295 322 = some (.iinc 9 (-1), 3) by decide +kernel) rfl rfl g6 rfl ?_
        refine g_aload_n 326 (show op 295 325 = some (.aload_n 0, 1) by decide +kernel) rfl rfl ?_
        refine g_getR (ci := 11) (f := 6) (fin := true) (isR := true) 329 687 (show op 295 326 = some (.getfield 22, 3) by decide +kernel) rfl (by decide +kernel) (by decide +kernel) ?_
        refine g_iload 331 (show op 295 329 = some (.iload 7, 2) by decide +kernel) rfl rfl ?_
        refine g_iload 333 (show op 295 331 = some (.iload 9, 2) by decide +kernel) rfl rfl ?_
        refine g_bipush 335 (show op 295 333 = some (.bipush 100, 2) by decide +kernel) rfl (by decide) ?_
        refine g_iload_n 336 (show op 295 335 = some (.iload_n 3, 1) by decide +kernel) rfl rfl ?_
        obtain ⟨g7, h⟩ := h
        refine g_imul 337 (show op 295 336 = some (.imul, 1) by decide +kernel) rfl g7 ?_
        obtain ⟨g8, h⟩ := h
        refine g_isub 338 (show op 295 337 = some (.isub, 1) by decide +kernel) rfl g8 ?_
        obtain ⟨g9, h⟩ := h
        refine g_iastore 339 4400 (show op 295 338 = some (.iastore, 1) by decide +kernel) rfl (by decide +kernel) g9 ?_
        refine g_goto 284 (show op 295 339 = some (.goto (-55), 3) by decide +kernel) rfl ?_
        exact h
      · rw [if_neg hc12] at h
        refine g_icmpT 342 (show op 295 316 = some (.if_icmp .ne 26, 3) by decide +kernel) rfl (decide_eq_true hc12) ?_
        exact h
    · rw [if_neg hc11] at h
      refine g_icmpT 342 (show op 295 295 = some (.if_icmp .ge 47, 3) by decide +kernel) rfl (decide_eq_true (Int.not_lt.mp hc11)) ?_
      exact h
  · rw [if_neg hc10] at h
    refine g_icmpT 342 (show op 295 288 = some (.if_icmp .ge 54, 3) by decide +kernel) rfl (decide_eq_true (Int.not_lt.mp hc10)) ?_
    exact h
theorem b295_342 {d1 : Option AV} {d2 : Option AV} {x3 : Int} {x4 : Int} {x5 : Int} {d6 : Option AV} {d7 : Option AV} {d8 : Option AV} {d9 : Option AV} {σ : Sg} {o : Rs}   (h : (-2147483648 ≤ (x5 + 1) ∧ (x5 + 1) ≤ 2147483647) ∧ C295_171 d1 d2 x3 x4 (x5 + 1) d6 d7 d8 d9 σ o) : C295_342 d1 d2 x3 x4 x5 d6 d7 d8 d9 σ o := by
  show Gd 295 342 [(some (.inr (.inr (some 682)))), d1, d2, (some (.inl x3)), (some (.inl x4)), (some (.inl x5)), d6, d7, d8, d9] [] σ 0 0 o
  obtain ⟨g1, h⟩ := h
  refine g_iinc 345 [(some (.inr (.inr (some 682)))), d1, d2, (some (.inl x3)), (some (.inl x4)), (some (.inl (x5 + 1))), d6, d7, d8, d9] (show op 295 342 = some (.iinc 5 1, 3) by decide +kernel) rfl rfl g1 rfl ?_
  refine g_goto 171 (show op 295 345 = some (.goto (-174), 3) by decide +kernel) rfl ?_
  exact h
/-- PatchBenchModel.joins (III)V -/
theorem b295 {x1 : Int} {x2 : Int} {x3 : Int} {σ : Sg} {o : Rs}   (h : (0 ≤ x1 ∧ x1 < 44) ∧ (0 ≤ x3 ∧ x3 < 44) ∧ (0 ≤ x2 ∧ x2 < 44) ∧ (0 ≤ x3 ∧ x3 < 44) ∧ C295_27 x1 x2 x3 0 none none none none none (upS (upS σ 688 ((x3).toNat) (σ 688 (x1).toNat)) 689 ((x3).toNat) ((upS σ 688 ((x3).toNat) (σ 688 (x1).toNat)) 689 (x2).toNat)) o) : Dd 295 [(.inr (.inr (some 682))), (.inl x1), (.inl x2), (.inl x3)] σ o := by
  refine Dd_of (l := 10) (by decide +kernel) ?_
  show Gd 295 0 [(some (.inr (.inr (some 682)))), (some (.inl x1)), (some (.inl x2)), (some (.inl x3)), none, none, none, none, none, none] [] σ 0 0 o
  refine g_aload_n 1 (show op 295 0 = some (.aload_n 0, 1) by decide +kernel) rfl rfl ?_
  refine g_getR (ci := 11) (f := 7) (fin := true) (isR := true) 4 688 (show op 295 1 = some (.getfield 25, 3) by decide +kernel) rfl (by decide +kernel) (by decide +kernel) ?_
  refine g_iload_n 5 (show op 295 4 = some (.iload_n 3, 1) by decide +kernel) rfl rfl ?_
  refine g_aload_n 6 (show op 295 5 = some (.aload_n 0, 1) by decide +kernel) rfl rfl ?_
  refine g_getR (ci := 11) (f := 7) (fin := true) (isR := true) 9 688 (show op 295 6 = some (.getfield 25, 3) by decide +kernel) rfl (by decide +kernel) (by decide +kernel) ?_
  refine g_iload_n 10 (show op 295 9 = some (.iload_n 1, 1) by decide +kernel) rfl rfl ?_
  obtain ⟨g1, h⟩ := h
  refine g_iaload 11 44 (show op 295 10 = some (.iaload, 1) by decide +kernel) rfl (by decide +kernel) g1 ?_
  obtain ⟨g2, h⟩ := h
  refine g_iastore 12 44 (show op 295 11 = some (.iastore, 1) by decide +kernel) rfl (by decide +kernel) g2 ?_
  refine g_aload_n 13 (show op 295 12 = some (.aload_n 0, 1) by decide +kernel) rfl rfl ?_
  refine g_getR (ci := 11) (f := 8) (fin := true) (isR := true) 16 689 (show op 295 13 = some (.getfield 28, 3) by decide +kernel) rfl (by decide +kernel) (by decide +kernel) ?_
  refine g_iload_n 17 (show op 295 16 = some (.iload_n 3, 1) by decide +kernel) rfl rfl ?_
  refine g_aload_n 18 (show op 295 17 = some (.aload_n 0, 1) by decide +kernel) rfl rfl ?_
  refine g_getR (ci := 11) (f := 8) (fin := true) (isR := true) 21 689 (show op 295 18 = some (.getfield 28, 3) by decide +kernel) rfl (by decide +kernel) (by decide +kernel) ?_
  refine g_iload_n 22 (show op 295 21 = some (.iload_n 2, 1) by decide +kernel) rfl rfl ?_
  obtain ⟨g3, h⟩ := h
  refine g_iaload 23 44 (show op 295 22 = some (.iaload, 1) by decide +kernel) rfl (by decide +kernel) g3 ?_
  obtain ⟨g4, h⟩ := h
  refine g_iastore 24 44 (show op 295 23 = some (.iastore, 1) by decide +kernel) rfl (by decide +kernel) g4 ?_
  refine g_iconst 25 (show op 295 24 = some (.iconst 0, 1) by decide +kernel) rfl rfl ?_
  refine g_istore 27 [(some (.inr (.inr (some 682)))), (some (.inl x1)), (some (.inl x2)), (some (.inl x3)), (some (.inl 0)), none, none, none, none, none] (show op 295 25 = some (.istore 4, 2) by decide +kernel) rfl rfl rfl ?_
  exact h
/-- PatchBenchModel.placeOfHunk (I)I -/
theorem b296 {x1 : Int} {σ : Sg} {o : Rs}   (h : (0 ≤ x1 ∧ x1 < 256) ∧ (¬ ((σ 700 (x1).toNat) = 0) → 0 ≤ x1 ∧ x1 < 256) ∧ (¬ ((σ 700 (x1).toNat) = 0) → -2147483648 ≤ ((σ 700 (x1).toNat) - 1) ∧ ((σ 700 (x1).toNat) - 1) ≤ 2147483647) ∧ (¬ ((σ 700 (x1).toNat) = 0) → 0 ≤ ((σ 700 (x1).toNat) - 1) ∧ ((σ 700 (x1).toNat) - 1) < 100) ∧ (¬ ((σ 700 (x1).toNat) = 0) → -2147483648 ≤ ((σ 690 (((σ 700 (x1).toNat) - 1)).toNat) + 1) ∧ ((σ 690 (((σ 700 (x1).toNat) - 1)).toNat) + 1) ≤ 2147483647) ∧ o = (.inl (some (.inl (if (σ 700 (x1).toNat) = 0 then 0 else ((σ 690 (((σ 700 (x1).toNat) - 1)).toNat) + 1)))), σ)) : Dd 296 [(.inr (.inr (some 682))), (.inl x1)] σ o := by
  refine Dd_of (l := 2) (by decide +kernel) ?_
  show Gd 296 0 [(some (.inr (.inr (some 682)))), (some (.inl x1))] [] σ 0 0 o
  refine g_aload_n 1 (show op 296 0 = some (.aload_n 0, 1) by decide +kernel) rfl rfl ?_
  refine g_getR (ci := 11) (f := 26) (fin := true) (isR := true) 4 700 (show op 296 1 = some (.getfield 61, 3) by decide +kernel) rfl (by decide +kernel) (by decide +kernel) ?_
  refine g_iload_n 5 (show op 296 4 = some (.iload_n 1, 1) by decide +kernel) rfl rfl ?_
  obtain ⟨g1, h⟩ := h
  refine g_iaload 6 256 (show op 296 5 = some (.iaload, 1) by decide +kernel) rfl (by decide +kernel) g1 ?_
  obtain ⟨G7, G8, G9, G10, h⟩ := h
  by_cases hc6 : (σ 700 (x1).toNat) = 0
  · refine g_ifF 9 13 (show op 296 6 = some (.ifCond .ne 7, 3) by decide +kernel) rfl rfl (decide_eq_false (fun h9 => h9 hc6)) ?_
    refine g_iconst 10 (show op 296 9 = some (.iconst 0, 1) by decide +kernel) rfl rfl ?_
    refine g_goto 28 (show op 296 10 = some (.goto 18, 3) by decide +kernel) rfl ?_
    have h9 := h; simp only [if_pos hc6] at h9; exact (g_iret (show op 296 28 = some (.ireturn, 1) by decide +kernel) (by decide +kernel) h9)
  · refine g_ifT 13 (show op 296 6 = some (.ifCond .ne 7, 3) by decide +kernel) rfl (decide_eq_true hc6) ?_
    refine g_aload_n 14 (show op 296 13 = some (.aload_n 0, 1) by decide +kernel) rfl rfl ?_
    refine g_getR (ci := 11) (f := 9) (fin := true) (isR := true) 17 690 (show op 296 14 = some (.getfield 31, 3) by decide +kernel) rfl (by decide +kernel) (by decide +kernel) ?_
    refine g_aload_n 18 (show op 296 17 = some (.aload_n 0, 1) by decide +kernel) rfl rfl ?_
    refine g_getR (ci := 11) (f := 26) (fin := true) (isR := true) 21 700 (show op 296 18 = some (.getfield 61, 3) by decide +kernel) rfl (by decide +kernel) (by decide +kernel) ?_
    refine g_iload_n 22 (show op 296 21 = some (.iload_n 1, 1) by decide +kernel) rfl rfl ?_
    have g2 := G7 hc6
    refine g_iaload 23 256 (show op 296 22 = some (.iaload, 1) by decide +kernel) rfl (by decide +kernel) g2 ?_
    refine g_iconst 24 (show op 296 23 = some (.iconst 1, 1) by decide +kernel) rfl rfl ?_
    have g3 := G8 hc6
    refine g_isub 25 (show op 296 24 = some (.isub, 1) by decide +kernel) rfl g3 ?_
    have g4 := G9 hc6
    refine g_iaload 26 100 (show op 296 25 = some (.iaload, 1) by decide +kernel) rfl (by decide +kernel) g4 ?_
    refine g_iconst 27 (show op 296 26 = some (.iconst 1, 1) by decide +kernel) rfl rfl ?_
    have g5 := G10 hc6
    refine g_iadd 28 (show op 296 27 = some (.iadd, 1) by decide +kernel) rfl g5 ?_
    have h9 := h; simp only [if_neg hc6] at h9; exact (g_iret (show op 296 28 = some (.ireturn, 1) by decide +kernel) (by decide +kernel) h9)
def C297_24 (x1 : Int) (x2 : Int) (x3 : Int) (x4 : Int) (x5 : Int) (x6 : Int) (x7 : Int) (x8 : Int) (d9 : Option AV) (σ : Sg) (o : Rs) : Prop := Gd 297 24 [(some (.inr (.inr (some 682)))), (some (.inl x1)), (some (.inl x2)), (some (.inl x3)), (some (.inl x4)), (some (.inl x5)), (some (.inl x6)), (some (.inl x7)), (some (.inl x8)), d9] [] σ 0 0 o
def C297_46 (x1 : Int) (x2 : Int) (x3 : Int) (x4 : Int) (x5 : Int) (x6 : Int) (x7 : Int) (x8 : Int) (d9 : Option AV) (σ : Sg) (o : Rs) : Prop := Gd 297 46 [(some (.inr (.inr (some 682)))), (some (.inl x1)), (some (.inl x2)), (some (.inl x3)), (some (.inl x4)), (some (.inl x5)), (some (.inl x6)), (some (.inl x7)), (some (.inl x8)), d9] [] σ 0 0 o
def C297_343 (x1 : Int) (x2 : Int) (x3 : Int) (x4 : Int) (d5 : Option AV) (d6 : Option AV) (x7 : Int) (d8 : Option AV) (x9 : Int) (σ : Sg) (o : Rs) : Prop := Gd 297 343 [(some (.inr (.inr (some 682)))), (some (.inl x1)), (some (.inl x2)), (some (.inl x3)), (some (.inl x4)), d5, d6, (some (.inl x7)), d8, (some (.inl x9))] [] σ 0 0 o
def C297_71 (x1 : Int) (x2 : Int) (x3 : Int) (x4 : Int) (x5 : Int) (x6 : Int) (x7 : Int) (x8 : Int) (x9 : Int) (σ : Sg) (o : Rs) : Prop := Gd 297 71 [(some (.inr (.inr (some 682)))), (some (.inl x1)), (some (.inl x2)), (some (.inl x3)), (some (.inl x4)), (some (.inl x5)), (some (.inl x6)), (some (.inl x7)), (some (.inl x8)), (some (.inl x9))] [] σ 0 0 o
def C297_202 (x1 : Int) (x2 : Int) (x3 : Int) (x4 : Int) (x5 : Int) (x6 : Int) (x7 : Int) (x8 : Int) (d9 : Option AV) (σ : Sg) (o : Rs) : Prop := Gd 297 202 [(some (.inr (.inr (some 682)))), (some (.inl x1)), (some (.inl x2)), (some (.inl x3)), (some (.inl x4)), (some (.inl x5)), (some (.inl x6)), (some (.inl x7)), (some (.inl x8)), d9] [] σ 0 0 o
def C297_387 (d1 : Option AV) (x2 : Int) (x3 : Int) (x4 : Int) (d5 : Option AV) (d6 : Option AV) (x7 : Int) (d8 : Option AV) (x9 : Int) (σ : Sg) (o : Rs) : Prop := Gd 297 387 [(some (.inr (.inr (some 682)))), d1, (some (.inl x2)), (some (.inl x3)), (some (.inl x4)), d5, d6, (some (.inl x7)), d8, (some (.inl x9))] [] σ 0 0 o
def C297_150 (x1 : Int) (x2 : Int) (x3 : Int) (x4 : Int) (x5 : Int) (x6 : Int) (x7 : Int) (x8 : Int) (x9 : Int) (σ : Sg) (o : Rs) : Prop := Gd 297 150 [(some (.inr (.inr (some 682)))), (some (.inl x1)), (some (.inl x2)), (some (.inl x3)), (some (.inl x4)), (some (.inl x5)), (some (.inl x6)), (some (.inl x7)), (some (.inl x8)), (some (.inl x9))] [] σ 0 0 o
def C297_288 (x1 : Int) (x2 : Int) (x3 : Int) (x4 : Int) (x5 : Int) (x6 : Int) (x7 : Int) (x8 : Int) (d9 : Option AV) (y1 : Int) (y2 : Int) (σ : Sg) (o : Rs) : Prop := Gd 297 288 [(some (.inr (.inr (some 682)))), (some (.inl x1)), (some (.inl x2)), (some (.inl x3)), (some (.inl x4)), (some (.inl x5)), (some (.inl x6)), (some (.inl x7)), (some (.inl x8)), d9] [(.inl y2), (.inl y1), (.inr (.inr (some 687)))] σ 0 0 o
def C297_428 (d1 : Option AV) (x2 : Int) (d3 : Option AV) (x4 : Int) (d5 : Option AV) (d6 : Option AV) (d7 : Option AV) (d8 : Option AV) (x9 : Int) (σ : Sg) (o : Rs) : Prop := Gd 297 428 [(some (.inr (.inr (some 682)))), d1, (some (.inl x2)), d3, (some (.inl x4)), d5, d6, d7, d8, (some (.inl x9))] [] σ 0 0 o
theorem b297_24 {x1 : Int} {x2 : Int} {x3 : Int} {x4 : Int} {x5 : Int} {x6 : Int} {x7 : Int} {x8 : Int} {d9 : Option AV} {σ : Sg} {o : Rs}   (h : (0 ≤ x1 ∧ x1 < 44) ∧ (if (σ 688 (x1).toNat) ≤ x8 then (-2147483648 ≤ (128 + x5) ∧ (128 + x5) ≤ 2147483647) ∧ (if x6 < (128 + x5) then C297_46 x1 x2 x3 x4 x5 x6 x7 x8 d9 σ o else (0 ≤ x1 ∧ x1 < 44) ∧ (0 ≤ x3 ∧ x3 < 44) ∧ (0 ≤ x3 ∧ x3 < 44) ∧ (0 ≤ x4 ∧ x4 < 44) ∧ (0 ≤ x2 ∧ x2 < 44) ∧ (0 ≤ x4 ∧ x4 < 44) ∧ C297_343 x1 x2 x3 x4 (some (.inl x5)) (some (.inl x6)) x7 (some (.inl x8)) 0 (upS (upS (upS (upS σ 688 ((x3).toNat) (σ 688 (x1).toNat)) 689 ((x3).toNat) x7) 688 ((x4).toNat) x7) 689 ((x4).toNat) ((upS (upS (upS σ 688 ((x3).toNat) (σ 688 (x1).toNat)) 689 ((x3).toNat) x7) 688 ((x4).toNat) x7) 689 (x2).toNat)) o) else C297_46 x1 x2 x3 x4 x5 x6 x7 x8 d9 σ o)) : C297_24 x1 x2 x3 x4 x5 x6 x7 x8 d9 σ o := by
  show Gd 297 24 [(some (.inr (.inr (some 682)))), (some (.inl x1)), (some (.inl x2)), (some (.inl x3)), (some (.inl x4)), (some (.inl x5)), (some (.inl x6)), (some (.inl x7)), (some (.inl x8)), d9] [] σ 0 0 o
  refine g_iload 26 (show op 297 24 = some (.iload 8, 2) by decide +kernel) rfl rfl ?_
  refine g_aload_n 27 (show op 297 26 = some (.aload_n 0, 1) by decide +kernel) rfl rfl ?_
  refine g_getR (ci := 11) (f := 7) (fin := true) (isR := true) 30 688 (show op 297 27 = some (.getfield 25, 3) by decide +kernel) rfl (by decide +kernel) (by decide +kernel) ?_
  refine g_iload_n 31 (show op 297 30 = some (.iload_n 1, 1) by decide +kernel) rfl rfl ?_
  obtain ⟨g1, h⟩ := h
  refine g_iaload 32 44 (show op 297 31 = some (.iaload, 1) by decide +kernel) rfl (by decide +kernel) g1 ?_
  by_cases hc9 : (σ 688 (x1).toNat) ≤ x8
  · rw [if_pos hc9] at h
    refine g_icmpF 35 46 (show op 297 32 = some (.if_icmp .lt 14, 3) by decide +kernel) rfl rfl (decide_eq_false (Int.not_lt.mpr hc9)) ?_
    refine g_iload 37 (show op 297 35 = some (.iload 6, 2) by decide +kernel) rfl rfl ?_
    refine g_sipush 40 (show op 297 37 = some (.sipush 128, 3) by decide +kernel) rfl (by decide) ?_
    refine g_iload 42 (show op 297 40 = some (.iload 5, 2) by decide +kernel) rfl rfl ?_
    obtain ⟨g2, h⟩ := h
    refine g_iadd 43 (show op 297 42 = some (.iadd, 1) by decide +kernel) rfl g2 ?_
    by_cases hc10 : x6 < (128 + x5)
    · rw [if_pos hc10] at h
      refine g_icmpF 46 298 (show op 297 43 = some (.if_icmp .ge 255, 3) by decide +kernel) rfl rfl (decide_eq_false (Int.not_le.mpr hc10)) ?_
      exact h
    · rw [if_neg hc10] at h
      refine g_icmpT 298 (show op 297 43 = some (.if_icmp .ge 255, 3) by decide +kernel) rfl (decide_eq_true (Int.not_lt.mp hc10)) ?_
      refine g_aload_n 299 (show op 297 298 = some (.aload_n 0, 1) by decide +kernel) rfl rfl ?_
      refine g_getR (ci := 11) (f := 7) (fin := true) (isR := true) 302 688 (show op 297 299 = some (.getfield 25, 3) by decide +kernel) rfl (by decide +kernel) (by decide +kernel) ?_
      refine g_iload_n 303 (show op 297 302 = some (.iload_n 3, 1) by decide +kernel) rfl rfl ?_
      refine g_aload_n 304 (show op 297 303 = some (.aload_n 0, 1) by decide +kernel) rfl rfl ?_
      refine g_getR (ci := 11) (f := 7) (fin := true) (isR := true) 307 688 (show op 297 304 = some (.getfield 25, 3) by decide +kernel) rfl (by decide +kernel) (by decide +kernel) ?_
      refine g_iload_n 308 (show op 297 307 = some (.iload_n 1, 1) by decide +kernel) rfl rfl ?_
      obtain ⟨g3, h⟩ := h
      refine g_iaload 309 44 (show op 297 308 = some (.iaload, 1) by decide +kernel) rfl (by decide +kernel) g3 ?_
      obtain ⟨g4, h⟩ := h
      refine g_iastore 310 44 (show op 297 309 = some (.iastore, 1) by decide +kernel) rfl (by decide +kernel) g4 ?_
      refine g_aload_n 311 (show op 297 310 = some (.aload_n 0, 1) by decide +kernel) rfl rfl ?_
      refine g_getR (ci := 11) (f := 8) (fin := true) (isR := true) 314 689 (show op 297 311 = some (.getfield 28, 3) by decide +kernel) rfl (by decide +kernel) (by decide +kernel) ?_
      refine g_iload_n 315 (show op 297 314 = some (.iload_n 3, 1) by decide +kernel) rfl rfl ?_
      refine g_iload 317 (show op 297 315 = some (.iload 7, 2) by decide +kernel) rfl rfl ?_
      obtain ⟨g5, h⟩ := h
      refine g_iastore 318 44 (show op 297 317 = some (.iastore, 1) by decide +kernel) rfl (by decide +kernel) g5 ?_
      refine g_aload_n 319 (show op 297 318 = some (.aload_n 0, 1) by decide +kernel) rfl rfl ?_
      refine g_getR (ci := 11) (f := 7) (fin := true) (isR := true) 322 688 (show op 297 319 = some (.getfield 25, 3) by decide +kernel) rfl (by decide +kernel) (by decide +kernel) ?_
      refine g_iload 324 (show op 297 322 = some (.iload 4, 2) by decide +kernel) rfl rfl ?_
      refine g_iload 326 (show op 297 324 = some (.iload 7, 2) by decide +kernel) rfl rfl ?_
      obtain ⟨g6, h⟩ := h
      refine g_iastore 327 44 (show op 297 326 = some (.iastore, 1) by decide +kernel) rfl (by decide +kernel) g6 ?_
      refine g_aload_n 328 (show op 297 327 = some (.aload_n 0, 1) by decide +kernel) rfl rfl ?_
      refine g_getR (ci := 11) (f := 8) (fin := true) (isR := true) 331 689 (show op 297 328 = some (.getfield 28, 3) by decide +kernel) rfl (by decide +kernel) (by decide +kernel) ?_
      refine g_iload 333 (show op 297 331 = some (.iload 4, 2) by decide +kernel) rfl rfl ?_
      refine g_aload_n 334 (show op 297 333 = some (.aload_n 0, 1) by decide +kernel) rfl rfl ?_
      refine g_getR (ci := 11) (f := 8) (fin := true) (isR := true) 337 689 (show op 297 334 = some (.getfield 28, 3) by decide +kernel) rfl (by decide +kernel) (by decide +kernel) ?_
      refine g_iload_n 338 (show op 297 337 = some (.iload_n 2, 1) by decide +kernel) rfl rfl ?_
      obtain ⟨g7, h⟩ := h
      refine g_iaload 339 44 (show op 297 338 = some (.iaload, 1) by decide +kernel) rfl (by decide +kernel) g7 ?_
      obtain ⟨g8, h⟩ := h
      refine g_iastore 340 44 (show op 297 339 = some (.iastore, 1) by decide +kernel) rfl (by decide +kernel) g8 ?_
      refine g_iconst 341 (show op 297 340 = some (.iconst 0, 1) by decide +kernel) rfl rfl ?_
      refine g_istore 343 [(some (.inr (.inr (some 682)))), (some (.inl x1)), (some (.inl x2)), (some (.inl x3)), (some (.inl x4)), (some (.inl x5)), (some (.inl x6)), (some (.inl x7)), (some (.inl x8)), (some (.inl 0))] (show op 297 341 = some (.istore 9, 2) by decide +kernel) rfl rfl rfl ?_
      exact h
  · rw [if_neg hc9] at h
    refine g_icmpT 46 (show op 297 32 = some (.if_icmp .lt 14, 3) by decide +kernel) rfl (decide_eq_true (Int.not_le.mp hc9)) ?_
    exact h
theorem b297_46 {x1 : Int} {x2 : Int} {x3 : Int} {x4 : Int} {x5 : Int} {x6 : Int} {x7 : Int} {x8 : Int} {d9 : Option AV} {σ : Sg} {o : Rs}   (h : (-2147483648 ≤ (128 + x5) ∧ (128 + x5) ≤ 2147483647) ∧ (if x6 < (128 + x5) then (∃ (v3 : Int) (s2 : Sg), Dd 296 [(.inr (.inr (some 682))), (.inl x6)] σ (.inl (some (.inl v3)), s2) ∧ (if v3 = x8 then C297_71 x1 x2 x3 x4 x5 x6 x7 x8 0 s2 o else C297_202 x1 x2 x3 x4 x5 x6 x7 x8 d9 s2 o)) else C297_202 x1 x2 x3 x4 x5 x6 x7 x8 d9 σ o)) : C297_46 x1 x2 x3 x4 x5 x6 x7 x8 d9 σ o := by
  show Gd 297 46 [(some (.inr (.inr (some 682)))), (some (.inl x1)), (some (.inl x2)), (some (.inl x3)), (some (.inl x4)), (some (.inl x5)), (some (.inl x6)), (some (.inl x7)), (some (.inl x8)), d9] [] σ 0 0 o
  refine g_iload 48 (show op 297 46 = some (.iload 6, 2) by decide +kernel) rfl rfl ?_
  refine g_sipush 51 (show op 297 48 = some (.sipush 128, 3) by decide +kernel) rfl (by decide) ?_
  refine g_iload 53 (show op 297 51 = some (.iload 5, 2) by decide +kernel) rfl rfl ?_
  obtain ⟨g1, h⟩ := h
  refine g_iadd 54 (show op 297 53 = some (.iadd, 1) by decide +kernel) rfl g1 ?_
  by_cases hc5 : x6 < (128 + x5)
  · rw [if_pos hc5] at h
    refine g_icmpF 57 202 (show op 297 54 = some (.if_icmp .ge 148, 3) by decide +kernel) rfl rfl (decide_eq_false (Int.not_le.mpr hc5)) ?_
    refine g_aload_n 58 (show op 297 57 = some (.aload_n 0, 1) by decide +kernel) rfl rfl ?_
    refine g_iload 60 (show op 297 58 = some (.iload 6, 2) by decide +kernel) rfl rfl ?_
    obtain ⟨v3, s2, hD4, h⟩ := h
    refine g_call 63 [(.inl v3)] (show op 297 60 = some (.invokevirtual 284, 3) by decide +kernel) (call_vi' (k' := 0) (n' := 0) (nj := 2) (j := 296) (k9 := 21) (t := []) (as := [(.inr (.inr (some 682))), (.inl x6)]) (by decide +kernel) rfl (by decide +kernel) rfl rfl rfl rfl rfl rfl (by decide +kernel) (by decide +kernel)) hD4 rfl ?_
    refine g_iload 65 (show op 297 63 = some (.iload 8, 2) by decide +kernel) rfl rfl ?_
    by_cases hc6 : v3 = x8
    · rw [if_pos hc6] at h
      refine g_icmpF 68 202 (show op 297 65 = some (.if_icmp .ne 137, 3) by decide +kernel) rfl rfl (decide_eq_false (fun h9 => h9 hc6)) ?_
      refine g_iconst 69 (show op 297 68 = some (.iconst 0, 1) by decide +kernel) rfl rfl ?_
      refine g_istore 71 [(some (.inr (.inr (some 682)))), (some (.inl x1)), (some (.inl x2)), (some (.inl x3)), (some (.inl x4)), (some (.inl x5)), (some (.inl x6)), (some (.inl x7)), (some (.inl x8)), (some (.inl 0))] (show op 297 69 = some (.istore 9, 2) by decide +kernel) rfl rfl rfl ?_
      exact h
    · rw [if_neg hc6] at h
      refine g_icmpT 202 (show op 297 65 = some (.if_icmp .ne 137, 3) by decide +kernel) rfl (decide_eq_true hc6) ?_
      exact h
  · rw [if_neg hc5] at h
    refine g_icmpT 202 (show op 297 54 = some (.if_icmp .ge 148, 3) by decide +kernel) rfl (decide_eq_true (Int.not_lt.mp hc5)) ?_
    exact h
theorem b297_343 {x1 : Int} {x2 : Int} {x3 : Int} {x4 : Int} {d5 : Option AV} {d6 : Option AV} {x7 : Int} {d8 : Option AV} {x9 : Int} {σ : Sg} {o : Rs}   (h : (0 ≤ x3 ∧ x3 < 44) ∧ (if x9 < (σ 688 (x3).toNat) then (-2147483648 ≤ (100 * x3) ∧ (100 * x3) ≤ 2147483647) ∧ (-2147483648 ≤ ((100 * x3) + x9) ∧ ((100 * x3) + x9) ≤ 2147483647) ∧ (-2147483648 ≤ (100 * x1) ∧ (100 * x1) ≤ 2147483647) ∧ (-2147483648 ≤ ((100 * x1) + x9) ∧ ((100 * x1) + x9) ≤ 2147483647) ∧ (0 ≤ ((100 * x1) + x9) ∧ ((100 * x1) + x9) < 4400) ∧ (0 ≤ ((100 * x3) + x9) ∧ ((100 * x3) + x9) < 4400) ∧ (-2147483648 ≤ (x9 + 1) ∧ (x9 + 1) ≤ 2147483647) ∧ C297_343 x1 x2 x3 x4 d5 d6 x7 d8 (x9 + 1) (upS σ 685 ((((100 * x3) + x9)).toNat) (σ 685 (((100 * x1) + x9)).toNat)) o else C297_387 (some (.inl x1)) x2 x3 x4 d5 d6 x7 d8 0 σ o)) : C297_343 x1 x2 x3 x4 d5 d6 x7 d8 x9 σ o := by
  show Gd 297 343 [(some (.inr (.inr (some 682)))), (some (.inl x1)), (some (.inl x2)), (some (.inl x3)), (some (.inl x4)), d5, d6, (some (.inl x7)), d8, (some (.inl x9))] [] σ 0 0 o
  refine g_iload 345 (show op 297 343 = some (.iload 9, 2) by decide +kernel) rfl rfl ?_
  refine g_aload_n 346 (show op 297 345 = some (.aload_n 0, 1) by decide +kernel) rfl rfl ?_
  refine g_getR (ci := 11) (f := 7) (fin := true) (isR := true) 349 688 (show op 297 346 = some (.getfield 25, 3) by decide +kernel) rfl (by decide +kernel) (by decide +kernel) ?_
  refine g_iload_n 350 (show op 297 349 = some (.iload_n 3, 1) by decide +kernel) rfl rfl ?_
  obtain ⟨g1, h⟩ := h
  refine g_iaload 351 44 (show op 297 350 = some (.iaload, 1) by decide +kernel) rfl (by decide +kernel) g1 ?_
  by_cases hc9 : x9 < (σ 688 (x3).toNat)
  · rw [if_pos hc9] at h
    refine g_icmpF 354 384 (show op 297 351 = some (.if_icmp .ge 33, 3) by decide +kernel) rfl rfl (decide_eq_false (Int.not_le.mpr hc9)) ?_
    refine g_aload_n 355 (show op 297 354 = some (.aload_n 0, 1) by decide +kernel) rfl rfl ?_
    refine g_getR (ci := 11) (f := 4) (fin := true) (isR := true) 358 685 (show op 297 355 = some (.getfield 16, 3) by decide +kernel) rfl (by decide +kernel) (by decide +kernel) ?_
    refine g_bipush 360 (show op 297 358 = some (.bipush 100, 2) by decide +kernel) rfl (by decide) ?_
    refine g_iload_n 361 (show op 297 360 = some (.iload_n 3, 1) by decide +kernel) rfl rfl ?_
    obtain ⟨g2, h⟩ := h
    refine g_imul 362 (show op 297 361 = some (.imul, 1) by decide +kernel) rfl g2 ?_
    refine g_iload 364 (show op 297 362 = some (.iload 9, 2) by decide +kernel) rfl rfl ?_
    obtain ⟨g3, h⟩ := h
    refine g_iadd 365 (show op 297 364 = some (.iadd, 1) by decide +kernel) rfl g3 ?_
    refine g_aload_n 366 (show op 297 365 = some (.aload_n 0, 1) by decide +kernel) rfl rfl ?_
    refine g_getR (ci := 11) (f := 4) (fin := true) (isR := true) 369 685 (show op 297 366 = some (.getfield 16, 3) by decide +kernel) rfl (by decide +kernel) (by decide +kernel) ?_
    refine g_bipush 371 (show op 297 369 = some (.bipush 100, 2) by decide +kernel) rfl (by decide) ?_
    refine g_iload_n 372 (show op 297 371 = some (.iload_n 1, 1) by decide +kernel) rfl rfl ?_
    obtain ⟨g4, h⟩ := h
    refine g_imul 373 (show op 297 372 = some (.imul, 1) by decide +kernel) rfl g4 ?_
    refine g_iload 375 (show op 297 373 = some (.iload 9, 2) by decide +kernel) rfl rfl ?_
    obtain ⟨g5, h⟩ := h
    refine g_iadd 376 (show op 297 375 = some (.iadd, 1) by decide +kernel) rfl g5 ?_
    obtain ⟨g6, h⟩ := h
    refine g_iaload 377 4400 (show op 297 376 = some (.iaload, 1) by decide +kernel) rfl (by decide +kernel) g6 ?_
    obtain ⟨g7, h⟩ := h
    refine g_iastore 378 4400 (show op 297 377 = some (.iastore, 1) by decide +kernel) rfl (by decide +kernel) g7 ?_
    obtain ⟨g8, h⟩ := h
    refine g_iinc 381 [(some (.inr (.inr (some 682)))), (some (.inl x1)), (some (.inl x2)), (some (.inl x3)), (some (.inl x4)), d5, d6, (some (.inl x7)), d8, (some (.inl (x9 + 1)))] (show op 297 378 = some (.iinc 9 1, 3) by decide +kernel) rfl rfl g8 rfl ?_
    refine g_goto 343 (show op 297 381 = some (.goto (-38), 3) by decide +kernel) rfl ?_
    exact h
  · rw [if_neg hc9] at h
    refine g_icmpT 384 (show op 297 351 = some (.if_icmp .ge 33, 3) by decide +kernel) rfl (decide_eq_true (Int.not_lt.mp hc9)) ?_
    refine g_iconst 385 (show op 297 384 = some (.iconst 0, 1) by decide +kernel) rfl rfl ?_
    refine g_istore 387 [(some (.inr (.inr (some 682)))), (some (.inl x1)), (some (.inl x2)), (some (.inl x3)), (some (.inl x4)), d5, d6, (some (.inl x7)), d8, (some (.inl 0))] (show op 297 385 = some (.istore 9, 2) by decide +kernel) rfl rfl rfl ?_
    exact h
theorem b297_71 {x1 : Int} {x2 : Int} {x3 : Int} {x4 : Int} {x5 : Int} {x6 : Int} {x7 : Int} {x8 : Int} {x9 : Int} {σ : Sg} {o : Rs}   (h : (0 ≤ x6 ∧ x6 < 256) ∧ (if x9 < (σ 703 (x6).toNat) then (-2147483648 ≤ (100 * x3) ∧ (100 * x3) ≤ 2147483647) ∧ (-2147483648 ≤ ((100 * x3) + x7) ∧ ((100 * x3) + x7) ≤ 2147483647) ∧ (-2147483648 ≤ (100 * x2) ∧ (100 * x2) ≤ 2147483647) ∧ (0 ≤ x6 ∧ x6 < 256) ∧ (-2147483648 ≤ ((100 * x2) + (σ 702 (x6).toNat)) ∧ ((100 * x2) + (σ 702 (x6).toNat)) ≤ 2147483647) ∧ (-2147483648 ≤ (((100 * x2) + (σ 702 (x6).toNat)) + x9) ∧ (((100 * x2) + (σ 702 (x6).toNat)) + x9) ≤ 2147483647) ∧ (0 ≤ (((100 * x2) + (σ 702 (x6).toNat)) + x9) ∧ (((100 * x2) + (σ 702 (x6).toNat)) + x9) < 4400) ∧ (0 ≤ ((100 * x3) + x7) ∧ ((100 * x3) + x7) < 4400) ∧ (-2147483648 ≤ (100 * x4) ∧ (100 * x4) ≤ 2147483647) ∧ (-2147483648 ≤ ((100 * x4) + x7) ∧ ((100 * x4) + x7) ≤ 2147483647) ∧ (0 ≤ x6 ∧ x6 < 256) ∧ (-2147483648 ≤ (((upS σ 686 ((((100 * x3) + x7)).toNat) (σ 686 ((((100 * x2) + (σ 702 (x6).toNat)) + x9)).toNat)) 702 (x6).toNat) + x9) ∧ (((upS σ 686 ((((100 * x3) + x7)).toNat) (σ 686 ((((100 * x2) + (σ 702 (x6).toNat)) + x9)).toNat)) 702 (x6).toNat) + x9) ≤ 2147483647) ∧ (0 ≤ ((100 * x4) + x7) ∧ ((100 * x4) + x7) < 4400) ∧ (-2147483648 ≤ (x7 + 1) ∧ (x7 + 1) ≤ 2147483647) ∧ (-2147483648 ≤ (x9 + 1) ∧ (x9 + 1) ≤ 2147483647) ∧ C297_71 x1 x2 x3 x4 x5 x6 (x7 + 1) x8 (x9 + 1) (upS (upS σ 686 ((((100 * x3) + x7)).toNat) (σ 686 ((((100 * x2) + (σ 702 (x6).toNat)) + x9)).toNat)) 687 ((((100 * x4) + x7)).toNat) (((upS σ 686 ((((100 * x3) + x7)).toNat) (σ 686 ((((100 * x2) + (σ 702 (x6).toNat)) + x9)).toNat)) 702 (x6).toNat) + x9)) o else C297_150 x1 x2 x3 x4 x5 x6 x7 x8 0 σ o)) : C297_71 x1 x2 x3 x4 x5 x6 x7 x8 x9 σ o := by
  show Gd 297 71 [(some (.inr (.inr (some 682)))), (some (.inl x1)), (some (.inl x2)), (some (.inl x3)), (some (.inl x4)), (some (.inl x5)), (some (.inl x6)), (some (.inl x7)), (some (.inl x8)), (some (.inl x9))] [] σ 0 0 o
  refine g_iload 73 (show op 297 71 = some (.iload 9, 2) by decide +kernel) rfl rfl ?_
  refine g_aload_n 74 (show op 297 73 = some (.aload_n 0, 1) by decide +kernel) rfl rfl ?_
  refine g_getR (ci := 11) (f := 29) (fin := true) (isR := true) 77 703 (show op 297 74 = some (.getfield 70, 3) by decide +kernel) rfl (by decide +kernel) (by decide +kernel) ?_
  refine g_iload 79 (show op 297 77 = some (.iload 6, 2) by decide +kernel) rfl rfl ?_
  obtain ⟨g1, h⟩ := h
  refine g_iaload 80 256 (show op 297 79 = some (.iaload, 1) by decide +kernel) rfl (by decide +kernel) g1 ?_
  by_cases hc17 : x9 < (σ 703 (x6).toNat)
  · rw [if_pos hc17] at h
    refine g_icmpF 83 147 (show op 297 80 = some (.if_icmp .ge 67, 3) by decide +kernel) rfl rfl (decide_eq_false (Int.not_le.mpr hc17)) ?_
    refine g_aload_n 84 (show op 297 83 = some (.aload_n 0, 1) by decide +kernel) rfl rfl ?_
    refine g_getR (ci := 11) (f := 5) (fin := true) (isR := true) 87 686 (show op 297 84 = some (.getfield 19, 3) by decide +kernel) rfl (by decide +kernel) (by decide +kernel) ?_
    refine g_bipush 89 (show op 297 87 = some (.bipush 100, 2) by decide +kernel) rfl (by decide) ?_
    refine g_iload_n 90 (show op 297 89 = some (.iload_n 3, 1) by decide +kernel) rfl rfl ?_
    obtain ⟨g2, h⟩ := h
    refine g_imul 91 (show op 297 90 = some (.imul, 1) by decide +kernel) rfl g2 ?_
    refine g_iload 93 (show op 297 91 = some (.iload 7, 2) by decide +kernel) rfl rfl ?_
    obtain ⟨g3, h⟩ := h
    refine g_iadd 94 (show op 297 93 = some (.iadd, 1) by decide +kernel) rfl g3 ?_
    refine g_aload_n 95 (show op 297 94 = some (.aload_n 0, 1) by decide +kernel) rfl rfl ?_
    refine g_getR (ci := 11) (f := 5) (fin := true) (isR := true) 98 686 (show op 297 95 = some (.getfield 19, 3) by decide +kernel) rfl (by decide +kernel) (by decide +kernel) ?_
    refine g_bipush 100 (show op 297 98 = some (.bipush 100, 2) by decide +kernel) rfl (by decide) ?_
    refine g_iload_n 101 (show op 297 100 = some (.iload_n 2, 1) by decide +kernel) rfl rfl ?_
    obtain ⟨g4, h⟩ := h
    refine g_imul 102 (show op 297 101 = some (.imul, 1) by decide +kernel) rfl g4 ?_
    refine g_aload_n 103 (show op 297 102 = some (.aload_n 0, 1) by decide +kernel) rfl rfl ?_
    refine g_getR (ci := 11) (f := 28) (fin := true) (isR := true) 106 702 (show op 297 103 = some (.getfield 67, 3) by decide +kernel) rfl (by decide +kernel) (by decide +kernel) ?_
    refine g_iload 108 (show op 297 106 = some (.iload 6, 2) by decide +kernel) rfl rfl ?_
    obtain ⟨g5, h⟩ := h
    refine g_iaload 109 256 (show op 297 108 = some (.iaload, 1) by decide +kernel) rfl (by decide +kernel) g5 ?_
    obtain ⟨g6, h⟩ := h
    refine g_iadd 110 (show op 297 109 = some (.iadd, 1) by decide +kernel) rfl g6 ?_
    refine g_iload 112 (show op 297 110 = some (.iload 9, 2) by decide +kernel) rfl rfl ?_
    obtain ⟨g7, h⟩ := h
    refine g_iadd 113 (show op 297 112 = some (.iadd, 1) by decide +kernel) rfl g7 ?_
    obtain ⟨g8, h⟩ := h
    refine g_iaload 114 4400 (show op 297 113 = some (.iaload, 1) by decide +kernel) rfl (by decide +kernel) g8 ?_
    obtain ⟨g9, h⟩ := h
    refine g_iastore 115 4400 (show op 297 114 = some (.iastore, 1) by decide +kernel) rfl (by decide +kernel) g9 ?_
    refine g_aload_n 116 (show op 297 115 = some (.aload_n 0, 1) by decide +kernel) rfl rfl ?_
    refine g_getR (ci := 11) (f := 6) (fin := true) (isR := true) 119 687 (show op 297 116 = some (.getfield 22, 3) by decide +kernel) rfl (by decide +kernel) (by decide +kernel) ?_
    refine g_bipush 121 (show op 297 119 = some (.bipush 100, 2) by decide +kernel) rfl (by decide) ?_
    refine g_iload 123 (show op 297 121 = some (.iload 4, 2) by decide +kernel) rfl rfl ?_
    obtain ⟨g10, h⟩ := h
    refine g_imul 124 (show op 297 123 = some (.imul, 1) by decide +kernel) rfl g10 ?_
    refine g_iload 126 (show op 297 124 = some (.iload 7, 2) by decide +kernel) rfl rfl ?_
    obtain ⟨g11, h⟩ := h
    refine g_iadd 127 (show op 297 126 = some (.iadd, 1) by decide +kernel) rfl g11 ?_
    refine g_aload_n 128 (show op 297 127 = some (.aload_n 0, 1) by decide +kernel) rfl rfl ?_
    refine g_getR (ci := 11) (f := 28) (fin := true) (isR := true) 131 702 (show op 297 128 = some (.getfield 67, 3) by decide +kernel) rfl (by decide +kernel) (by decide +kernel) ?_
    refine g_iload 133 (show op 297 131 = some (.iload 6, 2) by decide +kernel) rfl rfl ?_
    obtain ⟨g12, h⟩ := h
    refine g_iaload 134 256 (show op 297 133 = some (.iaload, 1) by decide +kernel) rfl (by decide +kernel) g12 ?_
    refine g_iload 136 (show op 297 134 = some (.iload 9, 2) by decide +kernel) rfl rfl ?_
    obtain ⟨g13, h⟩ := h
    refine g_iadd 137 (show op 297 136 = some (.iadd, 1) by decide +kernel) rfl g13 ?_
    obtain ⟨g14, h⟩ := h
    refine g_iastore 138 4400 (show op 297 137 = some (.iastore, 1) by decide +kernel) rfl (by decide +kernel) g14 ?_
    obtain ⟨g15, h⟩ := h
    refine g_iinc 141 [(some (.inr (.inr (some 682)))), (some (.inl x1)), (some (.inl x2)), (some (.inl x3)), (some (.inl x4)), (some (.inl x5)), (some (.inl x6)), (some (.inl (x7 + 1))), (some (.inl x8)), (some (.inl x9))] (show op 297 138 = some (.iinc 7 1, 3) by decide +kernel) rfl rfl g15 rfl ?_
    obtain ⟨g16, h⟩ := h
    refine g_iinc 144 [(some (.inr (.inr (some 682)))), (some (.inl x1)), (some (.inl x2)), (some (.inl x3)), (some (.inl x4)), (some (.inl x5)), (some (.inl x6)), (some (.inl (x7 + 1))), (some (.inl x8)), (some (.inl (x9 + 1)))] (show op 297 141 = some (.iinc 9 1, 3) by decide +kernel) rfl rfl g16 rfl ?_
    refine g_goto 71 (show op 297 144 = some (.goto (-73), 3) by decide +kernel) rfl ?_
    exact h
  · rw [if_neg hc17] at h
    refine g_icmpT 147 (show op 297 80 = some (.if_icmp .ge 67, 3) by decide +kernel) rfl (decide_eq_true (Int.not_lt.mp hc17)) ?_
    refine g_iconst 148 (show op 297 147 = some (.iconst 0, 1) by decide +kernel) rfl rfl ?_
    refine g_istore 150 [(some (.inr (.inr (some 682)))), (some (.inl x1)), (some (.inl x2)), (some (.inl x3)), (some (.inl x4)), (some (.inl x5)), (some (.inl x6)), (some (.inl x7)), (some (.inl x8)), (some (.inl 0))] (show op 297 148 = some (.istore 9, 2) by decide +kernel) rfl rfl rfl ?_
    exact h
theorem b297_202 {x1 : Int} {x2 : Int} {x3 : Int} {x4 : Int} {x5 : Int} {x6 : Int} {x7 : Int} {x8 : Int} {d9 : Option AV} {σ : Sg} {o : Rs}   (h : (-2147483648 ≤ (100 * x1) ∧ (100 * x1) ≤ 2147483647) ∧ (-2147483648 ≤ ((100 * x1) + x8) ∧ ((100 * x1) + x8) ≤ 2147483647) ∧ (0 ≤ ((100 * x1) + x8) ∧ ((100 * x1) + x8) < 4400) ∧ (-2147483648 ≤ (100 * x3) ∧ (100 * x3) ≤ 2147483647) ∧ (-2147483648 ≤ ((100 * x3) + x7) ∧ ((100 * x3) + x7) ≤ 2147483647) ∧ (-2147483648 ≤ (100 * x1) ∧ (100 * x1) ≤ 2147483647) ∧ (-2147483648 ≤ ((100 * x1) + x8) ∧ ((100 * x1) + x8) ≤ 2147483647) ∧ (0 ≤ ((100 * x1) + x8) ∧ ((100 * x1) + x8) < 4400) ∧ (0 ≤ ((100 * x3) + x7) ∧ ((100 * x3) + x7) < 4400) ∧ (-2147483648 ≤ (100 * x3) ∧ (100 * x3) ≤ 2147483647) ∧ (-2147483648 ≤ ((100 * x3) + x8) ∧ ((100 * x3) + x8) ≤ 2147483647) ∧ (0 ≤ ((100 * x3) + x8) ∧ ((100 * x3) + x8) < 4400) ∧ (-2147483648 ≤ (100 * x4) ∧ (100 * x4) ≤ 2147483647) ∧ (-2147483648 ≤ ((100 * x4) + x7) ∧ ((100 * x4) + x7) ≤ 2147483647) ∧ (¬ ((σ 687 (((100 * x1) + x8)).toNat) = (-1)) → -2147483648 ≤ (100 * x2) ∧ (100 * x2) ≤ 2147483647) ∧ (¬ ((σ 687 (((100 * x1) + x8)).toNat) = (-1)) → -2147483648 ≤ ((100 * x2) + (σ 687 (((100 * x1) + x8)).toNat)) ∧ ((100 * x2) + (σ 687 (((100 * x1) + x8)).toNat)) ≤ 2147483647) ∧ (¬ ((σ 687 (((100 * x1) + x8)).toNat) = (-1)) → 0 ≤ ((100 * x2) + (σ 687 (((100 * x1) + x8)).toNat)) ∧ ((100 * x2) + (σ 687 (((100 * x1) + x8)).toNat)) < 4400) ∧ C297_288 x1 x2 x3 x4 x5 x6 x7 x8 (some (.inl (σ 687 (((100 * x1) + x8)).toNat))) ((100 * x4) + x7) (if (σ 687 (((100 * x1) + x8)).toNat) = (-1) then (-1) else ((upS (upS σ 686 ((((100 * x3) + x7)).toNat) (σ 685 (((100 * x1) + x8)).toNat)) 687 ((((100 * x3) + x8)).toNat) x7) 687 (((100 * x2) + (σ 687 (((100 * x1) + x8)).toNat))).toNat)) (upS (upS σ 686 ((((100 * x3) + x7)).toNat) (σ 685 (((100 * x1) + x8)).toNat)) 687 ((((100 * x3) + x8)).toNat) x7) o) : C297_202 x1 x2 x3 x4 x5 x6 x7 x8 d9 σ o := by
  show Gd 297 202 [(some (.inr (.inr (some 682)))), (some (.inl x1)), (some (.inl x2)), (some (.inl x3)), (some (.inl x4)), (some (.inl x5)), (some (.inl x6)), (some (.inl x7)), (some (.inl x8)), d9] [] σ 0 0 o
  refine g_aload_n 203 (show op 297 202 = some (.aload_n 0, 1) by decide +kernel) rfl rfl ?_
  refine g_getR (ci := 11) (f := 6) (fin := true) (isR := true) 206 687 (show op 297 203 = some (.getfield 22, 3) by decide +kernel) rfl (by decide +kernel) (by decide +kernel) ?_
  refine g_bipush 208 (show op 297 206 = some (.bipush 100, 2) by decide +kernel) rfl (by decide) ?_
  refine g_iload_n 209 (show op 297 208 = some (.iload_n 1, 1) by decide +kernel) rfl rfl ?_
  obtain ⟨g1, h⟩ := h
  refine g_imul 210 (show op 297 209 = some (.imul, 1) by decide +kernel) rfl g1 ?_
  refine g_iload 212 (show op 297 210 = some (.iload 8, 2) by decide +kernel) rfl rfl ?_
  obtain ⟨g2, h⟩ := h
  refine g_iadd 213 (show op 297 212 = some (.iadd, 1) by decide +kernel) rfl g2 ?_
  obtain ⟨g3, h⟩ := h
  refine g_iaload 214 4400 (show op 297 213 = some (.iaload, 1) by decide +kernel) rfl (by decide +kernel) g3 ?_
  refine g_istore 216 [(some (.inr (.inr (some 682)))), (some (.inl x1)), (some (.inl x2)), (some (.inl x3)), (some (.inl x4)), (some (.inl x5)), (some (.inl x6)), (some (.inl x7)), (some (.inl x8)), (some (.inl (σ 687 (((100 * x1) + x8)).toNat)))] (show op 297 214 = some (.istore 9, 2) by decide +kernel) rfl rfl rfl ?_
  refine g_aload_n 217 (show op 297 216 = some (.aload_n 0, 1) by decide +kernel) rfl rfl ?_
  refine g_getR (ci := 11) (f := 5) (fin := true) (isR := true) 220 686 (show op 297 217 = some (.getfield 19, 3) by decide +kernel) rfl (by decide +kernel) (by decide +kernel) ?_
  refine g_bipush 222 (show op 297 220 = some (.bipush 100, 2) by decide +kernel) rfl (by decide) ?_
  refine g_iload_n 223 (show op 297 222 = some (.iload_n 3, 1) by decide +kernel) rfl rfl ?_
  obtain ⟨g4, h⟩ := h
  refine g_imul 224 (show op 297 223 = some (.imul, 1) by decide +kernel) rfl g4 ?_
  refine g_iload 226 (show op 297 224 = some (.iload 7, 2) by decide +kernel) rfl rfl ?_
  obtain ⟨g5, h⟩ := h
  refine g_iadd 227 (show op 297 226 = some (.iadd, 1) by decide +kernel) rfl g5 ?_
  refine g_aload_n 228 (show op 297 227 = some (.aload_n 0, 1) by decide +kernel) rfl rfl ?_
  refine g_getR (ci := 11) (f := 4) (fin := true) (isR := true) 231 685 (show op 297 228 = some (.getfield 16, 3) by decide +kernel) rfl (by decide +kernel) (by decide +kernel) ?_
  refine g_bipush 233 (show op 297 231 = some (.bipush 100, 2) by decide +kernel) rfl (by decide) ?_
  refine g_iload_n 234 (show op 297 233 = some (.iload_n 1, 1) by decide +kernel) rfl rfl ?_
  obtain ⟨g6, h⟩ := h
  refine g_imul 235 (show op 297 234 = some (.imul, 1) by decide +kernel) rfl g6 ?_
  refine g_iload 237 (show op 297 235 = some (.iload 8, 2) by decide +kernel) rfl rfl ?_
  obtain ⟨g7, h⟩ := h
  refine g_iadd 238 (show op 297 237 = some (.iadd, 1) by decide +kernel) rfl g7 ?_
  obtain ⟨g8, h⟩ := h
  refine g_iaload 239 4400 (show op 297 238 = some (.iaload, 1) by decide +kernel) rfl (by decide +kernel) g8 ?_
  obtain ⟨g9, h⟩ := h
  refine g_iastore 240 4400 (show op 297 239 = some (.iastore, 1) by decide +kernel) rfl (by decide +kernel) g9 ?_
  refine g_aload_n 241 (show op 297 240 = some (.aload_n 0, 1) by decide +kernel) rfl rfl ?_
  refine g_getR (ci := 11) (f := 6) (fin := true) (isR := true) 244 687 (show op 297 241 = some (.getfield 22, 3) by decide +kernel) rfl (by decide +kernel) (by decide +kernel) ?_
  refine g_bipush 246 (show op 297 244 = some (.bipush 100, 2) by decide +kernel) rfl (by decide) ?_
  refine g_iload_n 247 (show op 297 246 = some (.iload_n 3, 1) by decide +kernel) rfl rfl ?_
  obtain ⟨g10, h⟩ := h
  refine g_imul 248 (show op 297 247 = some (.imul, 1) by decide +kernel) rfl g10 ?_
  refine g_iload 250 (show op 297 248 = some (.iload 8, 2) by decide +kernel) rfl rfl ?_
  obtain ⟨g11, h⟩ := h
  refine g_iadd 251 (show op 297 250 = some (.iadd, 1) by decide +kernel) rfl g11 ?_
  refine g_iload 253 (show op 297 251 = some (.iload 7, 2) by decide +kernel) rfl rfl ?_
  obtain ⟨g12, h⟩ := h
  refine g_iastore 254 4400 (show op 297 253 = some (.iastore, 1) by decide +kernel) rfl (by decide +kernel) g12 ?_
  refine g_aload_n 255 (show op 297 254 = some (.aload_n 0, 1) by decide +kernel) rfl rfl ?_
  refine g_getR (ci := 11) (f := 6) (fin := true) (isR := true) 258 687 (show op 297 255 = some (.getfield 22, 3) by decide +kernel) rfl (by decide +kernel) (by decide +kernel) ?_
  refine g_bipush 260 (show op 297 258 = some (.bipush 100, 2) by decide +kernel) rfl (by decide) ?_
  refine g_iload 262 (show op 297 260 = some (.iload 4, 2) by decide +kernel) rfl rfl ?_
  obtain ⟨g13, h⟩ := h
  refine g_imul 263 (show op 297 262 = some (.imul, 1) by decide +kernel) rfl g13 ?_
  refine g_iload 265 (show op 297 263 = some (.iload 7, 2) by decide +kernel) rfl rfl ?_
  obtain ⟨g14, h⟩ := h
  refine g_iadd 266 (show op 297 265 = some (.iadd, 1) by decide +kernel) rfl g14 ?_
  refine g_iload 268 (show op 297 266 = some (.iload 9, 2) by decide +kernel) rfl rfl ?_
  refine g_iconst 269 (show op 297 268 = some (.iconst (-1), 1) by decide +kernel) rfl rfl ?_
  obtain ⟨G19, G20, G21, h⟩ := h
  by_cases hc18 : (σ 687 (((100 * x1) + x8)).toNat) = (-1)
  · refine g_icmpF 272 276 (show op 297 269 = some (.if_icmp .ne 7, 3) by decide +kernel) rfl rfl (decide_eq_false (fun h9 => h9 hc18)) ?_
    refine g_iconst 273 (show op 297 272 = some (.iconst (-1), 1) by decide +kernel) rfl rfl ?_
    refine g_goto 288 (show op 297 273 = some (.goto 15, 3) by decide +kernel) rfl ?_
    have h9 := h; simp only [if_pos hc18] at h9; exact h9
  · refine g_icmpT 276 (show op 297 269 = some (.if_icmp .ne 7, 3) by decide +kernel) rfl (decide_eq_true hc18) ?_
    refine g_aload_n 277 (show op 297 276 = some (.aload_n 0, 1) by decide +kernel) rfl rfl ?_
    refine g_getR (ci := 11) (f := 6) (fin := true) (isR := true) 280 687 (show op 297 277 = some (.getfield 22, 3) by decide +kernel) rfl (by decide +kernel) (by decide +kernel) ?_
    refine g_bipush 282 (show op 297 280 = some (.bipush 100, 2) by decide +kernel) rfl (by decide) ?_
    refine g_iload_n 283 (show op 297 282 = some (.iload_n 2, 1) by decide +kernel) rfl rfl ?_
    have g15 := G19 hc18
    refine g_imul 284 (show op 297 283 = some (.imul, 1) by decide +kernel) rfl g15 ?_
    refine g_iload 286 (show op 297 284 = some (.iload 9, 2) by decide +kernel) rfl rfl ?_
    have g16 := G20 hc18
    refine g_iadd 287 (show op 297 286 = some (.iadd, 1) by decide +kernel) rfl g16 ?_
    have g17 := G21 hc18
    refine g_iaload 288 4400 (show op 297 287 = some (.iaload, 1) by decide +kernel) rfl (by decide +kernel) g17 ?_
    have h9 := h; simp only [if_neg hc18] at h9; exact h9
theorem b297_387 {d1 : Option AV} {x2 : Int} {x3 : Int} {x4 : Int} {d5 : Option AV} {d6 : Option AV} {x7 : Int} {d8 : Option AV} {x9 : Int} {σ : Sg} {o : Rs}   (h : (if x9 < x7 then (-2147483648 ≤ (100 * x4) ∧ (100 * x4) ≤ 2147483647) ∧ (-2147483648 ≤ ((100 * x4) + x9) ∧ ((100 * x4) + x9) ≤ 2147483647) ∧ (-2147483648 ≤ (100 * x3) ∧ (100 * x3) ≤ 2147483647) ∧ (-2147483648 ≤ ((100 * x3) + x9) ∧ ((100 * x3) + x9) ≤ 2147483647) ∧ (0 ≤ ((100 * x3) + x9) ∧ ((100 * x3) + x9) < 4400) ∧ (0 ≤ ((100 * x4) + x9) ∧ ((100 * x4) + x9) < 4400) ∧ (-2147483648 ≤ (x9 + 1) ∧ (x9 + 1) ≤ 2147483647) ∧ C297_387 d1 x2 x3 x4 d5 d6 x7 d8 (x9 + 1) (upS σ 685 ((((100 * x4) + x9)).toNat) (σ 686 (((100 * x3) + x9)).toNat)) o else C297_428 d1 x2 (some (.inl x3)) x4 d5 d6 (some (.inl x7)) d8 0 σ o)) : C297_387 d1 x2 x3 x4 d5 d6 x7 d8 x9 σ o := by
  show Gd 297 387 [(some (.inr (.inr (some 682)))), d1, (some (.inl x2)), (some (.inl x3)), (some (.inl x4)), d5, d6, (some (.inl x7)), d8, (some (.inl x9))] [] σ 0 0 o
  refine g_iload 389 (show op 297 387 = some (.iload 9, 2) by decide +kernel) rfl rfl ?_
  refine g_iload 391 (show op 297 389 = some (.iload 7, 2) by decide +kernel) rfl rfl ?_
  by_cases hc8 : x9 < x7
  · rw [if_pos hc8] at h
    refine g_icmpF 394 425 (show op 297 391 = some (.if_icmp .ge 34, 3) by decide +kernel) rfl rfl (decide_eq_false (Int.not_le.mpr hc8)) ?_
    refine g_aload_n 395 (show op 297 394 = some (.aload_n 0, 1) by decide +kernel) rfl rfl ?_
    refine g_getR (ci := 11) (f := 4) (fin := true) (isR := true) 398 685 (show op 297 395 = some (.getfield 16, 3) by decide +kernel) rfl (by decide +kernel) (by decide +kernel) ?_
    refine g_bipush 400 (show op 297 398 = some (.bipush 100, 2) by decide +kernel) rfl (by decide) ?_
    refine g_iload 402 (show op 297 400 = some (.iload 4, 2) by decide +kernel) rfl rfl ?_
    obtain ⟨g1, h⟩ := h
    refine g_imul 403 (show op 297 402 = some (.imul, 1) by decide +kernel) rfl g1 ?_
    refine g_iload 405 (show op 297 403 = some (.iload 9, 2) by decide +kernel) rfl rfl ?_
    obtain ⟨g2, h⟩ := h
    refine g_iadd 406 (show op 297 405 = some (.iadd, 1) by decide +kernel) rfl g2 ?_
    refine g_aload_n 407 (show op 297 406 = some (.aload_n 0, 1) by decide +kernel) rfl rfl ?_
    refine g_getR (ci := 11) (f := 5) (fin := true) (isR := true) 410 686 (show op 297 407 = some (.getfield 19, 3) by decide +kernel) rfl (by decide +kernel) (by decide +kernel) ?_
    refine g_bipush 412 (show op 297 410 = some (.bipush 100, 2) by decide +kernel) rfl (by decide) ?_
    refine g_iload_n 413 (show op 297 412 = some (.iload_n 3, 1) by decide +kernel) rfl rfl ?_
    obtain ⟨g3, h⟩ := h
    refine g_imul 414 (show op 297 413 = some (.imul, 1) by decide +kernel) rfl g3 ?_
    refine g_iload 416 (show op 297 414 = some (.iload 9, 2) by decide +kernel) rfl rfl ?_
    obtain ⟨g4, h⟩ := h
    refine g_iadd 417 (show op 297 416 = some (.iadd, 1) by decide +kernel) rfl g4 ?_
    obtain ⟨g5, h⟩ := h
    refine g_iaload 418 4400 (show op 297 417 = some (.iaload, 1) by decide +kernel) rfl (by decide +kernel) g5 ?_
    obtain ⟨g6, h⟩ := h
    refine g_iastore 419 4400 (show op 297 418 = some (.iastore, 1) by decide +kernel) rfl (by decide +kernel) g6 ?_
    obtain ⟨g7, h⟩ := h
    refine g_iinc 422 [(some (.inr (.inr (some 682)))), d1, (some (.inl x2)), (some (.inl x3)), (some (.inl x4)), d5, d6, (some (.inl x7)), d8, (some (.inl (x9 + 1)))] (show op 297 419 = some (.iinc 9 1, 3) by decide +kernel) rfl rfl g7 rfl ?_
    refine g_goto 387 (show op 297 422 = some (.goto (-35), 3) by decide +kernel) rfl ?_
    exact h
  · rw [if_neg hc8] at h
    refine g_icmpT 425 (show op 297 391 = some (.if_icmp .ge 34, 3) by decide +kernel) rfl (decide_eq_true (Int.not_lt.mp hc8)) ?_
    refine g_iconst 426 (show op 297 425 = some (.iconst 0, 1) by decide +kernel) rfl rfl ?_
    refine g_istore 428 [(some (.inr (.inr (some 682)))), d1, (some (.inl x2)), (some (.inl x3)), (some (.inl x4)), d5, d6, (some (.inl x7)), d8, (some (.inl 0))] (show op 297 426 = some (.istore 9, 2) by decide +kernel) rfl rfl rfl ?_
    exact h
theorem b297_150 {x1 : Int} {x2 : Int} {x3 : Int} {x4 : Int} {x5 : Int} {x6 : Int} {x7 : Int} {x8 : Int} {x9 : Int} {σ : Sg} {o : Rs}   (h : (0 ≤ x6 ∧ x6 < 256) ∧ (if x9 < (σ 701 (x6).toNat) then (-2147483648 ≤ (100 * x3) ∧ (100 * x3) ≤ 2147483647) ∧ (-2147483648 ≤ ((100 * x3) + x8) ∧ ((100 * x3) + x8) ≤ 2147483647) ∧ (-2147483648 ≤ (((100 * x3) + x8) + x9) ∧ (((100 * x3) + x8) + x9) ≤ 2147483647) ∧ (0 ≤ (((100 * x3) + x8) + x9) ∧ (((100 * x3) + x8) + x9) < 4400) ∧ (-2147483648 ≤ (x9 + 1) ∧ (x9 + 1) ≤ 2147483647) ∧ C297_150 x1 x2 x3 x4 x5 x6 x7 x8 (x9 + 1) (upS σ 687 (((((100 * x3) + x8) + x9)).toNat) (-1)) o else (0 ≤ x6 ∧ x6 < 256) ∧ (-2147483648 ≤ (x8 + (σ 701 (x6).toNat)) ∧ (x8 + (σ 701 (x6).toNat)) ≤ 2147483647) ∧ (-2147483648 ≤ (x6 + 1) ∧ (x6 + 1) ≤ 2147483647) ∧ C297_24 x1 x2 x3 x4 x5 (x6 + 1) x7 (x8 + (σ 701 (x6).toNat)) (some (.inl x9)) σ o)) : C297_150 x1 x2 x3 x4 x5 x6 x7 x8 x9 σ o := by
  show Gd 297 150 [(some (.inr (.inr (some 682)))), (some (.inl x1)), (some (.inl x2)), (some (.inl x3)), (some (.inl x4)), (some (.inl x5)), (some (.inl x6)), (some (.inl x7)), (some (.inl x8)), (some (.inl x9))] [] σ 0 0 o
  refine g_iload 152 (show op 297 150 = some (.iload 9, 2) by decide +kernel) rfl rfl ?_
  refine g_aload_n 153 (show op 297 152 = some (.aload_n 0, 1) by decide +kernel) rfl rfl ?_
  refine g_getR (ci := 11) (f := 27) (fin := true) (isR := true) 156 701 (show op 297 153 = some (.getfield 64, 3) by decide +kernel) rfl (by decide +kernel) (by decide +kernel) ?_
  refine g_iload 158 (show op 297 156 = some (.iload 6, 2) by decide +kernel) rfl rfl ?_
  obtain ⟨g1, h⟩ := h
  refine g_iaload 159 256 (show op 297 158 = some (.iaload, 1) by decide +kernel) rfl (by decide +kernel) g1 ?_
  by_cases hc10 : x9 < (σ 701 (x6).toNat)
  · rw [if_pos hc10] at h
    refine g_icmpF 162 184 (show op 297 159 = some (.if_icmp .ge 25, 3) by decide +kernel) rfl rfl (decide_eq_false (Int.not_le.mpr hc10)) ?_
    refine g_aload_n 163 (show op 297 162 = some (.aload_n 0, 1) by decide +kernel) rfl rfl ?_
    refine g_getR (ci := 11) (f := 6) (fin := true) (isR := true) 166 687 (show op 297 163 = some (.getfield 22, 3) by decide +kernel) rfl (by decide +kernel) (by decide +kernel) ?_
    refine g_bipush 168 (show op 297 166 = some (.bipush 100, 2) by decide +kernel) rfl (by decide) ?_
    refine g_iload_n 169 (show op 297 168 = some (.iload_n 3, 1) by decide +kernel) rfl rfl ?_
    obtain ⟨g2, h⟩ := h
    refine g_imul 170 (show op 297 169 = some (.imul, 1) by decide +kernel) rfl g2 ?_
    refine g_iload 172 (show op 297 170 = some (.iload 8, 2) by decide +kernel) rfl rfl ?_
    obtain ⟨g3, h⟩ := h
    refine g_iadd 173 (show op 297 172 = some (.iadd, 1) by decide +kernel) rfl g3 ?_
    refine g_iload 175 (show op 297 173 = some (.iload 9, 2) by decide +kernel) rfl rfl ?_
    obtain ⟨g4, h⟩ := h
    refine g_iadd 176 (show op 297 175 = some (.iadd, 1) by decide +kernel) rfl g4 ?_
    refine g_iconst 177 (show op 297 176 = some (.iconst (-1), 1) by decide +kernel) rfl rfl ?_
    obtain ⟨g5, h⟩ := h
    refine g_iastore 178 4400 (show op 297 177 = some (.iastore, 1) by decide +kernel) rfl (by decide +kernel) g5 ?_
    obtain ⟨g6, h⟩ := h
    refine g_iinc 181 [(some (.inr (.inr (some 682)))), (some (.inl x1)), (some (.inl x2)), (some (.inl x3)), (some (.inl x4)), (some (.inl x5)), (some (.inl x6)), (some (.inl x7)), (some (.inl x8)), (some (.inl (x9 + 1)))] (show op 297 178 = some (.iinc 9 1, 3) by decide +kernel) rfl rfl g6 rfl ?_
    refine g_goto 150 (show op 297 181 = some (.goto (-31), 3) by decide +kernel) rfl ?_
    exact h
  · rw [if_neg hc10] at h
    refine g_icmpT 184 (show op 297 159 = some (.if_icmp .ge 25, 3) by decide +kernel) rfl (decide_eq_true (Int.not_lt.mp hc10)) ?_
    refine g_iload 186 (show op 297 184 = some (.iload 8, 2) by decide +kernel) rfl rfl ?_
    refine g_aload_n 187 (show op 297 186 = some (.aload_n 0, 1) by decide +kernel) rfl rfl ?_
    refine g_getR (ci := 11) (f := 27) (fin := true) (isR := true) 190 701 (show op 297 187 = some (.getfield 64, 3) by decide +kernel) rfl (by decide +kernel) (by decide +kernel) ?_
    refine g_iload 192 (show op 297 190 = some (.iload 6, 2) by decide +kernel) rfl rfl ?_
    obtain ⟨g7, h⟩ := h
    refine g_iaload 193 256 (show op 297 192 = some (.iaload, 1) by decide +kernel) rfl (by decide +kernel) g7 ?_
    obtain ⟨g8, h⟩ := h
    refine g_iadd 194 (show op 297 193 = some (.iadd, 1) by decide +kernel) rfl g8 ?_
    refine g_istore 196 [(some (.inr (.inr (some 682)))), (some (.inl x1)), (some (.inl x2)), (some (.inl x3)), (some (.inl x4)), (some (.inl x5)), (some (.inl x6)), (some (.inl x7)), (some (.inl (x8 + (σ 701 (x6).toNat)))), (some (.inl x9))] (show op 297 194 = some (.istore 8, 2) by decide +kernel) rfl rfl rfl ?_
    obtain ⟨g9, h⟩ := h
    refine g_iinc 199 [(some (.inr (.inr (some 682)))), (some (.inl x1)), (some (.inl x2)), (some (.inl x3)), (some (.inl x4)), (some (.inl x5)), (some (.inl (x6 + 1))), (some (.inl x7)), (some (.inl (x8 + (σ 701 (x6).toNat)))), (some (.inl x9))] (show op 297 196 = some (.iinc 6 1, 3) by decide +kernel) rfl rfl g9 rfl ?_
    refine g_goto 24 (show op 297 199 = some (.goto (-175), 3) by decide +kernel) rfl ?_
    exact h
theorem b297_288 {x1 : Int} {x2 : Int} {x3 : Int} {x4 : Int} {x5 : Int} {x6 : Int} {x7 : Int} {x8 : Int} {d9 : Option AV} {y1 : Int} {y2 : Int} {σ : Sg} {o : Rs}   (h : (0 ≤ y1 ∧ y1 < 4400) ∧ (-2147483648 ≤ (x7 + 1) ∧ (x7 + 1) ≤ 2147483647) ∧ (-2147483648 ≤ (x8 + 1) ∧ (x8 + 1) ≤ 2147483647) ∧ C297_24 x1 x2 x3 x4 x5 x6 (x7 + 1) (x8 + 1) d9 (upS σ 687 ((y1).toNat) y2) o) : C297_288 x1 x2 x3 x4 x5 x6 x7 x8 d9 y1 y2 σ o := by
  show Gd 297 288 [(some (.inr (.inr (some 682)))), (some (.inl x1)), (some (.inl x2)), (some (.inl x3)), (some (.inl x4)), (some (.inl x5)), (some (.inl x6)), (some (.inl x7)), (some (.inl x8)), d9] [(.inl y2), (.inl y1), (.inr (.inr (some 687)))] σ 0 0 o
  obtain ⟨g1, h⟩ := h
  refine g_iastore 289 4400 (show op 297 288 = some (.iastore, 1) by decide +kernel) rfl (by decide +kernel) g1 ?_
  obtain ⟨g2, h⟩ := h
  refine g_iinc 292 [(some (.inr (.inr (some 682)))), (some (.inl x1)), (some (.inl x2)), (some (.inl x3)), (some (.inl x4)), (some (.inl x5)), (some (.inl x6)), (some (.inl (x7 + 1))), (some (.inl x8)), d9] (show op 297 289 = some (.iinc 7 1, 3) by decide +kernel) rfl rfl g2 rfl ?_
  obtain ⟨g3, h⟩ := h
  refine g_iinc 295 [(some (.inr (.inr (some 682)))), (some (.inl x1)), (some (.inl x2)), (some (.inl x3)), (some (.inl x4)), (some (.inl x5)), (some (.inl x6)), (some (.inl (x7 + 1))), (some (.inl (x8 + 1))), d9] (show op 297 292 = some (.iinc 8 1, 3) by decide +kernel) rfl rfl g3 rfl ?_
  refine g_goto 24 (show op 297 295 = some (.goto (-271), 3) by decide +kernel) rfl ?_
  exact h
theorem b297_428 {d1 : Option AV} {x2 : Int} {d3 : Option AV} {x4 : Int} {d5 : Option AV} {d6 : Option AV} {d7 : Option AV} {d8 : Option AV} {x9 : Int} {σ : Sg} {o : Rs}   (h : (0 ≤ x4 ∧ x4 < 44) ∧ (if x9 < (σ 689 (x4).toNat) then (-2147483648 ≤ (100 * x4) ∧ (100 * x4) ≤ 2147483647) ∧ (-2147483648 ≤ ((100 * x4) + x9) ∧ ((100 * x4) + x9) ≤ 2147483647) ∧ (-2147483648 ≤ (100 * x2) ∧ (100 * x2) ≤ 2147483647) ∧ (-2147483648 ≤ ((100 * x2) + x9) ∧ ((100 * x2) + x9) ≤ 2147483647) ∧ (0 ≤ ((100 * x2) + x9) ∧ ((100 * x2) + x9) < 4400) ∧ (0 ≤ ((100 * x4) + x9) ∧ ((100 * x4) + x9) < 4400) ∧ (-2147483648 ≤ (x9 + 1) ∧ (x9 + 1) ≤ 2147483647) ∧ C297_428 d1 x2 d3 x4 d5 d6 d7 d8 (x9 + 1) (upS σ 686 ((((100 * x4) + x9)).toNat) (σ 686 (((100 * x2) + x9)).toNat)) o else o = (.inl none, σ))) : C297_428 d1 x2 d3 x4 d5 d6 d7 d8 x9 σ o := by
  show Gd 297 428 [(some (.inr (.inr (some 682)))), d1, (some (.inl x2)), d3, (some (.inl x4)), d5, d6, d7, d8, (some (.inl x9))] [] σ 0 0 o
  refine g_iload 430 (show op 297 428 = some (.iload 9, 2) by decide +kernel) rfl rfl ?_
  refine g_aload_n 431 (show op 297 430 = some (.aload_n 0, 1) by decide +kernel) rfl rfl ?_
  refine g_getR (ci := 11) (f := 8) (fin := true) (isR := true) 434 689 (show op 297 431 = some (.getfield 28, 3) by decide +kernel) rfl (by decide +kernel) (by decide +kernel) ?_
  refine g_iload 436 (show op 297 434 = some (.iload 4, 2) by decide +kernel) rfl rfl ?_
  obtain ⟨g1, h⟩ := h
  refine g_iaload 437 44 (show op 297 436 = some (.iaload, 1) by decide +kernel) rfl (by decide +kernel) g1 ?_
  by_cases hc9 : x9 < (σ 689 (x4).toNat)
  · rw [if_pos hc9] at h
    refine g_icmpF 440 471 (show op 297 437 = some (.if_icmp .ge 34, 3) by decide +kernel) rfl rfl (decide_eq_false (Int.not_le.mpr hc9)) ?_
    refine g_aload_n 441 (show op 297 440 = some (.aload_n 0, 1) by decide +kernel) rfl rfl ?_
    refine g_getR (ci := 11) (f := 5) (fin := true) (isR := true) 444 686 (show op 297 441 = some (.getfield 19, 3) by decide +kernel) rfl (by decide +kernel) (by decide +kernel) ?_
    refine g_bipush 446 (show op 297 444 = some (.bipush 100, 2) by decide +kernel) rfl (by decide) ?_
    refine g_iload 448 (show op 297 446 = some (.iload 4, 2) by decide +kernel) rfl rfl ?_
    obtain ⟨g2, h⟩ := h
    refine g_imul 449 (show op 297 448 = some (.imul, 1) by decide +kernel) rfl g2 ?_
    refine g_iload 451 (show op 297 449 = some (.iload 9, 2) by decide +kernel) rfl rfl ?_
    obtain ⟨g3, h⟩ := h
    refine g_iadd 452 (show op 297 451 = some (.iadd, 1) by decide +kernel) rfl g3 ?_
    refine g_aload_n 453 (show op 297 452 = some (.aload_n 0, 1) by decide +kernel) rfl rfl ?_
    refine g_getR (ci := 11) (f := 5) (fin := true) (isR := true) 456 686 (show op 297 453 = some (.getfield 19, 3) by decide +kernel) rfl (by decide +kernel) (by decide +kernel) ?_
    refine g_bipush 458 (show op 297 456 = some (.bipush 100, 2) by decide +kernel) rfl (by decide) ?_
    refine g_iload_n 459 (show op 297 458 = some (.iload_n 2, 1) by decide +kernel) rfl rfl ?_
    obtain ⟨g4, h⟩ := h
    refine g_imul 460 (show op 297 459 = some (.imul, 1) by decide +kernel) rfl g4 ?_
    refine g_iload 462 (show op 297 460 = some (.iload 9, 2) by decide +kernel) rfl rfl ?_
    obtain ⟨g5, h⟩ := h
    refine g_iadd 463 (show op 297 462 = some (.iadd, 1) by decide +kernel) rfl g5 ?_
    obtain ⟨g6, h⟩ := h
    refine g_iaload 464 4400 (show op 297 463 = some (.iaload, 1) by decide +kernel) rfl (by decide +kernel) g6 ?_
    obtain ⟨g7, h⟩ := h
    refine g_iastore 465 4400 (show op 297 464 = some (.iastore, 1) by decide +kernel) rfl (by decide +kernel) g7 ?_
    obtain ⟨g8, h⟩ := h
    refine g_iinc 468 [(some (.inr (.inr (some 682)))), d1, (some (.inl x2)), d3, (some (.inl x4)), d5, d6, d7, d8, (some (.inl (x9 + 1)))] (show op 297 465 = some (.iinc 9 1, 3) by decide +kernel) rfl rfl g8 rfl ?_
    refine g_goto 428 (show op 297 468 = some (.goto (-40), 3) by decide +kernel) rfl ?_
    exact h
  · rw [if_neg hc9] at h
    refine g_icmpT 471 (show op 297 437 = some (.if_icmp .ge 34, 3) by decide +kernel) rfl (decide_eq_true (Int.not_lt.mp hc9)) ?_
    exact g_vret (show op 297 471 = some (.return_, 1) by decide +kernel) (by decide +kernel) h
/-- PatchBenchModel.passes (IIII)V -/
theorem b297 {x1 : Int} {x2 : Int} {x3 : Int} {x4 : Int} {σ : Sg} {o : Rs}   (h : (∃ (v2 : Int) (s1 : Sg), Dd 280 [(.inr (.inr (some 682))), (.inl x2), (.inl 1)] σ (.inl (some (.inl v2)), s1) ∧ (∃ (s4 : Sg), Dd 293 [(.inr (.inr (some 682))), (.inl x1)] s1 (.inl none, s4) ∧ C297_24 x1 x2 x3 x4 v2 128 0 0 none s4 o))) : Dd 297 [(.inr (.inr (some 682))), (.inl x1), (.inl x2), (.inl x3), (.inl x4)] σ o := by
  refine Dd_of (l := 10) (by decide +kernel) ?_
  show Gd 297 0 [(some (.inr (.inr (some 682)))), (some (.inl x1)), (some (.inl x2)), (some (.inl x3)), (some (.inl x4)), none, none, none, none, none] [] σ 0 0 o
  refine g_aload_n 1 (show op 297 0 = some (.aload_n 0, 1) by decide +kernel) rfl rfl ?_
  refine g_iload_n 2 (show op 297 1 = some (.iload_n 2, 1) by decide +kernel) rfl rfl ?_
  refine g_iconst 3 (show op 297 2 = some (.iconst 1, 1) by decide +kernel) rfl rfl ?_
  obtain ⟨v2, s1, hD3, h⟩ := h
  refine g_call 6 [(.inl v2)] (show op 297 3 = some (.invokevirtual 267, 3) by decide +kernel) (call_vi' (k' := 0) (n' := 0) (nj := 3) (j := 280) (k9 := 21) (t := []) (as := [(.inr (.inr (some 682))), (.inl x2), (.inl 1)]) (by decide +kernel) rfl (by decide +kernel) rfl rfl rfl rfl rfl rfl (by decide +kernel) (by decide +kernel)) hD3 rfl ?_
  refine g_istore 8 [(some (.inr (.inr (some 682)))), (some (.inl x1)), (some (.inl x2)), (some (.inl x3)), (some (.inl x4)), (some (.inl v2)), none, none, none, none] (show op 297 6 = some (.istore 5, 2) by decide +kernel) rfl rfl rfl ?_
  refine g_aload_n 9 (show op 297 8 = some (.aload_n 0, 1) by decide +kernel) rfl rfl ?_
  refine g_iload_n 10 (show op 297 9 = some (.iload_n 1, 1) by decide +kernel) rfl rfl ?_
  obtain ⟨s4, hD5, h⟩ := h
  refine g_call 13 [] (show op 297 10 = some (.invokevirtual 280, 3) by decide +kernel) (call_vi' (k' := 0) (n' := 0) (nj := 2) (j := 293) (k9 := 21) (t := []) (as := [(.inr (.inr (some 682))), (.inl x1)]) (by decide +kernel) rfl (by decide +kernel) rfl rfl rfl rfl rfl rfl (by decide +kernel) (by decide +kernel)) hD5 rfl ?_
  refine g_sipush 16 (show op 297 13 = some (.sipush 128, 3) by decide +kernel) rfl (by decide) ?_
  refine g_istore 18 [(some (.inr (.inr (some 682)))), (some (.inl x1)), (some (.inl x2)), (some (.inl x3)), (some (.inl x4)), (some (.inl v2)), (some (.inl 128)), none, none, none] (show op 297 16 = some (.istore 6, 2) by decide +kernel) rfl rfl rfl ?_
  refine g_iconst 19 (show op 297 18 = some (.iconst 0, 1) by decide +kernel) rfl rfl ?_
  refine g_istore 21 [(some (.inr (.inr (some 682)))), (some (.inl x1)), (some (.inl x2)), (some (.inl x3)), (some (.inl x4)), (some (.inl v2)), (some (.inl 128)), (some (.inl 0)), none, none] (show op 297 19 = some (.istore 7, 2) by decide +kernel) rfl rfl rfl ?_
  refine g_iconst 22 (show op 297 21 = some (.iconst 0, 1) by decide +kernel) rfl rfl ?_
  refine g_istore 24 [(some (.inr (.inr (some 682)))), (some (.inl x1)), (some (.inl x2)), (some (.inl x3)), (some (.inl x4)), (some (.inl v2)), (some (.inl 128)), (some (.inl 0)), (some (.inl 0)), none] (show op 297 22 = some (.istore 8, 2) by decide +kernel) rfl rfl rfl ?_
  exact h
def C298_14 (x1 : Int) (x2 : Int) (x3 : Int) (x4 : Int) (x5 : Int) (x6 : Int) (x7 : Int) (x8 : Int) (x9 : Int) (d10 : Option AV) (σ : Sg) (o : Rs) : Prop := Gd 298 14 [(some (.inr (.inr (some 682)))), (some (.inl x1)), (some (.inl x2)), (some (.inl x3)), (some (.inl x4)), (some (.inl x5)), (some (.inl x6)), (some (.inl x7)), (some (.inl x8)), (some (.inl x9)), d10] [] σ 0 0 o
def C298_28 (x1 : Int) (x2 : Int) (x3 : Int) (x4 : Int) (x5 : Int) (x6 : Int) (x7 : Int) (x8 : Int) (x9 : Int) (x10 : Int) (σ : Sg) (o : Rs) : Prop := Gd 298 28 [(some (.inr (.inr (some 682)))), (some (.inl x1)), (some (.inl x2)), (some (.inl x3)), (some (.inl x4)), (some (.inl x5)), (some (.inl x6)), (some (.inl x7)), (some (.inl x8)), (some (.inl x9)), (some (.inl x10))] [] σ 0 0 o
def C298_299 (x1 : Int) (d2 : Option AV) (d3 : Option AV) (d4 : Option AV) (x5 : Int) (x6 : Int) (x7 : Int) (d8 : Option AV) (x9 : Int) (d10 : Option AV) (σ : Sg) (o : Rs) : Prop := Gd 298 299 [(some (.inr (.inr (some 682)))), (some (.inl x1)), d2, d3, d4, (some (.inl x5)), (some (.inl x6)), (some (.inl x7)), d8, (some (.inl x9)), d10] [] σ 0 0 o
def C298_105 (x1 : Int) (x2 : Int) (x3 : Int) (x4 : Int) (x5 : Int) (x6 : Int) (x7 : Int) (x8 : Int) (x9 : Int) (d10 : Option AV) (σ : Sg) (o : Rs) : Prop := Gd 298 105 [(some (.inr (.inr (some 682)))), (some (.inl x1)), (some (.inl x2)), (some (.inl x3)), (some (.inl x4)), (some (.inl x5)), (some (.inl x6)), (some (.inl x7)), (some (.inl x8)), (some (.inl x9)), d10] [] σ 0 0 o
def C298_341 (x1 : Int) (d2 : Option AV) (d3 : Option AV) (d4 : Option AV) (d5 : Option AV) (x6 : Int) (d7 : Option AV) (d8 : Option AV) (x9 : Int) (d10 : Option AV) (σ : Sg) (o : Rs) : Prop := Gd 298 341 [(some (.inr (.inr (some 682)))), (some (.inl x1)), d2, d3, d4, d5, (some (.inl x6)), d7, d8, (some (.inl x9)), d10] [] σ 0 0 o
def C298_137 (x1 : Int) (x2 : Int) (x3 : Int) (x4 : Int) (x5 : Int) (x6 : Int) (x7 : Int) (x8 : Int) (x9 : Int) (d10 : Option AV) (y0 : Int) (σ : Sg) (o : Rs) : Prop := Gd 298 137 [(some (.inr (.inr (some 682)))), (some (.inl x1)), (some (.inl x2)), (some (.inl x3)), (some (.inl x4)), (some (.inl x5)), (some (.inl x6)), (some (.inl x7)), (some (.inl x8)), (some (.inl x9)), d10] [(.inl y0)] σ 0 0 o
def C298_136 (x1 : Int) (x2 : Int) (x3 : Int) (x4 : Int) (x5 : Int) (x6 : Int) (x7 : Int) (x8 : Int) (x9 : Int) (d10 : Option AV) (σ : Sg) (o : Rs) : Prop := Gd 298 136 [(some (.inr (.inr (some 682)))), (some (.inl x1)), (some (.inl x2)), (some (.inl x3)), (some (.inl x4)), (some (.inl x5)), (some (.inl x6)), (some (.inl x7)), (some (.inl x8)), (some (.inl x9)), d10] [] σ 0 0 o
def C298_246 (x1 : Int) (x2 : Int) (x3 : Int) (x4 : Int) (x5 : Int) (x6 : Int) (x7 : Int) (x8 : Int) (x9 : Int) (d10 : Option AV) (σ : Sg) (o : Rs) : Prop := Gd 298 246 [(some (.inr (.inr (some 682)))), (some (.inl x1)), (some (.inl x2)), (some (.inl x3)), (some (.inl x4)), (some (.inl x5)), (some (.inl x6)), (some (.inl x7)), (some (.inl x8)), (some (.inl x9)), d10] [] σ 0 0 o
def C298_187 (x1 : Int) (x2 : Int) (x3 : Int) (x4 : Int) (x5 : Int) (x6 : Int) (x7 : Int) (x8 : Int) (x9 : Int) (x10 : Int) (y1 : Int) (y2 : Int) (σ : Sg) (o : Rs) : Prop := Gd 298 187 [(some (.inr (.inr (some 682)))), (some (.inl x1)), (some (.inl x2)), (some (.inl x3)), (some (.inl x4)), (some (.inl x5)), (some (.inl x6)), (some (.inl x7)), (some (.inl x8)), (some (.inl x9)), (some (.inl x10))] [(.inl y2), (.inl y1), (.inr (.inr (some 687)))] σ 0 0 o
theorem b298_14 {x1 : Int} {x2 : Int} {x3 : Int} {x4 : Int} {x5 : Int} {x6 : Int} {x7 : Int} {x8 : Int} {x9 : Int} {d10 : Option AV} {σ : Sg} {o : Rs}   (h : (0 ≤ x1 ∧ x1 < 44) ∧ (if x9 ≤ (σ 688 (x1).toNat) then C298_28 x1 x2 x3 x4 x5 x6 x7 x8 x9 0 σ o else (0 ≤ x1 ∧ x1 < 44) ∧ (0 ≤ x5 ∧ x5 < 44) ∧ (0 ≤ x5 ∧ x5 < 44) ∧ (0 ≤ x6 ∧ x6 < 44) ∧ (0 ≤ x1 ∧ x1 < 44) ∧ (0 ≤ x6 ∧ x6 < 44) ∧ C298_299 x1 (some (.inl x2)) (some (.inl x3)) (some (.inl x4)) x5 x6 x7 (some (.inl x8)) 0 d10 (upS (upS (upS (upS σ 688 ((x5).toNat) (σ 688 (x1).toNat)) 689 ((x5).toNat) x7) 688 ((x6).toNat) x7) 689 ((x6).toNat) ((upS (upS (upS σ 688 ((x5).toNat) (σ 688 (x1).toNat)) 689 ((x5).toNat) x7) 688 ((x6).toNat) x7) 689 (x1).toNat)) o)) : C298_14 x1 x2 x3 x4 x5 x6 x7 x8 x9 d10 σ o := by
  show Gd 298 14 [(some (.inr (.inr (some 682)))), (some (.inl x1)), (some (.inl x2)), (some (.inl x3)), (some (.inl x4)), (some (.inl x5)), (some (.inl x6)), (some (.inl x7)), (some (.inl x8)), (some (.inl x9)), d10] [] σ 0 0 o
  refine g_iload 16 (show op 298 14 = some (.iload 9, 2) by decide +kernel) rfl rfl ?_
  refine g_aload_n 17 (show op 298 16 = some (.aload_n 0, 1) by decide +kernel) rfl rfl ?_
  refine g_getR (ci := 11) (f := 7) (fin := true) (isR := true) 20 688 (show op 298 17 = some (.getfield 25, 3) by decide +kernel) rfl (by decide +kernel) (by decide +kernel) ?_
  refine g_iload_n 21 (show op 298 20 = some (.iload_n 1, 1) by decide +kernel) rfl rfl ?_
  obtain ⟨g1, h⟩ := h
  refine g_iaload 22 44 (show op 298 21 = some (.iaload, 1) by decide +kernel) rfl (by decide +kernel) g1 ?_
  by_cases hc8 : x9 ≤ (σ 688 (x1).toNat)
  · rw [if_pos hc8] at h
    refine g_icmpF 25 252 (show op 298 22 = some (.if_icmp .gt 230, 3) by decide +kernel) rfl rfl (decide_eq_false (Int.not_lt.mpr hc8)) ?_
    refine g_iconst 26 (show op 298 25 = some (.iconst 0, 1) by decide +kernel) rfl rfl ?_
    refine g_istore 28 [(some (.inr (.inr (some 682)))), (some (.inl x1)), (some (.inl x2)), (some (.inl x3)), (some (.inl x4)), (some (.inl x5)), (some (.inl x6)), (some (.inl x7)), (some (.inl x8)), (some (.inl x9)), (some (.inl 0))] (show op 298 26 = some (.istore 10, 2) by decide +kernel) rfl rfl rfl ?_
    exact h
  · rw [if_neg hc8] at h
    refine g_icmpT 252 (show op 298 22 = some (.if_icmp .gt 230, 3) by decide +kernel) rfl (decide_eq_true (Int.not_le.mp hc8)) ?_
    refine g_aload_n 253 (show op 298 252 = some (.aload_n 0, 1) by decide +kernel) rfl rfl ?_
    refine g_getR (ci := 11) (f := 7) (fin := true) (isR := true) 256 688 (show op 298 253 = some (.getfield 25, 3) by decide +kernel) rfl (by decide +kernel) (by decide +kernel) ?_
    refine g_iload 258 (show op 298 256 = some (.iload 5, 2) by decide +kernel) rfl rfl ?_
    refine g_aload_n 259 (show op 298 258 = some (.aload_n 0, 1) by decide +kernel) rfl rfl ?_
    refine g_getR (ci := 11) (f := 7) (fin := true) (isR := true) 262 688 (show op 298 259 = some (.getfield 25, 3) by decide +kernel) rfl (by decide +kernel) (by decide +kernel) ?_
    refine g_iload_n 263 (show op 298 262 = some (.iload_n 1, 1) by decide +kernel) rfl rfl ?_
    obtain ⟨g2, h⟩ := h
    refine g_iaload 264 44 (show op 298 263 = some (.iaload, 1) by decide +kernel) rfl (by decide +kernel) g2 ?_
    obtain ⟨g3, h⟩ := h
    refine g_iastore 265 44 (show op 298 264 = some (.iastore, 1) by decide +kernel) rfl (by decide +kernel) g3 ?_
    refine g_aload_n 266 (show op 298 265 = some (.aload_n 0, 1) by decide +kernel) rfl rfl ?_
    refine g_getR (ci := 11) (f := 8) (fin := true) (isR := true) 269 689 (show op 298 266 = some (.getfield 28, 3) by decide +kernel) rfl (by decide +kernel) (by decide +kernel) ?_
    refine g_iload 271 (show op 298 269 = some (.iload 5, 2) by decide +kernel) rfl rfl ?_
    refine g_iload 273 (show op 298 271 = some (.iload 7, 2) by decide +kernel) rfl rfl ?_
    obtain ⟨g4, h⟩ := h
    refine g_iastore 274 44 (show op 298 273 = some (.iastore, 1) by decide +kernel) rfl (by decide +kernel) g4 ?_
    refine g_aload_n 275 (show op 298 274 = some (.aload_n 0, 1) by decide +kernel) rfl rfl ?_
    refine g_getR (ci := 11) (f := 7) (fin := true) (isR := true) 278 688 (show op 298 275 = some (.getfield 25, 3) by decide +kernel) rfl (by decide +kernel) (by decide +kernel) ?_
    refine g_iload 280 (show op 298 278 = some (.iload 6, 2) by decide +kernel) rfl rfl ?_
    refine g_iload 282 (show op 298 280 = some (.iload 7, 2) by decide +kernel) rfl rfl ?_
    obtain ⟨g5, h⟩ := h
    refine g_iastore 283 44 (show op 298 282 = some (.iastore, 1) by decide +kernel) rfl (by decide +kernel) g5 ?_
    refine g_aload_n 284 (show op 298 283 = some (.aload_n 0, 1) by decide +kernel) rfl rfl ?_
    refine g_getR (ci := 11) (f := 8) (fin := true) (isR := true) 287 689 (show op 298 284 = some (.getfield 28, 3) by decide +kernel) rfl (by decide +kernel) (by decide +kernel) ?_
    refine g_iload 289 (show op 298 287 = some (.iload 6, 2) by decide +kernel) rfl rfl ?_
    refine g_aload_n 290 (show op 298 289 = some (.aload_n 0, 1) by decide +kernel) rfl rfl ?_
    refine g_getR (ci := 11) (f := 8) (fin := true) (isR := true) 293 689 (show op 298 290 = some (.getfield 28, 3) by decide +kernel) rfl (by decide +kernel) (by decide +kernel) ?_
    refine g_iload_n 294 (show op 298 293 = some (.iload_n 1, 1) by decide +kernel) rfl rfl ?_
    obtain ⟨g6, h⟩ := h
    refine g_iaload 295 44 (show op 298 294 = some (.iaload, 1) by decide +kernel) rfl (by decide +kernel) g6 ?_
    obtain ⟨g7, h⟩ := h
    refine g_iastore 296 44 (show op 298 295 = some (.iastore, 1) by decide +kernel) rfl (by decide +kernel) g7 ?_
    refine g_iconst 297 (show op 298 296 = some (.iconst 0, 1) by decide +kernel) rfl rfl ?_
    refine g_istore 299 [(some (.inr (.inr (some 682)))), (some (.inl x1)), (some (.inl x2)), (some (.inl x3)), (some (.inl x4)), (some (.inl x5)), (some (.inl x6)), (some (.inl x7)), (some (.inl x8)), (some (.inl 0)), d10] (show op 298 297 = some (.istore 9, 2) by decide +kernel) rfl rfl rfl ?_
    exact h
theorem b298_28 {x1 : Int} {x2 : Int} {x3 : Int} {x4 : Int} {x5 : Int} {x6 : Int} {x7 : Int} {x8 : Int} {x9 : Int} {x10 : Int} {σ : Sg} {o : Rs}   (h : (if x10 < x4 then (if x9 = x8 then (-2147483648 ≤ (100 * x5) ∧ (100 * x5) ≤ 2147483647) ∧ (-2147483648 ≤ ((100 * x5) + x7) ∧ ((100 * x5) + x7) ≤ 2147483647) ∧ (-2147483648 ≤ (100 * x1) ∧ (100 * x1) ≤ 2147483647) ∧ (0 ≤ x2 ∧ x2 < 256) ∧ (-2147483648 ≤ ((100 * x1) + (σ 702 (x2).toNat)) ∧ ((100 * x1) + (σ 702 (x2).toNat)) ≤ 2147483647) ∧ (-2147483648 ≤ (((100 * x1) + (σ 702 (x2).toNat)) + x10) ∧ (((100 * x1) + (σ 702 (x2).toNat)) + x10) ≤ 2147483647) ∧ (0 ≤ (((100 * x1) + (σ 702 (x2).toNat)) + x10) ∧ (((100 * x1) + (σ 702 (x2).toNat)) + x10) < 4400) ∧ (0 ≤ ((100 * x5) + x7) ∧ ((100 * x5) + x7) < 4400) ∧ (-2147483648 ≤ (100 * x6) ∧ (100 * x6) ≤ 2147483647) ∧ (-2147483648 ≤ ((100 * x6) + x7) ∧ ((100 * x6) + x7) ≤ 2147483647) ∧ (0 ≤ x2 ∧ x2 < 256) ∧ (-2147483648 ≤ (((upS σ 686 ((((100 * x5) + x7)).toNat) (σ 686 ((((100 * x1) + (σ 702 (x2).toNat)) + x10)).toNat)) 702 (x2).toNat) + x10) ∧ (((upS σ 686 ((((100 * x5) + x7)).toNat) (σ 686 ((((100 * x1) + (σ 702 (x2).toNat)) + x10)).toNat)) 702 (x2).toNat) + x10) ≤ 2147483647) ∧ (0 ≤ ((100 * x6) + x7) ∧ ((100 * x6) + x7) < 4400) ∧ (-2147483648 ≤ (x7 + 1) ∧ (x7 + 1) ≤ 2147483647) ∧ (-2147483648 ≤ (x10 + 1) ∧ (x10 + 1) ≤ 2147483647) ∧ C298_28 x1 x2 x3 x4 x5 x6 (x7 + 1) x8 x9 (x10 + 1) (upS (upS σ 686 ((((100 * x5) + x7)).toNat) (σ 686 ((((100 * x1) + (σ 702 (x2).toNat)) + x10)).toNat)) 687 ((((100 * x6) + x7)).toNat) (((upS σ 686 ((((100 * x5) + x7)).toNat) (σ 686 ((((100 * x1) + (σ 702 (x2).toNat)) + x10)).toNat)) 702 (x2).toNat) + x10)) o else C298_105 x1 x2 x3 x4 x5 x6 x7 x8 x9 (some (.inl x10)) σ o) else C298_105 x1 x2 x3 x4 x5 x6 x7 x8 x9 (some (.inl x10)) σ o)) : C298_28 x1 x2 x3 x4 x5 x6 x7 x8 x9 x10 σ o := by
  show Gd 298 28 [(some (.inr (.inr (some 682)))), (some (.inl x1)), (some (.inl x2)), (some (.inl x3)), (some (.inl x4)), (some (.inl x5)), (some (.inl x6)), (some (.inl x7)), (some (.inl x8)), (some (.inl x9)), (some (.inl x10))] [] σ 0 0 o
  refine g_iload 30 (show op 298 28 = some (.iload 10, 2) by decide +kernel) rfl rfl ?_
  refine g_iload 32 (show op 298 30 = some (.iload 4, 2) by decide +kernel) rfl rfl ?_
  by_cases hc16 : x10 < x4
  · rw [if_pos hc16] at h
    refine g_icmpF 35 105 (show op 298 32 = some (.if_icmp .ge 73, 3) by decide +kernel) rfl rfl (decide_eq_false (Int.not_le.mpr hc16)) ?_
    refine g_iload 37 (show op 298 35 = some (.iload 9, 2) by decide +kernel) rfl rfl ?_
    refine g_iload 39 (show op 298 37 = some (.iload 8, 2) by decide +kernel) rfl rfl ?_
    by_cases hc17 : x9 = x8
    · rw [if_pos hc17] at h
      refine g_icmpF 42 105 (show op 298 39 = some (.if_icmp .ne 66, 3) by decide +kernel) rfl rfl (decide_eq_false (fun h9 => h9 hc17)) ?_
      refine g_aload_n 43 (show op 298 42 = some (.aload_n 0, 1) by decide +kernel) rfl rfl ?_
      refine g_getR (ci := 11) (f := 5) (fin := true) (isR := true) 46 686 (show op 298 43 = some (.getfield 19, 3) by decide +kernel) rfl (by decide +kernel) (by decide +kernel) ?_
      refine g_bipush 48 (show op 298 46 = some (.bipush 100, 2) by decide +kernel) rfl (by decide) ?_
      refine g_iload 50 (show op 298 48 = some (.iload 5, 2) by decide +kernel) rfl rfl ?_
      obtain ⟨g1, h⟩ := h
      refine g_imul 51 (show op 298 50 = some (.imul, 1) by decide +kernel) rfl g1 ?_
      refine g_iload 53 (show op 298 51 = some (.iload 7, 2) by decide +kernel) rfl rfl ?_
      obtain ⟨g2, h⟩ := h
      refine g_iadd 54 (show op 298 53 = some (.iadd, 1) by decide +kernel) rfl g2 ?_
      refine g_aload_n 55 (show op 298 54 = some (.aload_n 0, 1) by decide +kernel) rfl rfl ?_
      refine g_getR (ci := 11) (f := 5) (fin := true) (isR := true) 58 686 (show op 298 55 = some (.getfield 19, 3) by decide +kernel) rfl (by decide +kernel) (by decide +kernel) ?_
      refine g_bipush 60 (show op 298 58 = some (.bipush 100, 2) by decide +kernel) rfl (by decide) ?_
      refine g_iload_n 61 (show op 298 60 = some (.iload_n 1, 1) by decide +kernel) rfl rfl ?_
      obtain ⟨g3, h⟩ := h
      refine g_imul 62 (show op 298 61 = some (.imul, 1) by decide +kernel) rfl g3 ?_
      refine g_aload_n 63 (show op 298 62 = some (.aload_n 0, 1) by decide +kernel) rfl rfl ?_
      refine g_getR (ci := 11) (f := 28) (fin := true) (isR := true) 66 702 (show op 298 63 = some (.getfield 67, 3) by decide +kernel) rfl (by decide +kernel) (by decide +kernel) ?_
      refine g_iload_n 67 (show op 298 66 = some (.iload_n 2, 1) by decide +kernel) rfl rfl ?_
      obtain ⟨g4, h⟩ := h
      refine g_iaload 68 256 (show op 298 67 = some (.iaload, 1) by decide +kernel) rfl (by decide +kernel) g4 ?_
      obtain ⟨g5, h⟩ := h
      refine g_iadd 69 (show op 298 68 = some (.iadd, 1) by decide +kernel) rfl g5 ?_
      refine g_iload 71 (show op 298 69 = some (.iload 10, 2) by decide +kernel) rfl rfl ?_
      obtain ⟨g6, h⟩ := h
      refine g_iadd 72 (show op 298 71 = some (.iadd, 1) by decide +kernel) rfl g6 ?_
      obtain ⟨g7, h⟩ := h
      refine g_iaload 73 4400 (show op 298 72 = some (.iaload, 1) by decide +kernel) rfl (by decide +kernel) g7 ?_
      obtain ⟨g8, h⟩ := h
      refine g_iastore 74 4400 (show op 298 73 = some (.iastore, 1) by decide +kernel) rfl (by decide +kernel) g8 ?_
      refine g_aload_n 75 (show op 298 74 = some (.aload_n 0, 1) by decide +kernel) rfl rfl ?_
      refine g_getR (ci := 11) (f := 6) (fin := true) (isR := true) 78 687 (show op 298 75 = some (.getfield 22, 3) by decide +kernel) rfl (by decide +kernel) (by decide +kernel) ?_
      refine g_bipush 80 (show op 298 78 = some (.bipush 100, 2) by decide +kernel) rfl (by decide) ?_
      refine g_iload 82 (show op 298 80 = some (.iload 6, 2) by decide +kernel) rfl rfl ?_
      obtain ⟨g9, h⟩ := h
      refine g_imul 83 (show op 298 82 = some (.imul, 1) by decide +kernel) rfl g9 ?_
      refine g_iload 85 (show op 298 83 = some (.iload 7, 2) by decide +kernel) rfl rfl ?_
      obtain ⟨g10, h⟩ := h
      refine g_iadd 86 (show op 298 85 = some (.iadd, 1) by decide +kernel) rfl g10 ?_
      refine g_aload_n 87 (show op 298 86 = some (.aload_n 0, 1) by decide +kernel) rfl rfl ?_
      refine g_getR (ci := 11) (f := 28) (fin := true) (isR := true) 90 702 (show op 298 87 = some (.getfield 67, 3) by decide +kernel) rfl (by decide +kernel) (by decide +kernel) ?_
      refine g_iload_n 91 (show op 298 90 = some (.iload_n 2, 1) by decide +kernel) rfl rfl ?_
      obtain ⟨g11, h⟩ := h
      refine g_iaload 92 256 (show op 298 91 = some (.iaload, 1) by decide +kernel) rfl (by decide +kernel) g11 ?_
      refine g_iload 94 (show op 298 92 = some (.iload 10, 2) by decide +kernel) rfl rfl ?_
      obtain ⟨g12, h⟩ := h
      refine g_iadd 95 (show op 298 94 = some (.iadd, 1) by decide +kernel) rfl g12 ?_
      obtain ⟨g13, h⟩ := h
      refine g_iastore 96 4400 (show op 298 95 = some (.iastore, 1) by decide +kernel) rfl (by decide +kernel) g13 ?_
      obtain ⟨g14, h⟩ := h
      refine g_iinc 99 [(some (.inr (.inr (some 682)))), (some (.inl x1)), (some (.inl x2)), (some (.inl x3)), (some (.inl x4)), (some (.inl x5)), (some (.inl x6)), (some (.inl (x7 + 1))), (some (.inl x8)), (some (.inl x9)), (some (.inl x10))] (show op 298 96 = some (.iinc 7 1, 3) by decide +kernel) rfl rfl g14 rfl ?_
      obtain ⟨g15, h⟩ := h
      refine g_iinc 102 [(some (.inr (.inr (some 682)))), (some (.inl x1)), (some (.inl x2)), (some (.inl x3)), (some (.inl x4)), (some (.inl x5)), (some (.inl x6)), (some (.inl (x7 + 1))), (some (.inl x8)), (some (.inl x9)), (some (.inl (x10 + 1)))] (show op 298 99 = some (.iinc 10 1, 3) by decide +kernel) rfl rfl g15 rfl ?_
      refine g_goto 28 (show op 298 102 = some (.goto (-74), 3) by decide +kernel) rfl ?_
      exact h
    · rw [if_neg hc17] at h
      refine g_icmpT 105 (show op 298 39 = some (.if_icmp .ne 66, 3) by decide +kernel) rfl (decide_eq_true hc17) ?_
      exact h
  · rw [if_neg hc16] at h
    refine g_icmpT 105 (show op 298 32 = some (.if_icmp .ge 73, 3) by decide +kernel) rfl (decide_eq_true (Int.not_lt.mp hc16)) ?_
    exact h
theorem b298_299 {x1 : Int} {d2 : Option AV} {d3 : Option AV} {d4 : Option AV} {x5 : Int} {x6 : Int} {x7 : Int} {d8 : Option AV} {x9 : Int} {d10 : Option AV} {σ : Sg} {o : Rs}   (h : (if x9 < x7 then (-2147483648 ≤ (100 * x6) ∧ (100 * x6) ≤ 2147483647) ∧ (-2147483648 ≤ ((100 * x6) + x9) ∧ ((100 * x6) + x9) ≤ 2147483647) ∧ (-2147483648 ≤ (100 * x5) ∧ (100 * x5) ≤ 2147483647) ∧ (-2147483648 ≤ ((100 * x5) + x9) ∧ ((100 * x5) + x9) ≤ 2147483647) ∧ (0 ≤ ((100 * x5) + x9) ∧ ((100 * x5) + x9) < 4400) ∧ (0 ≤ ((100 * x6) + x9) ∧ ((100 * x6) + x9) < 4400) ∧ (-2147483648 ≤ (x9 + 1) ∧ (x9 + 1) ≤ 2147483647) ∧ C298_299 x1 d2 d3 d4 x5 x6 x7 d8 (x9 + 1) d10 (upS σ 685 ((((100 * x6) + x9)).toNat) (σ 686 (((100 * x5) + x9)).toNat)) o else C298_341 x1 d2 d3 d4 (some (.inl x5)) x6 (some (.inl x7)) d8 0 d10 σ o)) : C298_299 x1 d2 d3 d4 x5 x6 x7 d8 x9 d10 σ o := by
  show Gd 298 299 [(some (.inr (.inr (some 682)))), (some (.inl x1)), d2, d3, d4, (some (.inl x5)), (some (.inl x6)), (some (.inl x7)), d8, (some (.inl x9)), d10] [] σ 0 0 o
  refine g_iload 301 (show op 298 299 = some (.iload 9, 2) by decide +kernel) rfl rfl ?_
  refine g_iload 303 (show op 298 301 = some (.iload 7, 2) by decide +kernel) rfl rfl ?_
  by_cases hc8 : x9 < x7
  · rw [if_pos hc8] at h
    refine g_icmpF 306 338 (show op 298 303 = some (.if_icmp .ge 35, 3) by decide +kernel) rfl rfl (decide_eq_false (Int.not_le.mpr hc8)) ?_
    refine g_aload_n 307 (show op 298 306 = some (.aload_n 0, 1) by decide +kernel) rfl rfl ?_
    refine g_getR (ci := 11) (f := 4) (fin := true) (isR := true) 310 685 (show op 298 307 = some (.getfield 16, 3) by decide +kernel) rfl (by decide +kernel) (by decide +kernel) ?_
    refine g_bipush 312 (show op 298 310 = some (.bipush 100, 2) by decide +kernel) rfl (by decide) ?_
    refine g_iload 314 (show op 298 312 = some (.iload 6, 2) by decide +kernel) rfl rfl ?_
    obtain ⟨g1, h⟩ := h
    refine g_imul 315 (show op 298 314 = some (.imul, 1) by decide +kernel) rfl g1 ?_
    refine g_iload 317 (show op 298 315 = some (.iload 9, 2) by decide +kernel) rfl rfl ?_
    obtain ⟨g2, h⟩ := h
    refine g_iadd 318 (show op 298 317 = some (.iadd, 1) by decide +kernel) rfl g2 ?_
    refine g_aload_n 319 (show op 298 318 = some (.aload_n 0, 1) by decide +kernel) rfl rfl ?_
    refine g_getR (ci := 11) (f := 5) (fin := true) (isR := true) 322 686 (show op 298 319 = some (.getfield 19, 3) by decide +kernel) rfl (by decide +kernel) (by decide +kernel) ?_
    refine g_bipush 324 (show op 298 322 = some (.bipush 100, 2) by decide +kernel) rfl (by decide) ?_
    refine g_iload 326 (show op 298 324 = some (.iload 5, 2) by decide +kernel) rfl rfl ?_
    obtain ⟨g3, h⟩ := h
    refine g_imul 327 (show op 298 326 = some (.imul, 1) by decide +kernel) rfl g3 ?_
    refine g_iload 329 (show op 298 327 = some (.iload 9, 2) by decide +kernel) rfl rfl ?_
    obtain ⟨g4, h⟩ := h
    refine g_iadd 330 (show op 298 329 = some (.iadd, 1) by decide +kernel) rfl g4 ?_
    obtain ⟨g5, h⟩ := h
    refine g_iaload 331 4400 (show op 298 330 = some (.iaload, 1) by decide +kernel) rfl (by decide +kernel) g5 ?_
    obtain ⟨g6, h⟩ := h
    refine g_iastore 332 4400 (show op 298 331 = some (.iastore, 1) by decide +kernel) rfl (by decide +kernel) g6 ?_
    obtain ⟨g7, h⟩ := h
    refine g_iinc 335 [(some (.inr (.inr (some 682)))), (some (.inl x1)), d2, d3, d4, (some (.inl x5)), (some (.inl x6)), (some (.inl x7)), d8, (some (.inl (x9 + 1))), d10] (show op 298 332 = some (.iinc 9 1, 3) by decide +kernel) rfl rfl g7 rfl ?_
    refine g_goto 299 (show op 298 335 = some (.goto (-36), 3) by decide +kernel) rfl ?_
    exact h
  · rw [if_neg hc8] at h
    refine g_icmpT 338 (show op 298 303 = some (.if_icmp .ge 35, 3) by decide +kernel) rfl (decide_eq_true (Int.not_lt.mp hc8)) ?_
    refine g_iconst 339 (show op 298 338 = some (.iconst 0, 1) by decide +kernel) rfl rfl ?_
    refine g_istore 341 [(some (.inr (.inr (some 682)))), (some (.inl x1)), d2, d3, d4, (some (.inl x5)), (some (.inl x6)), (some (.inl x7)), d8, (some (.inl 0)), d10] (show op 298 339 = some (.istore 9, 2) by decide +kernel) rfl rfl rfl ?_
    exact h
theorem b298_105 {x1 : Int} {x2 : Int} {x3 : Int} {x4 : Int} {x5 : Int} {x6 : Int} {x7 : Int} {x8 : Int} {x9 : Int} {d10 : Option AV} {σ : Sg} {o : Rs}   (h : (0 ≤ x1 ∧ x1 < 44) ∧ (if x9 < (σ 688 (x1).toNat) then (if x8 ≤ x9 then (-2147483648 ≤ (x8 + x3) ∧ (x8 + x3) ≤ 2147483647) ∧ (if x9 < (x8 + x3) then C298_137 x1 x2 x3 x4 x5 x6 x7 x8 x9 d10 1 σ o else C298_136 x1 x2 x3 x4 x5 x6 x7 x8 x9 d10 σ o) else C298_136 x1 x2 x3 x4 x5 x6 x7 x8 x9 d10 σ o) else C298_246 x1 x2 x3 x4 x5 x6 x7 x8 x9 d10 σ o)) : C298_105 x1 x2 x3 x4 x5 x6 x7 x8 x9 d10 σ o := by
  show Gd 298 105 [(some (.inr (.inr (some 682)))), (some (.inl x1)), (some (.inl x2)), (some (.inl x3)), (some (.inl x4)), (some (.inl x5)), (some (.inl x6)), (some (.inl x7)), (some (.inl x8)), (some (.inl x9)), d10] [] σ 0 0 o
  refine g_iload 107 (show op 298 105 = some (.iload 9, 2) by decide +kernel) rfl rfl ?_
  refine g_aload_n 108 (show op 298 107 = some (.aload_n 0, 1) by decide +kernel) rfl rfl ?_
  refine g_getR (ci := 11) (f := 7) (fin := true) (isR := true) 111 688 (show op 298 108 = some (.getfield 25, 3) by decide +kernel) rfl (by decide +kernel) (by decide +kernel) ?_
  refine g_iload_n 112 (show op 298 111 = some (.iload_n 1, 1) by decide +kernel) rfl rfl ?_
  obtain ⟨g1, h⟩ := h
  refine g_iaload 113 44 (show op 298 112 = some (.iaload, 1) by decide +kernel) rfl (by decide +kernel) g1 ?_
  by_cases hc3 : x9 < (σ 688 (x1).toNat)
  · rw [if_pos hc3] at h
    refine g_icmpF 116 246 (show op 298 113 = some (.if_icmp .ge 133, 3) by decide +kernel) rfl rfl (decide_eq_false (Int.not_le.mpr hc3)) ?_
    refine g_iload 118 (show op 298 116 = some (.iload 9, 2) by decide +kernel) rfl rfl ?_
    refine g_iload 120 (show op 298 118 = some (.iload 8, 2) by decide +kernel) rfl rfl ?_
    by_cases hc4 : x8 ≤ x9
    · rw [if_pos hc4] at h
      refine g_icmpF 123 136 (show op 298 120 = some (.if_icmp .lt 16, 3) by decide +kernel) rfl rfl (decide_eq_false (Int.not_lt.mpr hc4)) ?_
      refine g_iload 125 (show op 298 123 = some (.iload 9, 2) by decide +kernel) rfl rfl ?_
      refine g_iload 127 (show op 298 125 = some (.iload 8, 2) by decide +kernel) rfl rfl ?_
      refine g_iload_n 128 (show op 298 127 = some (.iload_n 3, 1) by decide +kernel) rfl rfl ?_
      obtain ⟨g2, h⟩ := h
      refine g_iadd 129 (show op 298 128 = some (.iadd, 1) by decide +kernel) rfl g2 ?_
      by_cases hc5 : x9 < (x8 + x3)
      · rw [if_pos hc5] at h
        refine g_icmpF 132 136 (show op 298 129 = some (.if_icmp .ge 7, 3) by decide +kernel) rfl rfl (decide_eq_false (Int.not_le.mpr hc5)) ?_
        refine g_iconst 133 (show op 298 132 = some (.iconst 1, 1) by decide +kernel) rfl rfl ?_
        refine g_goto 137 (show op 298 133 = some (.goto 4, 3) by decide +kernel) rfl ?_
        exact h
      · rw [if_neg hc5] at h
        refine g_icmpT 136 (show op 298 129 = some (.if_icmp .ge 7, 3) by decide +kernel) rfl (decide_eq_true (Int.not_lt.mp hc5)) ?_
        exact h
    · rw [if_neg hc4] at h
      refine g_icmpT 136 (show op 298 120 = some (.if_icmp .lt 16, 3) by decide +kernel) rfl (decide_eq_true (Int.not_le.mp hc4)) ?_
      exact h
  · rw [if_neg hc3] at h
    refine g_icmpT 246 (show op 298 113 = some (.if_icmp .ge 133, 3) by decide +kernel) rfl (decide_eq_true (Int.not_lt.mp hc3)) ?_
    exact h
theorem b298_341 {x1 : Int} {d2 : Option AV} {d3 : Option AV} {d4 : Option AV} {d5 : Option AV} {x6 : Int} {d7 : Option AV} {d8 : Option AV} {x9 : Int} {d10 : Option AV} {σ : Sg} {o : Rs}   (h : (0 ≤ x1 ∧ x1 < 44) ∧ (if x9 < (σ 689 (x1).toNat) then (-2147483648 ≤ (100 * x6) ∧ (100 * x6) ≤ 2147483647) ∧ (-2147483648 ≤ ((100 * x6) + x9) ∧ ((100 * x6) + x9) ≤ 2147483647) ∧ (-2147483648 ≤ (100 * x1) ∧ (100 * x1) ≤ 2147483647) ∧ (-2147483648 ≤ ((100 * x1) + x9) ∧ ((100 * x1) + x9) ≤ 2147483647) ∧ (0 ≤ ((100 * x1) + x9) ∧ ((100 * x1) + x9) < 4400) ∧ (0 ≤ ((100 * x6) + x9) ∧ ((100 * x6) + x9) < 4400) ∧ (-2147483648 ≤ (x9 + 1) ∧ (x9 + 1) ≤ 2147483647) ∧ C298_341 x1 d2 d3 d4 d5 x6 d7 d8 (x9 + 1) d10 (upS σ 686 ((((100 * x6) + x9)).toNat) (σ 686 (((100 * x1) + x9)).toNat)) o else o = (.inl none, σ))) : C298_341 x1 d2 d3 d4 d5 x6 d7 d8 x9 d10 σ o := by
  show Gd 298 341 [(some (.inr (.inr (some 682)))), (some (.inl x1)), d2, d3, d4, d5, (some (.inl x6)), d7, d8, (some (.inl x9)), d10] [] σ 0 0 o
  refine g_iload 343 (show op 298 341 = some (.iload 9, 2) by decide +kernel) rfl rfl ?_
  refine g_aload_n 344 (show op 298 343 = some (.aload_n 0, 1) by decide +kernel) rfl rfl ?_
  refine g_getR (ci := 11) (f := 8) (fin := true) (isR := true) 347 689 (show op 298 344 = some (.getfield 28, 3) by decide +kernel) rfl (by decide +kernel) (by decide +kernel) ?_
  refine g_iload_n 348 (show op 298 347 = some (.iload_n 1, 1) by decide +kernel) rfl rfl ?_
  obtain ⟨g1, h⟩ := h
  refine g_iaload 349 44 (show op 298 348 = some (.iaload, 1) by decide +kernel) rfl (by decide +kernel) g1 ?_
  by_cases hc9 : x9 < (σ 689 (x1).toNat)
  · rw [if_pos hc9] at h
    refine g_icmpF 352 383 (show op 298 349 = some (.if_icmp .ge 34, 3) by decide +kernel) rfl rfl (decide_eq_false (Int.not_le.mpr hc9)) ?_
    refine g_aload_n 353 (show op 298 352 = some (.aload_n 0, 1) by decide +kernel) rfl rfl ?_
    refine g_getR (ci := 11) (f := 5) (fin := true) (isR := true) 356 686 (show op 298 353 = some (.getfield 19, 3) by decide +kernel) rfl (by decide +kernel) (by decide +kernel) ?_
    refine g_bipush 358 (show op 298 356 = some (.bipush 100, 2) by decide +kernel) rfl (by decide) ?_
    refine g_iload 360 (show op 298 358 = some (.iload 6, 2) by decide +kernel) rfl rfl ?_
    obtain ⟨g2, h⟩ := h
    refine g_imul 361 (show op 298 360 = some (.imul, 1) by decide +kernel) rfl g2 ?_
    refine g_iload 363 (show op 298 361 = some (.iload 9, 2) by decide +kernel) rfl rfl ?_
    obtain ⟨g3, h⟩ := h
    refine g_iadd 364 (show op 298 363 = some (.iadd, 1) by decide +kernel) rfl g3 ?_
    refine g_aload_n 365 (show op 298 364 = some (.aload_n 0, 1) by decide +kernel) rfl rfl ?_
    refine g_getR (ci := 11) (f := 5) (fin := true) (isR := true) 368 686 (show op 298 365 = some (.getfield 19, 3) by decide +kernel) rfl (by decide +kernel) (by decide +kernel) ?_
    refine g_bipush 370 (show op 298 368 = some (.bipush 100, 2) by decide +kernel) rfl (by decide) ?_
    refine g_iload_n 371 (show op 298 370 = some (.iload_n 1, 1) by decide +kernel) rfl rfl ?_
    obtain ⟨g4, h⟩ := h
    refine g_imul 372 (show op 298 371 = some (.imul, 1) by decide +kernel) rfl g4 ?_
    refine g_iload 374 (show op 298 372 = some (.iload 9, 2) by decide +kernel) rfl rfl ?_
    obtain ⟨g5, h⟩ := h
    refine g_iadd 375 (show op 298 374 = some (.iadd, 1) by decide +kernel) rfl g5 ?_
    obtain ⟨g6, h⟩ := h
    refine g_iaload 376 4400 (show op 298 375 = some (.iaload, 1) by decide +kernel) rfl (by decide +kernel) g6 ?_
    obtain ⟨g7, h⟩ := h
    refine g_iastore 377 4400 (show op 298 376 = some (.iastore, 1) by decide +kernel) rfl (by decide +kernel) g7 ?_
    obtain ⟨g8, h⟩ := h
    refine g_iinc 380 [(some (.inr (.inr (some 682)))), (some (.inl x1)), d2, d3, d4, d5, (some (.inl x6)), d7, d8, (some (.inl (x9 + 1))), d10] (show op 298 377 = some (.iinc 9 1, 3) by decide +kernel) rfl rfl g8 rfl ?_
    refine g_goto 341 (show op 298 380 = some (.goto (-39), 3) by decide +kernel) rfl ?_
    exact h
  · rw [if_neg hc9] at h
    refine g_icmpT 383 (show op 298 349 = some (.if_icmp .ge 34, 3) by decide +kernel) rfl (decide_eq_true (Int.not_lt.mp hc9)) ?_
    exact g_vret (show op 298 383 = some (.return_, 1) by decide +kernel) (by decide +kernel) h
theorem b298_137 {x1 : Int} {x2 : Int} {x3 : Int} {x4 : Int} {x5 : Int} {x6 : Int} {x7 : Int} {x8 : Int} {x9 : Int} {d10 : Option AV} {y0 : Int} {σ : Sg} {o : Rs}   (h : (-2147483648 ≤ (100 * x5) ∧ (100 * x5) ≤ 2147483647) ∧ (-2147483648 ≤ ((100 * x5) + x9) ∧ ((100 * x5) + x9) ≤ 2147483647) ∧ (-2147483648 ≤ (100 * x1) ∧ (100 * x1) ≤ 2147483647) ∧ (-2147483648 ≤ ((100 * x1) + x9) ∧ ((100 * x1) + x9) ≤ 2147483647) ∧ (0 ≤ ((100 * x1) + x9) ∧ ((100 * x1) + x9) < 4400) ∧ (0 ≤ ((100 * x5) + x9) ∧ ((100 * x5) + x9) < 4400) ∧ (-2147483648 ≤ (100 * x5) ∧ (100 * x5) ≤ 2147483647) ∧ (-2147483648 ≤ ((100 * x5) + x9) ∧ ((100 * x5) + x9) ≤ 2147483647) ∧ C298_187 x1 x2 x3 x4 x5 x6 x7 x8 x9 y0 ((100 * x5) + x9) (if y0 = 0 then x7 else (-1)) (upS σ 685 ((((100 * x5) + x9)).toNat) (σ 685 (((100 * x1) + x9)).toNat)) o) : C298_137 x1 x2 x3 x4 x5 x6 x7 x8 x9 d10 y0 σ o := by
  show Gd 298 137 [(some (.inr (.inr (some 682)))), (some (.inl x1)), (some (.inl x2)), (some (.inl x3)), (some (.inl x4)), (some (.inl x5)), (some (.inl x6)), (some (.inl x7)), (some (.inl x8)), (some (.inl x9)), d10] [(.inl y0)] σ 0 0 o
  refine g_istore 139 [(some (.inr (.inr (some 682)))), (some (.inl x1)), (some (.inl x2)), (some (.inl x3)), (some (.inl x4)), (some (.inl x5)), (some (.inl x6)), (some (.inl x7)), (some (.inl x8)), (some (.inl x9)), (some (.inl y0))] (show op 298 137 = some (.istore 10, 2) by decide +kernel) rfl rfl rfl ?_
  refine g_aload_n 140 (show op 298 139 = some (.aload_n 0, 1) by decide +kernel) rfl rfl ?_
  refine g_getR (ci := 11) (f := 4) (fin := true) (isR := true) 143 685 (show op 298 140 = some (.getfield 16, 3) by decide +kernel) rfl (by decide +kernel) (by decide +kernel) ?_
  refine g_bipush 145 (show op 298 143 = some (.bipush 100, 2) by decide +kernel) rfl (by decide) ?_
  refine g_iload 147 (show op 298 145 = some (.iload 5, 2) by decide +kernel) rfl rfl ?_
  obtain ⟨g1, h⟩ := h
  refine g_imul 148 (show op 298 147 = some (.imul, 1) by decide +kernel) rfl g1 ?_
  refine g_iload 150 (show op 298 148 = some (.iload 9, 2) by decide +kernel) rfl rfl ?_
  obtain ⟨g2, h⟩ := h
  refine g_iadd 151 (show op 298 150 = some (.iadd, 1) by decide +kernel) rfl g2 ?_
  refine g_aload_n 152 (show op 298 151 = some (.aload_n 0, 1) by decide +kernel) rfl rfl ?_
  refine g_getR (ci := 11) (f := 4) (fin := true) (isR := true) 155 685 (show op 298 152 = some (.getfield 16, 3) by decide +kernel) rfl (by decide +kernel) (by decide +kernel) ?_
  refine g_bipush 157 (show op 298 155 = some (.bipush 100, 2) by decide +kernel) rfl (by decide) ?_
  refine g_iload_n 158 (show op 298 157 = some (.iload_n 1, 1) by decide +kernel) rfl rfl ?_
  obtain ⟨g3, h⟩ := h
  refine g_imul 159 (show op 298 158 = some (.imul, 1) by decide +kernel) rfl g3 ?_
  refine g_iload 161 (show op 298 159 = some (.iload 9, 2) by decide +kernel) rfl rfl ?_
  obtain ⟨g4, h⟩ := h
  refine g_iadd 162 (show op 298 161 = some (.iadd, 1) by decide +kernel) rfl g4 ?_
  obtain ⟨g5, h⟩ := h
  refine g_iaload 163 4400 (show op 298 162 = some (.iaload, 1) by decide +kernel) rfl (by decide +kernel) g5 ?_
  obtain ⟨g6, h⟩ := h
  refine g_iastore 164 4400 (show op 298 163 = some (.iastore, 1) by decide +kernel) rfl (by decide +kernel) g6 ?_
  refine g_aload_n 165 (show op 298 164 = some (.aload_n 0, 1) by decide +kernel) rfl rfl ?_
  refine g_getR (ci := 11) (f := 6) (fin := true) (isR := true) 168 687 (show op 298 165 = some (.getfield 22, 3) by decide +kernel) rfl (by decide +kernel) (by decide +kernel) ?_
  refine g_bipush 170 (show op 298 168 = some (.bipush 100, 2) by decide +kernel) rfl (by decide) ?_
  refine g_iload 172 (show op 298 170 = some (.iload 5, 2) by decide +kernel) rfl rfl ?_
  obtain ⟨g7, h⟩ := h
  refine g_imul 173 (show op 298 172 = some (.imul, 1) by decide +kernel) rfl g7 ?_
  refine g_iload 175 (show op 298 173 = some (.iload 9, 2) by decide +kernel) rfl rfl ?_
  obtain ⟨g8, h⟩ := h
  refine g_iadd 176 (show op 298 175 = some (.iadd, 1) by decide +kernel) rfl g8 ?_
  refine g_iload 178 (show op 298 176 = some (.iload 10, 2) by decide +kernel) rfl rfl ?_
  by_cases hc9 : y0 = 0
  · refine g_ifT 185 (show op 298 178 = some (.ifCond .eq 7, 3) by decide +kernel) rfl (decide_eq_true hc9) ?_
    refine g_iload 187 (show op 298 185 = some (.iload 7, 2) by decide +kernel) rfl rfl ?_
    have h9 := h; simp only [if_pos hc9] at h9; exact h9
  · refine g_ifF 181 185 (show op 298 178 = some (.ifCond .eq 7, 3) by decide +kernel) rfl rfl (decide_eq_false hc9) ?_
    refine g_iconst 182 (show op 298 181 = some (.iconst (-1), 1) by decide +kernel) rfl rfl ?_
    refine g_goto 187 (show op 298 182 = some (.goto 5, 3) by decide +kernel) rfl ?_
    have h9 := h; simp only [if_neg hc9] at h9; exact h9
theorem b298_136 {x1 : Int} {x2 : Int} {x3 : Int} {x4 : Int} {x5 : Int} {x6 : Int} {x7 : Int} {x8 : Int} {x9 : Int} {d10 : Option AV} {σ : Sg} {o : Rs}   (h : C298_137 x1 x2 x3 x4 x5 x6 x7 x8 x9 d10 0 σ o) : C298_136 x1 x2 x3 x4 x5 x6 x7 x8 x9 d10 σ o := by
  show Gd 298 136 [(some (.inr (.inr (some 682)))), (some (.inl x1)), (some (.inl x2)), (some (.inl x3)), (some (.inl x4)), (some (.inl x5)), (some (.inl x6)), (some (.inl x7)), (some (.inl x8)), (some (.inl x9)), d10] [] σ 0 0 o
  refine g_iconst 137 (show op 298 136 = some (.iconst 0, 1) by decide +kernel) rfl rfl ?_
  exact h
theorem b298_246 {x1 : Int} {x2 : Int} {x3 : Int} {x4 : Int} {x5 : Int} {x6 : Int} {x7 : Int} {x8 : Int} {x9 : Int} {d10 : Option AV} {σ : Sg} {o : Rs}   (h : (-2147483648 ≤ (x9 + 1) ∧ (x9 + 1) ≤ 2147483647) ∧ C298_14 x1 x2 x3 x4 x5 x6 x7 x8 (x9 + 1) d10 σ o) : C298_246 x1 x2 x3 x4 x5 x6 x7 x8 x9 d10 σ o := by
  show Gd 298 246 [(some (.inr (.inr (some 682)))), (some (.inl x1)), (some (.inl x2)), (some (.inl x3)), (some (.inl x4)), (some (.inl x5)), (some (.inl x6)), (some (.inl x7)), (some (.inl x8)), (some (.inl x9)), d10] [] σ 0 0 o
  obtain ⟨g1, h⟩ := h
  refine g_iinc 249 [(some (.inr (.inr (some 682)))), (some (.inl x1)), (some (.inl x2)), (some (.inl x3)), (some (.inl x4)), (some (.inl x5)), (some (.inl x6)), (some (.inl x7)), (some (.inl x8)), (some (.inl (x9 + 1))), d10] (show op 298 246 = some (.iinc 9 1, 3) by decide +kernel) rfl rfl g1 rfl ?_
  refine g_goto 14 (show op 298 249 = some (.goto (-235), 3) by decide +kernel) rfl ?_
  exact h
theorem b298_187 {x1 : Int} {x2 : Int} {x3 : Int} {x4 : Int} {x5 : Int} {x6 : Int} {x7 : Int} {x8 : Int} {x9 : Int} {x10 : Int} {y1 : Int} {y2 : Int} {σ : Sg} {o : Rs}   (h : (0 ≤ y1 ∧ y1 < 4400) ∧ (if x10 = 0 then (-2147483648 ≤ (100 * x5) ∧ (100 * x5) ≤ 2147483647) ∧ (-2147483648 ≤ ((100 * x5) + x7) ∧ ((100 * x5) + x7) ≤ 2147483647) ∧ (-2147483648 ≤ (100 * x1) ∧ (100 * x1) ≤ 2147483647) ∧ (-2147483648 ≤ ((100 * x1) + x9) ∧ ((100 * x1) + x9) ≤ 2147483647) ∧ (0 ≤ ((100 * x1) + x9) ∧ ((100 * x1) + x9) < 4400) ∧ (0 ≤ ((100 * x5) + x7) ∧ ((100 * x5) + x7) < 4400) ∧ (-2147483648 ≤ (100 * x6) ∧ (100 * x6) ≤ 2147483647) ∧ (-2147483648 ≤ ((100 * x6) + x7) ∧ ((100 * x6) + x7) ≤ 2147483647) ∧ (-2147483648 ≤ (100 * x1) ∧ (100 * x1) ≤ 2147483647) ∧ (-2147483648 ≤ ((100 * x1) + x9) ∧ ((100 * x1) + x9) ≤ 2147483647) ∧ (0 ≤ ((100 * x1) + x9) ∧ ((100 * x1) + x9) < 4400) ∧ (0 ≤ ((100 * x6) + x7) ∧ ((100 * x6) + x7) < 4400) ∧ (-2147483648 ≤ (x7 + 1) ∧ (x7 + 1) ≤ 2147483647) ∧ C298_246 x1 x2 x3 x4 x5 x6 (x7 + 1) x8 x9 (some (.inl x10)) (upS (upS (upS σ 687 ((y1).toNat) y2) 686 ((((100 * x5) + x7)).toNat) ((upS σ 687 ((y1).toNat) y2) 685 (((100 * x1) + x9)).toNat)) 687 ((((100 * x6) + x7)).toNat) ((upS (upS σ 687 ((y1).toNat) y2) 686 ((((100 * x5) + x7)).toNat) ((upS σ 687 ((y1).toNat) y2) 685 (((100 * x1) + x9)).toNat)) 687 (((100 * x1) + x9)).toNat)) o else C298_246 x1 x2 x3 x4 x5 x6 x7 x8 x9 (some (.inl x10)) (upS σ 687 ((y1).toNat) y2) o)) : C298_187 x1 x2 x3 x4 x5 x6 x7 x8 x9 x10 y1 y2 σ o := by
  show Gd 298 187 [(some (.inr (.inr (some 682)))), (some (.inl x1)), (some (.inl x2)), (some (.inl x3)), (some (.inl x4)), (some (.inl x5)), (some (.inl x6)), (some (.inl x7)), (some (.inl x8)), (some (.inl x9)), (some (.inl x10))] [(.inl y2), (.inl y1), (.inr (.inr (some 687)))] σ 0 0 o
  obtain ⟨g1, h⟩ := h
  refine g_iastore 188 4400 (show op 298 187 = some (.iastore, 1) by decide +kernel) rfl (by decide +kernel) g1 ?_
  refine g_iload 190 (show op 298 188 = some (.iload 10, 2) by decide +kernel) rfl rfl ?_
  by_cases hc15 : x10 = 0
  · rw [if_pos hc15] at h
    refine g_ifF 193 246 (show op 298 190 = some (.ifCond .ne 56, 3) by decide +kernel) rfl rfl (decide_eq_false (fun h9 => h9 hc15)) ?_
    refine g_aload_n 194 (show op 298 193 = some (.aload_n 0, 1) by decide +kernel) rfl rfl ?_
    refine g_getR (ci := 11) (f := 5) (fin := true) (isR := true) 197 686 (show op 298 194 = some (.getfield 19, 3) by decide +kernel) rfl (by decide +kernel) (by decide +kernel) ?_
    refine g_bipush 199 (show op 298 197 = some (.bipush 100, 2) by decide +kernel) rfl (by decide) ?_
    refine g_iload 201 (show op 298 199 = some (.iload 5, 2) by decide +kernel) rfl rfl ?_
    obtain ⟨g2, h⟩ := h
    refine g_imul 202 (show op 298 201 = some (.imul, 1) by decide +kernel) rfl g2 ?_
    refine g_iload 204 (show op 298 202 = some (.iload 7, 2) by decide +kernel) rfl rfl ?_
    obtain ⟨g3, h⟩ := h
    refine g_iadd 205 (show op 298 204 = some (.iadd, 1) by decide +kernel) rfl g3 ?_
    refine g_aload_n 206 (show op 298 205 = some (.aload_n 0, 1) by decide +kernel) rfl rfl ?_
    refine g_getR (ci := 11) (f := 4) (fin := true) (isR := true) 209 685 (show op 298 206 = some (.getfield 16, 3) by decide +kernel) rfl (by decide +kernel) (by decide +kernel) ?_
    refine g_bipush 211 (show op 298 209 = some (.bipush 100, 2) by decide +kernel) rfl (by decide) ?_
    refine g_iload_n 212 (show op 298 211 = some (.iload_n 1, 1) by decide +kernel) rfl rfl ?_
    obtain ⟨g4, h⟩ := h
    refine g_imul 213 (show op 298 212 = some (.imul, 1) by decide +kernel) rfl g4 ?_
    refine g_iload 215 (show op 298 213 = some (.iload 9, 2) by decide +kernel) rfl rfl ?_
    obtain ⟨g5, h⟩ := h
    refine g_iadd 216 (show op 298 215 = some (.iadd, 1) by decide +kernel) rfl g5 ?_
    obtain ⟨g6, h⟩ := h
    refine g_iaload 217 4400 (show op 298 216 = some (.iaload, 1) by decide +kernel) rfl (by decide +kernel) g6 ?_
    obtain ⟨g7, h⟩ := h
    refine g_iastore 218 4400 (show op 298 217 = some (.iastore, 1) by decide +kernel) rfl (by decide +kernel) g7 ?_
    refine g_aload_n 219 (show op 298 218 = some (.aload_n 0, 1) by decide +kernel) rfl rfl ?_
    refine g_getR (ci := 11) (f := 6) (fin := true) (isR := true) 222 687 (show op 298 219 = some (.getfield 22, 3) by decide +kernel) rfl (by decide +kernel) (by decide +kernel) ?_
    refine g_bipush 224 (show op 298 222 = some (.bipush 100, 2) by decide +kernel) rfl (by decide) ?_
    refine g_iload 226 (show op 298 224 = some (.iload 6, 2) by decide +kernel) rfl rfl ?_
    obtain ⟨g8, h⟩ := h
    refine g_imul 227 (show op 298 226 = some (.imul, 1) by decide +kernel) rfl g8 ?_
    refine g_iload 229 (show op 298 227 = some (.iload 7, 2) by decide +kernel) rfl rfl ?_
    obtain ⟨g9, h⟩ := h
    refine g_iadd 230 (show op 298 229 = some (.iadd, 1) by decide +kernel) rfl g9 ?_
    refine g_aload_n 231 (show op 298 230 = some (.aload_n 0, 1) by decide +kernel) rfl rfl ?_
    refine g_getR (ci := 11) (f := 6) (fin := true) (isR := true) 234 687 (show op 298 231 = some (.getfield 22, 3) by decide +kernel) rfl (by decide +kernel) (by decide +kernel) ?_
    refine g_bipush 236 (show op 298 234 = some (.bipush 100, 2) by decide +kernel) rfl (by decide) ?_
    refine g_iload_n 237 (show op 298 236 = some (.iload_n 1, 1) by decide +kernel) rfl rfl ?_
    obtain ⟨g10, h⟩ := h
    refine g_imul 238 (show op 298 237 = some (.imul, 1) by decide +kernel) rfl g10 ?_
    refine g_iload 240 (show op 298 238 = some (.iload 9, 2) by decide +kernel) rfl rfl ?_
    obtain ⟨g11, h⟩ := h
    refine g_iadd 241 (show op 298 240 = some (.iadd, 1) by decide +kernel) rfl g11 ?_
    obtain ⟨g12, h⟩ := h
    refine g_iaload 242 4400 (show op 298 241 = some (.iaload, 1) by decide +kernel) rfl (by decide +kernel) g12 ?_
    obtain ⟨g13, h⟩ := h
    refine g_iastore 243 4400 (show op 298 242 = some (.iastore, 1) by decide +kernel) rfl (by decide +kernel) g13 ?_
    obtain ⟨g14, h⟩ := h
    refine g_iinc 246 [(some (.inr (.inr (some 682)))), (some (.inl x1)), (some (.inl x2)), (some (.inl x3)), (some (.inl x4)), (some (.inl x5)), (some (.inl x6)), (some (.inl (x7 + 1))), (some (.inl x8)), (some (.inl x9)), (some (.inl x10))] (show op 298 243 = some (.iinc 7 1, 3) by decide +kernel) rfl rfl g14 rfl ?_
    exact h
  · rw [if_neg hc15] at h
    refine g_ifT 246 (show op 298 190 = some (.ifCond .ne 56, 3) by decide +kernel) rfl (decide_eq_true hc15) ?_
    exact h
/-- PatchBenchModel.splits (IIIIII)V -/
theorem b298 {x1 : Int} {x2 : Int} {x3 : Int} {x4 : Int} {x5 : Int} {x6 : Int} {σ : Sg} {o : Rs}   (h : (0 ≤ x2 ∧ x2 < 256) ∧ C298_14 x1 x2 x3 x4 x5 x6 0 (σ 700 (x2).toNat) 0 none σ o) : Dd 298 [(.inr (.inr (some 682))), (.inl x1), (.inl x2), (.inl x3), (.inl x4), (.inl x5), (.inl x6)] σ o := by
  refine Dd_of (l := 11) (by decide +kernel) ?_
  show Gd 298 0 [(some (.inr (.inr (some 682)))), (some (.inl x1)), (some (.inl x2)), (some (.inl x3)), (some (.inl x4)), (some (.inl x5)), (some (.inl x6)), none, none, none, none] [] σ 0 0 o
  refine g_iconst 1 (show op 298 0 = some (.iconst 0, 1) by decide +kernel) rfl rfl ?_
  refine g_istore 3 [(some (.inr (.inr (some 682)))), (some (.inl x1)), (some (.inl x2)), (some (.inl x3)), (some (.inl x4)), (some (.inl x5)), (some (.inl x6)), (some (.inl 0)), none, none, none] (show op 298 1 = some (.istore 7, 2) by decide +kernel) rfl rfl rfl ?_
  refine g_aload_n 4 (show op 298 3 = some (.aload_n 0, 1) by decide +kernel) rfl rfl ?_
  refine g_getR (ci := 11) (f := 26) (fin := true) (isR := true) 7 700 (show op 298 4 = some (.getfield 61, 3) by decide +kernel) rfl (by decide +kernel) (by decide +kernel) ?_
  refine g_iload_n 8 (show op 298 7 = some (.iload_n 2, 1) by decide +kernel) rfl rfl ?_
  obtain ⟨g1, h⟩ := h
  refine g_iaload 9 256 (show op 298 8 = some (.iaload, 1) by decide +kernel) rfl (by decide +kernel) g1 ?_
  refine g_istore 11 [(some (.inr (.inr (some 682)))), (some (.inl x1)), (some (.inl x2)), (some (.inl x3)), (some (.inl x4)), (some (.inl x5)), (some (.inl x6)), (some (.inl 0)), (some (.inl (σ 700 (x2).toNat))), none, none] (show op 298 9 = some (.istore 8, 2) by decide +kernel) rfl rfl rfl ?_
  refine g_iconst 12 (show op 298 11 = some (.iconst 0, 1) by decide +kernel) rfl rfl ?_
  refine g_istore 14 [(some (.inr (.inr (some 682)))), (some (.inl x1)), (some (.inl x2)), (some (.inl x3)), (some (.inl x4)), (some (.inl x5)), (some (.inl x6)), (some (.inl 0)), (some (.inl (σ 700 (x2).toNat))), (some (.inl 0)), none] (show op 298 12 = some (.istore 9, 2) by decide +kernel) rfl rfl rfl ?_
  exact h
def C299_15 (x1 : Int) (x2 : Int) (x3 : Int) (σ : Sg) (o : Rs) : Prop := Gd 299 15 [(some (.inr (.inr (some 682)))), (some (.inl x1)), (some (.inl x2)), (some (.inl x3))] [(.inr (.inr (some 682)))] σ 0 0 o
def C299_44 (x1 : Int) (x2 : Int) (x3 : Int) (y1 : Int) (σ : Sg) (o : Rs) : Prop := Gd 299 44 [(some (.inr (.inr (some 682)))), (some (.inl x1)), (some (.inl x2)), (some (.inl x3))] [(.inl y1), (.inr (.inr (some 682)))] σ 0 0 o
theorem b299_15 {x1 : Int} {x2 : Int} {x3 : Int} {σ : Sg} {o : Rs}   (h : C299_44 x1 x2 x3 1 σ o) : C299_15 x1 x2 x3 σ o := by
  show Gd 299 15 [(some (.inr (.inr (some 682)))), (some (.inl x1)), (some (.inl x2)), (some (.inl x3))] [(.inr (.inr (some 682)))] σ 0 0 o
  refine g_iconst 16 (show op 299 15 = some (.iconst 1, 1) by decide +kernel) rfl rfl ?_
  refine g_goto 44 (show op 299 16 = some (.goto 28, 3) by decide +kernel) rfl ?_
  exact h
theorem b299_44 {x1 : Int} {x2 : Int} {x3 : Int} {y1 : Int} {σ : Sg} {o : Rs}   (h : (∃ (v2 : Int) (s1 : Sg), Dd 245 [(.inr (.inr (some 682))), (.inl y1)] σ (.inl (some (.inl v2)), s1) ∧ (if v2 = 0 then o = (.inl (some (.inl 0)), s1) else (∃ (s4 : Sg), Dd 276 [(.inr (.inr (some 682))), (.inl x1), (.inl x2)] s1 (.inl none, s4) ∧ (∃ (s6 : Sg), Dd 287 [(.inr (.inr (some 682))), (.inl (s4 682 3)), (.inl x3)] s4 (.inl none, s6) ∧ (-2147483648 ≤ ((s6 682 3) + 1) ∧ ((s6 682 3) + 1) ≤ 2147483647) ∧ (-2147483648 ≤ (((upS s6 682 3 ((s6 682 3) + 1)) 682 3) - 1) ∧ (((upS s6 682 3 ((s6 682 3) + 1)) 682 3) - 1) ≤ 2147483647) ∧ o = (.inl (some (.inl (((upS s6 682 3 ((s6 682 3) + 1)) 682 3) - 1))), (upS s6 682 3 ((s6 682 3) + 1)))))))) : C299_44 x1 x2 x3 y1 σ o := by
  show Gd 299 44 [(some (.inr (.inr (some 682)))), (some (.inl x1)), (some (.inl x2)), (some (.inl x3))] [(.inl y1), (.inr (.inr (some 682)))] σ 0 0 o
  obtain ⟨v2, s1, hD3, h⟩ := h
  refine g_call 47 [(.inl v2)] (show op 299 44 = some (.invokevirtual 172, 3) by decide +kernel) (call_vi' (k' := 0) (n' := 0) (nj := 2) (j := 245) (k9 := 21) (t := []) (as := [(.inr (.inr (some 682))), (.inl y1)]) (by decide +kernel) rfl (by decide +kernel) rfl rfl rfl rfl rfl rfl (by decide +kernel) (by decide +kernel)) hD3 rfl ?_
  by_cases hc10 : v2 = 0
  · rw [if_pos hc10] at h
    refine g_ifF 50 52 (show op 299 47 = some (.ifCond .ne 5, 3) by decide +kernel) rfl rfl (decide_eq_false (fun h9 => h9 hc10)) ?_
    refine g_iconst 51 (show op 299 50 = some (.iconst 0, 1) by decide +kernel) rfl rfl ?_
    exact (g_iret (show op 299 51 = some (.ireturn, 1) by decide +kernel) (by decide +kernel) h)
  · rw [if_neg hc10] at h
    refine g_ifT 52 (show op 299 47 = some (.ifCond .ne 5, 3) by decide +kernel) rfl (decide_eq_true hc10) ?_
    refine g_aload_n 53 (show op 299 52 = some (.aload_n 0, 1) by decide +kernel) rfl rfl ?_
    refine g_iload_n 54 (show op 299 53 = some (.iload_n 1, 1) by decide +kernel) rfl rfl ?_
    refine g_iload_n 55 (show op 299 54 = some (.iload_n 2, 1) by decide +kernel) rfl rfl ?_
    obtain ⟨s4, hD5, h⟩ := h
    refine g_call 58 [] (show op 299 55 = some (.invokevirtual 240, 3) by decide +kernel) (call_vi' (k' := 0) (n' := 0) (nj := 3) (j := 276) (k9 := 21) (t := []) (as := [(.inr (.inr (some 682))), (.inl x1), (.inl x2)]) (by decide +kernel) rfl (by decide +kernel) rfl rfl rfl rfl rfl rfl (by decide +kernel) (by decide +kernel)) hD5 rfl ?_
    refine g_aload_n 59 (show op 299 58 = some (.aload_n 0, 1) by decide +kernel) rfl rfl ?_
    refine g_aload_n 60 (show op 299 59 = some (.aload_n 0, 1) by decide +kernel) rfl rfl ?_
    refine g_getI (ci := 11) (f := 3) (fin := false) (isR := false) 63 (show op 299 60 = some (.getfield 148, 3) by decide +kernel) rfl (by decide +kernel) (by decide +kernel) ?_
    refine g_iload_n 64 (show op 299 63 = some (.iload_n 3, 1) by decide +kernel) rfl rfl ?_
    obtain ⟨s6, hD7, h⟩ := h
    refine g_call 67 [] (show op 299 64 = some (.invokevirtual 287, 3) by decide +kernel) (call_vi' (k' := 0) (n' := 0) (nj := 3) (j := 287) (k9 := 21) (t := []) (as := [(.inr (.inr (some 682))), (.inl (s4 682 3)), (.inl x3)]) (by decide +kernel) rfl (by decide +kernel) rfl rfl rfl rfl rfl rfl (by decide +kernel) (by decide +kernel)) hD7 rfl ?_
    refine g_aload_n 68 (show op 299 67 = some (.aload_n 0, 1) by decide +kernel) rfl rfl ?_
    refine g_dup 69 (show op 299 68 = some (.dup, 1) by decide +kernel) rfl rfl ?_
    refine g_getI (ci := 11) (f := 3) (fin := false) (isR := false) 72 (show op 299 69 = some (.getfield 148, 3) by decide +kernel) rfl (by decide +kernel) (by decide +kernel) ?_
    refine g_iconst 73 (show op 299 72 = some (.iconst 1, 1) by decide +kernel) rfl rfl ?_
    obtain ⟨g8, h⟩ := h
    refine g_iadd 74 (show op 299 73 = some (.iadd, 1) by decide +kernel) rfl g8 ?_
    refine g_putI (ci := 11) (f := 3) 77 (show op 299 74 = some (.putfield 148, 3) by decide +kernel) rfl (by decide +kernel) (by decide +kernel) ?_
    refine g_aload_n 78 (show op 299 77 = some (.aload_n 0, 1) by decide +kernel) rfl rfl ?_
    refine g_getI (ci := 11) (f := 3) (fin := false) (isR := false) 81 (show op 299 78 = some (.getfield 148, 3) by decide +kernel) rfl (by decide +kernel) (by decide +kernel) ?_
    refine g_iconst 82 (show op 299 81 = some (.iconst 1, 1) by decide +kernel) rfl rfl ?_
    obtain ⟨g9, h⟩ := h
    refine g_isub 83 (show op 299 82 = some (.isub, 1) by decide +kernel) rfl g9 ?_
    exact (g_iret (show op 299 83 = some (.ireturn, 1) by decide +kernel) (by decide +kernel) h)
/-- PatchBenchModel.make (III)I -/
theorem b299 {x1 : Int} {x2 : Int} {x3 : Int} {σ : Sg} {o : Rs}   (h : (∃ (v2 : Int) (s1 : Sg), Dd 247 [(.inl x1)] σ (.inl (some (.inl v2)), s1) ∧ (if v2 = 0 then C299_15 x1 x2 x3 s1 o else (∃ (v5 : Int) (s4 : Sg), Dd 247 [(.inl x2)] s1 (.inl (some (.inl v5)), s4) ∧ (if v5 = 0 then C299_15 x1 x2 x3 s4 o else (∃ (v8 : Int) (s7 : Sg), Dd 275 [(.inl x3)] s4 (.inl (some (.inl v8)), s7) ∧ C299_44 x1 x2 x3 (if v8 = 0 then 2 else (if (s7 682 3) = 24 then 3 else 0)) s7 o)))))) : Dd 299 [(.inr (.inr (some 682))), (.inl x1), (.inl x2), (.inl x3)] σ o := by
  refine Dd_of (l := 4) (by decide +kernel) ?_
  show Gd 299 0 [(some (.inr (.inr (some 682)))), (some (.inl x1)), (some (.inl x2)), (some (.inl x3))] [] σ 0 0 o
  refine g_aload_n 1 (show op 299 0 = some (.aload_n 0, 1) by decide +kernel) rfl rfl ?_
  refine g_iload_n 2 (show op 299 1 = some (.iload_n 1, 1) by decide +kernel) rfl rfl ?_
  obtain ⟨v2, s1, hD3, h⟩ := h
  refine g_call 5 [(.inl v2), (.inr (.inr (some 682)))] (show op 299 2 = some (.invokestatic 166, 3) by decide +kernel) (call_st' (k' := 0) (n' := 0) (nj := 1) (j := 247) (t := [(.inr (.inr (some 682)))]) (as := [(.inl x1)]) (by decide +kernel) rfl (by decide +kernel) rfl rfl rfl rfl rfl) hD3 rfl ?_
  by_cases hc10 : v2 = 0
  · rw [if_pos hc10] at h
    refine g_ifT 15 (show op 299 5 = some (.ifCond .eq 10, 3) by decide +kernel) rfl (decide_eq_true hc10) ?_
    exact h
  · rw [if_neg hc10] at h
    refine g_ifF 8 15 (show op 299 5 = some (.ifCond .eq 10, 3) by decide +kernel) rfl rfl (decide_eq_false hc10) ?_
    refine g_iload_n 9 (show op 299 8 = some (.iload_n 2, 1) by decide +kernel) rfl rfl ?_
    obtain ⟨v5, s4, hD6, h⟩ := h
    refine g_call 12 [(.inl v5), (.inr (.inr (some 682)))] (show op 299 9 = some (.invokestatic 166, 3) by decide +kernel) (call_st' (k' := 0) (n' := 0) (nj := 1) (j := 247) (t := [(.inr (.inr (some 682)))]) (as := [(.inl x2)]) (by decide +kernel) rfl (by decide +kernel) rfl rfl rfl rfl rfl) hD6 rfl ?_
    by_cases hc11 : v5 = 0
    · rw [if_pos hc11] at h
      refine g_ifF 15 19 (show op 299 12 = some (.ifCond .ne 7, 3) by decide +kernel) rfl rfl (decide_eq_false (fun h9 => h9 hc11)) ?_
      exact h
    · rw [if_neg hc11] at h
      refine g_ifT 19 (show op 299 12 = some (.ifCond .ne 7, 3) by decide +kernel) rfl (decide_eq_true hc11) ?_
      refine g_iload_n 20 (show op 299 19 = some (.iload_n 3, 1) by decide +kernel) rfl rfl ?_
      obtain ⟨v8, s7, hD9, h⟩ := h
      refine g_call 23 [(.inl v8), (.inr (.inr (some 682)))] (show op 299 20 = some (.invokestatic 237, 3) by decide +kernel) (call_st' (k' := 0) (n' := 0) (nj := 1) (j := 275) (t := [(.inr (.inr (some 682)))]) (as := [(.inl x3)]) (by decide +kernel) rfl (by decide +kernel) rfl rfl rfl rfl rfl) hD9 rfl ?_
      by_cases hc12 : v8 = 0
      · refine g_ifF 26 30 (show op 299 23 = some (.ifCond .ne 7, 3) by decide +kernel) rfl rfl (decide_eq_false (fun h9 => h9 hc12)) ?_
        refine g_iconst 27 (show op 299 26 = some (.iconst 2, 1) by decide +kernel) rfl rfl ?_
        refine g_goto 44 (show op 299 27 = some (.goto 17, 3) by decide +kernel) rfl ?_
        have h9 := h; simp only [if_pos hc12] at h9; exact h9
      · refine g_ifT 30 (show op 299 23 = some (.ifCond .ne 7, 3) by decide +kernel) rfl (decide_eq_true hc12) ?_
        refine g_aload_n 31 (show op 299 30 = some (.aload_n 0, 1) by decide +kernel) rfl rfl ?_
        refine g_getI (ci := 11) (f := 3) (fin := false) (isR := false) 34 (show op 299 31 = some (.getfield 148, 3) by decide +kernel) rfl (by decide +kernel) (by decide +kernel) ?_
        refine g_bipush 36 (show op 299 34 = some (.bipush 24, 2) by decide +kernel) rfl (by decide) ?_
        by_cases hc13 : (s7 682 3) = 24
        · refine g_icmpF 39 43 (show op 299 36 = some (.if_icmp .ne 7, 3) by decide +kernel) rfl rfl (decide_eq_false (fun h9 => h9 hc13)) ?_
          refine g_iconst 40 (show op 299 39 = some (.iconst 3, 1) by decide +kernel) rfl rfl ?_
          refine g_goto 44 (show op 299 40 = some (.goto 4, 3) by decide +kernel) rfl ?_
          have h9 := h; simp only [if_neg hc12, if_pos hc13] at h9; exact h9
        · refine g_icmpT 43 (show op 299 36 = some (.if_icmp .ne 7, 3) by decide +kernel) rfl (decide_eq_true hc13) ?_
          refine g_iconst 44 (show op 299 43 = some (.iconst 0, 1) by decide +kernel) rfl rfl ?_
          have h9 := h; simp only [if_neg hc12, if_neg hc13] at h9; exact h9
def C300_27 (x1 : Int) (y1 : Int) (σ : Sg) (o : Rs) : Prop := Gd 300 27 [(some (.inr (.inr (some 682)))), (some (.inl x1))] [(.inl y1), (.inr (.inr (some 682)))] σ 0 0 o
theorem b300_27 {x1 : Int} {y1 : Int} {σ : Sg} {o : Rs}   (h : (∃ (v2 : Int) (s1 : Sg), Dd 245 [(.inr (.inr (some 682))), (.inl y1)] σ (.inl (some (.inl v2)), s1) ∧ (if v2 = 0 then o = (.inl (some (.inl 0)), s1) else (∃ (s4 : Sg), Dd 294 [(.inr (.inr (some 682))), (.inl x1), (.inl (s1 682 3))] s1 (.inl none, s4) ∧ (-2147483648 ≤ ((s4 682 3) + 1) ∧ ((s4 682 3) + 1) ≤ 2147483647) ∧ (-2147483648 ≤ (((upS s4 682 3 ((s4 682 3) + 1)) 682 3) - 1) ∧ (((upS s4 682 3 ((s4 682 3) + 1)) 682 3) - 1) ≤ 2147483647) ∧ o = (.inl (some (.inl (((upS s4 682 3 ((s4 682 3) + 1)) 682 3) - 1))), (upS s4 682 3 ((s4 682 3) + 1))))))) : C300_27 x1 y1 σ o := by
  show Gd 300 27 [(some (.inr (.inr (some 682)))), (some (.inl x1))] [(.inl y1), (.inr (.inr (some 682)))] σ 0 0 o
  obtain ⟨v2, s1, hD3, h⟩ := h
  refine g_call 30 [(.inl v2)] (show op 300 27 = some (.invokevirtual 172, 3) by decide +kernel) (call_vi' (k' := 0) (n' := 0) (nj := 2) (j := 245) (k9 := 21) (t := []) (as := [(.inr (.inr (some 682))), (.inl y1)]) (by decide +kernel) rfl (by decide +kernel) rfl rfl rfl rfl rfl rfl (by decide +kernel) (by decide +kernel)) hD3 rfl ?_
  by_cases hc8 : v2 = 0
  · rw [if_pos hc8] at h
    refine g_ifF 33 35 (show op 300 30 = some (.ifCond .ne 5, 3) by decide +kernel) rfl rfl (decide_eq_false (fun h9 => h9 hc8)) ?_
    refine g_iconst 34 (show op 300 33 = some (.iconst 0, 1) by decide +kernel) rfl rfl ?_
    exact (g_iret (show op 300 34 = some (.ireturn, 1) by decide +kernel) (by decide +kernel) h)
  · rw [if_neg hc8] at h
    refine g_ifT 35 (show op 300 30 = some (.ifCond .ne 5, 3) by decide +kernel) rfl (decide_eq_true hc8) ?_
    refine g_aload_n 36 (show op 300 35 = some (.aload_n 0, 1) by decide +kernel) rfl rfl ?_
    refine g_iload_n 37 (show op 300 36 = some (.iload_n 1, 1) by decide +kernel) rfl rfl ?_
    refine g_aload_n 38 (show op 300 37 = some (.aload_n 0, 1) by decide +kernel) rfl rfl ?_
    refine g_getI (ci := 11) (f := 3) (fin := false) (isR := false) 41 (show op 300 38 = some (.getfield 148, 3) by decide +kernel) rfl (by decide +kernel) (by decide +kernel) ?_
    obtain ⟨s4, hD5, h⟩ := h
    refine g_call 44 [] (show op 300 41 = some (.invokevirtual 293, 3) by decide +kernel) (call_vi' (k' := 0) (n' := 0) (nj := 3) (j := 294) (k9 := 21) (t := []) (as := [(.inr (.inr (some 682))), (.inl x1), (.inl (s1 682 3))]) (by decide +kernel) rfl (by decide +kernel) rfl rfl rfl rfl rfl rfl (by decide +kernel) (by decide +kernel)) hD5 rfl ?_
    refine g_aload_n 45 (show op 300 44 = some (.aload_n 0, 1) by decide +kernel) rfl rfl ?_
    refine g_dup 46 (show op 300 45 = some (.dup, 1) by decide +kernel) rfl rfl ?_
    refine g_getI (ci := 11) (f := 3) (fin := false) (isR := false) 49 (show op 300 46 = some (.getfield 148, 3) by decide +kernel) rfl (by decide +kernel) (by decide +kernel) ?_
    refine g_iconst 50 (show op 300 49 = some (.iconst 1, 1) by decide +kernel) rfl rfl ?_
    obtain ⟨g6, h⟩ := h
    refine g_iadd 51 (show op 300 50 = some (.iadd, 1) by decide +kernel) rfl g6 ?_
    refine g_putI (ci := 11) (f := 3) 54 (show op 300 51 = some (.putfield 148, 3) by decide +kernel) rfl (by decide +kernel) (by decide +kernel) ?_
    refine g_aload_n 55 (show op 300 54 = some (.aload_n 0, 1) by decide +kernel) rfl rfl ?_
    refine g_getI (ci := 11) (f := 3) (fin := false) (isR := false) 58 (show op 300 55 = some (.getfield 148, 3) by decide +kernel) rfl (by decide +kernel) (by decide +kernel) ?_
    refine g_iconst 59 (show op 300 58 = some (.iconst 1, 1) by decide +kernel) rfl rfl ?_
    obtain ⟨g7, h⟩ := h
    refine g_isub 60 (show op 300 59 = some (.isub, 1) by decide +kernel) rfl g7 ?_
    exact (g_iret (show op 300 60 = some (.ireturn, 1) by decide +kernel) (by decide +kernel) h)
/-- PatchBenchModel.invert (I)I -/
theorem b300 {x1 : Int} {σ : Sg} {o : Rs}   (h : (∃ (v2 : Int) (s1 : Sg), Dd 248 [(.inr (.inr (some 682))), (.inl x1)] σ (.inl (some (.inl v2)), s1) ∧ C300_27 x1 (if v2 = 0 then 1 else (if (s1 682 3) = 24 then 2 else 0)) s1 o)) : Dd 300 [(.inr (.inr (some 682))), (.inl x1)] σ o := by
  refine Dd_of (l := 2) (by decide +kernel) ?_
  show Gd 300 0 [(some (.inr (.inr (some 682)))), (some (.inl x1))] [] σ 0 0 o
  refine g_aload_n 1 (show op 300 0 = some (.aload_n 0, 1) by decide +kernel) rfl rfl ?_
  refine g_aload_n 2 (show op 300 1 = some (.aload_n 0, 1) by decide +kernel) rfl rfl ?_
  refine g_iload_n 3 (show op 300 2 = some (.iload_n 1, 1) by decide +kernel) rfl rfl ?_
  obtain ⟨v2, s1, hD3, h⟩ := h
  refine g_call 6 [(.inl v2), (.inr (.inr (some 682)))] (show op 300 3 = some (.invokevirtual 290, 3) by decide +kernel) (call_vi' (k' := 0) (n' := 0) (nj := 2) (j := 248) (k9 := 21) (t := [(.inr (.inr (some 682)))]) (as := [(.inr (.inr (some 682))), (.inl x1)]) (by decide +kernel) rfl (by decide +kernel) rfl rfl rfl rfl rfl rfl (by decide +kernel) (by decide +kernel)) hD3 rfl ?_
  by_cases hc4 : v2 = 0
  · refine g_ifF 9 13 (show op 300 6 = some (.ifCond .ne 7, 3) by decide +kernel) rfl rfl (decide_eq_false (fun h9 => h9 hc4)) ?_
    refine g_iconst 10 (show op 300 9 = some (.iconst 1, 1) by decide +kernel) rfl rfl ?_
    refine g_goto 27 (show op 300 10 = some (.goto 17, 3) by decide +kernel) rfl ?_
    have h9 := h; simp only [if_pos hc4] at h9; exact h9
  · refine g_ifT 13 (show op 300 6 = some (.ifCond .ne 7, 3) by decide +kernel) rfl (decide_eq_true hc4) ?_
    refine g_aload_n 14 (show op 300 13 = some (.aload_n 0, 1) by decide +kernel) rfl rfl ?_
    refine g_getI (ci := 11) (f := 3) (fin := false) (isR := false) 17 (show op 300 14 = some (.getfield 148, 3) by decide +kernel) rfl (by decide +kernel) (by decide +kernel) ?_
    refine g_bipush 19 (show op 300 17 = some (.bipush 24, 2) by decide +kernel) rfl (by decide) ?_
    by_cases hc5 : (s1 682 3) = 24
    · refine g_icmpF 22 26 (show op 300 19 = some (.if_icmp .ne 7, 3) by decide +kernel) rfl rfl (decide_eq_false (fun h9 => h9 hc5)) ?_
      refine g_iconst 23 (show op 300 22 = some (.iconst 2, 1) by decide +kernel) rfl rfl ?_
      refine g_goto 27 (show op 300 23 = some (.goto 4, 3) by decide +kernel) rfl ?_
      have h9 := h; simp only [if_neg hc4, if_pos hc5] at h9; exact h9
    · refine g_icmpT 26 (show op 300 19 = some (.if_icmp .ne 7, 3) by decide +kernel) rfl (decide_eq_true hc5) ?_
      refine g_iconst 27 (show op 300 26 = some (.iconst 0, 1) by decide +kernel) rfl rfl ?_
      have h9 := h; simp only [if_neg hc4, if_neg hc5] at h9; exact h9
def C301_20 (x1 : Int) (x2 : Int) (d3 : Option AV) (σ : Sg) (o : Rs) : Prop := Gd 301 20 [(some (.inr (.inr (some 682)))), (some (.inl x1)), (some (.inl x2)), d3] [] σ 0 0 o
def C301_21 (x1 : Int) (x2 : Int) (d3 : Option AV) (y0 : Int) (σ : Sg) (o : Rs) : Prop := Gd 301 21 [(some (.inr (.inr (some 682)))), (some (.inl x1)), (some (.inl x2)), d3] [(.inl y0)] σ 0 0 o
def C301_54 (x1 : Int) (x2 : Int) (d3 : Option AV) (y1 : Int) (σ : Sg) (o : Rs) : Prop := Gd 301 54 [(some (.inr (.inr (some 682)))), (some (.inl x1)), (some (.inl x2)), d3] [(.inl y1), (.inr (.inr (some 682)))] σ 0 0 o
def C301_49 (x1 : Int) (x2 : Int) (d3 : Option AV) (σ : Sg) (o : Rs) : Prop := Gd 301 49 [(some (.inr (.inr (some 682)))), (some (.inl x1)), (some (.inl x2)), d3] [(.inr (.inr (some 682)))] σ 0 0 o
theorem b301_20 {x1 : Int} {x2 : Int} {d3 : Option AV} {σ : Sg} {o : Rs}   (h : C301_21 x1 x2 d3 0 σ o) : C301_20 x1 x2 d3 σ o := by
  show Gd 301 20 [(some (.inr (.inr (some 682)))), (some (.inl x1)), (some (.inl x2)), d3] [] σ 0 0 o
  refine g_iconst 21 (show op 301 20 = some (.iconst 0, 1) by decide +kernel) rfl rfl ?_
  exact h
theorem b301_21 {x1 : Int} {x2 : Int} {d3 : Option AV} {y0 : Int} {σ : Sg} {o : Rs}   (h : (if y0 = 0 then C301_54 x1 x2 (some (.inl y0)) 1 σ o else (∃ (v2 : Int) (s1 : Sg), Dd 290 [(.inr (.inr (some 682))), (.inl x1), (.inl x2)] σ (.inl (some (.inl v2)), s1) ∧ (if v2 = 0 then C301_49 x1 x2 (some (.inl y0)) s1 o else (if (s1 682 3) = 24 then C301_49 x1 x2 (some (.inl y0)) s1 o else C301_54 x1 x2 (some (.inl y0)) 0 s1 o))))) : C301_21 x1 x2 d3 y0 σ o := by
  show Gd 301 21 [(some (.inr (.inr (some 682)))), (some (.inl x1)), (some (.inl x2)), d3] [(.inl y0)] σ 0 0 o
  refine g_istore_n 22 [(some (.inr (.inr (some 682)))), (some (.inl x1)), (some (.inl x2)), (some (.inl y0))] (show op 301 21 = some (.istore_n 3, 1) by decide +kernel) rfl rfl rfl ?_
  refine g_aload_n 23 (show op 301 22 = some (.aload_n 0, 1) by decide +kernel) rfl rfl ?_
  refine g_iload_n 24 (show op 301 23 = some (.iload_n 3, 1) by decide +kernel) rfl rfl ?_
  by_cases hc4 : y0 = 0
  · rw [if_pos hc4] at h
    refine g_ifF 27 31 (show op 301 24 = some (.ifCond .ne 7, 3) by decide +kernel) rfl rfl (decide_eq_false (fun h9 => h9 hc4)) ?_
    refine g_iconst 28 (show op 301 27 = some (.iconst 1, 1) by decide +kernel) rfl rfl ?_
    refine g_goto 54 (show op 301 28 = some (.goto 26, 3) by decide +kernel) rfl ?_
    exact h
  · rw [if_neg hc4] at h
    refine g_ifT 31 (show op 301 24 = some (.ifCond .ne 7, 3) by decide +kernel) rfl (decide_eq_true hc4) ?_
    refine g_aload_n 32 (show op 301 31 = some (.aload_n 0, 1) by decide +kernel) rfl rfl ?_
    refine g_iload_n 33 (show op 301 32 = some (.iload_n 1, 1) by decide +kernel) rfl rfl ?_
    refine g_iload_n 34 (show op 301 33 = some (.iload_n 2, 1) by decide +kernel) rfl rfl ?_
    obtain ⟨v2, s1, hD3, h⟩ := h
    refine g_call 37 [(.inl v2), (.inr (.inr (some 682)))] (show op 301 34 = some (.invokevirtual 296, 3) by decide +kernel) (call_vi' (k' := 0) (n' := 0) (nj := 3) (j := 290) (k9 := 21) (t := [(.inr (.inr (some 682)))]) (as := [(.inr (.inr (some 682))), (.inl x1), (.inl x2)]) (by decide +kernel) rfl (by decide +kernel) rfl rfl rfl rfl rfl rfl (by decide +kernel) (by decide +kernel)) hD3 rfl ?_
    by_cases hc5 : v2 = 0
    · rw [if_pos hc5] at h
      refine g_ifT 49 (show op 301 37 = some (.ifCond .eq 12, 3) by decide +kernel) rfl (decide_eq_true hc5) ?_
      exact h
    · rw [if_neg hc5] at h
      refine g_ifF 40 49 (show op 301 37 = some (.ifCond .eq 12, 3) by decide +kernel) rfl rfl (decide_eq_false hc5) ?_
      refine g_aload_n 41 (show op 301 40 = some (.aload_n 0, 1) by decide +kernel) rfl rfl ?_
      refine g_getI (ci := 11) (f := 3) (fin := false) (isR := false) 44 (show op 301 41 = some (.getfield 148, 3) by decide +kernel) rfl (by decide +kernel) (by decide +kernel) ?_
      refine g_bipush 46 (show op 301 44 = some (.bipush 24, 2) by decide +kernel) rfl (by decide) ?_
      by_cases hc6 : (s1 682 3) = 24
      · rw [if_pos hc6] at h
        refine g_icmpF 49 53 (show op 301 46 = some (.if_icmp .ne 7, 3) by decide +kernel) rfl rfl (decide_eq_false (fun h9 => h9 hc6)) ?_
        exact h
      · rw [if_neg hc6] at h
        refine g_icmpT 53 (show op 301 46 = some (.if_icmp .ne 7, 3) by decide +kernel) rfl (decide_eq_true hc6) ?_
        refine g_iconst 54 (show op 301 53 = some (.iconst 0, 1) by decide +kernel) rfl rfl ?_
        exact h
theorem b301_54 {x1 : Int} {x2 : Int} {d3 : Option AV} {y1 : Int} {σ : Sg} {o : Rs}   (h : (∃ (v2 : Int) (s1 : Sg), Dd 245 [(.inr (.inr (some 682))), (.inl y1)] σ (.inl (some (.inl v2)), s1) ∧ (if v2 = 0 then o = (.inl (some (.inl 0)), s1) else (∃ (s4 : Sg), Dd 295 [(.inr (.inr (some 682))), (.inl x1), (.inl x2), (.inl (s1 682 3))] s1 (.inl none, s4) ∧ (-2147483648 ≤ ((s4 682 3) + 1) ∧ ((s4 682 3) + 1) ≤ 2147483647) ∧ (-2147483648 ≤ (((upS s4 682 3 ((s4 682 3) + 1)) 682 3) - 1) ∧ (((upS s4 682 3 ((s4 682 3) + 1)) 682 3) - 1) ≤ 2147483647) ∧ o = (.inl (some (.inl (((upS s4 682 3 ((s4 682 3) + 1)) 682 3) - 1))), (upS s4 682 3 ((s4 682 3) + 1))))))) : C301_54 x1 x2 d3 y1 σ o := by
  show Gd 301 54 [(some (.inr (.inr (some 682)))), (some (.inl x1)), (some (.inl x2)), d3] [(.inl y1), (.inr (.inr (some 682)))] σ 0 0 o
  obtain ⟨v2, s1, hD3, h⟩ := h
  refine g_call 57 [(.inl v2)] (show op 301 54 = some (.invokevirtual 172, 3) by decide +kernel) (call_vi' (k' := 0) (n' := 0) (nj := 2) (j := 245) (k9 := 21) (t := []) (as := [(.inr (.inr (some 682))), (.inl y1)]) (by decide +kernel) rfl (by decide +kernel) rfl rfl rfl rfl rfl rfl (by decide +kernel) (by decide +kernel)) hD3 rfl ?_
  by_cases hc8 : v2 = 0
  · rw [if_pos hc8] at h
    refine g_ifF 60 62 (show op 301 57 = some (.ifCond .ne 5, 3) by decide +kernel) rfl rfl (decide_eq_false (fun h9 => h9 hc8)) ?_
    refine g_iconst 61 (show op 301 60 = some (.iconst 0, 1) by decide +kernel) rfl rfl ?_
    exact (g_iret (show op 301 61 = some (.ireturn, 1) by decide +kernel) (by decide +kernel) h)
  · rw [if_neg hc8] at h
    refine g_ifT 62 (show op 301 57 = some (.ifCond .ne 5, 3) by decide +kernel) rfl (decide_eq_true hc8) ?_
    refine g_aload_n 63 (show op 301 62 = some (.aload_n 0, 1) by decide +kernel) rfl rfl ?_
    refine g_iload_n 64 (show op 301 63 = some (.iload_n 1, 1) by decide +kernel) rfl rfl ?_
    refine g_iload_n 65 (show op 301 64 = some (.iload_n 2, 1) by decide +kernel) rfl rfl ?_
    refine g_aload_n 66 (show op 301 65 = some (.aload_n 0, 1) by decide +kernel) rfl rfl ?_
    refine g_getI (ci := 11) (f := 3) (fin := false) (isR := false) 69 (show op 301 66 = some (.getfield 148, 3) by decide +kernel) rfl (by decide +kernel) (by decide +kernel) ?_
    obtain ⟨s4, hD5, h⟩ := h
    refine g_call 72 [] (show op 301 69 = some (.invokevirtual 299, 3) by decide +kernel) (call_vi' (k' := 0) (n' := 0) (nj := 4) (j := 295) (k9 := 21) (t := []) (as := [(.inr (.inr (some 682))), (.inl x1), (.inl x2), (.inl (s1 682 3))]) (by decide +kernel) rfl (by decide +kernel) rfl rfl rfl rfl rfl rfl (by decide +kernel) (by decide +kernel)) hD5 rfl ?_
    refine g_aload_n 73 (show op 301 72 = some (.aload_n 0, 1) by decide +kernel) rfl rfl ?_
    refine g_dup 74 (show op 301 73 = some (.dup, 1) by decide +kernel) rfl rfl ?_
    refine g_getI (ci := 11) (f := 3) (fin := false) (isR := false) 77 (show op 301 74 = some (.getfield 148, 3) by decide +kernel) rfl (by decide +kernel) (by decide +kernel) ?_
    refine g_iconst 78 (show op 301 77 = some (.iconst 1, 1) by decide +kernel) rfl rfl ?_
    obtain ⟨g6, h⟩ := h
    refine g_iadd 79 (show op 301 78 = some (.iadd, 1) by decide +kernel) rfl g6 ?_
    refine g_putI (ci := 11) (f := 3) 82 (show op 301 79 = some (.putfield 148, 3) by decide +kernel) rfl (by decide +kernel) (by decide +kernel) ?_
    refine g_aload_n 83 (show op 301 82 = some (.aload_n 0, 1) by decide +kernel) rfl rfl ?_
    refine g_getI (ci := 11) (f := 3) (fin := false) (isR := false) 86 (show op 301 83 = some (.getfield 148, 3) by decide +kernel) rfl (by decide +kernel) (by decide +kernel) ?_
    refine g_iconst 87 (show op 301 86 = some (.iconst 1, 1) by decide +kernel) rfl rfl ?_
    obtain ⟨g7, h⟩ := h
    refine g_isub 88 (show op 301 87 = some (.isub, 1) by decide +kernel) rfl g7 ?_
    exact (g_iret (show op 301 88 = some (.ireturn, 1) by decide +kernel) (by decide +kernel) h)
theorem b301_49 {x1 : Int} {x2 : Int} {d3 : Option AV} {σ : Sg} {o : Rs}   (h : C301_54 x1 x2 d3 2 σ o) : C301_49 x1 x2 d3 σ o := by
  show Gd 301 49 [(some (.inr (.inr (some 682)))), (some (.inl x1)), (some (.inl x2)), d3] [(.inr (.inr (some 682)))] σ 0 0 o
  refine g_iconst 50 (show op 301 49 = some (.iconst 2, 1) by decide +kernel) rfl rfl ?_
  refine g_goto 54 (show op 301 50 = some (.goto 4, 3) by decide +kernel) rfl ?_
  exact h
/-- PatchBenchModel.join (II)I -/
theorem b301 {x1 : Int} {x2 : Int} {σ : Sg} {o : Rs}   (h : (∃ (v2 : Int) (s1 : Sg), Dd 248 [(.inr (.inr (some 682))), (.inl x1)] σ (.inl (some (.inl v2)), s1) ∧ (if v2 = 0 then C301_20 x1 x2 none s1 o else (∃ (v5 : Int) (s4 : Sg), Dd 248 [(.inr (.inr (some 682))), (.inl x2)] s1 (.inl (some (.inl v5)), s4) ∧ (if v5 = 0 then C301_20 x1 x2 none s4 o else C301_21 x1 x2 none 1 s4 o))))) : Dd 301 [(.inr (.inr (some 682))), (.inl x1), (.inl x2)] σ o := by
  refine Dd_of (l := 4) (by decide +kernel) ?_
  show Gd 301 0 [(some (.inr (.inr (some 682)))), (some (.inl x1)), (some (.inl x2)), none] [] σ 0 0 o
  refine g_aload_n 1 (show op 301 0 = some (.aload_n 0, 1) by decide +kernel) rfl rfl ?_
  refine g_iload_n 2 (show op 301 1 = some (.iload_n 1, 1) by decide +kernel) rfl rfl ?_
  obtain ⟨v2, s1, hD3, h⟩ := h
  refine g_call 5 [(.inl v2)] (show op 301 2 = some (.invokevirtual 290, 3) by decide +kernel) (call_vi' (k' := 0) (n' := 0) (nj := 2) (j := 248) (k9 := 21) (t := []) (as := [(.inr (.inr (some 682))), (.inl x1)]) (by decide +kernel) rfl (by decide +kernel) rfl rfl rfl rfl rfl rfl (by decide +kernel) (by decide +kernel)) hD3 rfl ?_
  by_cases hc7 : v2 = 0
  · rw [if_pos hc7] at h
    refine g_ifT 20 (show op 301 5 = some (.ifCond .eq 15, 3) by decide +kernel) rfl (decide_eq_true hc7) ?_
    exact h
  · rw [if_neg hc7] at h
    refine g_ifF 8 20 (show op 301 5 = some (.ifCond .eq 15, 3) by decide +kernel) rfl rfl (decide_eq_false hc7) ?_
    refine g_aload_n 9 (show op 301 8 = some (.aload_n 0, 1) by decide +kernel) rfl rfl ?_
    refine g_iload_n 10 (show op 301 9 = some (.iload_n 2, 1) by decide +kernel) rfl rfl ?_
    obtain ⟨v5, s4, hD6, h⟩ := h
    refine g_call 13 [(.inl v5)] (show op 301 10 = some (.invokevirtual 290, 3) by decide +kernel) (call_vi' (k' := 0) (n' := 0) (nj := 2) (j := 248) (k9 := 21) (t := []) (as := [(.inr (.inr (some 682))), (.inl x2)]) (by decide +kernel) rfl (by decide +kernel) rfl rfl rfl rfl rfl rfl (by decide +kernel) (by decide +kernel)) hD6 rfl ?_
    by_cases hc8 : v5 = 0
    · rw [if_pos hc8] at h
      refine g_ifT 20 (show op 301 13 = some (.ifCond .eq 7, 3) by decide +kernel) rfl (decide_eq_true hc8) ?_
      exact h
    · rw [if_neg hc8] at h
      refine g_ifF 16 20 (show op 301 13 = some (.ifCond .eq 7, 3) by decide +kernel) rfl rfl (decide_eq_false hc8) ?_
      refine g_iconst 17 (show op 301 16 = some (.iconst 1, 1) by decide +kernel) rfl rfl ?_
      refine g_goto 21 (show op 301 17 = some (.goto 4, 3) by decide +kernel) rfl ?_
      exact h
def C302_20 (x1 : Int) (x2 : Int) (d3 : Option AV) (σ : Sg) (o : Rs) : Prop := Gd 302 20 [(some (.inr (.inr (some 682)))), (some (.inl x1)), (some (.inl x2)), d3] [] σ 0 0 o
def C302_21 (x1 : Int) (x2 : Int) (d3 : Option AV) (y0 : Int) (σ : Sg) (o : Rs) : Prop := Gd 302 21 [(some (.inr (.inr (some 682)))), (some (.inl x1)), (some (.inl x2)), d3] [(.inl y0)] σ 0 0 o
def C302_45 (x1 : Int) (x2 : Int) (d3 : Option AV) (y1 : Int) (σ : Sg) (o : Rs) : Prop := Gd 302 45 [(some (.inr (.inr (some 682)))), (some (.inl x1)), (some (.inl x2)), d3] [(.inl y1), (.inr (.inr (some 682)))] σ 0 0 o
theorem b302_20 {x1 : Int} {x2 : Int} {d3 : Option AV} {σ : Sg} {o : Rs}   (h : C302_21 x1 x2 d3 0 σ o) : C302_20 x1 x2 d3 σ o := by
  show Gd 302 20 [(some (.inr (.inr (some 682)))), (some (.inl x1)), (some (.inl x2)), d3] [] σ 0 0 o
  refine g_iconst 21 (show op 302 20 = some (.iconst 0, 1) by decide +kernel) rfl rfl ?_
  exact h
theorem b302_21 {x1 : Int} {x2 : Int} {d3 : Option AV} {y0 : Int} {σ : Sg} {o : Rs}   (h : (if y0 = 0 then C302_45 x1 x2 (some (.inl y0)) 1 σ o else (∃ (v2 : Int) (s1 : Sg), Dd 290 [(.inr (.inr (some 682))), (.inl x1), (.inl x2)] σ (.inl (some (.inl v2)), s1) ∧ C302_45 x1 x2 (some (.inl y0)) (if v2 = 0 then 2 else 0) s1 o))) : C302_21 x1 x2 d3 y0 σ o := by
  show Gd 302 21 [(some (.inr (.inr (some 682)))), (some (.inl x1)), (some (.inl x2)), d3] [(.inl y0)] σ 0 0 o
  refine g_istore_n 22 [(some (.inr (.inr (some 682)))), (some (.inl x1)), (some (.inl x2)), (some (.inl y0))] (show op 302 21 = some (.istore_n 3, 1) by decide +kernel) rfl rfl rfl ?_
  refine g_aload_n 23 (show op 302 22 = some (.aload_n 0, 1) by decide +kernel) rfl rfl ?_
  refine g_iload_n 24 (show op 302 23 = some (.iload_n 3, 1) by decide +kernel) rfl rfl ?_
  by_cases hc4 : y0 = 0
  · rw [if_pos hc4] at h
    refine g_ifF 27 31 (show op 302 24 = some (.ifCond .ne 7, 3) by decide +kernel) rfl rfl (decide_eq_false (fun h9 => h9 hc4)) ?_
    refine g_iconst 28 (show op 302 27 = some (.iconst 1, 1) by decide +kernel) rfl rfl ?_
    refine g_goto 45 (show op 302 28 = some (.goto 17, 3) by decide +kernel) rfl ?_
    exact h
  · rw [if_neg hc4] at h
    refine g_ifT 31 (show op 302 24 = some (.ifCond .ne 7, 3) by decide +kernel) rfl (decide_eq_true hc4) ?_
    refine g_aload_n 32 (show op 302 31 = some (.aload_n 0, 1) by decide +kernel) rfl rfl ?_
    refine g_iload_n 33 (show op 302 32 = some (.iload_n 1, 1) by decide +kernel) rfl rfl ?_
    refine g_iload_n 34 (show op 302 33 = some (.iload_n 2, 1) by decide +kernel) rfl rfl ?_
    obtain ⟨v2, s1, hD3, h⟩ := h
    refine g_call 37 [(.inl v2), (.inr (.inr (some 682)))] (show op 302 34 = some (.invokevirtual 296, 3) by decide +kernel) (call_vi' (k' := 0) (n' := 0) (nj := 3) (j := 290) (k9 := 21) (t := [(.inr (.inr (some 682)))]) (as := [(.inr (.inr (some 682))), (.inl x1), (.inl x2)]) (by decide +kernel) rfl (by decide +kernel) rfl rfl rfl rfl rfl rfl (by decide +kernel) (by decide +kernel)) hD3 rfl ?_
    by_cases hc5 : v2 = 0
    · refine g_ifT 44 (show op 302 37 = some (.ifCond .eq 7, 3) by decide +kernel) rfl (decide_eq_true hc5) ?_
      refine g_iconst 45 (show op 302 44 = some (.iconst 2, 1) by decide +kernel) rfl rfl ?_
      have h9 := h; simp only [if_pos hc5] at h9; exact h9
    · refine g_ifF 40 44 (show op 302 37 = some (.ifCond .eq 7, 3) by decide +kernel) rfl rfl (decide_eq_false hc5) ?_
      refine g_iconst 41 (show op 302 40 = some (.iconst 0, 1) by decide +kernel) rfl rfl ?_
      refine g_goto 45 (show op 302 41 = some (.goto 4, 3) by decide +kernel) rfl ?_
      have h9 := h; simp only [if_neg hc5] at h9; exact h9
theorem b302_45 {x1 : Int} {x2 : Int} {d3 : Option AV} {y1 : Int} {σ : Sg} {o : Rs}   (h : (∃ (v2 : Int) (s1 : Sg), Dd 245 [(.inr (.inr (some 682))), (.inl y1)] σ (.inl (some (.inl v2)), s1) ∧ (if v2 = 0 then o = (.inl (some (.inl 0)), s1) else (∃ (v5 : Int) (s4 : Sg), Dd 292 [(.inr (.inr (some 682))), (.inl x1), (.inl x2)] s1 (.inl (some (.inl v5)), s4) ∧ o = (.inl (some (.inl (if v5 = 0 then 0 else 1))), s4))))) : C302_45 x1 x2 d3 y1 σ o := by
  show Gd 302 45 [(some (.inr (.inr (some 682)))), (some (.inl x1)), (some (.inl x2)), d3] [(.inl y1), (.inr (.inr (some 682)))] σ 0 0 o
  obtain ⟨v2, s1, hD3, h⟩ := h
  refine g_call 48 [(.inl v2)] (show op 302 45 = some (.invokevirtual 172, 3) by decide +kernel) (call_vi' (k' := 0) (n' := 0) (nj := 2) (j := 245) (k9 := 21) (t := []) (as := [(.inr (.inr (some 682))), (.inl y1)]) (by decide +kernel) rfl (by decide +kernel) rfl rfl rfl rfl rfl rfl (by decide +kernel) (by decide +kernel)) hD3 rfl ?_
  by_cases hc7 : v2 = 0
  · rw [if_pos hc7] at h
    refine g_ifT 64 (show op 302 48 = some (.ifCond .eq 16, 3) by decide +kernel) rfl (decide_eq_true hc7) ?_
    refine g_iconst 65 (show op 302 64 = some (.iconst 0, 1) by decide +kernel) rfl rfl ?_
    exact (g_zret (show op 302 65 = some (.ireturn, 1) by decide +kernel) (by decide +kernel) (by decide) h)
  · rw [if_neg hc7] at h
    refine g_ifF 51 64 (show op 302 48 = some (.ifCond .eq 16, 3) by decide +kernel) rfl rfl (decide_eq_false hc7) ?_
    refine g_aload_n 52 (show op 302 51 = some (.aload_n 0, 1) by decide +kernel) rfl rfl ?_
    refine g_iload_n 53 (show op 302 52 = some (.iload_n 1, 1) by decide +kernel) rfl rfl ?_
    refine g_iload_n 54 (show op 302 53 = some (.iload_n 2, 1) by decide +kernel) rfl rfl ?_
    obtain ⟨v5, s4, hD6, h⟩ := h
    refine g_call 57 [(.inl v5)] (show op 302 54 = some (.invokevirtual 303, 3) by decide +kernel) (call_vi' (k' := 0) (n' := 0) (nj := 3) (j := 292) (k9 := 21) (t := []) (as := [(.inr (.inr (some 682))), (.inl x1), (.inl x2)]) (by decide +kernel) rfl (by decide +kernel) rfl rfl rfl rfl rfl rfl (by decide +kernel) (by decide +kernel)) hD6 rfl ?_
    by_cases hc8 : v5 = 0
    · refine g_ifT 64 (show op 302 57 = some (.ifCond .eq 7, 3) by decide +kernel) rfl (decide_eq_true hc8) ?_
      refine g_iconst 65 (show op 302 64 = some (.iconst 0, 1) by decide +kernel) rfl rfl ?_
      have h9 := h; simp only [if_pos hc8] at h9; exact (g_zret (show op 302 65 = some (.ireturn, 1) by decide +kernel) (by decide +kernel) (by decide) h9)
    · refine g_ifF 60 64 (show op 302 57 = some (.ifCond .eq 7, 3) by decide +kernel) rfl rfl (decide_eq_false hc8) ?_
      refine g_iconst 61 (show op 302 60 = some (.iconst 1, 1) by decide +kernel) rfl rfl ?_
      refine g_goto 65 (show op 302 61 = some (.goto 4, 3) by decide +kernel) rfl ?_
      have h9 := h; simp only [if_neg hc8] at h9; exact (g_zret (show op 302 65 = some (.ireturn, 1) by decide +kernel) (by decide +kernel) (by decide) h9)
/-- PatchBenchModel.depends (II)Z -/
theorem b302 {x1 : Int} {x2 : Int} {σ : Sg} {o : Rs}   (h : (∃ (v2 : Int) (s1 : Sg), Dd 248 [(.inr (.inr (some 682))), (.inl x1)] σ (.inl (some (.inl v2)), s1) ∧ (if v2 = 0 then C302_20 x1 x2 none s1 o else (∃ (v5 : Int) (s4 : Sg), Dd 248 [(.inr (.inr (some 682))), (.inl x2)] s1 (.inl (some (.inl v5)), s4) ∧ (if v5 = 0 then C302_20 x1 x2 none s4 o else C302_21 x1 x2 none 1 s4 o))))) : Dd 302 [(.inr (.inr (some 682))), (.inl x1), (.inl x2)] σ o := by
  refine Dd_of (l := 4) (by decide +kernel) ?_
  show Gd 302 0 [(some (.inr (.inr (some 682)))), (some (.inl x1)), (some (.inl x2)), none] [] σ 0 0 o
  refine g_aload_n 1 (show op 302 0 = some (.aload_n 0, 1) by decide +kernel) rfl rfl ?_
  refine g_iload_n 2 (show op 302 1 = some (.iload_n 1, 1) by decide +kernel) rfl rfl ?_
  obtain ⟨v2, s1, hD3, h⟩ := h
  refine g_call 5 [(.inl v2)] (show op 302 2 = some (.invokevirtual 290, 3) by decide +kernel) (call_vi' (k' := 0) (n' := 0) (nj := 2) (j := 248) (k9 := 21) (t := []) (as := [(.inr (.inr (some 682))), (.inl x1)]) (by decide +kernel) rfl (by decide +kernel) rfl rfl rfl rfl rfl rfl (by decide +kernel) (by decide +kernel)) hD3 rfl ?_
  by_cases hc7 : v2 = 0
  · rw [if_pos hc7] at h
    refine g_ifT 20 (show op 302 5 = some (.ifCond .eq 15, 3) by decide +kernel) rfl (decide_eq_true hc7) ?_
    exact h
  · rw [if_neg hc7] at h
    refine g_ifF 8 20 (show op 302 5 = some (.ifCond .eq 15, 3) by decide +kernel) rfl rfl (decide_eq_false hc7) ?_
    refine g_aload_n 9 (show op 302 8 = some (.aload_n 0, 1) by decide +kernel) rfl rfl ?_
    refine g_iload_n 10 (show op 302 9 = some (.iload_n 2, 1) by decide +kernel) rfl rfl ?_
    obtain ⟨v5, s4, hD6, h⟩ := h
    refine g_call 13 [(.inl v5)] (show op 302 10 = some (.invokevirtual 290, 3) by decide +kernel) (call_vi' (k' := 0) (n' := 0) (nj := 2) (j := 248) (k9 := 21) (t := []) (as := [(.inr (.inr (some 682))), (.inl x2)]) (by decide +kernel) rfl (by decide +kernel) rfl rfl rfl rfl rfl rfl (by decide +kernel) (by decide +kernel)) hD6 rfl ?_
    by_cases hc8 : v5 = 0
    · rw [if_pos hc8] at h
      refine g_ifT 20 (show op 302 13 = some (.ifCond .eq 7, 3) by decide +kernel) rfl (decide_eq_true hc8) ?_
      exact h
    · rw [if_neg hc8] at h
      refine g_ifF 16 20 (show op 302 13 = some (.ifCond .eq 7, 3) by decide +kernel) rfl rfl (decide_eq_false hc8) ?_
      refine g_iconst 17 (show op 302 16 = some (.iconst 1, 1) by decide +kernel) rfl rfl ?_
      refine g_goto 21 (show op 302 17 = some (.goto 4, 3) by decide +kernel) rfl ?_
      exact h
def C303_20 (x1 : Int) (x2 : Int) (x3 : Int) (d4 : Option AV) (d5 : Option AV) (σ : Sg) (o : Rs) : Prop := Gd 303 20 [(some (.inr (.inr (some 682)))), (some (.inl x1)), (some (.inl x2)), (some (.inl x3)), d4, d5] [] σ 0 0 o
def C303_21 (x1 : Int) (x2 : Int) (x3 : Int) (d4 : Option AV) (d5 : Option AV) (y0 : Int) (σ : Sg) (o : Rs) : Prop := Gd 303 21 [(some (.inr (.inr (some 682)))), (some (.inl x1)), (some (.inl x2)), (some (.inl x3)), d4, d5] [(.inl y0)] σ 0 0 o
def C303_50 (x1 : Int) (x2 : Int) (x3 : Int) (x4 : Int) (d5 : Option AV) (σ : Sg) (o : Rs) : Prop := Gd 303 50 [(some (.inr (.inr (some 682)))), (some (.inl x1)), (some (.inl x2)), (some (.inl x3)), (some (.inl x4)), d5] [] σ 0 0 o
def C303_51 (x1 : Int) (x2 : Int) (x3 : Int) (x4 : Int) (d5 : Option AV) (y0 : Int) (σ : Sg) (o : Rs) : Prop := Gd 303 51 [(some (.inr (.inr (some 682)))), (some (.inl x1)), (some (.inl x2)), (some (.inl x3)), (some (.inl x4)), d5] [(.inl y0)] σ 0 0 o
def C303_68 (d1 : Option AV) (d2 : Option AV) (x3 : Int) (x4 : Int) (x5 : Int) (σ : Sg) (o : Rs) : Prop := Gd 303 68 [(some (.inr (.inr (some 682)))), d1, d2, (some (.inl x3)), (some (.inl x4)), (some (.inl x5))] [] σ 0 0 o
def C303_109 (d1 : Option AV) (d2 : Option AV) (x3 : Int) (d4 : Option AV) (d5 : Option AV) (y1 : Int) (σ : Sg) (o : Rs) : Prop := Gd 303 109 [(some (.inr (.inr (some 682)))), d1, d2, (some (.inl x3)), d4, d5] [(.inl y1), (.inr (.inr (some 682)))] σ 0 0 o
def C303_104 (d1 : Option AV) (d2 : Option AV) (x3 : Int) (d4 : Option AV) (d5 : Option AV) (σ : Sg) (o : Rs) : Prop := Gd 303 104 [(some (.inr (.inr (some 682)))), d1, d2, (some (.inl x3)), d4, d5] [(.inr (.inr (some 682)))] σ 0 0 o
def C303_129 (d0 : Option AV) (d1 : Option AV) (d2 : Option AV) (d3 : Option AV) (d4 : Option AV) (d5 : Option AV) (y1 : Int) (σ : Sg) (o : Rs) : Prop := Gd 303 129 [d0, d1, d2, d3, d4, d5] [(.inl y1), (.inr (.inr (some 682)))] σ 0 0 o
theorem b303_20 {x1 : Int} {x2 : Int} {x3 : Int} {d4 : Option AV} {d5 : Option AV} {σ : Sg} {o : Rs}   (h : C303_21 x1 x2 x3 d4 d5 0 σ o) : C303_20 x1 x2 x3 d4 d5 σ o := by
  show Gd 303 20 [(some (.inr (.inr (some 682)))), (some (.inl x1)), (some (.inl x2)), (some (.inl x3)), d4, d5] [] σ 0 0 o
  refine g_iconst 21 (show op 303 20 = some (.iconst 0, 1) by decide +kernel) rfl rfl ?_
  exact h
theorem b303_21 {x1 : Int} {x2 : Int} {x3 : Int} {d4 : Option AV} {d5 : Option AV} {y0 : Int} {σ : Sg} {o : Rs}   (h : (if y0 = 0 then C303_50 x1 x2 x3 y0 d5 σ o else (∃ (v2 : Int) (s1 : Sg), Dd 290 [(.inr (.inr (some 682))), (.inl x1), (.inl x2)] σ (.inl (some (.inl v2)), s1) ∧ (if v2 = 0 then C303_50 x1 x2 x3 y0 d5 s1 o else (∃ (v5 : Int) (s4 : Sg), Dd 292 [(.inr (.inr (some 682))), (.inl x1), (.inl x2)] s1 (.inl (some (.inl v5)), s4) ∧ (if v5 = 0 then C303_51 x1 x2 x3 y0 d5 1 s4 o else C303_50 x1 x2 x3 y0 d5 s4 o)))))) : C303_21 x1 x2 x3 d4 d5 y0 σ o := by
  show Gd 303 21 [(some (.inr (.inr (some 682)))), (some (.inl x1)), (some (.inl x2)), (some (.inl x3)), d4, d5] [(.inl y0)] σ 0 0 o
  refine g_istore 23 [(some (.inr (.inr (some 682)))), (some (.inl x1)), (some (.inl x2)), (some (.inl x3)), (some (.inl y0)), d5] (show op 303 21 = some (.istore 4, 2) by decide +kernel) rfl rfl rfl ?_
  refine g_iload 25 (show op 303 23 = some (.iload 4, 2) by decide +kernel) rfl rfl ?_
  by_cases hc7 : y0 = 0
  · rw [if_pos hc7] at h
    refine g_ifT 50 (show op 303 25 = some (.ifCond .eq 25, 3) by decide +kernel) rfl (decide_eq_true hc7) ?_
    exact h
  · rw [if_neg hc7] at h
    refine g_ifF 28 50 (show op 303 25 = some (.ifCond .eq 25, 3) by decide +kernel) rfl rfl (decide_eq_false hc7) ?_
    refine g_aload_n 29 (show op 303 28 = some (.aload_n 0, 1) by decide +kernel) rfl rfl ?_
    refine g_iload_n 30 (show op 303 29 = some (.iload_n 1, 1) by decide +kernel) rfl rfl ?_
    refine g_iload_n 31 (show op 303 30 = some (.iload_n 2, 1) by decide +kernel) rfl rfl ?_
    obtain ⟨v2, s1, hD3, h⟩ := h
    refine g_call 34 [(.inl v2)] (show op 303 31 = some (.invokevirtual 296, 3) by decide +kernel) (call_vi' (k' := 0) (n' := 0) (nj := 3) (j := 290) (k9 := 21) (t := []) (as := [(.inr (.inr (some 682))), (.inl x1), (.inl x2)]) (by decide +kernel) rfl (by decide +kernel) rfl rfl rfl rfl rfl rfl (by decide +kernel) (by decide +kernel)) hD3 rfl ?_
    by_cases hc8 : v2 = 0
    · rw [if_pos hc8] at h
      refine g_ifT 50 (show op 303 34 = some (.ifCond .eq 16, 3) by decide +kernel) rfl (decide_eq_true hc8) ?_
      exact h
    · rw [if_neg hc8] at h
      refine g_ifF 37 50 (show op 303 34 = some (.ifCond .eq 16, 3) by decide +kernel) rfl rfl (decide_eq_false hc8) ?_
      refine g_aload_n 38 (show op 303 37 = some (.aload_n 0, 1) by decide +kernel) rfl rfl ?_
      refine g_iload_n 39 (show op 303 38 = some (.iload_n 1, 1) by decide +kernel) rfl rfl ?_
      refine g_iload_n 40 (show op 303 39 = some (.iload_n 2, 1) by decide +kernel) rfl rfl ?_
      obtain ⟨v5, s4, hD6, h⟩ := h
      refine g_call 43 [(.inl v5)] (show op 303 40 = some (.invokevirtual 303, 3) by decide +kernel) (call_vi' (k' := 0) (n' := 0) (nj := 3) (j := 292) (k9 := 21) (t := []) (as := [(.inr (.inr (some 682))), (.inl x1), (.inl x2)]) (by decide +kernel) rfl (by decide +kernel) rfl rfl rfl rfl rfl rfl (by decide +kernel) (by decide +kernel)) hD6 rfl ?_
      by_cases hc9 : v5 = 0
      · rw [if_pos hc9] at h
        refine g_ifF 46 50 (show op 303 43 = some (.ifCond .ne 7, 3) by decide +kernel) rfl rfl (decide_eq_false (fun h9 => h9 hc9)) ?_
        refine g_iconst 47 (show op 303 46 = some (.iconst 1, 1) by decide +kernel) rfl rfl ?_
        refine g_goto 51 (show op 303 47 = some (.goto 4, 3) by decide +kernel) rfl ?_
        exact h
      · rw [if_neg hc9] at h
        refine g_ifT 50 (show op 303 43 = some (.ifCond .ne 7, 3) by decide +kernel) rfl (decide_eq_true hc9) ?_
        exact h
theorem b303_50 {x1 : Int} {x2 : Int} {x3 : Int} {x4 : Int} {d5 : Option AV} {σ : Sg} {o : Rs}   (h : C303_51 x1 x2 x3 x4 d5 0 σ o) : C303_50 x1 x2 x3 x4 d5 σ o := by
  show Gd 303 50 [(some (.inr (.inr (some 682)))), (some (.inl x1)), (some (.inl x2)), (some (.inl x3)), (some (.inl x4)), d5] [] σ 0 0 o
  refine g_iconst 51 (show op 303 50 = some (.iconst 0, 1) by decide +kernel) rfl rfl ?_
  exact h
theorem b303_51 {x1 : Int} {x2 : Int} {x3 : Int} {x4 : Int} {d5 : Option AV} {y0 : Int} {σ : Sg} {o : Rs}   (h : (if y0 = 0 then C303_68 (some (.inl x1)) (some (.inl x2)) x3 x4 y0 σ o else (∃ (s1 : Sg), Dd 297 [(.inr (.inr (some 682))), (.inl x1), (.inl x2), (.inl 39), (.inl 40)] σ (.inl none, s1) ∧ C303_68 (some (.inl x1)) (some (.inl x2)) x3 x4 y0 s1 o))) : C303_51 x1 x2 x3 x4 d5 y0 σ o := by
  show Gd 303 51 [(some (.inr (.inr (some 682)))), (some (.inl x1)), (some (.inl x2)), (some (.inl x3)), (some (.inl x4)), d5] [(.inl y0)] σ 0 0 o
  refine g_istore 53 [(some (.inr (.inr (some 682)))), (some (.inl x1)), (some (.inl x2)), (some (.inl x3)), (some (.inl x4)), (some (.inl y0))] (show op 303 51 = some (.istore 5, 2) by decide +kernel) rfl rfl rfl ?_
  refine g_iload 55 (show op 303 53 = some (.iload 5, 2) by decide +kernel) rfl rfl ?_
  by_cases hc3 : y0 = 0
  · rw [if_pos hc3] at h
    refine g_ifT 68 (show op 303 55 = some (.ifCond .eq 13, 3) by decide +kernel) rfl (decide_eq_true hc3) ?_
    exact h
  · rw [if_neg hc3] at h
    refine g_ifF 58 68 (show op 303 55 = some (.ifCond .eq 13, 3) by decide +kernel) rfl rfl (decide_eq_false hc3) ?_
    refine g_aload_n 59 (show op 303 58 = some (.aload_n 0, 1) by decide +kernel) rfl rfl ?_
    refine g_iload_n 60 (show op 303 59 = some (.iload_n 1, 1) by decide +kernel) rfl rfl ?_
    refine g_iload_n 61 (show op 303 60 = some (.iload_n 2, 1) by decide +kernel) rfl rfl ?_
    refine g_bipush 63 (show op 303 61 = some (.bipush 39, 2) by decide +kernel) rfl (by decide) ?_
    refine g_bipush 65 (show op 303 63 = some (.bipush 40, 2) by decide +kernel) rfl (by decide) ?_
    obtain ⟨s1, hD2, h⟩ := h
    refine g_call 68 [] (show op 303 65 = some (.invokevirtual 306, 3) by decide +kernel) (call_vi' (k' := 0) (n' := 0) (nj := 5) (j := 297) (k9 := 21) (t := []) (as := [(.inr (.inr (some 682))), (.inl x1), (.inl x2), (.inl 39), (.inl 40)]) (by decide +kernel) rfl (by decide +kernel) rfl rfl rfl rfl rfl rfl (by decide +kernel) (by decide +kernel)) hD2 rfl ?_
    exact h
theorem b303_68 {d1 : Option AV} {d2 : Option AV} {x3 : Int} {x4 : Int} {x5 : Int} {σ : Sg} {o : Rs}   (h : (if x4 = 0 then C303_109 d1 d2 x3 (some (.inl x4)) (some (.inl x5)) 1 σ o else (if x5 = 0 then C303_104 d1 d2 x3 (some (.inl x4)) (some (.inl x5)) σ o else (if (σ 689 (39 : Int).toNat) ≤ 16 then (if (σ 682 3) = 24 then C303_104 d1 d2 x3 (some (.inl x4)) (some (.inl x5)) σ o else C303_109 d1 d2 x3 (some (.inl x4)) (some (.inl x5)) 0 σ o) else C303_104 d1 d2 x3 (some (.inl x4)) (some (.inl x5)) σ o)))) : C303_68 d1 d2 x3 x4 x5 σ o := by
  show Gd 303 68 [(some (.inr (.inr (some 682)))), d1, d2, (some (.inl x3)), (some (.inl x4)), (some (.inl x5))] [] σ 0 0 o
  refine g_aload_n 69 (show op 303 68 = some (.aload_n 0, 1) by decide +kernel) rfl rfl ?_
  refine g_iload 71 (show op 303 69 = some (.iload 4, 2) by decide +kernel) rfl rfl ?_
  by_cases hc1 : x4 = 0
  · rw [if_pos hc1] at h
    refine g_ifF 74 78 (show op 303 71 = some (.ifCond .ne 7, 3) by decide +kernel) rfl rfl (decide_eq_false (fun h9 => h9 hc1)) ?_
    refine g_iconst 75 (show op 303 74 = some (.iconst 1, 1) by decide +kernel) rfl rfl ?_
    refine g_goto 109 (show op 303 75 = some (.goto 34, 3) by decide +kernel) rfl ?_
    exact h
  · rw [if_neg hc1] at h
    refine g_ifT 78 (show op 303 71 = some (.ifCond .ne 7, 3) by decide +kernel) rfl (decide_eq_true hc1) ?_
    refine g_iload 80 (show op 303 78 = some (.iload 5, 2) by decide +kernel) rfl rfl ?_
    by_cases hc2 : x5 = 0
    · rw [if_pos hc2] at h
      refine g_ifT 104 (show op 303 80 = some (.ifCond .eq 24, 3) by decide +kernel) rfl (decide_eq_true hc2) ?_
      exact h
    · rw [if_neg hc2] at h
      refine g_ifF 83 104 (show op 303 80 = some (.ifCond .eq 24, 3) by decide +kernel) rfl rfl (decide_eq_false hc2) ?_
      refine g_aload_n 84 (show op 303 83 = some (.aload_n 0, 1) by decide +kernel) rfl rfl ?_
      refine g_getR (ci := 11) (f := 8) (fin := true) (isR := true) 87 689 (show op 303 84 = some (.getfield 28, 3) by decide +kernel) rfl (by decide +kernel) (by decide +kernel) ?_
      refine g_bipush 89 (show op 303 87 = some (.bipush 39, 2) by decide +kernel) rfl (by decide) ?_
      refine g_iaload 90 44 (show op 303 89 = some (.iaload, 1) by decide +kernel) rfl (by decide +kernel) (by decide) ?_
      refine g_bipush 92 (show op 303 90 = some (.bipush 16, 2) by decide +kernel) rfl (by decide) ?_
      by_cases hc3 : (σ 689 (39 : Int).toNat) ≤ 16
      · rw [if_pos hc3] at h
        refine g_icmpF 95 104 (show op 303 92 = some (.if_icmp .gt 12, 3) by decide +kernel) rfl rfl (decide_eq_false (Int.not_lt.mpr hc3)) ?_
        refine g_aload_n 96 (show op 303 95 = some (.aload_n 0, 1) by decide +kernel) rfl rfl ?_
        refine g_getI (ci := 11) (f := 3) (fin := false) (isR := false) 99 (show op 303 96 = some (.getfield 148, 3) by decide +kernel) rfl (by decide +kernel) (by decide +kernel) ?_
        refine g_bipush 101 (show op 303 99 = some (.bipush 24, 2) by decide +kernel) rfl (by decide) ?_
        by_cases hc4 : (σ 682 3) = 24
        · rw [if_pos hc4] at h
          refine g_icmpF 104 108 (show op 303 101 = some (.if_icmp .ne 7, 3) by decide +kernel) rfl rfl (decide_eq_false (fun h9 => h9 hc4)) ?_
          exact h
        · rw [if_neg hc4] at h
          refine g_icmpT 108 (show op 303 101 = some (.if_icmp .ne 7, 3) by decide +kernel) rfl (decide_eq_true hc4) ?_
          refine g_iconst 109 (show op 303 108 = some (.iconst 0, 1) by decide +kernel) rfl rfl ?_
          exact h
      · rw [if_neg hc3] at h
        refine g_icmpT 104 (show op 303 92 = some (.if_icmp .gt 12, 3) by decide +kernel) rfl (decide_eq_true (Int.not_le.mp hc3)) ?_
        exact h
theorem b303_109 {d1 : Option AV} {d2 : Option AV} {x3 : Int} {d4 : Option AV} {d5 : Option AV} {y1 : Int} {σ : Sg} {o : Rs}   (h : (∃ (v2 : Int) (s1 : Sg), Dd 245 [(.inr (.inr (some 682))), (.inl y1)] σ (.inl (some (.inl v2)), s1) ∧ (if v2 = 0 then o = (.inl (some (.inl 0)), s1) else C303_129 (some (.inr (.inr (some 682)))) d1 d2 (some (.inl x3)) d4 d5 (if x3 = 0 then 40 else 39) s1 o))) : C303_109 d1 d2 x3 d4 d5 y1 σ o := by
  show Gd 303 109 [(some (.inr (.inr (some 682)))), d1, d2, (some (.inl x3)), d4, d5] [(.inl y1), (.inr (.inr (some 682)))] σ 0 0 o
  obtain ⟨v2, s1, hD3, h⟩ := h
  refine g_call 112 [(.inl v2)] (show op 303 109 = some (.invokevirtual 172, 3) by decide +kernel) (call_vi' (k' := 0) (n' := 0) (nj := 2) (j := 245) (k9 := 21) (t := []) (as := [(.inr (.inr (some 682))), (.inl y1)]) (by decide +kernel) rfl (by decide +kernel) rfl rfl rfl rfl rfl rfl (by decide +kernel) (by decide +kernel)) hD3 rfl ?_
  by_cases hc4 : v2 = 0
  · rw [if_pos hc4] at h
    refine g_ifF 115 117 (show op 303 112 = some (.ifCond .ne 5, 3) by decide +kernel) rfl rfl (decide_eq_false (fun h9 => h9 hc4)) ?_
    refine g_iconst 116 (show op 303 115 = some (.iconst 0, 1) by decide +kernel) rfl rfl ?_
    exact (g_iret (show op 303 116 = some (.ireturn, 1) by decide +kernel) (by decide +kernel) h)
  · rw [if_neg hc4] at h
    refine g_ifT 117 (show op 303 112 = some (.ifCond .ne 5, 3) by decide +kernel) rfl (decide_eq_true hc4) ?_
    refine g_aload_n 118 (show op 303 117 = some (.aload_n 0, 1) by decide +kernel) rfl rfl ?_
    refine g_iload_n 119 (show op 303 118 = some (.iload_n 3, 1) by decide +kernel) rfl rfl ?_
    by_cases hc5 : x3 = 0
    · refine g_ifT 127 (show op 303 119 = some (.ifCond .eq 8, 3) by decide +kernel) rfl (decide_eq_true hc5) ?_
      refine g_bipush 129 (show op 303 127 = some (.bipush 40, 2) by decide +kernel) rfl (by decide) ?_
      have h9 := h; simp only [if_pos hc5] at h9; exact h9
    · refine g_ifF 122 127 (show op 303 119 = some (.ifCond .eq 8, 3) by decide +kernel) rfl rfl (decide_eq_false hc5) ?_
      refine g_bipush 124 (show op 303 122 = some (.bipush 39, 2) by decide +kernel) rfl (by decide) ?_
      refine g_goto 129 (show op 303 124 = some (.goto 5, 3) by decide +kernel) rfl ?_
      have h9 := h; simp only [if_neg hc5] at h9; exact h9
theorem b303_104 {d1 : Option AV} {d2 : Option AV} {x3 : Int} {d4 : Option AV} {d5 : Option AV} {σ : Sg} {o : Rs}   (h : C303_109 d1 d2 x3 d4 d5 2 σ o) : C303_104 d1 d2 x3 d4 d5 σ o := by
  show Gd 303 104 [(some (.inr (.inr (some 682)))), d1, d2, (some (.inl x3)), d4, d5] [(.inr (.inr (some 682)))] σ 0 0 o
  refine g_iconst 105 (show op 303 104 = some (.iconst 2, 1) by decide +kernel) rfl rfl ?_
  refine g_goto 109 (show op 303 105 = some (.goto 4, 3) by decide +kernel) rfl ?_
  exact h
theorem b303_129 {d0 : Option AV} {d1 : Option AV} {d2 : Option AV} {d3 : Option AV} {d4 : Option AV} {d5 : Option AV} {y1 : Int} {σ : Sg} {o : Rs}   (h : (∃ (v2 : Int) (s1 : Sg), Dd 289 [(.inr (.inr (some 682))), (.inl y1)] σ (.inl (some (.inl v2)), s1) ∧ o = (.inl (some (.inl v2)), s1))) : C303_129 d0 d1 d2 d3 d4 d5 y1 σ o := by
  show Gd 303 129 [d0, d1, d2, d3, d4, d5] [(.inl y1), (.inr (.inr (some 682)))] σ 0 0 o
  obtain ⟨v2, s1, hD3, h⟩ := h
  refine g_call 132 [(.inl v2)] (show op 303 129 = some (.invokevirtual 309, 3) by decide +kernel) (call_vi' (k' := 0) (n' := 0) (nj := 2) (j := 289) (k9 := 21) (t := []) (as := [(.inr (.inr (some 682))), (.inl y1)]) (by decide +kernel) rfl (by decide +kernel) rfl rfl rfl rfl rfl rfl (by decide +kernel) (by decide +kernel)) hD3 rfl ?_
  exact (g_iret (show op 303 132 = some (.ireturn, 1) by decide +kernel) (by decide +kernel) h)
/-- PatchBenchModel.past (IIZ)I -/
theorem b303 {x1 : Int} {x2 : Int} {x3 : Int} {σ : Sg} {o : Rs}   (h : (∃ (v2 : Int) (s1 : Sg), Dd 248 [(.inr (.inr (some 682))), (.inl x1)] σ (.inl (some (.inl v2)), s1) ∧ (if v2 = 0 then C303_20 x1 x2 x3 none none s1 o else (∃ (v5 : Int) (s4 : Sg), Dd 248 [(.inr (.inr (some 682))), (.inl x2)] s1 (.inl (some (.inl v5)), s4) ∧ (if v5 = 0 then C303_20 x1 x2 x3 none none s4 o else C303_21 x1 x2 x3 none none 1 s4 o))))) : Dd 303 [(.inr (.inr (some 682))), (.inl x1), (.inl x2), (.inl x3)] σ o := by
  refine Dd_of (l := 6) (by decide +kernel) ?_
  show Gd 303 0 [(some (.inr (.inr (some 682)))), (some (.inl x1)), (some (.inl x2)), (some (.inl x3)), none, none] [] σ 0 0 o
  refine g_aload_n 1 (show op 303 0 = some (.aload_n 0, 1) by decide +kernel) rfl rfl ?_
  refine g_iload_n 2 (show op 303 1 = some (.iload_n 1, 1) by decide +kernel) rfl rfl ?_
  obtain ⟨v2, s1, hD3, h⟩ := h
  refine g_call 5 [(.inl v2)] (show op 303 2 = some (.invokevirtual 290, 3) by decide +kernel) (call_vi' (k' := 0) (n' := 0) (nj := 2) (j := 248) (k9 := 21) (t := []) (as := [(.inr (.inr (some 682))), (.inl x1)]) (by decide +kernel) rfl (by decide +kernel) rfl rfl rfl rfl rfl rfl (by decide +kernel) (by decide +kernel)) hD3 rfl ?_
  by_cases hc7 : v2 = 0
  · rw [if_pos hc7] at h
    refine g_ifT 20 (show op 303 5 = some (.ifCond .eq 15, 3) by decide +kernel) rfl (decide_eq_true hc7) ?_
    exact h
  · rw [if_neg hc7] at h
    refine g_ifF 8 20 (show op 303 5 = some (.ifCond .eq 15, 3) by decide +kernel) rfl rfl (decide_eq_false hc7) ?_
    refine g_aload_n 9 (show op 303 8 = some (.aload_n 0, 1) by decide +kernel) rfl rfl ?_
    refine g_iload_n 10 (show op 303 9 = some (.iload_n 2, 1) by decide +kernel) rfl rfl ?_
    obtain ⟨v5, s4, hD6, h⟩ := h
    refine g_call 13 [(.inl v5)] (show op 303 10 = some (.invokevirtual 290, 3) by decide +kernel) (call_vi' (k' := 0) (n' := 0) (nj := 2) (j := 248) (k9 := 21) (t := []) (as := [(.inr (.inr (some 682))), (.inl x2)]) (by decide +kernel) rfl (by decide +kernel) rfl rfl rfl rfl rfl rfl (by decide +kernel) (by decide +kernel)) hD6 rfl ?_
    by_cases hc8 : v5 = 0
    · rw [if_pos hc8] at h
      refine g_ifT 20 (show op 303 13 = some (.ifCond .eq 7, 3) by decide +kernel) rfl (decide_eq_true hc8) ?_
      exact h
    · rw [if_neg hc8] at h
      refine g_ifF 16 20 (show op 303 13 = some (.ifCond .eq 7, 3) by decide +kernel) rfl rfl (decide_eq_false hc8) ?_
      refine g_iconst 17 (show op 303 16 = some (.iconst 1, 1) by decide +kernel) rfl rfl ?_
      refine g_goto 21 (show op 303 17 = some (.goto 4, 3) by decide +kernel) rfl ?_
      exact h
/-- PatchBenchModel.isHunk (II)Z -/
theorem b304 {x1 : Int} {x2 : Int} {σ : Sg} {o : Rs}   (h : (∃ (v2 : Int) (s1 : Sg), Dd 248 [(.inr (.inr (some 682))), (.inl x1)] σ (.inl (some (.inl v2)), s1) ∧ (if v2 = 0 then o = (.inl (some (.inl 0)), s1) else (if 0 ≤ x2 then (∃ (v5 : Int) (s4 : Sg), Dd 280 [(.inr (.inr (some 682))), (.inl x1), (.inl 0)] s1 (.inl (some (.inl v5)), s4) ∧ o = (.inl (some (.inl (if x2 < v5 then 1 else 0))), s4)) else o = (.inl (some (.inl 0)), s1))))) : Dd 304 [(.inr (.inr (some 682))), (.inl x1), (.inl x2)] σ o := by
  refine Dd_of (l := 3) (by decide +kernel) ?_
  show Gd 304 0 [(some (.inr (.inr (some 682)))), (some (.inl x1)), (some (.inl x2))] [] σ 0 0 o
  refine g_aload_n 1 (show op 304 0 = some (.aload_n 0, 1) by decide +kernel) rfl rfl ?_
  refine g_iload_n 2 (show op 304 1 = some (.iload_n 1, 1) by decide +kernel) rfl rfl ?_
  obtain ⟨v2, s1, hD3, h⟩ := h
  refine g_call 5 [(.inl v2)] (show op 304 2 = some (.invokevirtual 290, 3) by decide +kernel) (call_vi' (k' := 0) (n' := 0) (nj := 2) (j := 248) (k9 := 21) (t := []) (as := [(.inr (.inr (some 682))), (.inl x1)]) (by decide +kernel) rfl (by decide +kernel) rfl rfl rfl rfl rfl rfl (by decide +kernel) (by decide +kernel)) hD3 rfl ?_
  by_cases hc7 : v2 = 0
  · rw [if_pos hc7] at h
    refine g_ifT 26 (show op 304 5 = some (.ifCond .eq 21, 3) by decide +kernel) rfl (decide_eq_true hc7) ?_
    refine g_iconst 27 (show op 304 26 = some (.iconst 0, 1) by decide +kernel) rfl rfl ?_
    exact (g_zret (show op 304 27 = some (.ireturn, 1) by decide +kernel) (by decide +kernel) (by decide) h)
  · rw [if_neg hc7] at h
    refine g_ifF 8 26 (show op 304 5 = some (.ifCond .eq 21, 3) by decide +kernel) rfl rfl (decide_eq_false hc7) ?_
    refine g_iload_n 9 (show op 304 8 = some (.iload_n 2, 1) by decide +kernel) rfl rfl ?_
    by_cases hc8 : 0 ≤ x2
    · rw [if_pos hc8] at h
      refine g_ifF 12 26 (show op 304 9 = some (.ifCond .lt 17, 3) by decide +kernel) rfl rfl (decide_eq_false (Int.not_lt.mpr hc8)) ?_
      refine g_iload_n 13 (show op 304 12 = some (.iload_n 2, 1) by decide +kernel) rfl rfl ?_
      refine g_aload_n 14 (show op 304 13 = some (.aload_n 0, 1) by decide +kernel) rfl rfl ?_
      refine g_iload_n 15 (show op 304 14 = some (.iload_n 1, 1) by decide +kernel) rfl rfl ?_
      refine g_iconst 16 (show op 304 15 = some (.iconst 0, 1) by decide +kernel) rfl rfl ?_
      obtain ⟨v5, s4, hD6, h⟩ := h
      refine g_call 19 [(.inl v5), (.inl x2)] (show op 304 16 = some (.invokevirtual 267, 3) by decide +kernel) (call_vi' (k' := 0) (n' := 0) (nj := 3) (j := 280) (k9 := 21) (t := [(.inl x2)]) (as := [(.inr (.inr (some 682))), (.inl x1), (.inl 0)]) (by decide +kernel) rfl (by decide +kernel) rfl rfl rfl rfl rfl rfl (by decide +kernel) (by decide +kernel)) hD6 rfl ?_
      by_cases hc9 : x2 < v5
      · refine g_icmpF 22 26 (show op 304 19 = some (.if_icmp .ge 7, 3) by decide +kernel) rfl rfl (decide_eq_false (Int.not_le.mpr hc9)) ?_
        refine g_iconst 23 (show op 304 22 = some (.iconst 1, 1) by decide +kernel) rfl rfl ?_
        refine g_goto 27 (show op 304 23 = some (.goto 4, 3) by decide +kernel) rfl ?_
        have h9 := h; simp only [if_pos hc9] at h9; exact (g_zret (show op 304 27 = some (.ireturn, 1) by decide +kernel) (by decide +kernel) (by decide) h9)
      · refine g_icmpT 26 (show op 304 19 = some (.if_icmp .ge 7, 3) by decide +kernel) rfl (decide_eq_true (Int.not_lt.mp hc9)) ?_
        refine g_iconst 27 (show op 304 26 = some (.iconst 0, 1) by decide +kernel) rfl rfl ?_
        have h9 := h; simp only [if_neg hc9] at h9; exact (g_zret (show op 304 27 = some (.ireturn, 1) by decide +kernel) (by decide +kernel) (by decide) h9)
    · rw [if_neg hc8] at h
      refine g_ifT 26 (show op 304 9 = some (.ifCond .lt 17, 3) by decide +kernel) rfl (decide_eq_true (Int.not_le.mp hc8)) ?_
      refine g_iconst 27 (show op 304 26 = some (.iconst 0, 1) by decide +kernel) rfl rfl ?_
      exact (g_zret (show op 304 27 = some (.ireturn, 1) by decide +kernel) (by decide +kernel) (by decide) h)
def C305_48 (x1 : Int) (x2 : Int) (x3 : Int) (x4 : Int) (x5 : Int) (x6 : Int) (d7 : Option AV) (σ : Sg) (o : Rs) : Prop := Gd 305 48 [(some (.inr (.inr (some 682)))), (some (.inl x1)), (some (.inl x2)), (some (.inl x3)), (some (.inl x4)), (some (.inl x5)), (some (.inl x6)), d7] [] σ 0 0 o
def C305_49 (x1 : Int) (x2 : Int) (x3 : Int) (x4 : Int) (x5 : Int) (x6 : Int) (d7 : Option AV) (y0 : Int) (σ : Sg) (o : Rs) : Prop := Gd 305 49 [(some (.inr (.inr (some 682)))), (some (.inl x1)), (some (.inl x2)), (some (.inl x3)), (some (.inl x4)), (some (.inl x5)), (some (.inl x6)), d7] [(.inl y0)] σ 0 0 o
def C305_69 (d1 : Option AV) (d2 : Option AV) (d3 : Option AV) (d4 : Option AV) (x5 : Int) (x6 : Int) (x7 : Int) (σ : Sg) (o : Rs) : Prop := Gd 305 69 [(some (.inr (.inr (some 682)))), d1, d2, d3, d4, (some (.inl x5)), (some (.inl x6)), (some (.inl x7))] [] σ 0 0 o
def C305_114 (d1 : Option AV) (d2 : Option AV) (d3 : Option AV) (d4 : Option AV) (x5 : Int) (d6 : Option AV) (d7 : Option AV) (y1 : Int) (σ : Sg) (o : Rs) : Prop := Gd 305 114 [(some (.inr (.inr (some 682)))), d1, d2, d3, d4, (some (.inl x5)), d6, d7] [(.inl y1), (.inr (.inr (some 682)))] σ 0 0 o
def C305_109 (d1 : Option AV) (d2 : Option AV) (d3 : Option AV) (d4 : Option AV) (x5 : Int) (d6 : Option AV) (d7 : Option AV) (σ : Sg) (o : Rs) : Prop := Gd 305 109 [(some (.inr (.inr (some 682)))), d1, d2, d3, d4, (some (.inl x5)), d6, d7] [(.inr (.inr (some 682)))] σ 0 0 o
def C305_135 (d0 : Option AV) (d1 : Option AV) (d2 : Option AV) (d3 : Option AV) (d4 : Option AV) (d5 : Option AV) (d6 : Option AV) (d7 : Option AV) (y1 : Int) (σ : Sg) (o : Rs) : Prop := Gd 305 135 [d0, d1, d2, d3, d4, d5, d6, d7] [(.inl y1), (.inr (.inr (some 682)))] σ 0 0 o
theorem b305_48 {x1 : Int} {x2 : Int} {x3 : Int} {x4 : Int} {x5 : Int} {x6 : Int} {d7 : Option AV} {σ : Sg} {o : Rs}   (h : C305_49 x1 x2 x3 x4 x5 x6 d7 0 σ o) : C305_48 x1 x2 x3 x4 x5 x6 d7 σ o := by
  show Gd 305 48 [(some (.inr (.inr (some 682)))), (some (.inl x1)), (some (.inl x2)), (some (.inl x3)), (some (.inl x4)), (some (.inl x5)), (some (.inl x6)), d7] [] σ 0 0 o
  refine g_iconst 49 (show op 305 48 = some (.iconst 0, 1) by decide +kernel) rfl rfl ?_
  exact h
theorem b305_49 {x1 : Int} {x2 : Int} {x3 : Int} {x4 : Int} {x5 : Int} {x6 : Int} {d7 : Option AV} {y0 : Int} {σ : Sg} {o : Rs}   (h : (if y0 = 0 then C305_69 (some (.inl x1)) (some (.inl x2)) (some (.inl x3)) (some (.inl x4)) x5 x6 y0 σ o else (∃ (s1 : Sg), Dd 298 [(.inr (.inr (some 682))), (.inl x1), (.inl x2), (.inl x3), (.inl x4), (.inl 39), (.inl 40)] σ (.inl none, s1) ∧ C305_69 (some (.inl x1)) (some (.inl x2)) (some (.inl x3)) (some (.inl x4)) x5 x6 y0 s1 o))) : C305_49 x1 x2 x3 x4 x5 x6 d7 y0 σ o := by
  show Gd 305 49 [(some (.inr (.inr (some 682)))), (some (.inl x1)), (some (.inl x2)), (some (.inl x3)), (some (.inl x4)), (some (.inl x5)), (some (.inl x6)), d7] [(.inl y0)] σ 0 0 o
  refine g_istore 51 [(some (.inr (.inr (some 682)))), (some (.inl x1)), (some (.inl x2)), (some (.inl x3)), (some (.inl x4)), (some (.inl x5)), (some (.inl x6)), (some (.inl y0))] (show op 305 49 = some (.istore 7, 2) by decide +kernel) rfl rfl rfl ?_
  refine g_iload 53 (show op 305 51 = some (.iload 7, 2) by decide +kernel) rfl rfl ?_
  by_cases hc3 : y0 = 0
  · rw [if_pos hc3] at h
    refine g_ifT 69 (show op 305 53 = some (.ifCond .eq 16, 3) by decide +kernel) rfl (decide_eq_true hc3) ?_
    exact h
  · rw [if_neg hc3] at h
    refine g_ifF 56 69 (show op 305 53 = some (.ifCond .eq 16, 3) by decide +kernel) rfl rfl (decide_eq_false hc3) ?_
    refine g_aload_n 57 (show op 305 56 = some (.aload_n 0, 1) by decide +kernel) rfl rfl ?_
    refine g_iload_n 58 (show op 305 57 = some (.iload_n 1, 1) by decide +kernel) rfl rfl ?_
    refine g_iload_n 59 (show op 305 58 = some (.iload_n 2, 1) by decide +kernel) rfl rfl ?_
    refine g_iload_n 60 (show op 305 59 = some (.iload_n 3, 1) by decide +kernel) rfl rfl ?_
    refine g_iload 62 (show op 305 60 = some (.iload 4, 2) by decide +kernel) rfl rfl ?_
    refine g_bipush 64 (show op 305 62 = some (.bipush 39, 2) by decide +kernel) rfl (by decide) ?_
    refine g_bipush 66 (show op 305 64 = some (.bipush 40, 2) by decide +kernel) rfl (by decide) ?_
    obtain ⟨s1, hD2, h⟩ := h
    refine g_call 69 [] (show op 305 66 = some (.invokevirtual 315, 3) by decide +kernel) (call_vi' (k' := 0) (n' := 0) (nj := 7) (j := 298) (k9 := 21) (t := []) (as := [(.inr (.inr (some 682))), (.inl x1), (.inl x2), (.inl x3), (.inl x4), (.inl 39), (.inl 40)]) (by decide +kernel) rfl (by decide +kernel) rfl rfl rfl rfl rfl rfl (by decide +kernel) (by decide +kernel)) hD2 rfl ?_
    exact h
theorem b305_69 {d1 : Option AV} {d2 : Option AV} {d3 : Option AV} {d4 : Option AV} {x5 : Int} {x6 : Int} {x7 : Int} {σ : Sg} {o : Rs}   (h : (if x6 = 0 then C305_114 d1 d2 d3 d4 x5 (some (.inl x6)) (some (.inl x7)) 1 σ o else (if x7 = 0 then C305_114 d1 d2 d3 d4 x5 (some (.inl x6)) (some (.inl x7)) 2 σ o else (if (σ 689 (39 : Int).toNat) ≤ 16 then (if (σ 682 3) = 24 then C305_109 d1 d2 d3 d4 x5 (some (.inl x6)) (some (.inl x7)) σ o else C305_114 d1 d2 d3 d4 x5 (some (.inl x6)) (some (.inl x7)) 0 σ o) else C305_109 d1 d2 d3 d4 x5 (some (.inl x6)) (some (.inl x7)) σ o)))) : C305_69 d1 d2 d3 d4 x5 x6 x7 σ o := by
  show Gd 305 69 [(some (.inr (.inr (some 682)))), d1, d2, d3, d4, (some (.inl x5)), (some (.inl x6)), (some (.inl x7))] [] σ 0 0 o
  refine g_aload_n 70 (show op 305 69 = some (.aload_n 0, 1) by decide +kernel) rfl rfl ?_
  refine g_iload 72 (show op 305 70 = some (.iload 6, 2) by decide +kernel) rfl rfl ?_
  by_cases hc1 : x6 = 0
  · rw [if_pos hc1] at h
    refine g_ifF 75 79 (show op 305 72 = some (.ifCond .ne 7, 3) by decide +kernel) rfl rfl (decide_eq_false (fun h9 => h9 hc1)) ?_
    refine g_iconst 76 (show op 305 75 = some (.iconst 1, 1) by decide +kernel) rfl rfl ?_
    refine g_goto 114 (show op 305 76 = some (.goto 38, 3) by decide +kernel) rfl ?_
    exact h
  · rw [if_neg hc1] at h
    refine g_ifT 79 (show op 305 72 = some (.ifCond .ne 7, 3) by decide +kernel) rfl (decide_eq_true hc1) ?_
    refine g_iload 81 (show op 305 79 = some (.iload 7, 2) by decide +kernel) rfl rfl ?_
    by_cases hc2 : x7 = 0
    · rw [if_pos hc2] at h
      refine g_ifF 84 88 (show op 305 81 = some (.ifCond .ne 7, 3) by decide +kernel) rfl rfl (decide_eq_false (fun h9 => h9 hc2)) ?_
      refine g_iconst 85 (show op 305 84 = some (.iconst 2, 1) by decide +kernel) rfl rfl ?_
      refine g_goto 114 (show op 305 85 = some (.goto 29, 3) by decide +kernel) rfl ?_
      exact h
    · rw [if_neg hc2] at h
      refine g_ifT 88 (show op 305 81 = some (.ifCond .ne 7, 3) by decide +kernel) rfl (decide_eq_true hc2) ?_
      refine g_aload_n 89 (show op 305 88 = some (.aload_n 0, 1) by decide +kernel) rfl rfl ?_
      refine g_getR (ci := 11) (f := 8) (fin := true) (isR := true) 92 689 (show op 305 89 = some (.getfield 28, 3) by decide +kernel) rfl (by decide +kernel) (by decide +kernel) ?_
      refine g_bipush 94 (show op 305 92 = some (.bipush 39, 2) by decide +kernel) rfl (by decide) ?_
      refine g_iaload 95 44 (show op 305 94 = some (.iaload, 1) by decide +kernel) rfl (by decide +kernel) (by decide) ?_
      refine g_bipush 97 (show op 305 95 = some (.bipush 16, 2) by decide +kernel) rfl (by decide) ?_
      by_cases hc3 : (σ 689 (39 : Int).toNat) ≤ 16
      · rw [if_pos hc3] at h
        refine g_icmpF 100 109 (show op 305 97 = some (.if_icmp .gt 12, 3) by decide +kernel) rfl rfl (decide_eq_false (Int.not_lt.mpr hc3)) ?_
        refine g_aload_n 101 (show op 305 100 = some (.aload_n 0, 1) by decide +kernel) rfl rfl ?_
        refine g_getI (ci := 11) (f := 3) (fin := false) (isR := false) 104 (show op 305 101 = some (.getfield 148, 3) by decide +kernel) rfl (by decide +kernel) (by decide +kernel) ?_
        refine g_bipush 106 (show op 305 104 = some (.bipush 24, 2) by decide +kernel) rfl (by decide) ?_
        by_cases hc4 : (σ 682 3) = 24
        · rw [if_pos hc4] at h
          refine g_icmpF 109 113 (show op 305 106 = some (.if_icmp .ne 7, 3) by decide +kernel) rfl rfl (decide_eq_false (fun h9 => h9 hc4)) ?_
          exact h
        · rw [if_neg hc4] at h
          refine g_icmpT 113 (show op 305 106 = some (.if_icmp .ne 7, 3) by decide +kernel) rfl (decide_eq_true hc4) ?_
          refine g_iconst 114 (show op 305 113 = some (.iconst 0, 1) by decide +kernel) rfl rfl ?_
          exact h
      · rw [if_neg hc3] at h
        refine g_icmpT 109 (show op 305 97 = some (.if_icmp .gt 12, 3) by decide +kernel) rfl (decide_eq_true (Int.not_le.mp hc3)) ?_
        exact h
theorem b305_114 {d1 : Option AV} {d2 : Option AV} {d3 : Option AV} {d4 : Option AV} {x5 : Int} {d6 : Option AV} {d7 : Option AV} {y1 : Int} {σ : Sg} {o : Rs}   (h : (∃ (v2 : Int) (s1 : Sg), Dd 245 [(.inr (.inr (some 682))), (.inl y1)] σ (.inl (some (.inl v2)), s1) ∧ (if v2 = 0 then o = (.inl (some (.inl 0)), s1) else C305_135 (some (.inr (.inr (some 682)))) d1 d2 d3 d4 (some (.inl x5)) d6 d7 (if x5 = 0 then 40 else 39) s1 o))) : C305_114 d1 d2 d3 d4 x5 d6 d7 y1 σ o := by
  show Gd 305 114 [(some (.inr (.inr (some 682)))), d1, d2, d3, d4, (some (.inl x5)), d6, d7] [(.inl y1), (.inr (.inr (some 682)))] σ 0 0 o
  obtain ⟨v2, s1, hD3, h⟩ := h
  refine g_call 117 [(.inl v2)] (show op 305 114 = some (.invokevirtual 172, 3) by decide +kernel) (call_vi' (k' := 0) (n' := 0) (nj := 2) (j := 245) (k9 := 21) (t := []) (as := [(.inr (.inr (some 682))), (.inl y1)]) (by decide +kernel) rfl (by decide +kernel) rfl rfl rfl rfl rfl rfl (by decide +kernel) (by decide +kernel)) hD3 rfl ?_
  by_cases hc4 : v2 = 0
  · rw [if_pos hc4] at h
    refine g_ifF 120 122 (show op 305 117 = some (.ifCond .ne 5, 3) by decide +kernel) rfl rfl (decide_eq_false (fun h9 => h9 hc4)) ?_
    refine g_iconst 121 (show op 305 120 = some (.iconst 0, 1) by decide +kernel) rfl rfl ?_
    exact (g_iret (show op 305 121 = some (.ireturn, 1) by decide +kernel) (by decide +kernel) h)
  · rw [if_neg hc4] at h
    refine g_ifT 122 (show op 305 117 = some (.ifCond .ne 5, 3) by decide +kernel) rfl (decide_eq_true hc4) ?_
    refine g_aload_n 123 (show op 305 122 = some (.aload_n 0, 1) by decide +kernel) rfl rfl ?_
    refine g_iload 125 (show op 305 123 = some (.iload 5, 2) by decide +kernel) rfl rfl ?_
    by_cases hc5 : x5 = 0
    · refine g_ifT 133 (show op 305 125 = some (.ifCond .eq 8, 3) by decide +kernel) rfl (decide_eq_true hc5) ?_
      refine g_bipush 135 (show op 305 133 = some (.bipush 40, 2) by decide +kernel) rfl (by decide) ?_
      have h9 := h; simp only [if_pos hc5] at h9; exact h9
    · refine g_ifF 128 133 (show op 305 125 = some (.ifCond .eq 8, 3) by decide +kernel) rfl rfl (decide_eq_false hc5) ?_
      refine g_bipush 130 (show op 305 128 = some (.bipush 39, 2) by decide +kernel) rfl (by decide) ?_
      refine g_goto 135 (show op 305 130 = some (.goto 5, 3) by decide +kernel) rfl ?_
      have h9 := h; simp only [if_neg hc5] at h9; exact h9
theorem b305_109 {d1 : Option AV} {d2 : Option AV} {d3 : Option AV} {d4 : Option AV} {x5 : Int} {d6 : Option AV} {d7 : Option AV} {σ : Sg} {o : Rs}   (h : C305_114 d1 d2 d3 d4 x5 d6 d7 3 σ o) : C305_109 d1 d2 d3 d4 x5 d6 d7 σ o := by
  show Gd 305 109 [(some (.inr (.inr (some 682)))), d1, d2, d3, d4, (some (.inl x5)), d6, d7] [(.inr (.inr (some 682)))] σ 0 0 o
  refine g_iconst 110 (show op 305 109 = some (.iconst 3, 1) by decide +kernel) rfl rfl ?_
  refine g_goto 114 (show op 305 110 = some (.goto 4, 3) by decide +kernel) rfl ?_
  exact h
theorem b305_135 {d0 : Option AV} {d1 : Option AV} {d2 : Option AV} {d3 : Option AV} {d4 : Option AV} {d5 : Option AV} {d6 : Option AV} {d7 : Option AV} {y1 : Int} {σ : Sg} {o : Rs}   (h : (∃ (v2 : Int) (s1 : Sg), Dd 289 [(.inr (.inr (some 682))), (.inl y1)] σ (.inl (some (.inl v2)), s1) ∧ o = (.inl (some (.inl v2)), s1))) : C305_135 d0 d1 d2 d3 d4 d5 d6 d7 y1 σ o := by
  show Gd 305 135 [d0, d1, d2, d3, d4, d5, d6, d7] [(.inl y1), (.inr (.inr (some 682)))] σ 0 0 o
  obtain ⟨v2, s1, hD3, h⟩ := h
  refine g_call 138 [(.inl v2)] (show op 305 135 = some (.invokevirtual 309, 3) by decide +kernel) (call_vi' (k' := 0) (n' := 0) (nj := 2) (j := 289) (k9 := 21) (t := []) (as := [(.inr (.inr (some 682))), (.inl y1)]) (by decide +kernel) rfl (by decide +kernel) rfl rfl rfl rfl rfl rfl (by decide +kernel) (by decide +kernel)) hD3 rfl ?_
  exact (g_iret (show op 305 138 = some (.ireturn, 1) by decide +kernel) (by decide +kernel) h)
/-- PatchBenchModel.split (IIIIZ)I -/
theorem b305 {x1 : Int} {x2 : Int} {x3 : Int} {x4 : Int} {x5 : Int} {σ : Sg} {o : Rs}   (h : (∃ (v2 : Int) (s1 : Sg), Dd 304 [(.inr (.inr (some 682))), (.inl x1), (.inl x2)] σ (.inl (some (.inl v2)), s1) ∧ (if v2 = 0 then C305_48 x1 x2 x3 x4 x5 v2 none s1 o else (0 ≤ x2 ∧ x2 < 256) ∧ (-2147483648 ≤ ((s1 701 (x2).toNat) + 1) ∧ ((s1 701 (x2).toNat) + 1) ≤ 2147483647) ∧ (∃ (v7 : Int) (s6 : Sg), Dd 246 [(.inl x3), (.inl ((s1 701 (x2).toNat) + 1))] s1 (.inl (some (.inl v7)), s6) ∧ (if v7 = 0 then C305_48 x1 x2 x3 x4 x5 v2 none s6 o else (0 ≤ x2 ∧ x2 < 256) ∧ (-2147483648 ≤ ((s6 703 (x2).toNat) + 1) ∧ ((s6 703 (x2).toNat) + 1) ≤ 2147483647) ∧ (∃ (v12 : Int) (s11 : Sg), Dd 246 [(.inl x4), (.inl ((s6 703 (x2).toNat) + 1))] s6 (.inl (some (.inl v12)), s11) ∧ (if v12 = 0 then C305_48 x1 x2 x3 x4 x5 v2 none s11 o else C305_49 x1 x2 x3 x4 x5 v2 none 1 s11 o))))))) : Dd 305 [(.inr (.inr (some 682))), (.inl x1), (.inl x2), (.inl x3), (.inl x4), (.inl x5)] σ o := by
  refine Dd_of (l := 8) (by decide +kernel) ?_
  show Gd 305 0 [(some (.inr (.inr (some 682)))), (some (.inl x1)), (some (.inl x2)), (some (.inl x3)), (some (.inl x4)), (some (.inl x5)), none, none] [] σ 0 0 o
  refine g_aload_n 1 (show op 305 0 = some (.aload_n 0, 1) by decide +kernel) rfl rfl ?_
  refine g_iload_n 2 (show op 305 1 = some (.iload_n 1, 1) by decide +kernel) rfl rfl ?_
  refine g_iload_n 3 (show op 305 2 = some (.iload_n 2, 1) by decide +kernel) rfl rfl ?_
  obtain ⟨v2, s1, hD3, h⟩ := h
  refine g_call 6 [(.inl v2)] (show op 305 3 = some (.invokevirtual 312, 3) by decide +kernel) (call_vi' (k' := 0) (n' := 0) (nj := 3) (j := 304) (k9 := 21) (t := []) (as := [(.inr (.inr (some 682))), (.inl x1), (.inl x2)]) (by decide +kernel) rfl (by decide +kernel) rfl rfl rfl rfl rfl rfl (by decide +kernel) (by decide +kernel)) hD3 rfl ?_
  refine g_istore 8 [(some (.inr (.inr (some 682)))), (some (.inl x1)), (some (.inl x2)), (some (.inl x3)), (some (.inl x4)), (some (.inl x5)), (some (.inl v2)), none] (show op 305 6 = some (.istore 6, 2) by decide +kernel) rfl rfl rfl ?_
  refine g_iload 10 (show op 305 8 = some (.iload 6, 2) by decide +kernel) rfl rfl ?_
  by_cases hc14 : v2 = 0
  · rw [if_pos hc14] at h
    refine g_ifT 48 (show op 305 10 = some (.ifCond .eq 38, 3) by decide +kernel) rfl (decide_eq_true hc14) ?_
    exact h
  · rw [if_neg hc14] at h
    refine g_ifF 13 48 (show op 305 10 = some (.ifCond .eq 38, 3) by decide +kernel) rfl rfl (decide_eq_false hc14) ?_
    refine g_iload_n 14 (show op 305 13 = some (.iload_n 3, 1) by decide +kernel) rfl rfl ?_
    refine g_aload_n 15 (show op 305 14 = some (.aload_n 0, 1) by decide +kernel) rfl rfl ?_
    refine g_getR (ci := 11) (f := 27) (fin := true) (isR := true) 18 701 (show op 305 15 = some (.getfield 64, 3) by decide +kernel) rfl (by decide +kernel) (by decide +kernel) ?_
    refine g_iload_n 19 (show op 305 18 = some (.iload_n 2, 1) by decide +kernel) rfl rfl ?_
    obtain ⟨g4, h⟩ := h
    refine g_iaload 20 256 (show op 305 19 = some (.iaload, 1) by decide +kernel) rfl (by decide +kernel) g4 ?_
    refine g_iconst 21 (show op 305 20 = some (.iconst 1, 1) by decide +kernel) rfl rfl ?_
    obtain ⟨g5, h⟩ := h
    refine g_iadd 22 (show op 305 21 = some (.iadd, 1) by decide +kernel) rfl g5 ?_
    obtain ⟨v7, s6, hD8, h⟩ := h
    refine g_call 25 [(.inl v7)] (show op 305 22 = some (.invokestatic 144, 3) by decide +kernel) (call_st' (k' := 0) (n' := 0) (nj := 2) (j := 246) (t := []) (as := [(.inl x3), (.inl ((s1 701 (x2).toNat) + 1))]) (by decide +kernel) rfl (by decide +kernel) rfl rfl rfl rfl rfl) hD8 rfl ?_
    by_cases hc15 : v7 = 0
    · rw [if_pos hc15] at h
      refine g_ifT 48 (show op 305 25 = some (.ifCond .eq 23, 3) by decide +kernel) rfl (decide_eq_true hc15) ?_
      exact h
    · rw [if_neg hc15] at h
      refine g_ifF 28 48 (show op 305 25 = some (.ifCond .eq 23, 3) by decide +kernel) rfl rfl (decide_eq_false hc15) ?_
      refine g_iload 30 (show op 305 28 = some (.iload 4, 2) by decide +kernel) rfl rfl ?_
      refine g_aload_n 31 (show op 305 30 = some (.aload_n 0, 1) by decide +kernel) rfl rfl ?_
      refine g_getR (ci := 11) (f := 29) (fin := true) (isR := true) 34 703 (show op 305 31 = some (.getfield 70, 3) by decide +kernel) rfl (by decide +kernel) (by decide +kernel) ?_
      refine g_iload_n 35 (show op 305 34 = some (.iload_n 2, 1) by decide +kernel) rfl rfl ?_
      obtain ⟨g9, h⟩ := h
      refine g_iaload 36 256 (show op 305 35 = some (.iaload, 1) by decide +kernel) rfl (by decide +kernel) g9 ?_
      refine g_iconst 37 (show op 305 36 = some (.iconst 1, 1) by decide +kernel) rfl rfl ?_
      obtain ⟨g10, h⟩ := h
      refine g_iadd 38 (show op 305 37 = some (.iadd, 1) by decide +kernel) rfl g10 ?_
      obtain ⟨v12, s11, hD13, h⟩ := h
      refine g_call 41 [(.inl v12)] (show op 305 38 = some (.invokestatic 144, 3) by decide +kernel) (call_st' (k' := 0) (n' := 0) (nj := 2) (j := 246) (t := []) (as := [(.inl x4), (.inl ((s6 703 (x2).toNat) + 1))]) (by decide +kernel) rfl (by decide +kernel) rfl rfl rfl rfl rfl) hD13 rfl ?_
      by_cases hc16 : v12 = 0
      · rw [if_pos hc16] at h
        refine g_ifT 48 (show op 305 41 = some (.ifCond .eq 7, 3) by decide +kernel) rfl (decide_eq_true hc16) ?_
        exact h
      · rw [if_neg hc16] at h
        refine g_ifF 44 48 (show op 305 41 = some (.ifCond .eq 7, 3) by decide +kernel) rfl rfl (decide_eq_false hc16) ?_
        refine g_iconst 45 (show op 305 44 = some (.iconst 1, 1) by decide +kernel) rfl rfl ?_
        refine g_goto 49 (show op 305 45 = some (.goto 4, 3) by decide +kernel) rfl ?_
        exact h
/-- PatchBenchModel.patches ()I -/
theorem b306 {σ : Sg} {o : Rs}   (h : o = (.inl (some (.inl ((upS σ 682 0 0) 682 3))), (upS σ 682 0 0))) : Dd 306 [(.inr (.inr (some 682)))] σ o := by
  refine Dd_of (l := 1) (by decide +kernel) ?_
  show Gd 306 0 [(some (.inr (.inr (some 682))))] [] σ 0 0 o
  refine g_aload_n 1 (show op 306 0 = some (.aload_n 0, 1) by decide +kernel) rfl rfl ?_
  refine g_iconst 2 (show op 306 1 = some (.iconst 0, 1) by decide +kernel) rfl rfl ?_
  refine g_putI (ci := 11) (f := 0) 5 (show op 306 2 = some (.putfield 140, 3) by decide +kernel) rfl (by decide +kernel) (by decide +kernel) ?_
  refine g_aload_n 6 (show op 306 5 = some (.aload_n 0, 1) by decide +kernel) rfl rfl ?_
  refine g_getI (ci := 11) (f := 3) (fin := false) (isR := false) 9 (show op 306 6 = some (.getfield 148, 3) by decide +kernel) rfl (by decide +kernel) (by decide +kernel) ?_
  exact (g_iret (show op 306 9 = some (.ireturn, 1) by decide +kernel) (by decide +kernel) h)
def C307_17 (x1 : Int) (x2 : Int) (x3 : Int) (σ : Sg) (o : Rs) : Prop := Gd 307 17 [(some (.inr (.inr (some 682)))), (some (.inl x1)), (some (.inl x2)), (some (.inl x3))] [(.inr (.inr (some 682)))] σ 0 0 o
def C307_18 (x1 : Int) (x2 : Int) (x3 : Int) (y1 : Int) (σ : Sg) (o : Rs) : Prop := Gd 307 18 [(some (.inr (.inr (some 682)))), (some (.inl x1)), (some (.inl x2)), (some (.inl x3))] [(.inl y1), (.inr (.inr (some 682)))] σ 0 0 o
def C307_46 (x1 : Int) (x2 : Int) (x3 : Int) (y0 : Int) (y1 : Int) (σ : Sg) (o : Rs) : Prop := Gd 307 46 [(some (.inr (.inr (some 682)))), (some (.inl x1)), (some (.inl x2)), (some (.inl x3))] [(.inl y1), (.inl y0)] σ 0 0 o
theorem b307_17 {x1 : Int} {x2 : Int} {x3 : Int} {σ : Sg} {o : Rs}   (h : C307_18 x1 x2 x3 1 σ o) : C307_17 x1 x2 x3 σ o := by
  show Gd 307 17 [(some (.inr (.inr (some 682)))), (some (.inl x1)), (some (.inl x2)), (some (.inl x3))] [(.inr (.inr (some 682)))] σ 0 0 o
  refine g_iconst 18 (show op 307 17 = some (.iconst 1, 1) by decide +kernel) rfl rfl ?_
  exact h
theorem b307_18 {x1 : Int} {x2 : Int} {x3 : Int} {y1 : Int} {σ : Sg} {o : Rs}   (h : (∃ (v2 : Int) (s1 : Sg), Dd 245 [(.inr (.inr (some 682))), (.inl y1)] σ (.inl (some (.inl v2)), s1) ∧ (if v2 = 0 then o = (.inl (some (.inl 0)), s1) else ((x2 = 0) → 0 ≤ x1 ∧ x1 < 44) ∧ (¬ (x2 = 0) → 0 ≤ x1 ∧ x1 < 44) ∧ C307_46 x1 x2 x3 x3 (if x2 = 0 then (s1 688 (x1).toNat) else (s1 689 (x1).toNat)) s1 o))) : C307_18 x1 x2 x3 y1 σ o := by
  show Gd 307 18 [(some (.inr (.inr (some 682)))), (some (.inl x1)), (some (.inl x2)), (some (.inl x3))] [(.inl y1), (.inr (.inr (some 682)))] σ 0 0 o
  obtain ⟨v2, s1, hD3, h⟩ := h
  refine g_call 21 [(.inl v2)] (show op 307 18 = some (.invokevirtual 172, 3) by decide +kernel) (call_vi' (k' := 0) (n' := 0) (nj := 2) (j := 245) (k9 := 21) (t := []) (as := [(.inr (.inr (some 682))), (.inl y1)]) (by decide +kernel) rfl (by decide +kernel) rfl rfl rfl rfl rfl rfl (by decide +kernel) (by decide +kernel)) hD3 rfl ?_
  by_cases hc6 : v2 = 0
  · rw [if_pos hc6] at h
    refine g_ifF 24 26 (show op 307 21 = some (.ifCond .ne 5, 3) by decide +kernel) rfl rfl (decide_eq_false (fun h9 => h9 hc6)) ?_
    refine g_iconst 25 (show op 307 24 = some (.iconst 0, 1) by decide +kernel) rfl rfl ?_
    exact (g_iret (show op 307 25 = some (.ireturn, 1) by decide +kernel) (by decide +kernel) h)
  · rw [if_neg hc6] at h
    refine g_ifT 26 (show op 307 21 = some (.ifCond .ne 5, 3) by decide +kernel) rfl (decide_eq_true hc6) ?_
    refine g_iload_n 27 (show op 307 26 = some (.iload_n 3, 1) by decide +kernel) rfl rfl ?_
    refine g_iload_n 28 (show op 307 27 = some (.iload_n 2, 1) by decide +kernel) rfl rfl ?_
    obtain ⟨G8, G9, h⟩ := h
    by_cases hc7 : x2 = 0
    · refine g_ifT 40 (show op 307 28 = some (.ifCond .eq 12, 3) by decide +kernel) rfl (decide_eq_true hc7) ?_
      refine g_aload_n 41 (show op 307 40 = some (.aload_n 0, 1) by decide +kernel) rfl rfl ?_
      refine g_getR (ci := 11) (f := 7) (fin := true) (isR := true) 44 688 (show op 307 41 = some (.getfield 25, 3) by decide +kernel) rfl (by decide +kernel) (by decide +kernel) ?_
      refine g_iload_n 45 (show op 307 44 = some (.iload_n 1, 1) by decide +kernel) rfl rfl ?_
      have g4 := G8 hc7
      refine g_iaload 46 44 (show op 307 45 = some (.iaload, 1) by decide +kernel) rfl (by decide +kernel) g4 ?_
      have h9 := h; simp only [if_pos hc7] at h9; exact h9
    · refine g_ifF 31 40 (show op 307 28 = some (.ifCond .eq 12, 3) by decide +kernel) rfl rfl (decide_eq_false hc7) ?_
      refine g_aload_n 32 (show op 307 31 = some (.aload_n 0, 1) by decide +kernel) rfl rfl ?_
      refine g_getR (ci := 11) (f := 8) (fin := true) (isR := true) 35 689 (show op 307 32 = some (.getfield 28, 3) by decide +kernel) rfl (by decide +kernel) (by decide +kernel) ?_
      refine g_iload_n 36 (show op 307 35 = some (.iload_n 1, 1) by decide +kernel) rfl rfl ?_
      have g5 := G9 hc7
      refine g_iaload 37 44 (show op 307 36 = some (.iaload, 1) by decide +kernel) rfl (by decide +kernel) g5 ?_
      refine g_goto 46 (show op 307 37 = some (.goto 9, 3) by decide +kernel) rfl ?_
      have h9 := h; simp only [if_neg hc7] at h9; exact h9
theorem b307_46 {x1 : Int} {x2 : Int} {x3 : Int} {y0 : Int} {y1 : Int} {σ : Sg} {o : Rs}   (h : (if y0 < y1 then (-2147483648 ≤ (100 * x1) ∧ (100 * x1) ≤ 2147483647) ∧ (-2147483648 ≤ ((100 * x1) + x3) ∧ ((100 * x1) + x3) ≤ 2147483647) ∧ (∃ (v4 : Int) (s3 : Sg), Dd 286 [(.inr (.inr (some 682))), (.inl x2), (.inl ((100 * x1) + x3))] σ (.inl (some (.inl v4)), s3) ∧ o = (.inl (some (.inl v4)), s3)) else o = (.inl (some (.inl (-1))), σ))) : C307_46 x1 x2 x3 y0 y1 σ o := by
  show Gd 307 46 [(some (.inr (.inr (some 682)))), (some (.inl x1)), (some (.inl x2)), (some (.inl x3))] [(.inl y1), (.inl y0)] σ 0 0 o
  by_cases hc6 : y0 < y1
  · rw [if_pos hc6] at h
    refine g_icmpF 49 63 (show op 307 46 = some (.if_icmp .ge 17, 3) by decide +kernel) rfl rfl (decide_eq_false (Int.not_le.mpr hc6)) ?_
    refine g_aload_n 50 (show op 307 49 = some (.aload_n 0, 1) by decide +kernel) rfl rfl ?_
    refine g_iload_n 51 (show op 307 50 = some (.iload_n 2, 1) by decide +kernel) rfl rfl ?_
    refine g_bipush 53 (show op 307 51 = some (.bipush 100, 2) by decide +kernel) rfl (by decide) ?_
    refine g_iload_n 54 (show op 307 53 = some (.iload_n 1, 1) by decide +kernel) rfl rfl ?_
    obtain ⟨g1, h⟩ := h
    refine g_imul 55 (show op 307 54 = some (.imul, 1) by decide +kernel) rfl g1 ?_
    refine g_iload_n 56 (show op 307 55 = some (.iload_n 3, 1) by decide +kernel) rfl rfl ?_
    obtain ⟨g2, h⟩ := h
    refine g_iadd 57 (show op 307 56 = some (.iadd, 1) by decide +kernel) rfl g2 ?_
    obtain ⟨v4, s3, hD5, h⟩ := h
    refine g_call 60 [(.inl v4)] (show op 307 57 = some (.invokevirtual 256, 3) by decide +kernel) (call_vi' (k' := 0) (n' := 0) (nj := 3) (j := 286) (k9 := 21) (t := []) (as := [(.inr (.inr (some 682))), (.inl x2), (.inl ((100 * x1) + x3))]) (by decide +kernel) rfl (by decide +kernel) rfl rfl rfl rfl rfl rfl (by decide +kernel) (by decide +kernel)) hD5 rfl ?_
    refine g_goto 64 (show op 307 60 = some (.goto 4, 3) by decide +kernel) rfl ?_
    exact (g_iret (show op 307 64 = some (.ireturn, 1) by decide +kernel) (by decide +kernel) h)
  · rw [if_neg hc6] at h
    refine g_icmpT 63 (show op 307 46 = some (.if_icmp .ge 17, 3) by decide +kernel) rfl (decide_eq_true (Int.not_lt.mp hc6)) ?_
    refine g_iconst 64 (show op 307 63 = some (.iconst (-1), 1) by decide +kernel) rfl rfl ?_
    exact (g_iret (show op 307 64 = some (.ireturn, 1) by decide +kernel) (by decide +kernel) h)
/-- PatchBenchModel.lineIn (IZI)I -/
theorem b307 {x1 : Int} {x2 : Int} {x3 : Int} {σ : Sg} {o : Rs}   (h : (∃ (v2 : Int) (s1 : Sg), Dd 248 [(.inr (.inr (some 682))), (.inl x1)] σ (.inl (some (.inl v2)), s1) ∧ (if v2 = 0 then C307_17 x1 x2 x3 s1 o else (if 0 ≤ x3 then C307_18 x1 x2 x3 0 s1 o else C307_17 x1 x2 x3 s1 o)))) : Dd 307 [(.inr (.inr (some 682))), (.inl x1), (.inl x2), (.inl x3)] σ o := by
  refine Dd_of (l := 4) (by decide +kernel) ?_
  show Gd 307 0 [(some (.inr (.inr (some 682)))), (some (.inl x1)), (some (.inl x2)), (some (.inl x3))] [] σ 0 0 o
  refine g_aload_n 1 (show op 307 0 = some (.aload_n 0, 1) by decide +kernel) rfl rfl ?_
  refine g_aload_n 2 (show op 307 1 = some (.aload_n 0, 1) by decide +kernel) rfl rfl ?_
  refine g_iload_n 3 (show op 307 2 = some (.iload_n 1, 1) by decide +kernel) rfl rfl ?_
  obtain ⟨v2, s1, hD3, h⟩ := h
  refine g_call 6 [(.inl v2), (.inr (.inr (some 682)))] (show op 307 3 = some (.invokevirtual 290, 3) by decide +kernel) (call_vi' (k' := 0) (n' := 0) (nj := 2) (j := 248) (k9 := 21) (t := [(.inr (.inr (some 682)))]) (as := [(.inr (.inr (some 682))), (.inl x1)]) (by decide +kernel) rfl (by decide +kernel) rfl rfl rfl rfl rfl rfl (by decide +kernel) (by decide +kernel)) hD3 rfl ?_
  by_cases hc4 : v2 = 0
  · rw [if_pos hc4] at h
    refine g_ifT 17 (show op 307 6 = some (.ifCond .eq 11, 3) by decide +kernel) rfl (decide_eq_true hc4) ?_
    exact h
  · rw [if_neg hc4] at h
    refine g_ifF 9 17 (show op 307 6 = some (.ifCond .eq 11, 3) by decide +kernel) rfl rfl (decide_eq_false hc4) ?_
    refine g_iload_n 10 (show op 307 9 = some (.iload_n 3, 1) by decide +kernel) rfl rfl ?_
    by_cases hc5 : 0 ≤ x3
    · rw [if_pos hc5] at h
      refine g_ifF 13 17 (show op 307 10 = some (.ifCond .lt 7, 3) by decide +kernel) rfl rfl (decide_eq_false (Int.not_lt.mpr hc5)) ?_
      refine g_iconst 14 (show op 307 13 = some (.iconst 0, 1) by decide +kernel) rfl rfl ?_
      refine g_goto 18 (show op 307 14 = some (.goto 4, 3) by decide +kernel) rfl ?_
      exact h
    · rw [if_neg hc5] at h
      refine g_ifT 17 (show op 307 10 = some (.ifCond .lt 7, 3) by decide +kernel) rfl (decide_eq_true (Int.not_le.mp hc5)) ?_
      exact h
def C308_26 (d0 : Option AV) (d1 : Option AV) (d2 : Option AV) (σ : Sg) (o : Rs) : Prop := Gd 308 26 [d0, d1, d2] [(.inr (.inr (some 682)))] σ 0 0 o
def C308_27 (d0 : Option AV) (d1 : Option AV) (d2 : Option AV) (y1 : Int) (σ : Sg) (o : Rs) : Prop := Gd 308 27 [d0, d1, d2] [(.inl y1), (.inr (.inr (some 682)))] σ 0 0 o
theorem b308_26 {d0 : Option AV} {d1 : Option AV} {d2 : Option AV} {σ : Sg} {o : Rs}   (h : C308_27 d0 d1 d2 1 σ o) : C308_26 d0 d1 d2 σ o := by
  show Gd 308 26 [d0, d1, d2] [(.inr (.inr (some 682)))] σ 0 0 o
  refine g_iconst 27 (show op 308 26 = some (.iconst 1, 1) by decide +kernel) rfl rfl ?_
  exact h
theorem b308_27 {d0 : Option AV} {d1 : Option AV} {d2 : Option AV} {y1 : Int} {σ : Sg} {o : Rs}   (h : (∃ (v2 : Int) (s1 : Sg), Dd 245 [(.inr (.inr (some 682))), (.inl y1)] σ (.inl (some (.inl v2)), s1) ∧ (v2 = 0 ∨ v2 = 1) ∧ o = (.inl (some (.inl v2)), s1))) : C308_27 d0 d1 d2 y1 σ o := by
  show Gd 308 27 [d0, d1, d2] [(.inl y1), (.inr (.inr (some 682)))] σ 0 0 o
  obtain ⟨v2, s1, hD3, h⟩ := h
  refine g_call 30 [(.inl v2)] (show op 308 27 = some (.invokevirtual 172, 3) by decide +kernel) (call_vi' (k' := 0) (n' := 0) (nj := 2) (j := 245) (k9 := 21) (t := []) (as := [(.inr (.inr (some 682))), (.inl y1)]) (by decide +kernel) rfl (by decide +kernel) rfl rfl rfl rfl rfl rfl (by decide +kernel) (by decide +kernel)) hD3 rfl ?_
  obtain ⟨g4, h⟩ := h
  exact (g_zret (show op 308 30 = some (.ireturn, 1) by decide +kernel) (by decide +kernel) g4 h)
/-- PatchBenchModel.isOldPlace (II)Z -/
theorem b308 {x1 : Int} {x2 : Int} {σ : Sg} {o : Rs}   (h : (∃ (v2 : Int) (s1 : Sg), Dd 248 [(.inr (.inr (some 682))), (.inl x1)] σ (.inl (some (.inl v2)), s1) ∧ (if v2 = 0 then C308_26 (some (.inr (.inr (some 682)))) (some (.inl x1)) (some (.inl x2)) s1 o else (0 ≤ x1 ∧ x1 < 44) ∧ (∃ (v6 : Int) (s5 : Sg), Dd 246 [(.inl x2), (.inl (s1 688 (x1).toNat))] s1 (.inl (some (.inl v6)), s5) ∧ (if v6 = 0 then C308_26 (some (.inr (.inr (some 682)))) (some (.inl x1)) (some (.inl x2)) s5 o else C308_27 (some (.inr (.inr (some 682)))) (some (.inl x1)) (some (.inl x2)) 0 s5 o))))) : Dd 308 [(.inr (.inr (some 682))), (.inl x1), (.inl x2)] σ o := by
  refine Dd_of (l := 3) (by decide +kernel) ?_
  show Gd 308 0 [(some (.inr (.inr (some 682)))), (some (.inl x1)), (some (.inl x2))] [] σ 0 0 o
  refine g_aload_n 1 (show op 308 0 = some (.aload_n 0, 1) by decide +kernel) rfl rfl ?_
  refine g_aload_n 2 (show op 308 1 = some (.aload_n 0, 1) by decide +kernel) rfl rfl ?_
  refine g_iload_n 3 (show op 308 2 = some (.iload_n 1, 1) by decide +kernel) rfl rfl ?_
  obtain ⟨v2, s1, hD3, h⟩ := h
  refine g_call 6 [(.inl v2), (.inr (.inr (some 682)))] (show op 308 3 = some (.invokevirtual 290, 3) by decide +kernel) (call_vi' (k' := 0) (n' := 0) (nj := 2) (j := 248) (k9 := 21) (t := [(.inr (.inr (some 682)))]) (as := [(.inr (.inr (some 682))), (.inl x1)]) (by decide +kernel) rfl (by decide +kernel) rfl rfl rfl rfl rfl rfl (by decide +kernel) (by decide +kernel)) hD3 rfl ?_
  by_cases hc8 : v2 = 0
  · rw [if_pos hc8] at h
    refine g_ifT 26 (show op 308 6 = some (.ifCond .eq 20, 3) by decide +kernel) rfl (decide_eq_true hc8) ?_
    exact h
  · rw [if_neg hc8] at h
    refine g_ifF 9 26 (show op 308 6 = some (.ifCond .eq 20, 3) by decide +kernel) rfl rfl (decide_eq_false hc8) ?_
    refine g_iload_n 10 (show op 308 9 = some (.iload_n 2, 1) by decide +kernel) rfl rfl ?_
    refine g_aload_n 11 (show op 308 10 = some (.aload_n 0, 1) by decide +kernel) rfl rfl ?_
    refine g_getR (ci := 11) (f := 7) (fin := true) (isR := true) 14 688 (show op 308 11 = some (.getfield 25, 3) by decide +kernel) rfl (by decide +kernel) (by decide +kernel) ?_
    refine g_iload_n 15 (show op 308 14 = some (.iload_n 1, 1) by decide +kernel) rfl rfl ?_
    obtain ⟨g4, h⟩ := h
    refine g_iaload 16 44 (show op 308 15 = some (.iaload, 1) by decide +kernel) rfl (by decide +kernel) g4 ?_
    obtain ⟨v6, s5, hD7, h⟩ := h
    refine g_call 19 [(.inl v6), (.inr (.inr (some 682)))] (show op 308 16 = some (.invokestatic 144, 3) by decide +kernel) (call_st' (k' := 0) (n' := 0) (nj := 2) (j := 246) (t := [(.inr (.inr (some 682)))]) (as := [(.inl x2), (.inl (s1 688 (x1).toNat))]) (by decide +kernel) rfl (by decide +kernel) rfl rfl rfl rfl rfl) hD7 rfl ?_
    by_cases hc9 : v6 = 0
    · rw [if_pos hc9] at h
      refine g_ifT 26 (show op 308 19 = some (.ifCond .eq 7, 3) by decide +kernel) rfl (decide_eq_true hc9) ?_
      exact h
    · rw [if_neg hc9] at h
      refine g_ifF 22 26 (show op 308 19 = some (.ifCond .eq 7, 3) by decide +kernel) rfl rfl (decide_eq_false hc9) ?_
      refine g_iconst 23 (show op 308 22 = some (.iconst 0, 1) by decide +kernel) rfl rfl ?_
      refine g_goto 27 (show op 308 23 = some (.goto 4, 3) by decide +kernel) rfl ?_
      exact h
/-- PatchBenchModel.pairIn (II)I -/
theorem b309 {x1 : Int} {x2 : Int} {σ : Sg} {o : Rs}   (h : (∃ (v2 : Int) (s1 : Sg), Dd 308 [(.inr (.inr (some 682))), (.inl x1), (.inl x2)] σ (.inl (some (.inl v2)), s1) ∧ (¬ (v2 = 0) → -2147483648 ≤ (100 * x1) ∧ (100 * x1) ≤ 2147483647) ∧ (¬ (v2 = 0) → -2147483648 ≤ ((100 * x1) + x2) ∧ ((100 * x1) + x2) ≤ 2147483647) ∧ (¬ (v2 = 0) → 0 ≤ ((100 * x1) + x2) ∧ ((100 * x1) + x2) < 4400) ∧ o = (.inl (some (.inl (if v2 = 0 then 0 else (s1 687 (((100 * x1) + x2)).toNat)))), s1))) : Dd 309 [(.inr (.inr (some 682))), (.inl x1), (.inl x2)] σ o := by
  refine Dd_of (l := 3) (by decide +kernel) ?_
  show Gd 309 0 [(some (.inr (.inr (some 682)))), (some (.inl x1)), (some (.inl x2))] [] σ 0 0 o
  refine g_aload_n 1 (show op 309 0 = some (.aload_n 0, 1) by decide +kernel) rfl rfl ?_
  refine g_iload_n 2 (show op 309 1 = some (.iload_n 1, 1) by decide +kernel) rfl rfl ?_
  refine g_iload_n 3 (show op 309 2 = some (.iload_n 2, 1) by decide +kernel) rfl rfl ?_
  obtain ⟨v2, s1, hD3, h⟩ := h
  refine g_call 6 [(.inl v2)] (show op 309 3 = some (.invokevirtual 319, 3) by decide +kernel) (call_vi' (k' := 0) (n' := 0) (nj := 3) (j := 308) (k9 := 21) (t := []) (as := [(.inr (.inr (some 682))), (.inl x1), (.inl x2)]) (by decide +kernel) rfl (by decide +kernel) rfl rfl rfl rfl rfl rfl (by decide +kernel) (by decide +kernel)) hD3 rfl ?_
  obtain ⟨G8, G9, G10, h⟩ := h
  by_cases hc7 : v2 = 0
  · refine g_ifT 23 (show op 309 6 = some (.ifCond .eq 17, 3) by decide +kernel) rfl (decide_eq_true hc7) ?_
    refine g_iconst 24 (show op 309 23 = some (.iconst 0, 1) by decide +kernel) rfl rfl ?_
    have h9 := h; simp only [if_pos hc7] at h9; exact (g_iret (show op 309 24 = some (.ireturn, 1) by decide +kernel) (by decide +kernel) h9)
  · refine g_ifF 9 23 (show op 309 6 = some (.ifCond .eq 17, 3) by decide +kernel) rfl rfl (decide_eq_false hc7) ?_
    refine g_aload_n 10 (show op 309 9 = some (.aload_n 0, 1) by decide +kernel) rfl rfl ?_
    refine g_getR (ci := 11) (f := 6) (fin := true) (isR := true) 13 687 (show op 309 10 = some (.getfield 22, 3) by decide +kernel) rfl (by decide +kernel) (by decide +kernel) ?_
    refine g_bipush 15 (show op 309 13 = some (.bipush 100, 2) by decide +kernel) rfl (by decide) ?_
    refine g_iload_n 16 (show op 309 15 = some (.iload_n 1, 1) by decide +kernel) rfl rfl ?_
    have g4 := G8 hc7
    refine g_imul 17 (show op 309 16 = some (.imul, 1) by decide +kernel) rfl g4 ?_
    refine g_iload_n 18 (show op 309 17 = some (.iload_n 2, 1) by decide +kernel) rfl rfl ?_
    have g5 := G9 hc7
    refine g_iadd 19 (show op 309 18 = some (.iadd, 1) by decide +kernel) rfl g5 ?_
    have g6 := G10 hc7
    refine g_iaload 20 4400 (show op 309 19 = some (.iaload, 1) by decide +kernel) rfl (by decide +kernel) g6 ?_
    refine g_goto 24 (show op 309 20 = some (.goto 4, 3) by decide +kernel) rfl ?_
    have h9 := h; simp only [if_neg hc7] at h9; exact (g_iret (show op 309 24 = some (.ireturn, 1) by decide +kernel) (by decide +kernel) h9)
def C310_14 (x1 : Int) (y1 : Int) (σ : Sg) (o : Rs) : Prop := Gd 310 14 [(some (.inr (.inr (some 682)))), (some (.inl x1))] [(.inl y1), (.inr (.inr (some 682)))] σ 0 0 o
theorem b310_14 {x1 : Int} {y1 : Int} {σ : Sg} {o : Rs}   (h : (∃ (v2 : Int) (s1 : Sg), Dd 245 [(.inr (.inr (some 682))), (.inl y1)] σ (.inl (some (.inl v2)), s1) ∧ (if v2 = 0 then o = (.inl (some (.inl 0)), s1) else (∃ (v5 : Int) (s4 : Sg), Dd 280 [(.inr (.inr (some 682))), (.inl x1), (.inl 0)] s1 (.inl (some (.inl v5)), s4) ∧ o = (.inl (some (.inl v5)), s4))))) : C310_14 x1 y1 σ o := by
  show Gd 310 14 [(some (.inr (.inr (some 682)))), (some (.inl x1))] [(.inl y1), (.inr (.inr (some 682)))] σ 0 0 o
  obtain ⟨v2, s1, hD3, h⟩ := h
  refine g_call 17 [(.inl v2)] (show op 310 14 = some (.invokevirtual 172, 3) by decide +kernel) (call_vi' (k' := 0) (n' := 0) (nj := 2) (j := 245) (k9 := 21) (t := []) (as := [(.inr (.inr (some 682))), (.inl y1)]) (by decide +kernel) rfl (by decide +kernel) rfl rfl rfl rfl rfl rfl (by decide +kernel) (by decide +kernel)) hD3 rfl ?_
  by_cases hc7 : v2 = 0
  · rw [if_pos hc7] at h
    refine g_ifT 29 (show op 310 17 = some (.ifCond .eq 12, 3) by decide +kernel) rfl (decide_eq_true hc7) ?_
    refine g_iconst 30 (show op 310 29 = some (.iconst 0, 1) by decide +kernel) rfl rfl ?_
    exact (g_iret (show op 310 30 = some (.ireturn, 1) by decide +kernel) (by decide +kernel) h)
  · rw [if_neg hc7] at h
    refine g_ifF 20 29 (show op 310 17 = some (.ifCond .eq 12, 3) by decide +kernel) rfl rfl (decide_eq_false hc7) ?_
    refine g_aload_n 21 (show op 310 20 = some (.aload_n 0, 1) by decide +kernel) rfl rfl ?_
    refine g_iload_n 22 (show op 310 21 = some (.iload_n 1, 1) by decide +kernel) rfl rfl ?_
    refine g_iconst 23 (show op 310 22 = some (.iconst 0, 1) by decide +kernel) rfl rfl ?_
    obtain ⟨v5, s4, hD6, h⟩ := h
    refine g_call 26 [(.inl v5)] (show op 310 23 = some (.invokevirtual 267, 3) by decide +kernel) (call_vi' (k' := 0) (n' := 0) (nj := 3) (j := 280) (k9 := 21) (t := []) (as := [(.inr (.inr (some 682))), (.inl x1), (.inl 0)]) (by decide +kernel) rfl (by decide +kernel) rfl rfl rfl rfl rfl rfl (by decide +kernel) (by decide +kernel)) hD6 rfl ?_
    refine g_goto 30 (show op 310 26 = some (.goto 4, 3) by decide +kernel) rfl ?_
    exact (g_iret (show op 310 30 = some (.ireturn, 1) by decide +kernel) (by decide +kernel) h)
/-- PatchBenchModel.hunks (I)I -/
theorem b310 {x1 : Int} {σ : Sg} {o : Rs}   (h : (∃ (v2 : Int) (s1 : Sg), Dd 248 [(.inr (.inr (some 682))), (.inl x1)] σ (.inl (some (.inl v2)), s1) ∧ C310_14 x1 (if v2 = 0 then 1 else 0) s1 o)) : Dd 310 [(.inr (.inr (some 682))), (.inl x1)] σ o := by
  refine Dd_of (l := 2) (by decide +kernel) ?_
  show Gd 310 0 [(some (.inr (.inr (some 682)))), (some (.inl x1))] [] σ 0 0 o
  refine g_aload_n 1 (show op 310 0 = some (.aload_n 0, 1) by decide +kernel) rfl rfl ?_
  refine g_aload_n 2 (show op 310 1 = some (.aload_n 0, 1) by decide +kernel) rfl rfl ?_
  refine g_iload_n 3 (show op 310 2 = some (.iload_n 1, 1) by decide +kernel) rfl rfl ?_
  obtain ⟨v2, s1, hD3, h⟩ := h
  refine g_call 6 [(.inl v2), (.inr (.inr (some 682)))] (show op 310 3 = some (.invokevirtual 290, 3) by decide +kernel) (call_vi' (k' := 0) (n' := 0) (nj := 2) (j := 248) (k9 := 21) (t := [(.inr (.inr (some 682)))]) (as := [(.inr (.inr (some 682))), (.inl x1)]) (by decide +kernel) rfl (by decide +kernel) rfl rfl rfl rfl rfl rfl (by decide +kernel) (by decide +kernel)) hD3 rfl ?_
  by_cases hc4 : v2 = 0
  · refine g_ifT 13 (show op 310 6 = some (.ifCond .eq 7, 3) by decide +kernel) rfl (decide_eq_true hc4) ?_
    refine g_iconst 14 (show op 310 13 = some (.iconst 1, 1) by decide +kernel) rfl rfl ?_
    have h9 := h; simp only [if_pos hc4] at h9; exact h9
  · refine g_ifF 9 13 (show op 310 6 = some (.ifCond .eq 7, 3) by decide +kernel) rfl rfl (decide_eq_false hc4) ?_
    refine g_iconst 10 (show op 310 9 = some (.iconst 0, 1) by decide +kernel) rfl rfl ?_
    refine g_goto 14 (show op 310 10 = some (.goto 4, 3) by decide +kernel) rfl ?_
    have h9 := h; simp only [if_neg hc4] at h9; exact h9
def C311_31 (d1 : Option AV) (x2 : Int) (x3 : Int) (d4 : Option AV) (y1 : Int) (σ : Sg) (o : Rs) : Prop := Gd 311 31 [(some (.inr (.inr (some 682)))), d1, (some (.inl x2)), (some (.inl x3)), d4] [(.inl y1), (.inr (.inr (some 682)))] σ 0 0 o
theorem b311_31 {d1 : Option AV} {x2 : Int} {x3 : Int} {d4 : Option AV} {y1 : Int} {σ : Sg} {o : Rs}   (h : (∃ (v2 : Int) (s1 : Sg), Dd 245 [(.inr (.inr (some 682))), (.inl y1)] σ (.inl (some (.inl v2)), s1) ∧ (¬ (v2 = 0) → (x3 = 0) → 0 ≤ x2 ∧ x2 < 256) ∧ (¬ (v2 = 0) → ¬ (x3 = 0) → (x3 = 1) → 0 ≤ x2 ∧ x2 < 256) ∧ (¬ (v2 = 0) → ¬ (x3 = 0) → ¬ (x3 = 1) → (x3 = 2) → 0 ≤ x2 ∧ x2 < 256) ∧ (¬ (v2 = 0) → ¬ (x3 = 0) → ¬ (x3 = 1) → ¬ (x3 = 2) → 0 ≤ x2 ∧ x2 < 256) ∧ o = (.inl (some (.inl (if v2 = 0 then 0 else (if x3 = 0 then (s1 700 (x2).toNat) else (if x3 = 1 then (s1 701 (x2).toNat) else (if x3 = 2 then (s1 702 (x2).toNat) else (s1 703 (x2).toNat))))))), s1))) : C311_31 d1 x2 x3 d4 y1 σ o := by
  show Gd 311 31 [(some (.inr (.inr (some 682)))), d1, (some (.inl x2)), (some (.inl x3)), d4] [(.inl y1), (.inr (.inr (some 682)))] σ 0 0 o
  obtain ⟨v2, s1, hD3, h⟩ := h
  refine g_call 34 [(.inl v2)] (show op 311 31 = some (.invokevirtual 172, 3) by decide +kernel) (call_vi' (k' := 0) (n' := 0) (nj := 2) (j := 245) (k9 := 21) (t := []) (as := [(.inr (.inr (some 682))), (.inl y1)]) (by decide +kernel) rfl (by decide +kernel) rfl rfl rfl rfl rfl rfl (by decide +kernel) (by decide +kernel)) hD3 rfl ?_
  obtain ⟨G9, G10, G11, G12, h⟩ := h
  by_cases hc8 : v2 = 0
  · refine g_ifF 37 39 (show op 311 34 = some (.ifCond .ne 5, 3) by decide +kernel) rfl rfl (decide_eq_false (fun h9 => h9 hc8)) ?_
    refine g_iconst 38 (show op 311 37 = some (.iconst 0, 1) by decide +kernel) rfl rfl ?_
    have h9 := h; simp only [if_pos hc8] at h9; exact (g_iret (show op 311 38 = some (.ireturn, 1) by decide +kernel) (by decide +kernel) h9)
  · refine g_ifT 39 (show op 311 34 = some (.ifCond .ne 5, 3) by decide +kernel) rfl (decide_eq_true hc8) ?_
    refine g_iload_n 40 (show op 311 39 = some (.iload_n 3, 1) by decide +kernel) rfl rfl ?_
    by_cases hc13 : x3 = 0
    · refine g_ifF 43 52 (show op 311 40 = some (.ifCond .ne 12, 3) by decide +kernel) rfl rfl (decide_eq_false (fun h9 => h9 hc13)) ?_
      refine g_aload_n 44 (show op 311 43 = some (.aload_n 0, 1) by decide +kernel) rfl rfl ?_
      refine g_getR (ci := 11) (f := 26) (fin := true) (isR := true) 47 700 (show op 311 44 = some (.getfield 61, 3) by decide +kernel) rfl (by decide +kernel) (by decide +kernel) ?_
      refine g_iload_n 48 (show op 311 47 = some (.iload_n 2, 1) by decide +kernel) rfl rfl ?_
      have g4 := G9 hc8 hc13
      refine g_iaload 49 256 (show op 311 48 = some (.iaload, 1) by decide +kernel) rfl (by decide +kernel) g4 ?_
      refine g_goto 86 (show op 311 49 = some (.goto 37, 3) by decide +kernel) rfl ?_
      have h9 := h; simp only [if_neg hc8, if_pos hc13] at h9; exact (g_iret (show op 311 86 = some (.ireturn, 1) by decide +kernel) (by decide +kernel) h9)
    · refine g_ifT 52 (show op 311 40 = some (.ifCond .ne 12, 3) by decide +kernel) rfl (decide_eq_true hc13) ?_
      refine g_iload_n 53 (show op 311 52 = some (.iload_n 3, 1) by decide +kernel) rfl rfl ?_
      refine g_iconst 54 (show op 311 53 = some (.iconst 1, 1) by decide +kernel) rfl rfl ?_
      by_cases hc14 : x3 = 1
      · refine g_icmpF 57 66 (show op 311 54 = some (.if_icmp .ne 12, 3) by decide +kernel) rfl rfl (decide_eq_false (fun h9 => h9 hc14)) ?_
        refine g_aload_n 58 (show op 311 57 = some (.aload_n 0, 1) by decide +kernel) rfl rfl ?_
        refine g_getR (ci := 11) (f := 27) (fin := true) (isR := true) 61 701 (show op 311 58 = some (.getfield 64, 3) by decide +kernel) rfl (by decide +kernel) (by decide +kernel) ?_
        refine g_iload_n 62 (show op 311 61 = some (.iload_n 2, 1) by decide +kernel) rfl rfl ?_
        have g5 := G10 hc8 hc13 hc14
        refine g_iaload 63 256 (show op 311 62 = some (.iaload, 1) by decide +kernel) rfl (by decide +kernel) g5 ?_
        refine g_goto 86 (show op 311 63 = some (.goto 23, 3) by decide +kernel) rfl ?_
        have h9 := h; simp only [if_neg hc8, if_neg hc13, if_pos hc14] at h9; exact (g_iret (show op 311 86 = some (.ireturn, 1) by decide +kernel) (by decide +kernel) h9)
      · refine g_icmpT 66 (show op 311 54 = some (.if_icmp .ne 12, 3) by decide +kernel) rfl (decide_eq_true hc14) ?_
        refine g_iload_n 67 (show op 311 66 = some (.iload_n 3, 1) by decide +kernel) rfl rfl ?_
        refine g_iconst 68 (show op 311 67 = some (.iconst 2, 1) by decide +kernel) rfl rfl ?_
        by_cases hc15 : x3 = 2
        · refine g_icmpF 71 80 (show op 311 68 = some (.if_icmp .ne 12, 3) by decide +kernel) rfl rfl (decide_eq_false (fun h9 => h9 hc15)) ?_
          refine g_aload_n 72 (show op 311 71 = some (.aload_n 0, 1) by decide +kernel) rfl rfl ?_
          refine g_getR (ci := 11) (f := 28) (fin := true) (isR := true) 75 702 (show op 311 72 = some (.getfield 67, 3) by decide +kernel) rfl (by decide +kernel) (by decide +kernel) ?_
          refine g_iload_n 76 (show op 311 75 = some (.iload_n 2, 1) by decide +kernel) rfl rfl ?_
          have g6 := G11 hc8 hc13 hc14 hc15
          refine g_iaload 77 256 (show op 311 76 = some (.iaload, 1) by decide +kernel) rfl (by decide +kernel) g6 ?_
          refine g_goto 86 (show op 311 77 = some (.goto 9, 3) by decide +kernel) rfl ?_
          have h9 := h; simp only [if_neg hc8, if_neg hc13, if_neg hc14, if_pos hc15] at h9; exact (g_iret (show op 311 86 = some (.ireturn, 1) by decide +kernel) (by decide +kernel) h9)
        · refine g_icmpT 80 (show op 311 68 = some (.if_icmp .ne 12, 3) by decide +kernel) rfl (decide_eq_true hc15) ?_
          refine g_aload_n 81 (show op 311 80 = some (.aload_n 0, 1) by decide +kernel) rfl rfl ?_
          refine g_getR (ci := 11) (f := 29) (fin := true) (isR := true) 84 703 (show op 311 81 = some (.getfield 70, 3) by decide +kernel) rfl (by decide +kernel) (by decide +kernel) ?_
          refine g_iload_n 85 (show op 311 84 = some (.iload_n 2, 1) by decide +kernel) rfl rfl ?_
          have g7 := G12 hc8 hc13 hc14 hc15
          refine g_iaload 86 256 (show op 311 85 = some (.iaload, 1) by decide +kernel) rfl (by decide +kernel) g7 ?_
          have h9 := h; simp only [if_neg hc8, if_neg hc13, if_neg hc14, if_neg hc15] at h9; exact (g_iret (show op 311 86 = some (.ireturn, 1) by decide +kernel) (by decide +kernel) h9)
/-- PatchBenchModel.hunk (III)I -/
theorem b311 {x1 : Int} {x2 : Int} {x3 : Int} {σ : Sg} {o : Rs}   (h : (∃ (v2 : Int) (s1 : Sg), Dd 304 [(.inr (.inr (some 682))), (.inl x1), (.inl x2)] σ (.inl (some (.inl v2)), s1) ∧ (if v2 = 0 then C311_31 (some (.inl x1)) x2 x3 (some (.inl v2)) 1 s1 o else (∃ (v5 : Int) (s4 : Sg), Dd 246 [(.inl x3), (.inl 4)] s1 (.inl (some (.inl v5)), s4) ∧ C311_31 (some (.inl x1)) x2 x3 (some (.inl v2)) (if v5 = 0 then 2 else 0) s4 o)))) : Dd 311 [(.inr (.inr (some 682))), (.inl x1), (.inl x2), (.inl x3)] σ o := by
  refine Dd_of (l := 5) (by decide +kernel) ?_
  show Gd 311 0 [(some (.inr (.inr (some 682)))), (some (.inl x1)), (some (.inl x2)), (some (.inl x3)), none] [] σ 0 0 o
  refine g_aload_n 1 (show op 311 0 = some (.aload_n 0, 1) by decide +kernel) rfl rfl ?_
  refine g_iload_n 2 (show op 311 1 = some (.iload_n 1, 1) by decide +kernel) rfl rfl ?_
  refine g_iload_n 3 (show op 311 2 = some (.iload_n 2, 1) by decide +kernel) rfl rfl ?_
  obtain ⟨v2, s1, hD3, h⟩ := h
  refine g_call 6 [(.inl v2)] (show op 311 3 = some (.invokevirtual 312, 3) by decide +kernel) (call_vi' (k' := 0) (n' := 0) (nj := 3) (j := 304) (k9 := 21) (t := []) (as := [(.inr (.inr (some 682))), (.inl x1), (.inl x2)]) (by decide +kernel) rfl (by decide +kernel) rfl rfl rfl rfl rfl rfl (by decide +kernel) (by decide +kernel)) hD3 rfl ?_
  refine g_istore 8 [(some (.inr (.inr (some 682)))), (some (.inl x1)), (some (.inl x2)), (some (.inl x3)), (some (.inl v2))] (show op 311 6 = some (.istore 4, 2) by decide +kernel) rfl rfl rfl ?_
  refine g_aload_n 9 (show op 311 8 = some (.aload_n 0, 1) by decide +kernel) rfl rfl ?_
  refine g_iload 11 (show op 311 9 = some (.iload 4, 2) by decide +kernel) rfl rfl ?_
  by_cases hc7 : v2 = 0
  · rw [if_pos hc7] at h
    refine g_ifF 14 18 (show op 311 11 = some (.ifCond .ne 7, 3) by decide +kernel) rfl rfl (decide_eq_false (fun h9 => h9 hc7)) ?_
    refine g_iconst 15 (show op 311 14 = some (.iconst 1, 1) by decide +kernel) rfl rfl ?_
    refine g_goto 31 (show op 311 15 = some (.goto 16, 3) by decide +kernel) rfl ?_
    exact h
  · rw [if_neg hc7] at h
    refine g_ifT 18 (show op 311 11 = some (.ifCond .ne 7, 3) by decide +kernel) rfl (decide_eq_true hc7) ?_
    refine g_iload_n 19 (show op 311 18 = some (.iload_n 3, 1) by decide +kernel) rfl rfl ?_
    refine g_iconst 20 (show op 311 19 = some (.iconst 4, 1) by decide +kernel) rfl rfl ?_
    obtain ⟨v5, s4, hD6, h⟩ := h
    refine g_call 23 [(.inl v5), (.inr (.inr (some 682)))] (show op 311 20 = some (.invokestatic 144, 3) by decide +kernel) (call_st' (k' := 0) (n' := 0) (nj := 2) (j := 246) (t := [(.inr (.inr (some 682)))]) (as := [(.inl x3), (.inl 4)]) (by decide +kernel) rfl (by decide +kernel) rfl rfl rfl rfl rfl) hD6 rfl ?_
    by_cases hc8 : v5 = 0
    · refine g_ifT 30 (show op 311 23 = some (.ifCond .eq 7, 3) by decide +kernel) rfl (decide_eq_true hc8) ?_
      refine g_iconst 31 (show op 311 30 = some (.iconst 2, 1) by decide +kernel) rfl rfl ?_
      have h9 := h; simp only [if_pos hc8] at h9; exact h9
    · refine g_ifF 26 30 (show op 311 23 = some (.ifCond .eq 7, 3) by decide +kernel) rfl rfl (decide_eq_false hc8) ?_
      refine g_iconst 27 (show op 311 26 = some (.iconst 0, 1) by decide +kernel) rfl rfl ?_
      refine g_goto 31 (show op 311 27 = some (.goto 4, 3) by decide +kernel) rfl ?_
      have h9 := h; simp only [if_neg hc8] at h9; exact h9
def C312_5 (x1 : Int) (x2 : Int) (x3 : Int) (x4 : Int) (d5 : Option AV) (σ : Sg) (o : Rs) : Prop := Gd 312 5 [(some (.inr (.inr (some 682)))), (some (.inl x1)), (some (.inl x2)), (some (.inl x3)), (some (.inl x4)), d5] [] σ 0 0 o
def C312_37 (x1 : Int) (x2 : Int) (x3 : Int) (x4 : Int) (d5 : Option AV) (y0 : Int) (σ : Sg) (o : Rs) : Prop := Gd 312 37 [(some (.inr (.inr (some 682)))), (some (.inl x1)), (some (.inl x2)), (some (.inl x3)), (some (.inl x4)), d5] [(.inl y0)] σ 0 0 o
def C312_69 (x1 : Int) (x2 : Int) (x3 : Int) (x4 : Int) (d5 : Option AV) (y0 : Int) (y1 : Int) (y2 : Int) (σ : Sg) (o : Rs) : Prop := Gd 312 69 [(some (.inr (.inr (some 682)))), (some (.inl x1)), (some (.inl x2)), (some (.inl x3)), (some (.inl x4)), d5] [(.inl y2), (.inl y1), (.inl y0)] σ 0 0 o
def C312_78 (x1 : Int) (x2 : Int) (x3 : Int) (x4 : Int) (d5 : Option AV) (σ : Sg) (o : Rs) : Prop := Gd 312 78 [(some (.inr (.inr (some 682)))), (some (.inl x1)), (some (.inl x2)), (some (.inl x3)), (some (.inl x4)), d5] [] σ 0 0 o
def C312_79 (x1 : Int) (x2 : Int) (d3 : Option AV) (x4 : Int) (d5 : Option AV) (y0 : Int) (σ : Sg) (o : Rs) : Prop := Gd 312 79 [(some (.inr (.inr (some 682)))), (some (.inl x1)), (some (.inl x2)), d3, (some (.inl x4)), d5] [(.inl y0)] σ 0 0 o
theorem b312_5 {x1 : Int} {x2 : Int} {x3 : Int} {x4 : Int} {d5 : Option AV} {σ : Sg} {o : Rs}   (h : (if x4 < (σ 704 (0 : Int).toNat) then ((x1 = 0) → 0 ≤ x4 ∧ x4 < 256) ∧ (¬ (x1 = 0) → 0 ≤ x4 ∧ x4 < 256) ∧ C312_37 x1 x2 x3 x4 d5 (if x1 = 0 then (σ 700 (x4).toNat) else (σ 702 (x4).toNat)) σ o else o = (.inl (some (.inl x3)), σ))) : C312_5 x1 x2 x3 x4 d5 σ o := by
  show Gd 312 5 [(some (.inr (.inr (some 682)))), (some (.inl x1)), (some (.inl x2)), (some (.inl x3)), (some (.inl x4)), d5] [] σ 0 0 o
  refine g_iload 7 (show op 312 5 = some (.iload 4, 2) by decide +kernel) rfl rfl ?_
  refine g_aload_n 8 (show op 312 7 = some (.aload_n 0, 1) by decide +kernel) rfl rfl ?_
  refine g_getR (ci := 11) (f := 30) (fin := true) (isR := true) 11 704 (show op 312 8 = some (.getfield 73, 3) by decide +kernel) rfl (by decide +kernel) (by decide +kernel) ?_
  refine g_iconst 12 (show op 312 11 = some (.iconst 0, 1) by decide +kernel) rfl rfl ?_
  refine g_iaload 13 2 (show op 312 12 = some (.iaload, 1) by decide +kernel) rfl (by decide +kernel) (by decide) ?_
  by_cases hc3 : x4 < (σ 704 (0 : Int).toNat)
  · rw [if_pos hc3] at h
    refine g_icmpF 16 86 (show op 312 13 = some (.if_icmp .ge 73, 3) by decide +kernel) rfl rfl (decide_eq_false (Int.not_le.mpr hc3)) ?_
    refine g_iload_n 17 (show op 312 16 = some (.iload_n 1, 1) by decide +kernel) rfl rfl ?_
    obtain ⟨G5, G6, h⟩ := h
    by_cases hc4 : x1 = 0
    · refine g_ifT 30 (show op 312 17 = some (.ifCond .eq 13, 3) by decide +kernel) rfl (decide_eq_true hc4) ?_
      refine g_aload_n 31 (show op 312 30 = some (.aload_n 0, 1) by decide +kernel) rfl rfl ?_
      refine g_getR (ci := 11) (f := 26) (fin := true) (isR := true) 34 700 (show op 312 31 = some (.getfield 61, 3) by decide +kernel) rfl (by decide +kernel) (by decide +kernel) ?_
      refine g_iload 36 (show op 312 34 = some (.iload 4, 2) by decide +kernel) rfl rfl ?_
      have g1 := G5 hc4
      refine g_iaload 37 256 (show op 312 36 = some (.iaload, 1) by decide +kernel) rfl (by decide +kernel) g1 ?_
      have h9 := h; simp only [if_pos hc4] at h9; exact h9
    · refine g_ifF 20 30 (show op 312 17 = some (.ifCond .eq 13, 3) by decide +kernel) rfl rfl (decide_eq_false hc4) ?_
      refine g_aload_n 21 (show op 312 20 = some (.aload_n 0, 1) by decide +kernel) rfl rfl ?_
      refine g_getR (ci := 11) (f := 28) (fin := true) (isR := true) 24 702 (show op 312 21 = some (.getfield 67, 3) by decide +kernel) rfl (by decide +kernel) (by decide +kernel) ?_
      refine g_iload 26 (show op 312 24 = some (.iload 4, 2) by decide +kernel) rfl rfl ?_
      have g2 := G6 hc4
      refine g_iaload 27 256 (show op 312 26 = some (.iaload, 1) by decide +kernel) rfl (by decide +kernel) g2 ?_
      refine g_goto 37 (show op 312 27 = some (.goto 10, 3) by decide +kernel) rfl ?_
      have h9 := h; simp only [if_neg hc4] at h9; exact h9
  · rw [if_neg hc3] at h
    refine g_icmpT 86 (show op 312 13 = some (.if_icmp .ge 73, 3) by decide +kernel) rfl (decide_eq_true (Int.not_lt.mp hc3)) ?_
    refine g_iload_n 87 (show op 312 86 = some (.iload_n 3, 1) by decide +kernel) rfl rfl ?_
    exact (g_iret (show op 312 87 = some (.ireturn, 1) by decide +kernel) (by decide +kernel) h)
theorem b312_37 {x1 : Int} {x2 : Int} {x3 : Int} {x4 : Int} {d5 : Option AV} {y0 : Int} {σ : Sg} {o : Rs}   (h : (if y0 ≤ x2 then ((x1 = 0) → 0 ≤ x4 ∧ x4 < 256) ∧ (¬ (x1 = 0) → 0 ≤ x4 ∧ x4 < 256) ∧ C312_69 x1 x2 x3 x4 (some (.inl y0)) x2 y0 (if x1 = 0 then (σ 701 (x4).toNat) else (σ 703 (x4).toNat)) σ o else C312_78 x1 x2 x3 x4 (some (.inl y0)) σ o)) : C312_37 x1 x2 x3 x4 d5 y0 σ o := by
  show Gd 312 37 [(some (.inr (.inr (some 682)))), (some (.inl x1)), (some (.inl x2)), (some (.inl x3)), (some (.inl x4)), d5] [(.inl y0)] σ 0 0 o
  refine g_istore 39 [(some (.inr (.inr (some 682)))), (some (.inl x1)), (some (.inl x2)), (some (.inl x3)), (some (.inl x4)), (some (.inl y0))] (show op 312 37 = some (.istore 5, 2) by decide +kernel) rfl rfl rfl ?_
  refine g_iload_n 40 (show op 312 39 = some (.iload_n 2, 1) by decide +kernel) rfl rfl ?_
  refine g_iload 42 (show op 312 40 = some (.iload 5, 2) by decide +kernel) rfl rfl ?_
  by_cases hc3 : y0 ≤ x2
  · rw [if_pos hc3] at h
    refine g_icmpF 45 78 (show op 312 42 = some (.if_icmp .lt 36, 3) by decide +kernel) rfl rfl (decide_eq_false (Int.not_lt.mpr hc3)) ?_
    refine g_iload_n 46 (show op 312 45 = some (.iload_n 2, 1) by decide +kernel) rfl rfl ?_
    refine g_iload 48 (show op 312 46 = some (.iload 5, 2) by decide +kernel) rfl rfl ?_
    refine g_iload_n 49 (show op 312 48 = some (.iload_n 1, 1) by decide +kernel) rfl rfl ?_
    obtain ⟨G5, G6, h⟩ := h
    by_cases hc4 : x1 = 0
    · refine g_ifT 62 (show op 312 49 = some (.ifCond .eq 13, 3) by decide +kernel) rfl (decide_eq_true hc4) ?_
      refine g_aload_n 63 (show op 312 62 = some (.aload_n 0, 1) by decide +kernel) rfl rfl ?_
      refine g_getR (ci := 11) (f := 27) (fin := true) (isR := true) 66 701 (show op 312 63 = some (.getfield 64, 3) by decide +kernel) rfl (by decide +kernel) (by decide +kernel) ?_
      refine g_iload 68 (show op 312 66 = some (.iload 4, 2) by decide +kernel) rfl rfl ?_
      have g1 := G5 hc4
      refine g_iaload 69 256 (show op 312 68 = some (.iaload, 1) by decide +kernel) rfl (by decide +kernel) g1 ?_
      have h9 := h; simp only [if_pos hc4] at h9; exact h9
    · refine g_ifF 52 62 (show op 312 49 = some (.ifCond .eq 13, 3) by decide +kernel) rfl rfl (decide_eq_false hc4) ?_
      refine g_aload_n 53 (show op 312 52 = some (.aload_n 0, 1) by decide +kernel) rfl rfl ?_
      refine g_getR (ci := 11) (f := 29) (fin := true) (isR := true) 56 703 (show op 312 53 = some (.getfield 70, 3) by decide +kernel) rfl (by decide +kernel) (by decide +kernel) ?_
      refine g_iload 58 (show op 312 56 = some (.iload 4, 2) by decide +kernel) rfl rfl ?_
      have g2 := G6 hc4
      refine g_iaload 59 256 (show op 312 58 = some (.iaload, 1) by decide +kernel) rfl (by decide +kernel) g2 ?_
      refine g_goto 69 (show op 312 59 = some (.goto 10, 3) by decide +kernel) rfl ?_
      have h9 := h; simp only [if_neg hc4] at h9; exact h9
  · rw [if_neg hc3] at h
    refine g_icmpT 78 (show op 312 42 = some (.if_icmp .lt 36, 3) by decide +kernel) rfl (decide_eq_true (Int.not_le.mp hc3)) ?_
    exact h
theorem b312_69 {x1 : Int} {x2 : Int} {x3 : Int} {x4 : Int} {d5 : Option AV} {y0 : Int} {y1 : Int} {y2 : Int} {σ : Sg} {o : Rs}   (h : (-2147483648 ≤ (y1 + y2) ∧ (y1 + y2) ≤ 2147483647) ∧ (if y0 < (y1 + y2) then C312_79 x1 x2 (some (.inl x3)) x4 d5 x4 σ o else C312_78 x1 x2 x3 x4 d5 σ o)) : C312_69 x1 x2 x3 x4 d5 y0 y1 y2 σ o := by
  show Gd 312 69 [(some (.inr (.inr (some 682)))), (some (.inl x1)), (some (.inl x2)), (some (.inl x3)), (some (.inl x4)), d5] [(.inl y2), (.inl y1), (.inl y0)] σ 0 0 o
  obtain ⟨g1, h⟩ := h
  refine g_iadd 70 (show op 312 69 = some (.iadd, 1) by decide +kernel) rfl g1 ?_
  by_cases hc2 : y0 < (y1 + y2)
  · rw [if_pos hc2] at h
    refine g_icmpF 73 78 (show op 312 70 = some (.if_icmp .ge 8, 3) by decide +kernel) rfl rfl (decide_eq_false (Int.not_le.mpr hc2)) ?_
    refine g_iload 75 (show op 312 73 = some (.iload 4, 2) by decide +kernel) rfl rfl ?_
    refine g_goto 79 (show op 312 75 = some (.goto 4, 3) by decide +kernel) rfl ?_
    exact h
  · rw [if_neg hc2] at h
    refine g_icmpT 78 (show op 312 70 = some (.if_icmp .ge 8, 3) by decide +kernel) rfl (decide_eq_true (Int.not_lt.mp hc2)) ?_
    exact h
theorem b312_78 {x1 : Int} {x2 : Int} {x3 : Int} {x4 : Int} {d5 : Option AV} {σ : Sg} {o : Rs}   (h : C312_79 x1 x2 (some (.inl x3)) x4 d5 x3 σ o) : C312_78 x1 x2 x3 x4 d5 σ o := by
  show Gd 312 78 [(some (.inr (.inr (some 682)))), (some (.inl x1)), (some (.inl x2)), (some (.inl x3)), (some (.inl x4)), d5] [] σ 0 0 o
  refine g_iload_n 79 (show op 312 78 = some (.iload_n 3, 1) by decide +kernel) rfl rfl ?_
  exact h
theorem b312_79 {x1 : Int} {x2 : Int} {d3 : Option AV} {x4 : Int} {d5 : Option AV} {y0 : Int} {σ : Sg} {o : Rs}   (h : (-2147483648 ≤ (x4 + 1) ∧ (x4 + 1) ≤ 2147483647) ∧ C312_5 x1 x2 y0 (x4 + 1) d5 σ o) : C312_79 x1 x2 d3 x4 d5 y0 σ o := by
  show Gd 312 79 [(some (.inr (.inr (some 682)))), (some (.inl x1)), (some (.inl x2)), d3, (some (.inl x4)), d5] [(.inl y0)] σ 0 0 o
  refine g_istore_n 80 [(some (.inr (.inr (some 682)))), (some (.inl x1)), (some (.inl x2)), (some (.inl y0)), (some (.inl x4)), d5] (show op 312 79 = some (.istore_n 3, 1) by decide +kernel) rfl rfl rfl ?_
  obtain ⟨g1, h⟩ := h
  refine g_iinc 83 [(some (.inr (.inr (some 682)))), (some (.inl x1)), (some (.inl x2)), (some (.inl y0)), (some (.inl (x4 + 1))), d5] (show op 312 80 = some (.iinc 4 1, 3) by decide +kernel) rfl rfl g1 rfl ?_
  refine g_goto 5 (show op 312 83 = some (.goto (-78), 3) by decide +kernel) rfl ?_
  exact h
/-- PatchBenchModel.hunkWith (ZI)I -/
theorem b312 {x1 : Int} {x2 : Int} {σ : Sg} {o : Rs}   (h : C312_5 x1 x2 (-1) 0 none σ o) : Dd 312 [(.inr (.inr (some 682))), (.inl x1), (.inl x2)] σ o := by
  refine Dd_of (l := 6) (by decide +kernel) ?_
  show Gd 312 0 [(some (.inr (.inr (some 682)))), (some (.inl x1)), (some (.inl x2)), none, none, none] [] σ 0 0 o
  refine g_iconst 1 (show op 312 0 = some (.iconst (-1), 1) by decide +kernel) rfl rfl ?_
  refine g_istore_n 2 [(some (.inr (.inr (some 682)))), (some (.inl x1)), (some (.inl x2)), (some (.inl (-1))), none, none] (show op 312 1 = some (.istore_n 3, 1) by decide +kernel) rfl rfl rfl ?_
  refine g_iconst 3 (show op 312 2 = some (.iconst 0, 1) by decide +kernel) rfl rfl ?_
  refine g_istore 5 [(some (.inr (.inr (some 682)))), (some (.inl x1)), (some (.inl x2)), (some (.inl (-1))), (some (.inl 0)), none] (show op 312 3 = some (.istore 4, 2) by decide +kernel) rfl rfl rfl ?_
  exact h
/-- PatchBenchModel.areLike (III)Z -/
theorem b313 {x1 : Int} {x2 : Int} {x3 : Int} {σ : Sg} {o : Rs}   (h : (-2147483648 ≤ (100 * x1) ∧ (100 * x1) ≤ 2147483647) ∧ (-2147483648 ≤ ((100 * x1) + x2) ∧ ((100 * x1) + x2) ≤ 2147483647) ∧ (0 ≤ ((100 * x1) + x2) ∧ ((100 * x1) + x2) < 4400) ∧ (-2147483648 ≤ (100 * x1) ∧ (100 * x1) ≤ 2147483647) ∧ (-2147483648 ≤ ((100 * x1) + x3) ∧ ((100 * x1) + x3) ≤ 2147483647) ∧ (0 ≤ ((100 * x1) + x3) ∧ ((100 * x1) + x3) < 4400) ∧ (∃ (v8 : Int) (s7 : Sg), Dd 254 [(.inr (.inr (some 682))), (.inl (σ 685 (((100 * x1) + x2)).toNat)), (.inl (σ 686 (((100 * x1) + x3)).toNat))] σ (.inl (some (.inl v8)), s7) ∧ o = (.inl (some (.inl (if 50 ≤ v8 then 1 else 0))), s7))) : Dd 313 [(.inr (.inr (some 682))), (.inl x1), (.inl x2), (.inl x3)] σ o := by
  refine Dd_of (l := 4) (by decide +kernel) ?_
  show Gd 313 0 [(some (.inr (.inr (some 682)))), (some (.inl x1)), (some (.inl x2)), (some (.inl x3))] [] σ 0 0 o
  refine g_aload_n 1 (show op 313 0 = some (.aload_n 0, 1) by decide +kernel) rfl rfl ?_
  refine g_aload_n 2 (show op 313 1 = some (.aload_n 0, 1) by decide +kernel) rfl rfl ?_
  refine g_getR (ci := 11) (f := 4) (fin := true) (isR := true) 5 685 (show op 313 2 = some (.getfield 16, 3) by decide +kernel) rfl (by decide +kernel) (by decide +kernel) ?_
  refine g_bipush 7 (show op 313 5 = some (.bipush 100, 2) by decide +kernel) rfl (by decide) ?_
  refine g_iload_n 8 (show op 313 7 = some (.iload_n 1, 1) by decide +kernel) rfl rfl ?_
  obtain ⟨g1, h⟩ := h
  refine g_imul 9 (show op 313 8 = some (.imul, 1) by decide +kernel) rfl g1 ?_
  refine g_iload_n 10 (show op 313 9 = some (.iload_n 2, 1) by decide +kernel) rfl rfl ?_
  obtain ⟨g2, h⟩ := h
  refine g_iadd 11 (show op 313 10 = some (.iadd, 1) by decide +kernel) rfl g2 ?_
  obtain ⟨g3, h⟩ := h
  refine g_iaload 12 4400 (show op 313 11 = some (.iaload, 1) by decide +kernel) rfl (by decide +kernel) g3 ?_
  refine g_aload_n 13 (show op 313 12 = some (.aload_n 0, 1) by decide +kernel) rfl rfl ?_
  refine g_getR (ci := 11) (f := 5) (fin := true) (isR := true) 16 686 (show op 313 13 = some (.getfield 19, 3) by decide +kernel) rfl (by decide +kernel) (by decide +kernel) ?_
  refine g_bipush 18 (show op 313 16 = some (.bipush 100, 2) by decide +kernel) rfl (by decide) ?_
  refine g_iload_n 19 (show op 313 18 = some (.iload_n 1, 1) by decide +kernel) rfl rfl ?_
  obtain ⟨g4, h⟩ := h
  refine g_imul 20 (show op 313 19 = some (.imul, 1) by decide +kernel) rfl g4 ?_
  refine g_iload_n 21 (show op 313 20 = some (.iload_n 3, 1) by decide +kernel) rfl rfl ?_
  obtain ⟨g5, h⟩ := h
  refine g_iadd 22 (show op 313 21 = some (.iadd, 1) by decide +kernel) rfl g5 ?_
  obtain ⟨g6, h⟩ := h
  refine g_iaload 23 4400 (show op 313 22 = some (.iaload, 1) by decide +kernel) rfl (by decide +kernel) g6 ?_
  obtain ⟨v8, s7, hD9, h⟩ := h
  refine g_call 26 [(.inl v8)] (show op 313 23 = some (.invokevirtual 178, 3) by decide +kernel) (call_vi' (k' := 0) (n' := 0) (nj := 3) (j := 254) (k9 := 21) (t := []) (as := [(.inr (.inr (some 682))), (.inl (σ 685 (((100 * x1) + x2)).toNat)), (.inl (σ 686 (((100 * x1) + x3)).toNat))]) (by decide +kernel) rfl (by decide +kernel) rfl rfl rfl rfl rfl rfl (by decide +kernel) (by decide +kernel)) hD9 rfl ?_
  refine g_bipush 28 (show op 313 26 = some (.bipush 50, 2) by decide +kernel) rfl (by decide) ?_
  by_cases hc10 : 50 ≤ v8
  · refine g_icmpF 31 35 (show op 313 28 = some (.if_icmp .lt 7, 3) by decide +kernel) rfl rfl (decide_eq_false (Int.not_lt.mpr hc10)) ?_
    refine g_iconst 32 (show op 313 31 = some (.iconst 1, 1) by decide +kernel) rfl rfl ?_
    refine g_goto 36 (show op 313 32 = some (.goto 4, 3) by decide +kernel) rfl ?_
    have h9 := h; simp only [if_pos hc10] at h9; exact (g_zret (show op 313 36 = some (.ireturn, 1) by decide +kernel) (by decide +kernel) (by decide) h9)
  · refine g_icmpT 35 (show op 313 28 = some (.if_icmp .lt 7, 3) by decide +kernel) rfl (decide_eq_true (Int.not_le.mp hc10)) ?_
    refine g_iconst 36 (show op 313 35 = some (.iconst 0, 1) by decide +kernel) rfl rfl ?_
    have h9 := h; simp only [if_neg hc10] at h9; exact (g_zret (show op 313 36 = some (.ireturn, 1) by decide +kernel) (by decide +kernel) (by decide) h9)
def C314_22 (x1 : Int) (x2 : Int) (x3 : Int) (x4 : Int) (x5 : Int) (x6 : Int) (x7 : Int) (x8 : Int) (d9 : Option AV) (d10 : Option AV) (d11 : Option AV) (d12 : Option AV) (d13 : Option AV) (d14 : Option AV) (d15 : Option AV) (σ : Sg) (o : Rs) : Prop := Gd 314 22 [(some (.inr (.inr (some 682)))), (some (.inl x1)), (some (.inl x2)), (some (.inl x3)), (some (.inl x4)), (some (.inl x5)), (some (.inl x6)), (some (.inl x7)), (some (.inl x8)), d9, d10, d11, d12, d13, d14, d15] [] σ 0 0 o
def C314_47 (x1 : Int) (x2 : Int) (x3 : Int) (x4 : Int) (x5 : Int) (x6 : Int) (x7 : Int) (x8 : Int) (x9 : Int) (d10 : Option AV) (d11 : Option AV) (d12 : Option AV) (d13 : Option AV) (d14 : Option AV) (d15 : Option AV) (σ : Sg) (o : Rs) : Prop := Gd 314 47 [(some (.inr (.inr (some 682)))), (some (.inl x1)), (some (.inl x2)), (some (.inl x3)), (some (.inl x4)), (some (.inl x5)), (some (.inl x6)), (some (.inl x7)), (some (.inl x8)), (some (.inl x9)), d10, d11, d12, d13, d14, d15] [] σ 0 0 o
def C314_86 (x1 : Int) (x2 : Int) (x3 : Int) (x4 : Int) (x5 : Int) (x6 : Int) (x7 : Int) (x8 : Int) (x9 : Int) (x10 : Int) (x11 : Int) (x12 : Int) (x13 : Int) (d14 : Option AV) (d15 : Option AV) (σ : Sg) (o : Rs) : Prop := Gd 314 86 [(some (.inr (.inr (some 682)))), (some (.inl x1)), (some (.inl x2)), (some (.inl x3)), (some (.inl x4)), (some (.inl x5)), (some (.inl x6)), (some (.inl x7)), (some (.inl x8)), (some (.inl x9)), (some (.inl x10)), (some (.inl x11)), (some (.inl x12)), (some (.inl x13)), d14, d15] [] σ 0 0 o
def C314_146 (x1 : Int) (x2 : Int) (x3 : Int) (x4 : Int) (x5 : Int) (x6 : Int) (x7 : Int) (x8 : Int) (x9 : Int) (x10 : Int) (x11 : Int) (x12 : Int) (x13 : Int) (d14 : Option AV) (d15 : Option AV) (σ : Sg) (o : Rs) : Prop := Gd 314 146 [(some (.inr (.inr (some 682)))), (some (.inl x1)), (some (.inl x2)), (some (.inl x3)), (some (.inl x4)), (some (.inl x5)), (some (.inl x6)), (some (.inl x7)), (some (.inl x8)), (some (.inl x9)), (some (.inl x10)), (some (.inl x11)), (some (.inl x12)), (some (.inl x13)), d14, d15] [] σ 0 0 o
def C314_217 (x1 : Int) (x2 : Int) (x3 : Int) (x4 : Int) (x5 : Int) (x6 : Int) (x7 : Int) (x8 : Int) (x9 : Int) (x10 : Int) (x11 : Int) (x12 : Int) (x13 : Int) (d14 : Option AV) (d15 : Option AV) (σ : Sg) (o : Rs) : Prop := Gd 314 217 [(some (.inr (.inr (some 682)))), (some (.inl x1)), (some (.inl x2)), (some (.inl x3)), (some (.inl x4)), (some (.inl x5)), (some (.inl x6)), (some (.inl x7)), (some (.inl x8)), (some (.inl x9)), (some (.inl x10)), (some (.inl x11)), (some (.inl x12)), (some (.inl x13)), d14, d15] [] σ 0 0 o
def C314_222 (x1 : Int) (x2 : Int) (x3 : Int) (x4 : Int) (x5 : Int) (x6 : Int) (x7 : Int) (x8 : Int) (x9 : Int) (x10 : Int) (x11 : Int) (x12 : Int) (x13 : Int) (x14 : Int) (d15 : Option AV) (σ : Sg) (o : Rs) : Prop := Gd 314 222 [(some (.inr (.inr (some 682)))), (some (.inl x1)), (some (.inl x2)), (some (.inl x3)), (some (.inl x4)), (some (.inl x5)), (some (.inl x6)), (some (.inl x7)), (some (.inl x8)), (some (.inl x9)), (some (.inl x10)), (some (.inl x11)), (some (.inl x12)), (some (.inl x13)), (some (.inl x14)), d15] [] σ 0 0 o
def C314_284 (x1 : Int) (x2 : Int) (x3 : Int) (x4 : Int) (x5 : Int) (x6 : Int) (x7 : Int) (x8 : Int) (x9 : Int) (x10 : Int) (x11 : Int) (x12 : Int) (x13 : Int) (d14 : Option AV) (d15 : Option AV) (σ : Sg) (o : Rs) : Prop := Gd 314 284 [(some (.inr (.inr (some 682)))), (some (.inl x1)), (some (.inl x2)), (some (.inl x3)), (some (.inl x4)), (some (.inl x5)), (some (.inl x6)), (some (.inl x7)), (some (.inl x8)), (some (.inl x9)), (some (.inl x10)), (some (.inl x11)), (some (.inl x12)), (some (.inl x13)), d14, d15] [] σ 0 0 o
def C314_271 (x1 : Int) (x2 : Int) (x3 : Int) (x4 : Int) (x5 : Int) (x6 : Int) (x7 : Int) (x8 : Int) (x9 : Int) (x10 : Int) (x11 : Int) (d12 : Option AV) (x13 : Int) (x14 : Int) (d15 : Option AV) (σ : Sg) (o : Rs) : Prop := Gd 314 271 [(some (.inr (.inr (some 682)))), (some (.inl x1)), (some (.inl x2)), (some (.inl x3)), (some (.inl x4)), (some (.inl x5)), (some (.inl x6)), (some (.inl x7)), (some (.inl x8)), (some (.inl x9)), (some (.inl x10)), (some (.inl x11)), d12, (some (.inl x13)), (some (.inl x14)), d15] [] σ 0 0 o
def C314_276 (x1 : Int) (x2 : Int) (x3 : Int) (x4 : Int) (x5 : Int) (x6 : Int) (x7 : Int) (x8 : Int) (x9 : Int) (x10 : Int) (x11 : Int) (d12 : Option AV) (x13 : Int) (x14 : Int) (d15 : Option AV) (y0 : Int) (σ : Sg) (o : Rs) : Prop := Gd 314 276 [(some (.inr (.inr (some 682)))), (some (.inl x1)), (some (.inl x2)), (some (.inl x3)), (some (.inl x4)), (some (.inl x5)), (some (.inl x6)), (some (.inl x7)), (some (.inl x8)), (some (.inl x9)), (some (.inl x10)), (some (.inl x11)), d12, (some (.inl x13)), (some (.inl x14)), d15] [(.inl y0)] σ 0 0 o
def C314_322 (x1 : Int) (x2 : Int) (x3 : Int) (x4 : Int) (x5 : Int) (x6 : Int) (x7 : Int) (x8 : Int) (x9 : Int) (x10 : Int) (d11 : Option AV) (x12 : Int) (x13 : Int) (x14 : Int) (d15 : Option AV) (σ : Sg) (o : Rs) : Prop := Gd 314 322 [(some (.inr (.inr (some 682)))), (some (.inl x1)), (some (.inl x2)), (some (.inl x3)), (some (.inl x4)), (some (.inl x5)), (some (.inl x6)), (some (.inl x7)), (some (.inl x8)), (some (.inl x9)), (some (.inl x10)), d11, (some (.inl x12)), (some (.inl x13)), (some (.inl x14)), d15] [] σ 0 0 o
def C314_326 (x1 : Int) (x2 : Int) (x3 : Int) (x4 : Int) (x5 : Int) (x6 : Int) (x7 : Int) (x8 : Int) (x9 : Int) (x10 : Int) (d11 : Option AV) (x12 : Int) (x13 : Int) (x14 : Int) (d15 : Option AV) (σ : Sg) (o : Rs) : Prop := Gd 314 326 [(some (.inr (.inr (some 682)))), (some (.inl x1)), (some (.inl x2)), (some (.inl x3)), (some (.inl x4)), (some (.inl x5)), (some (.inl x6)), (some (.inl x7)), (some (.inl x8)), (some (.inl x9)), (some (.inl x10)), d11, (some (.inl x12)), (some (.inl x13)), (some (.inl x14)), d15] [] σ 0 0 o
def C314_327 (x1 : Int) (x2 : Int) (x3 : Int) (x4 : Int) (x5 : Int) (x6 : Int) (x7 : Int) (x8 : Int) (x9 : Int) (x10 : Int) (d11 : Option AV) (x12 : Int) (x13 : Int) (x14 : Int) (d15 : Option AV) (y0 : Int) (σ : Sg) (o : Rs) : Prop := Gd 314 327 [(some (.inr (.inr (some 682)))), (some (.inl x1)), (some (.inl x2)), (some (.inl x3)), (some (.inl x4)), (some (.inl x5)), (some (.inl x6)), (some (.inl x7)), (some (.inl x8)), (some (.inl x9)), (some (.inl x10)), d11, (some (.inl x12)), (some (.inl x13)), (some (.inl x14)), d15] [(.inl y0)] σ 0 0 o
def C314_385 (x1 : Int) (x2 : Int) (x3 : Int) (x4 : Int) (x5 : Int) (x6 : Int) (x7 : Int) (x8 : Int) (x9 : Int) (d10 : Option AV) (d11 : Option AV) (d12 : Option AV) (d13 : Option AV) (d14 : Option AV) (d15 : Option AV) (σ : Sg) (o : Rs) : Prop := Gd 314 385 [(some (.inr (.inr (some 682)))), (some (.inl x1)), (some (.inl x2)), (some (.inl x3)), (some (.inl x4)), (some (.inl x5)), (some (.inl x6)), (some (.inl x7)), (some (.inl x8)), (some (.inl x9)), d10, d11, d12, d13, d14, d15] [] σ 0 0 o
def C314_364 (x1 : Int) (x2 : Int) (x3 : Int) (d4 : Option AV) (d5 : Option AV) (d6 : Option AV) (d7 : Option AV) (x8 : Int) (x9 : Int) (x10 : Int) (d11 : Option AV) (d12 : Option AV) (d13 : Option AV) (x14 : Int) (d15 : Option AV) (σ : Sg) (o : Rs) : Prop := Gd 314 364 [(some (.inr (.inr (some 682)))), (some (.inl x1)), (some (.inl x2)), (some (.inl x3)), d4, d5, d6, d7, (some (.inl x8)), (some (.inl x9)), (some (.inl x10)), d11, d12, d13, (some (.inl x14)), d15] [] σ 0 0 o
theorem b314_22 {x1 : Int} {x2 : Int} {x3 : Int} {x4 : Int} {x5 : Int} {x6 : Int} {x7 : Int} {x8 : Int} {d9 : Option AV} {d10 : Option AV} {d11 : Option AV} {d12 : Option AV} {d13 : Option AV} {d14 : Option AV} {d15 : Option AV} {σ : Sg} {o : Rs}   (h : (if x8 < (σ 704 (0 : Int).toNat) then (if x3 = (-1) then o = (.inl (some (.inl x7)), σ) else (0 ≤ x8 ∧ x8 < 256) ∧ C314_47 x1 x2 x3 x4 x5 x6 x7 x8 (σ 702 (x8).toNat) d10 d11 d12 d13 d14 d15 σ o) else o = (.inl (some (.inl x7)), σ))) : C314_22 x1 x2 x3 x4 x5 x6 x7 x8 d9 d10 d11 d12 d13 d14 d15 σ o := by
  show Gd 314 22 [(some (.inr (.inr (some 682)))), (some (.inl x1)), (some (.inl x2)), (some (.inl x3)), (some (.inl x4)), (some (.inl x5)), (some (.inl x6)), (some (.inl x7)), (some (.inl x8)), d9, d10, d11, d12, d13, d14, d15] [] σ 0 0 o
  refine g_iload 24 (show op 314 22 = some (.iload 8, 2) by decide +kernel) rfl rfl ?_
  refine g_aload_n 25 (show op 314 24 = some (.aload_n 0, 1) by decide +kernel) rfl rfl ?_
  refine g_getR (ci := 11) (f := 30) (fin := true) (isR := true) 28 704 (show op 314 25 = some (.getfield 73, 3) by decide +kernel) rfl (by decide +kernel) (by decide +kernel) ?_
  refine g_iconst 29 (show op 314 28 = some (.iconst 0, 1) by decide +kernel) rfl rfl ?_
  refine g_iaload 30 2 (show op 314 29 = some (.iaload, 1) by decide +kernel) rfl (by decide +kernel) (by decide) ?_
  by_cases hc2 : x8 < (σ 704 (0 : Int).toNat)
  · rw [if_pos hc2] at h
    refine g_icmpF 33 397 (show op 314 30 = some (.if_icmp .ge 367, 3) by decide +kernel) rfl rfl (decide_eq_false (Int.not_le.mpr hc2)) ?_
    refine g_iload_n 34 (show op 314 33 = some (.iload_n 3, 1) by decide +kernel) rfl rfl ?_
    refine g_iconst 35 (show op 314 34 = some (.iconst (-1), 1) by decide +kernel) rfl rfl ?_
    by_cases hc3 : x3 = (-1)
    · rw [if_pos hc3] at h
      refine g_icmpT 397 (show op 314 35 = some (.if_icmp .eq 362, 3) by decide +kernel) rfl (decide_eq_true hc3) ?_
      refine g_iload 399 (show op 314 397 = some (.iload 7, 2) by decide +kernel) rfl rfl ?_
      exact (g_iret (show op 314 399 = some (.ireturn, 1) by decide +kernel) (by decide +kernel) h)
    · rw [if_neg hc3] at h
      refine g_icmpF 38 397 (show op 314 35 = some (.if_icmp .eq 362, 3) by decide +kernel) rfl rfl (decide_eq_false hc3) ?_
      refine g_aload_n 39 (show op 314 38 = some (.aload_n 0, 1) by decide +kernel) rfl rfl ?_
      refine g_getR (ci := 11) (f := 28) (fin := true) (isR := true) 42 702 (show op 314 39 = some (.getfield 67, 3) by decide +kernel) rfl (by decide +kernel) (by decide +kernel) ?_
      refine g_iload 44 (show op 314 42 = some (.iload 8, 2) by decide +kernel) rfl rfl ?_
      obtain ⟨g1, h⟩ := h
      refine g_iaload 45 256 (show op 314 44 = some (.iaload, 1) by decide +kernel) rfl (by decide +kernel) g1 ?_
      refine g_istore 47 [(some (.inr (.inr (some 682)))), (some (.inl x1)), (some (.inl x2)), (some (.inl x3)), (some (.inl x4)), (some (.inl x5)), (some (.inl x6)), (some (.inl x7)), (some (.inl x8)), (some (.inl (σ 702 (x8).toNat))), d10, d11, d12, d13, d14, d15] (show op 314 45 = some (.istore 9, 2) by decide +kernel) rfl rfl rfl ?_
      exact h
  · rw [if_neg hc2] at h
    refine g_icmpT 397 (show op 314 30 = some (.if_icmp .ge 367, 3) by decide +kernel) rfl (decide_eq_true (Int.not_lt.mp hc2)) ?_
    refine g_iload 399 (show op 314 397 = some (.iload 7, 2) by decide +kernel) rfl rfl ?_
    exact (g_iret (show op 314 399 = some (.ireturn, 1) by decide +kernel) (by decide +kernel) h)
theorem b314_47 {x1 : Int} {x2 : Int} {x3 : Int} {x4 : Int} {x5 : Int} {x6 : Int} {x7 : Int} {x8 : Int} {x9 : Int} {d10 : Option AV} {d11 : Option AV} {d12 : Option AV} {d13 : Option AV} {d14 : Option AV} {d15 : Option AV} {σ : Sg} {o : Rs}   (h : (0 ≤ x8 ∧ x8 < 256) ∧ (0 ≤ x8 ∧ x8 < 256) ∧ (-2147483648 ≤ ((σ 702 (x8).toNat) + (σ 703 (x8).toNat)) ∧ ((σ 702 (x8).toNat) + (σ 703 (x8).toNat)) ≤ 2147483647) ∧ (if x9 < ((σ 702 (x8).toNat) + (σ 703 (x8).toNat)) then (∃ (v5 : Int) (s4 : Sg), Dd 313 [(.inr (.inr (some 682))), (.inl x1), (.inl x2), (.inl x9)] σ (.inl (some (.inl v5)), s4) ∧ C314_86 x1 x2 x3 x4 x5 x6 x7 x8 x9 0 0 0 v5 d14 d15 s4 o) else (-2147483648 ≤ (x8 + 1) ∧ (x8 + 1) ≤ 2147483647) ∧ C314_22 x1 x2 x3 x4 x5 x6 x7 (x8 + 1) (some (.inl x9)) d10 d11 d12 d13 d14 d15 σ o)) : C314_47 x1 x2 x3 x4 x5 x6 x7 x8 x9 d10 d11 d12 d13 d14 d15 σ o := by
  show Gd 314 47 [(some (.inr (.inr (some 682)))), (some (.inl x1)), (some (.inl x2)), (some (.inl x3)), (some (.inl x4)), (some (.inl x5)), (some (.inl x6)), (some (.inl x7)), (some (.inl x8)), (some (.inl x9)), d10, d11, d12, d13, d14, d15] [] σ 0 0 o
  refine g_iload 49 (show op 314 47 = some (.iload 9, 2) by decide +kernel) rfl rfl ?_
  refine g_aload_n 50 (show op 314 49 = some (.aload_n 0, 1) by decide +kernel) rfl rfl ?_
  refine g_getR (ci := 11) (f := 28) (fin := true) (isR := true) 53 702 (show op 314 50 = some (.getfield 67, 3) by decide +kernel) rfl (by decide +kernel) (by decide +kernel) ?_
  refine g_iload 55 (show op 314 53 = some (.iload 8, 2) by decide +kernel) rfl rfl ?_
  obtain ⟨g1, h⟩ := h
  refine g_iaload 56 256 (show op 314 55 = some (.iaload, 1) by decide +kernel) rfl (by decide +kernel) g1 ?_
  refine g_aload_n 57 (show op 314 56 = some (.aload_n 0, 1) by decide +kernel) rfl rfl ?_
  refine g_getR (ci := 11) (f := 29) (fin := true) (isR := true) 60 703 (show op 314 57 = some (.getfield 70, 3) by decide +kernel) rfl (by decide +kernel) (by decide +kernel) ?_
  refine g_iload 62 (show op 314 60 = some (.iload 8, 2) by decide +kernel) rfl rfl ?_
  obtain ⟨g2, h⟩ := h
  refine g_iaload 63 256 (show op 314 62 = some (.iaload, 1) by decide +kernel) rfl (by decide +kernel) g2 ?_
  obtain ⟨g3, h⟩ := h
  refine g_iadd 64 (show op 314 63 = some (.iadd, 1) by decide +kernel) rfl g3 ?_
  by_cases hc8 : x9 < ((σ 702 (x8).toNat) + (σ 703 (x8).toNat))
  · rw [if_pos hc8] at h
    refine g_icmpF 67 391 (show op 314 64 = some (.if_icmp .ge 327, 3) by decide +kernel) rfl rfl (decide_eq_false (Int.not_le.mpr hc8)) ?_
    refine g_iconst 68 (show op 314 67 = some (.iconst 0, 1) by decide +kernel) rfl rfl ?_
    refine g_istore 70 [(some (.inr (.inr (some 682)))), (some (.inl x1)), (some (.inl x2)), (some (.inl x3)), (some (.inl x4)), (some (.inl x5)), (some (.inl x6)), (some (.inl x7)), (some (.inl x8)), (some (.inl x9)), (some (.inl 0)), d11, d12, d13, d14, d15] (show op 314 68 = some (.istore 10, 2) by decide +kernel) rfl rfl rfl ?_
    refine g_iconst 71 (show op 314 70 = some (.iconst 0, 1) by decide +kernel) rfl rfl ?_
    refine g_istore 73 [(some (.inr (.inr (some 682)))), (some (.inl x1)), (some (.inl x2)), (some (.inl x3)), (some (.inl x4)), (some (.inl x5)), (some (.inl x6)), (some (.inl x7)), (some (.inl x8)), (some (.inl x9)), (some (.inl 0)), (some (.inl 0)), d12, d13, d14, d15] (show op 314 71 = some (.istore 11, 2) by decide +kernel) rfl rfl rfl ?_
    refine g_iconst 74 (show op 314 73 = some (.iconst 0, 1) by decide +kernel) rfl rfl ?_
    refine g_istore 76 [(some (.inr (.inr (some 682)))), (some (.inl x1)), (some (.inl x2)), (some (.inl x3)), (some (.inl x4)), (some (.inl x5)), (some (.inl x6)), (some (.inl x7)), (some (.inl x8)), (some (.inl x9)), (some (.inl 0)), (some (.inl 0)), (some (.inl 0)), d13, d14, d15] (show op 314 74 = some (.istore 12, 2) by decide +kernel) rfl rfl rfl ?_
    refine g_aload_n 77 (show op 314 76 = some (.aload_n 0, 1) by decide +kernel) rfl rfl ?_
    refine g_iload_n 78 (show op 314 77 = some (.iload_n 1, 1) by decide +kernel) rfl rfl ?_
    refine g_iload_n 79 (show op 314 78 = some (.iload_n 2, 1) by decide +kernel) rfl rfl ?_
    refine g_iload 81 (show op 314 79 = some (.iload 9, 2) by decide +kernel) rfl rfl ?_
    obtain ⟨v5, s4, hD6, h⟩ := h
    refine g_call 84 [(.inl v5)] (show op 314 81 = some (.invokevirtual 325, 3) by decide +kernel) (call_vi' (k' := 0) (n' := 0) (nj := 4) (j := 313) (k9 := 21) (t := []) (as := [(.inr (.inr (some 682))), (.inl x1), (.inl x2), (.inl x9)]) (by decide +kernel) rfl (by decide +kernel) rfl rfl rfl rfl rfl rfl (by decide +kernel) (by decide +kernel)) hD6 rfl ?_
    refine g_istore 86 [(some (.inr (.inr (some 682)))), (some (.inl x1)), (some (.inl x2)), (some (.inl x3)), (some (.inl x4)), (some (.inl x5)), (some (.inl x6)), (some (.inl x7)), (some (.inl x8)), (some (.inl x9)), (some (.inl 0)), (some (.inl 0)), (some (.inl 0)), (some (.inl v5)), d14, d15] (show op 314 84 = some (.istore 13, 2) by decide +kernel) rfl rfl rfl ?_
    exact h
  · rw [if_neg hc8] at h
    refine g_icmpT 391 (show op 314 64 = some (.if_icmp .ge 327, 3) by decide +kernel) rfl (decide_eq_true (Int.not_lt.mp hc8)) ?_
    obtain ⟨g7, h⟩ := h
    refine g_iinc 394 [(some (.inr (.inr (some 682)))), (some (.inl x1)), (some (.inl x2)), (some (.inl x3)), (some (.inl x4)), (some (.inl x5)), (some (.inl x6)), (some (.inl x7)), (some (.inl (x8 + 1))), (some (.inl x9)), d10, d11, d12, d13, d14, d15] (show op 314 391 = some (.iinc 8 1, 3) by decide +kernel) rfl rfl g7 rfl ?_
    refine g_goto 22 (show op 314 394 = some (.goto (-372), 3) by decide +kernel) rfl ?_
    exact h
theorem b314_86 {x1 : Int} {x2 : Int} {x3 : Int} {x4 : Int} {x5 : Int} {x6 : Int} {x7 : Int} {x8 : Int} {x9 : Int} {x10 : Int} {x11 : Int} {x12 : Int} {x13 : Int} {d14 : Option AV} {d15 : Option AV} {σ : Sg} {o : Rs}   (h : (if x13 = 0 then C314_146 x1 x2 x3 x4 x5 x6 x7 x8 x9 x10 x11 x12 x13 d14 d15 σ o else (-2147483648 ≤ (x2 - x10) ∧ (x2 - x10) ≤ 2147483647) ∧ (0 ≤ x3 ∧ x3 < 256) ∧ (if (σ 700 (x3).toNat) < (x2 - x10) then (-2147483648 ≤ (x9 - x10) ∧ (x9 - x10) ≤ 2147483647) ∧ (0 ≤ x8 ∧ x8 < 256) ∧ (if (σ 702 (x8).toNat) < (x9 - x10) then (-2147483648 ≤ (x2 - x10) ∧ (x2 - x10) ≤ 2147483647) ∧ (-2147483648 ≤ ((x2 - x10) - 1) ∧ ((x2 - x10) - 1) ≤ 2147483647) ∧ (-2147483648 ≤ (x9 - x10) ∧ (x9 - x10) ≤ 2147483647) ∧ (-2147483648 ≤ ((x9 - x10) - 1) ∧ ((x9 - x10) - 1) ≤ 2147483647) ∧ (∃ (v10 : Int) (s9 : Sg), Dd 313 [(.inr (.inr (some 682))), (.inl x1), (.inl ((x2 - x10) - 1)), (.inl ((x9 - x10) - 1))] σ (.inl (some (.inl v10)), s9) ∧ (if v10 = 0 then C314_146 x1 x2 x3 x4 x5 x6 x7 x8 x9 x10 x11 x12 x13 d14 d15 s9 o else (-2147483648 ≤ (x10 + 1) ∧ (x10 + 1) ≤ 2147483647) ∧ C314_86 x1 x2 x3 x4 x5 x6 x7 x8 x9 (x10 + 1) x11 x12 x13 d14 d15 s9 o)) else C314_146 x1 x2 x3 x4 x5 x6 x7 x8 x9 x10 x11 x12 x13 d14 d15 σ o) else C314_146 x1 x2 x3 x4 x5 x6 x7 x8 x9 x10 x11 x12 x13 d14 d15 σ o))) : C314_86 x1 x2 x3 x4 x5 x6 x7 x8 x9 x10 x11 x12 x13 d14 d15 σ o := by
  show Gd 314 86 [(some (.inr (.inr (some 682)))), (some (.inl x1)), (some (.inl x2)), (some (.inl x3)), (some (.inl x4)), (some (.inl x5)), (some (.inl x6)), (some (.inl x7)), (some (.inl x8)), (some (.inl x9)), (some (.inl x10)), (some (.inl x11)), (some (.inl x12)), (some (.inl x13)), d14, d15] [] σ 0 0 o
  refine g_iload 88 (show op 314 86 = some (.iload 13, 2) by decide +kernel) rfl rfl ?_
  by_cases hc13 : x13 = 0
  · rw [if_pos hc13] at h
    refine g_ifT 146 (show op 314 88 = some (.ifCond .eq 58, 3) by decide +kernel) rfl (decide_eq_true hc13) ?_
    exact h
  · rw [if_neg hc13] at h
    refine g_ifF 91 146 (show op 314 88 = some (.ifCond .eq 58, 3) by decide +kernel) rfl rfl (decide_eq_false hc13) ?_
    refine g_iload_n 92 (show op 314 91 = some (.iload_n 2, 1) by decide +kernel) rfl rfl ?_
    refine g_iload 94 (show op 314 92 = some (.iload 10, 2) by decide +kernel) rfl rfl ?_
    obtain ⟨g1, h⟩ := h
    refine g_isub 95 (show op 314 94 = some (.isub, 1) by decide +kernel) rfl g1 ?_
    refine g_aload_n 96 (show op 314 95 = some (.aload_n 0, 1) by decide +kernel) rfl rfl ?_
    refine g_getR (ci := 11) (f := 26) (fin := true) (isR := true) 99 700 (show op 314 96 = some (.getfield 61, 3) by decide +kernel) rfl (by decide +kernel) (by decide +kernel) ?_
    refine g_iload_n 100 (show op 314 99 = some (.iload_n 3, 1) by decide +kernel) rfl rfl ?_
    obtain ⟨g2, h⟩ := h
    refine g_iaload 101 256 (show op 314 100 = some (.iaload, 1) by decide +kernel) rfl (by decide +kernel) g2 ?_
    by_cases hc14 : (σ 700 (x3).toNat) < (x2 - x10)
    · rw [if_pos hc14] at h
      refine g_icmpF 104 146 (show op 314 101 = some (.if_icmp .le 45, 3) by decide +kernel) rfl rfl (decide_eq_false (Int.not_le.mpr hc14)) ?_
      refine g_iload 106 (show op 314 104 = some (.iload 9, 2) by decide +kernel) rfl rfl ?_
      refine g_iload 108 (show op 314 106 = some (.iload 10, 2) by decide +kernel) rfl rfl ?_
      obtain ⟨g3, h⟩ := h
      refine g_isub 109 (show op 314 108 = some (.isub, 1) by decide +kernel) rfl g3 ?_
      refine g_aload_n 110 (show op 314 109 = some (.aload_n 0, 1) by decide +kernel) rfl rfl ?_
      refine g_getR (ci := 11) (f := 28) (fin := true) (isR := true) 113 702 (show op 314 110 = some (.getfield 67, 3) by decide +kernel) rfl (by decide +kernel) (by decide +kernel) ?_
      refine g_iload 115 (show op 314 113 = some (.iload 8, 2) by decide +kernel) rfl rfl ?_
      obtain ⟨g4, h⟩ := h
      refine g_iaload 116 256 (show op 314 115 = some (.iaload, 1) by decide +kernel) rfl (by decide +kernel) g4 ?_
      by_cases hc15 : (σ 702 (x8).toNat) < (x9 - x10)
      · rw [if_pos hc15] at h
        refine g_icmpF 119 146 (show op 314 116 = some (.if_icmp .le 30, 3) by decide +kernel) rfl rfl (decide_eq_false (Int.not_le.mpr hc15)) ?_
        refine g_aload_n 120 (show op 314 119 = some (.aload_n 0, 1) by decide +kernel) rfl rfl ?_
        refine g_iload_n 121 (show op 314 120 = some (.iload_n 1, 1) by decide +kernel) rfl rfl ?_
        refine g_iload_n 122 (show op 314 121 = some (.iload_n 2, 1) by decide +kernel) rfl rfl ?_
        refine g_iload 124 (show op 314 122 = some (.iload 10, 2) by decide +kernel) rfl rfl ?_
        obtain ⟨g5, h⟩ := h
        refine g_isub 125 (show op 314 124 = some (.isub, 1) by decide +kernel) rfl g5 ?_
        refine g_iconst 126 (show op 314 125 = some (.iconst 1, 1) by decide +kernel) rfl rfl ?_
        obtain ⟨g6, h⟩ := h
        refine g_isub 127 (show op 314 126 = some (.isub, 1) by decide +kernel) rfl g6 ?_
        refine g_iload 129 (show op 314 127 = some (.iload 9, 2) by decide +kernel) rfl rfl ?_
        refine g_iload 131 (show op 314 129 = some (.iload 10, 2) by decide +kernel) rfl rfl ?_
        obtain ⟨g7, h⟩ := h
        refine g_isub 132 (show op 314 131 = some (.isub, 1) by decide +kernel) rfl g7 ?_
        refine g_iconst 133 (show op 314 132 = some (.iconst 1, 1) by decide +kernel) rfl rfl ?_
        obtain ⟨g8, h⟩ := h
        refine g_isub 134 (show op 314 133 = some (.isub, 1) by decide +kernel) rfl g8 ?_
        obtain ⟨v10, s9, hD11, h⟩ := h
        refine g_call 137 [(.inl v10)] (show op 314 134 = some (.invokevirtual 325, 3) by decide +kernel) (call_vi' (k' := 0) (n' := 0) (nj := 4) (j := 313) (k9 := 21) (t := []) (as := [(.inr (.inr (some 682))), (.inl x1), (.inl ((x2 - x10) - 1)), (.inl ((x9 - x10) - 1))]) (by decide +kernel) rfl (by decide +kernel) rfl rfl rfl rfl rfl rfl (by decide +kernel) (by decide +kernel)) hD11 rfl ?_
        by_cases hc16 : v10 = 0
        · rw [if_pos hc16] at h
          refine g_ifT 146 (show op 314 137 = some (.ifCond .eq 9, 3) by decide +kernel) rfl (decide_eq_true hc16) ?_
          exact h
        · rw [if_neg hc16] at h
          refine g_ifF 140 146 (show op 314 137 = some (.ifCond .eq 9, 3) by decide +kernel) rfl rfl (decide_eq_false hc16) ?_
          obtain ⟨g12, h⟩ := h
          refine g_iinc 143 [(some (.inr (.inr (some 682)))), (some (.inl x1)), (some (.inl x2)), (some (.inl x3)), (some (.inl x4)), (some (.inl x5)), (some (.inl x6)), (some (.inl x7)), (some (.inl x8)), (some (.inl x9)), (some (.inl (x10 + 1))), (some (.inl x11)), (some (.inl x12)), (some (.inl x13)), d14, d15] (show op 314 140 = some (.iinc 10 1, 3) by decide +kernel) rfl rfl g12 rfl ?_
          refine g_goto 86 (show op 314 143 = some (.goto (-57), 3) by decide +kernel) rfl ?_
          exact h
      · rw [if_neg hc15] at h
        refine g_icmpT 146 (show op 314 116 = some (.if_icmp .le 30, 3) by decide +kernel) rfl (decide_eq_true (Int.not_lt.mp hc15)) ?_
        exact h
    · rw [if_neg hc14] at h
      refine g_icmpT 146 (show op 314 101 = some (.if_icmp .le 45, 3) by decide +kernel) rfl (decide_eq_true (Int.not_lt.mp hc14)) ?_
      exact h
theorem b314_146 {x1 : Int} {x2 : Int} {x3 : Int} {x4 : Int} {x5 : Int} {x6 : Int} {x7 : Int} {x8 : Int} {x9 : Int} {x10 : Int} {x11 : Int} {x12 : Int} {x13 : Int} {d14 : Option AV} {d15 : Option AV} {σ : Sg} {o : Rs}   (h : (if x13 = 0 then C314_217 x1 x2 x3 x4 x5 x6 x7 x8 x9 x10 x11 x12 x13 d14 d15 σ o else (-2147483648 ≤ (x2 + x11) ∧ (x2 + x11) ≤ 2147483647) ∧ (-2147483648 ≤ ((x2 + x11) + 1) ∧ ((x2 + x11) + 1) ≤ 2147483647) ∧ (∃ (v4 : Int) (s3 : Sg), Dd 281 [(.inr (.inr (some 682))), (.inl x3)] σ (.inl (some (.inl v4)), s3) ∧ (if ((x2 + x11) + 1) < v4 then (-2147483648 ≤ (x9 + x11) ∧ (x9 + x11) ≤ 2147483647) ∧ (-2147483648 ≤ ((x9 + x11) + 1) ∧ ((x9 + x11) + 1) ≤ 2147483647) ∧ (0 ≤ x8 ∧ x8 < 256) ∧ (0 ≤ x8 ∧ x8 < 256) ∧ (-2147483648 ≤ ((s3 702 (x8).toNat) + (s3 703 (x8).toNat)) ∧ ((s3 702 (x8).toNat) + (s3 703 (x8).toNat)) ≤ 2147483647) ∧ (if ((x9 + x11) + 1) < ((s3 702 (x8).toNat) + (s3 703 (x8).toNat)) then (-2147483648 ≤ (x2 + x11) ∧ (x2 + x11) ≤ 2147483647) ∧ (-2147483648 ≤ ((x2 + x11) + 1) ∧ ((x2 + x11) + 1) ≤ 2147483647) ∧ (-2147483648 ≤ (x9 + x11) ∧ (x9 + x11) ≤ 2147483647) ∧ (-2147483648 ≤ ((x9 + x11) + 1) ∧ ((x9 + x11) + 1) ≤ 2147483647) ∧ (∃ (v16 : Int) (s15 : Sg), Dd 313 [(.inr (.inr (some 682))), (.inl x1), (.inl ((x2 + x11) + 1)), (.inl ((x9 + x11) + 1))] s3 (.inl (some (.inl v16)), s15) ∧ (if v16 = 0 then C314_217 x1 x2 x3 x4 x5 x6 x7 x8 x9 x10 x11 x12 x13 d14 d15 s15 o else (-2147483648 ≤ (x11 + 1) ∧ (x11 + 1) ≤ 2147483647) ∧ C314_146 x1 x2 x3 x4 x5 x6 x7 x8 x9 x10 (x11 + 1) x12 x13 d14 d15 s15 o)) else C314_217 x1 x2 x3 x4 x5 x6 x7 x8 x9 x10 x11 x12 x13 d14 d15 s3 o) else C314_217 x1 x2 x3 x4 x5 x6 x7 x8 x9 x10 x11 x12 x13 d14 d15 s3 o)))) : C314_146 x1 x2 x3 x4 x5 x6 x7 x8 x9 x10 x11 x12 x13 d14 d15 σ o := by
  show Gd 314 146 [(some (.inr (.inr (some 682)))), (some (.inl x1)), (some (.inl x2)), (some (.inl x3)), (some (.inl x4)), (some (.inl x5)), (some (.inl x6)), (some (.inl x7)), (some (.inl x8)), (some (.inl x9)), (some (.inl x10)), (some (.inl x11)), (some (.inl x12)), (some (.inl x13)), d14, d15] [] σ 0 0 o
  refine g_iload 148 (show op 314 146 = some (.iload 13, 2) by decide +kernel) rfl rfl ?_
  by_cases hc19 : x13 = 0
  · rw [if_pos hc19] at h
    refine g_ifT 217 (show op 314 148 = some (.ifCond .eq 69, 3) by decide +kernel) rfl (decide_eq_true hc19) ?_
    exact h
  · rw [if_neg hc19] at h
    refine g_ifF 151 217 (show op 314 148 = some (.ifCond .eq 69, 3) by decide +kernel) rfl rfl (decide_eq_false hc19) ?_
    refine g_iload_n 152 (show op 314 151 = some (.iload_n 2, 1) by decide +kernel) rfl rfl ?_
    refine g_iload 154 (show op 314 152 = some (.iload 11, 2) by decide +kernel) rfl rfl ?_
    obtain ⟨g1, h⟩ := h
    refine g_iadd 155 (show op 314 154 = some (.iadd, 1) by decide +kernel) rfl g1 ?_
    refine g_iconst 156 (show op 314 155 = some (.iconst 1, 1) by decide +kernel) rfl rfl ?_
    obtain ⟨g2, h⟩ := h
    refine g_iadd 157 (show op 314 156 = some (.iadd, 1) by decide +kernel) rfl g2 ?_
    refine g_aload_n 158 (show op 314 157 = some (.aload_n 0, 1) by decide +kernel) rfl rfl ?_
    refine g_iload_n 159 (show op 314 158 = some (.iload_n 3, 1) by decide +kernel) rfl rfl ?_
    obtain ⟨v4, s3, hD5, h⟩ := h
    refine g_call 162 [(.inl v4), (.inl ((x2 + x11) + 1))] (show op 314 159 = some (.invokevirtual 247, 3) by decide +kernel) (call_vi' (k' := 0) (n' := 0) (nj := 2) (j := 281) (k9 := 21) (t := [(.inl ((x2 + x11) + 1))]) (as := [(.inr (.inr (some 682))), (.inl x3)]) (by decide +kernel) rfl (by decide +kernel) rfl rfl rfl rfl rfl rfl (by decide +kernel) (by decide +kernel)) hD5 rfl ?_
    by_cases hc20 : ((x2 + x11) + 1) < v4
    · rw [if_pos hc20] at h
      refine g_icmpF 165 217 (show op 314 162 = some (.if_icmp .ge 55, 3) by decide +kernel) rfl rfl (decide_eq_false (Int.not_le.mpr hc20)) ?_
      refine g_iload 167 (show op 314 165 = some (.iload 9, 2) by decide +kernel) rfl rfl ?_
      refine g_iload 169 (show op 314 167 = some (.iload 11, 2) by decide +kernel) rfl rfl ?_
      obtain ⟨g6, h⟩ := h
      refine g_iadd 170 (show op 314 169 = some (.iadd, 1) by decide +kernel) rfl g6 ?_
      refine g_iconst 171 (show op 314 170 = some (.iconst 1, 1) by decide +kernel) rfl rfl ?_
      obtain ⟨g7, h⟩ := h
      refine g_iadd 172 (show op 314 171 = some (.iadd, 1) by decide +kernel) rfl g7 ?_
      refine g_aload_n 173 (show op 314 172 = some (.aload_n 0, 1) by decide +kernel) rfl rfl ?_
      refine g_getR (ci := 11) (f := 28) (fin := true) (isR := true) 176 702 (show op 314 173 = some (.getfield 67, 3) by decide +kernel) rfl (by decide +kernel) (by decide +kernel) ?_
      refine g_iload 178 (show op 314 176 = some (.iload 8, 2) by decide +kernel) rfl rfl ?_
      obtain ⟨g8, h⟩ := h
      refine g_iaload 179 256 (show op 314 178 = some (.iaload, 1) by decide +kernel) rfl (by decide +kernel) g8 ?_
      refine g_aload_n 180 (show op 314 179 = some (.aload_n 0, 1) by decide +kernel) rfl rfl ?_
      refine g_getR (ci := 11) (f := 29) (fin := true) (isR := true) 183 703 (show op 314 180 = some (.getfield 70, 3) by decide +kernel) rfl (by decide +kernel) (by decide +kernel) ?_
      refine g_iload 185 (show op 314 183 = some (.iload 8, 2) by decide +kernel) rfl rfl ?_
      obtain ⟨g9, h⟩ := h
      refine g_iaload 186 256 (show op 314 185 = some (.iaload, 1) by decide +kernel) rfl (by decide +kernel) g9 ?_
      obtain ⟨g10, h⟩ := h
      refine g_iadd 187 (show op 314 186 = some (.iadd, 1) by decide +kernel) rfl g10 ?_
      by_cases hc21 : ((x9 + x11) + 1) < ((s3 702 (x8).toNat) + (s3 703 (x8).toNat))
      · rw [if_pos hc21] at h
        refine g_icmpF 190 217 (show op 314 187 = some (.if_icmp .ge 30, 3) by decide +kernel) rfl rfl (decide_eq_false (Int.not_le.mpr hc21)) ?_
        refine g_aload_n 191 (show op 314 190 = some (.aload_n 0, 1) by decide +kernel) rfl rfl ?_
        refine g_iload_n 192 (show op 314 191 = some (.iload_n 1, 1) by decide +kernel) rfl rfl ?_
        refine g_iload_n 193 (show op 314 192 = some (.iload_n 2, 1) by decide +kernel) rfl rfl ?_
        refine g_iload 195 (show op 314 193 = some (.iload 11, 2) by decide +kernel) rfl rfl ?_
        obtain ⟨g11, h⟩ := h
        refine g_iadd 196 (show op 314 195 = some (.iadd, 1) by decide +kernel) rfl g11 ?_
        refine g_iconst 197 (show op 314 196 = some (.iconst 1, 1) by decide +kernel) rfl rfl ?_
        obtain ⟨g12, h⟩ := h
        refine g_iadd 198 (show op 314 197 = some (.iadd, 1) by decide +kernel) rfl g12 ?_
        refine g_iload 200 (show op 314 198 = some (.iload 9, 2) by decide +kernel) rfl rfl ?_
        refine g_iload 202 (show op 314 200 = some (.iload 11, 2) by decide +kernel) rfl rfl ?_
        obtain ⟨g13, h⟩ := h
        refine g_iadd 203 (show op 314 202 = some (.iadd, 1) by decide +kernel) rfl g13 ?_
        refine g_iconst 204 (show op 314 203 = some (.iconst 1, 1) by decide +kernel) rfl rfl ?_
        obtain ⟨g14, h⟩ := h
        refine g_iadd 205 (show op 314 204 = some (.iadd, 1) by decide +kernel) rfl g14 ?_
        obtain ⟨v16, s15, hD17, h⟩ := h
        refine g_call 208 [(.inl v16)] (show op 314 205 = some (.invokevirtual 325, 3) by decide +kernel) (call_vi' (k' := 0) (n' := 0) (nj := 4) (j := 313) (k9 := 21) (t := []) (as := [(.inr (.inr (some 682))), (.inl x1), (.inl ((x2 + x11) + 1)), (.inl ((x9 + x11) + 1))]) (by decide +kernel) rfl (by decide +kernel) rfl rfl rfl rfl rfl rfl (by decide +kernel) (by decide +kernel)) hD17 rfl ?_
        by_cases hc22 : v16 = 0
        · rw [if_pos hc22] at h
          refine g_ifT 217 (show op 314 208 = some (.ifCond .eq 9, 3) by decide +kernel) rfl (decide_eq_true hc22) ?_
          exact h
        · rw [if_neg hc22] at h
          refine g_ifF 211 217 (show op 314 208 = some (.ifCond .eq 9, 3) by decide +kernel) rfl rfl (decide_eq_false hc22) ?_
          obtain ⟨g18, h⟩ := h
          refine g_iinc 214 [(some (.inr (.inr (some 682)))), (some (.inl x1)), (some (.inl x2)), (some (.inl x3)), (some (.inl x4)), (some (.inl x5)), (some (.inl x6)), (some (.inl x7)), (some (.inl x8)), (some (.inl x9)), (some (.inl x10)), (some (.inl (x11 + 1))), (some (.inl x12)), (some (.inl x13)), d14, d15] (show op 314 211 = some (.iinc 11 1, 3) by decide +kernel) rfl rfl g18 rfl ?_
          refine g_goto 146 (show op 314 214 = some (.goto (-68), 3) by decide +kernel) rfl ?_
          exact h
      · rw [if_neg hc21] at h
        refine g_icmpT 217 (show op 314 187 = some (.if_icmp .ge 30, 3) by decide +kernel) rfl (decide_eq_true (Int.not_lt.mp hc21)) ?_
        exact h
    · rw [if_neg hc20] at h
      refine g_icmpT 217 (show op 314 162 = some (.if_icmp .ge 55, 3) by decide +kernel) rfl (decide_eq_true (Int.not_lt.mp hc20)) ?_
      exact h
theorem b314_217 {x1 : Int} {x2 : Int} {x3 : Int} {x4 : Int} {x5 : Int} {x6 : Int} {x7 : Int} {x8 : Int} {x9 : Int} {x10 : Int} {x11 : Int} {x12 : Int} {x13 : Int} {d14 : Option AV} {d15 : Option AV} {σ : Sg} {o : Rs}   (h : (-2147483648 ≤ (-x10) ∧ (-x10) ≤ 2147483647) ∧ C314_222 x1 x2 x3 x4 x5 x6 x7 x8 x9 x10 x11 x12 x13 (-x10) d15 σ o) : C314_217 x1 x2 x3 x4 x5 x6 x7 x8 x9 x10 x11 x12 x13 d14 d15 σ o := by
  show Gd 314 217 [(some (.inr (.inr (some 682)))), (some (.inl x1)), (some (.inl x2)), (some (.inl x3)), (some (.inl x4)), (some (.inl x5)), (some (.inl x6)), (some (.inl x7)), (some (.inl x8)), (some (.inl x9)), (some (.inl x10)), (some (.inl x11)), (some (.inl x12)), (some (.inl x13)), d14, d15] [] σ 0 0 o
  refine g_iload 219 (show op 314 217 = some (.iload 10, 2) by decide +kernel) rfl rfl ?_
  obtain ⟨g1, h⟩ := h
  refine g_ineg 220 (show op 314 219 = some (.ineg, 1) by decide +kernel) rfl g1 ?_
  refine g_istore 222 [(some (.inr (.inr (some 682)))), (some (.inl x1)), (some (.inl x2)), (some (.inl x3)), (some (.inl x4)), (some (.inl x5)), (some (.inl x6)), (some (.inl x7)), (some (.inl x8)), (some (.inl x9)), (some (.inl x10)), (some (.inl x11)), (some (.inl x12)), (some (.inl x13)), (some (.inl (-x10))), d15] (show op 314 220 = some (.istore 14, 2) by decide +kernel) rfl rfl rfl ?_
  exact h
theorem b314_222 {x1 : Int} {x2 : Int} {x3 : Int} {x4 : Int} {x5 : Int} {x6 : Int} {x7 : Int} {x8 : Int} {x9 : Int} {x10 : Int} {x11 : Int} {x12 : Int} {x13 : Int} {x14 : Int} {d15 : Option AV} {σ : Sg} {o : Rs}   (h : (if x14 ≤ x11 then (if x13 = 0 then C314_284 x1 x2 x3 x4 x5 x6 x7 x8 x9 x10 x11 x12 x13 (some (.inl x14)) d15 σ o else (if x12 = 0 then (-2147483648 ≤ (100 * x1) ∧ (100 * x1) ≤ 2147483647) ∧ (-2147483648 ≤ ((100 * x1) + x2) ∧ ((100 * x1) + x2) ≤ 2147483647) ∧ (-2147483648 ≤ (((100 * x1) + x2) + x14) ∧ (((100 * x1) + x2) + x14) ≤ 2147483647) ∧ (0 ≤ (((100 * x1) + x2) + x14) ∧ (((100 * x1) + x2) + x14) < 4400) ∧ (-2147483648 ≤ (100 * x1) ∧ (100 * x1) ≤ 2147483647) ∧ (-2147483648 ≤ ((100 * x1) + x9) ∧ ((100 * x1) + x9) ≤ 2147483647) ∧ (-2147483648 ≤ (((100 * x1) + x9) + x14) ∧ (((100 * x1) + x9) + x14) ≤ 2147483647) ∧ (0 ≤ (((100 * x1) + x9) + x14) ∧ (((100 * x1) + x9) + x14) < 4400) ∧ (if (σ 685 ((((100 * x1) + x2) + x14)).toNat) = (σ 686 ((((100 * x1) + x9) + x14)).toNat) then C314_271 x1 x2 x3 x4 x5 x6 x7 x8 x9 x10 x11 (some (.inl x12)) x13 x14 d15 σ o else C314_276 x1 x2 x3 x4 x5 x6 x7 x8 x9 x10 x11 (some (.inl x12)) x13 x14 d15 0 σ o) else C314_271 x1 x2 x3 x4 x5 x6 x7 x8 x9 x10 x11 (some (.inl x12)) x13 x14 d15 σ o)) else C314_284 x1 x2 x3 x4 x5 x6 x7 x8 x9 x10 x11 x12 x13 (some (.inl x14)) d15 σ o)) : C314_222 x1 x2 x3 x4 x5 x6 x7 x8 x9 x10 x11 x12 x13 x14 d15 σ o := by
  show Gd 314 222 [(some (.inr (.inr (some 682)))), (some (.inl x1)), (some (.inl x2)), (some (.inl x3)), (some (.inl x4)), (some (.inl x5)), (some (.inl x6)), (some (.inl x7)), (some (.inl x8)), (some (.inl x9)), (some (.inl x10)), (some (.inl x11)), (some (.inl x12)), (some (.inl x13)), (some (.inl x14)), d15] [] σ 0 0 o
  refine g_iload 224 (show op 314 222 = some (.iload 14, 2) by decide +kernel) rfl rfl ?_
  refine g_iload 226 (show op 314 224 = some (.iload 11, 2) by decide +kernel) rfl rfl ?_
  by_cases hc9 : x14 ≤ x11
  · rw [if_pos hc9] at h
    refine g_icmpF 229 284 (show op 314 226 = some (.if_icmp .gt 58, 3) by decide +kernel) rfl rfl (decide_eq_false (Int.not_lt.mpr hc9)) ?_
    refine g_iload 231 (show op 314 229 = some (.iload 13, 2) by decide +kernel) rfl rfl ?_
    by_cases hc10 : x13 = 0
    · rw [if_pos hc10] at h
      refine g_ifT 284 (show op 314 231 = some (.ifCond .eq 53, 3) by decide +kernel) rfl (decide_eq_true hc10) ?_
      exact h
    · rw [if_neg hc10] at h
      refine g_ifF 234 284 (show op 314 231 = some (.ifCond .eq 53, 3) by decide +kernel) rfl rfl (decide_eq_false hc10) ?_
      refine g_iload 236 (show op 314 234 = some (.iload 12, 2) by decide +kernel) rfl rfl ?_
      by_cases hc11 : x12 = 0
      · rw [if_pos hc11] at h
        refine g_ifF 239 271 (show op 314 236 = some (.ifCond .ne 35, 3) by decide +kernel) rfl rfl (decide_eq_false (fun h9 => h9 hc11)) ?_
        refine g_aload_n 240 (show op 314 239 = some (.aload_n 0, 1) by decide +kernel) rfl rfl ?_
        refine g_getR (ci := 11) (f := 4) (fin := true) (isR := true) 243 685 (show op 314 240 = some (.getfield 16, 3) by decide +kernel) rfl (by decide +kernel) (by decide +kernel) ?_
        refine g_bipush 245 (show op 314 243 = some (.bipush 100, 2) by decide +kernel) rfl (by decide) ?_
        refine g_iload_n 246 (show op 314 245 = some (.iload_n 1, 1) by decide +kernel) rfl rfl ?_
        obtain ⟨g1, h⟩ := h
        refine g_imul 247 (show op 314 246 = some (.imul, 1) by decide +kernel) rfl g1 ?_
        refine g_iload_n 248 (show op 314 247 = some (.iload_n 2, 1) by decide +kernel) rfl rfl ?_
        obtain ⟨g2, h⟩ := h
        refine g_iadd 249 (show op 314 248 = some (.iadd, 1) by decide +kernel) rfl g2 ?_
        refine g_iload 251 (show op 314 249 = some (.iload 14, 2) by decide +kernel) rfl rfl ?_
        obtain ⟨g3, h⟩ := h
        refine g_iadd 252 (show op 314 251 = some (.iadd, 1) by decide +kernel) rfl g3 ?_
        obtain ⟨g4, h⟩ := h
        refine g_iaload 253 4400 (show op 314 252 = some (.iaload, 1) by decide +kernel) rfl (by decide +kernel) g4 ?_
        refine g_aload_n 254 (show op 314 253 = some (.aload_n 0, 1) by decide +kernel) rfl rfl ?_
        refine g_getR (ci := 11) (f := 5) (fin := true) (isR := true) 257 686 (show op 314 254 = some (.getfield 19, 3) by decide +kernel) rfl (by decide +kernel) (by decide +kernel) ?_
        refine g_bipush 259 (show op 314 257 = some (.bipush 100, 2) by decide +kernel) rfl (by decide) ?_
        refine g_iload_n 260 (show op 314 259 = some (.iload_n 1, 1) by decide +kernel) rfl rfl ?_
        obtain ⟨g5, h⟩ := h
        refine g_imul 261 (show op 314 260 = some (.imul, 1) by decide +kernel) rfl g5 ?_
        refine g_iload 263 (show op 314 261 = some (.iload 9, 2) by decide +kernel) rfl rfl ?_
        obtain ⟨g6, h⟩ := h
        refine g_iadd 264 (show op 314 263 = some (.iadd, 1) by decide +kernel) rfl g6 ?_
        refine g_iload 266 (show op 314 264 = some (.iload 14, 2) by decide +kernel) rfl rfl ?_
        obtain ⟨g7, h⟩ := h
        refine g_iadd 267 (show op 314 266 = some (.iadd, 1) by decide +kernel) rfl g7 ?_
        obtain ⟨g8, h⟩ := h
        refine g_iaload 268 4400 (show op 314 267 = some (.iaload, 1) by decide +kernel) rfl (by decide +kernel) g8 ?_
        by_cases hc12 : (σ 685 ((((100 * x1) + x2) + x14)).toNat) = (σ 686 ((((100 * x1) + x9) + x14)).toNat)
        · rw [if_pos hc12] at h
          refine g_icmpF 271 275 (show op 314 268 = some (.if_icmp .ne 7, 3) by decide +kernel) rfl rfl (decide_eq_false (fun h9 => h9 hc12)) ?_
          exact h
        · rw [if_neg hc12] at h
          refine g_icmpT 275 (show op 314 268 = some (.if_icmp .ne 7, 3) by decide +kernel) rfl (decide_eq_true hc12) ?_
          refine g_iconst 276 (show op 314 275 = some (.iconst 0, 1) by decide +kernel) rfl rfl ?_
          exact h
      · rw [if_neg hc11] at h
        refine g_ifT 271 (show op 314 236 = some (.ifCond .ne 35, 3) by decide +kernel) rfl (decide_eq_true hc11) ?_
        exact h
  · rw [if_neg hc9] at h
    refine g_icmpT 284 (show op 314 226 = some (.if_icmp .gt 58, 3) by decide +kernel) rfl (decide_eq_true (Int.not_le.mp hc9)) ?_
    exact h
theorem b314_284 {x1 : Int} {x2 : Int} {x3 : Int} {x4 : Int} {x5 : Int} {x6 : Int} {x7 : Int} {x8 : Int} {x9 : Int} {x10 : Int} {x11 : Int} {x12 : Int} {x13 : Int} {d14 : Option AV} {d15 : Option AV} {σ : Sg} {o : Rs}   (h : (-2147483648 ≤ (x10 + x11) ∧ (x10 + x11) ≤ 2147483647) ∧ (-2147483648 ≤ ((x10 + x11) + 1) ∧ ((x10 + x11) + 1) ≤ 2147483647) ∧ (-2147483648 ≤ (x9 - x10) ∧ (x9 - x10) ≤ 2147483647) ∧ (if x5 ≤ (x9 - x10) then (-2147483648 ≤ (x9 - x10) ∧ (x9 - x10) ≤ 2147483647) ∧ (if (x9 - x10) = x5 then (-2147483648 ≤ (x2 - x10) ∧ (x2 - x10) ≤ 2147483647) ∧ (if (x2 - x10) < x6 then C314_322 x1 x2 x3 x4 x5 x6 x7 x8 x9 x10 (some (.inl x11)) x12 x13 ((x10 + x11) + 1) d15 σ o else C314_326 x1 x2 x3 x4 x5 x6 x7 x8 x9 x10 (some (.inl x11)) x12 x13 ((x10 + x11) + 1) d15 σ o) else C314_326 x1 x2 x3 x4 x5 x6 x7 x8 x9 x10 (some (.inl x11)) x12 x13 ((x10 + x11) + 1) d15 σ o) else C314_322 x1 x2 x3 x4 x5 x6 x7 x8 x9 x10 (some (.inl x11)) x12 x13 ((x10 + x11) + 1) d15 σ o)) : C314_284 x1 x2 x3 x4 x5 x6 x7 x8 x9 x10 x11 x12 x13 d14 d15 σ o := by
  show Gd 314 284 [(some (.inr (.inr (some 682)))), (some (.inl x1)), (some (.inl x2)), (some (.inl x3)), (some (.inl x4)), (some (.inl x5)), (some (.inl x6)), (some (.inl x7)), (some (.inl x8)), (some (.inl x9)), (some (.inl x10)), (some (.inl x11)), (some (.inl x12)), (some (.inl x13)), d14, d15] [] σ 0 0 o
  refine g_iload 286 (show op 314 284 = some (.iload 10, 2) by decide +kernel) rfl rfl ?_
  refine g_iload 288 (show op 314 286 = some (.iload 11, 2) by decide +kernel) rfl rfl ?_
  obtain ⟨g1, h⟩ := h
  refine g_iadd 289 (show op 314 288 = some (.iadd, 1) by decide +kernel) rfl g1 ?_
  refine g_iconst 290 (show op 314 289 = some (.iconst 1, 1) by decide +kernel) rfl rfl ?_
  obtain ⟨g2, h⟩ := h
  refine g_iadd 291 (show op 314 290 = some (.iadd, 1) by decide +kernel) rfl g2 ?_
  refine g_istore 293 [(some (.inr (.inr (some 682)))), (some (.inl x1)), (some (.inl x2)), (some (.inl x3)), (some (.inl x4)), (some (.inl x5)), (some (.inl x6)), (some (.inl x7)), (some (.inl x8)), (some (.inl x9)), (some (.inl x10)), (some (.inl x11)), (some (.inl x12)), (some (.inl x13)), (some (.inl ((x10 + x11) + 1))), d15] (show op 314 291 = some (.istore 14, 2) by decide +kernel) rfl rfl rfl ?_
  refine g_iload 295 (show op 314 293 = some (.iload 9, 2) by decide +kernel) rfl rfl ?_
  refine g_iload 297 (show op 314 295 = some (.iload 10, 2) by decide +kernel) rfl rfl ?_
  obtain ⟨g3, h⟩ := h
  refine g_isub 298 (show op 314 297 = some (.isub, 1) by decide +kernel) rfl g3 ?_
  refine g_iload 300 (show op 314 298 = some (.iload 5, 2) by decide +kernel) rfl rfl ?_
  by_cases hc6 : x5 ≤ (x9 - x10)
  · rw [if_pos hc6] at h
    refine g_icmpF 303 322 (show op 314 300 = some (.if_icmp .lt 22, 3) by decide +kernel) rfl rfl (decide_eq_false (Int.not_lt.mpr hc6)) ?_
    refine g_iload 305 (show op 314 303 = some (.iload 9, 2) by decide +kernel) rfl rfl ?_
    refine g_iload 307 (show op 314 305 = some (.iload 10, 2) by decide +kernel) rfl rfl ?_
    obtain ⟨g4, h⟩ := h
    refine g_isub 308 (show op 314 307 = some (.isub, 1) by decide +kernel) rfl g4 ?_
    refine g_iload 310 (show op 314 308 = some (.iload 5, 2) by decide +kernel) rfl rfl ?_
    by_cases hc7 : (x9 - x10) = x5
    · rw [if_pos hc7] at h
      refine g_icmpF 313 326 (show op 314 310 = some (.if_icmp .ne 16, 3) by decide +kernel) rfl rfl (decide_eq_false (fun h9 => h9 hc7)) ?_
      refine g_iload_n 314 (show op 314 313 = some (.iload_n 2, 1) by decide +kernel) rfl rfl ?_
      refine g_iload 316 (show op 314 314 = some (.iload 10, 2) by decide +kernel) rfl rfl ?_
      obtain ⟨g5, h⟩ := h
      refine g_isub 317 (show op 314 316 = some (.isub, 1) by decide +kernel) rfl g5 ?_
      refine g_iload 319 (show op 314 317 = some (.iload 6, 2) by decide +kernel) rfl rfl ?_
      by_cases hc8 : (x2 - x10) < x6
      · rw [if_pos hc8] at h
        refine g_icmpF 322 326 (show op 314 319 = some (.if_icmp .ge 7, 3) by decide +kernel) rfl rfl (decide_eq_false (Int.not_le.mpr hc8)) ?_
        exact h
      · rw [if_neg hc8] at h
        refine g_icmpT 326 (show op 314 319 = some (.if_icmp .ge 7, 3) by decide +kernel) rfl (decide_eq_true (Int.not_lt.mp hc8)) ?_
        exact h
    · rw [if_neg hc7] at h
      refine g_icmpT 326 (show op 314 310 = some (.if_icmp .ne 16, 3) by decide +kernel) rfl (decide_eq_true hc7) ?_
      exact h
  · rw [if_neg hc6] at h
    refine g_icmpT 322 (show op 314 300 = some (.if_icmp .lt 22, 3) by decide +kernel) rfl (decide_eq_true (Int.not_le.mp hc6)) ?_
    exact h
theorem b314_271 {x1 : Int} {x2 : Int} {x3 : Int} {x4 : Int} {x5 : Int} {x6 : Int} {x7 : Int} {x8 : Int} {x9 : Int} {x10 : Int} {x11 : Int} {d12 : Option AV} {x13 : Int} {x14 : Int} {d15 : Option AV} {σ : Sg} {o : Rs}   (h : C314_276 x1 x2 x3 x4 x5 x6 x7 x8 x9 x10 x11 d12 x13 x14 d15 1 σ o) : C314_271 x1 x2 x3 x4 x5 x6 x7 x8 x9 x10 x11 d12 x13 x14 d15 σ o := by
  show Gd 314 271 [(some (.inr (.inr (some 682)))), (some (.inl x1)), (some (.inl x2)), (some (.inl x3)), (some (.inl x4)), (some (.inl x5)), (some (.inl x6)), (some (.inl x7)), (some (.inl x8)), (some (.inl x9)), (some (.inl x10)), (some (.inl x11)), d12, (some (.inl x13)), (some (.inl x14)), d15] [] σ 0 0 o
  refine g_iconst 272 (show op 314 271 = some (.iconst 1, 1) by decide +kernel) rfl rfl ?_
  refine g_goto 276 (show op 314 272 = some (.goto 4, 3) by decide +kernel) rfl ?_
  exact h
theorem b314_276 {x1 : Int} {x2 : Int} {x3 : Int} {x4 : Int} {x5 : Int} {x6 : Int} {x7 : Int} {x8 : Int} {x9 : Int} {x10 : Int} {x11 : Int} {d12 : Option AV} {x13 : Int} {x14 : Int} {d15 : Option AV} {y0 : Int} {σ : Sg} {o : Rs}   (h : (-2147483648 ≤ (x14 + 1) ∧ (x14 + 1) ≤ 2147483647) ∧ C314_222 x1 x2 x3 x4 x5 x6 x7 x8 x9 x10 x11 y0 x13 (x14 + 1) d15 σ o) : C314_276 x1 x2 x3 x4 x5 x6 x7 x8 x9 x10 x11 d12 x13 x14 d15 y0 σ o := by
  show Gd 314 276 [(some (.inr (.inr (some 682)))), (some (.inl x1)), (some (.inl x2)), (some (.inl x3)), (some (.inl x4)), (some (.inl x5)), (some (.inl x6)), (some (.inl x7)), (some (.inl x8)), (some (.inl x9)), (some (.inl x10)), (some (.inl x11)), d12, (some (.inl x13)), (some (.inl x14)), d15] [(.inl y0)] σ 0 0 o
  refine g_istore 278 [(some (.inr (.inr (some 682)))), (some (.inl x1)), (some (.inl x2)), (some (.inl x3)), (some (.inl x4)), (some (.inl x5)), (some (.inl x6)), (some (.inl x7)), (some (.inl x8)), (some (.inl x9)), (some (.inl x10)), (some (.inl x11)), (some (.inl y0)), (some (.inl x13)), (some (.inl x14)), d15] (show op 314 276 = some (.istore 12, 2) by decide +kernel) rfl rfl rfl ?_
  obtain ⟨g1, h⟩ := h
  refine g_iinc 281 [(some (.inr (.inr (some 682)))), (some (.inl x1)), (some (.inl x2)), (some (.inl x3)), (some (.inl x4)), (some (.inl x5)), (some (.inl x6)), (some (.inl x7)), (some (.inl x8)), (some (.inl x9)), (some (.inl x10)), (some (.inl x11)), (some (.inl y0)), (some (.inl x13)), (some (.inl (x14 + 1))), d15] (show op 314 278 = some (.iinc 14 1, 3) by decide +kernel) rfl rfl g1 rfl ?_
  refine g_goto 222 (show op 314 281 = some (.goto (-59), 3) by decide +kernel) rfl ?_
  exact h
theorem b314_322 {x1 : Int} {x2 : Int} {x3 : Int} {x4 : Int} {x5 : Int} {x6 : Int} {x7 : Int} {x8 : Int} {x9 : Int} {x10 : Int} {d11 : Option AV} {x12 : Int} {x13 : Int} {x14 : Int} {d15 : Option AV} {σ : Sg} {o : Rs}   (h : C314_327 x1 x2 x3 x4 x5 x6 x7 x8 x9 x10 d11 x12 x13 x14 d15 1 σ o) : C314_322 x1 x2 x3 x4 x5 x6 x7 x8 x9 x10 d11 x12 x13 x14 d15 σ o := by
  show Gd 314 322 [(some (.inr (.inr (some 682)))), (some (.inl x1)), (some (.inl x2)), (some (.inl x3)), (some (.inl x4)), (some (.inl x5)), (some (.inl x6)), (some (.inl x7)), (some (.inl x8)), (some (.inl x9)), (some (.inl x10)), d11, (some (.inl x12)), (some (.inl x13)), (some (.inl x14)), d15] [] σ 0 0 o
  refine g_iconst 323 (show op 314 322 = some (.iconst 1, 1) by decide +kernel) rfl rfl ?_
  refine g_goto 327 (show op 314 323 = some (.goto 4, 3) by decide +kernel) rfl ?_
  exact h
theorem b314_326 {x1 : Int} {x2 : Int} {x3 : Int} {x4 : Int} {x5 : Int} {x6 : Int} {x7 : Int} {x8 : Int} {x9 : Int} {x10 : Int} {d11 : Option AV} {x12 : Int} {x13 : Int} {x14 : Int} {d15 : Option AV} {σ : Sg} {o : Rs}   (h : C314_327 x1 x2 x3 x4 x5 x6 x7 x8 x9 x10 d11 x12 x13 x14 d15 0 σ o) : C314_326 x1 x2 x3 x4 x5 x6 x7 x8 x9 x10 d11 x12 x13 x14 d15 σ o := by
  show Gd 314 326 [(some (.inr (.inr (some 682)))), (some (.inl x1)), (some (.inl x2)), (some (.inl x3)), (some (.inl x4)), (some (.inl x5)), (some (.inl x6)), (some (.inl x7)), (some (.inl x8)), (some (.inl x9)), (some (.inl x10)), d11, (some (.inl x12)), (some (.inl x13)), (some (.inl x14)), d15] [] σ 0 0 o
  refine g_iconst 327 (show op 314 326 = some (.iconst 0, 1) by decide +kernel) rfl rfl ?_
  exact h
theorem b314_327 {x1 : Int} {x2 : Int} {x3 : Int} {x4 : Int} {x5 : Int} {x6 : Int} {x7 : Int} {x8 : Int} {x9 : Int} {x10 : Int} {d11 : Option AV} {x12 : Int} {x13 : Int} {x14 : Int} {d15 : Option AV} {y0 : Int} {σ : Sg} {o : Rs}   (h : (if x13 = 0 then C314_385 x1 x2 x3 x4 x5 x6 x7 x8 x9 (some (.inl x10)) d11 (some (.inl x12)) (some (.inl x13)) (some (.inl x14)) (some (.inl y0)) σ o else (if x12 = 0 then C314_385 x1 x2 x3 x4 x5 x6 x7 x8 x9 (some (.inl x10)) d11 (some (.inl x12)) (some (.inl x13)) (some (.inl x14)) (some (.inl y0)) σ o else (if 2 ≤ x14 then (if x14 ≤ x4 then (if x14 = x4 then (if y0 = 0 then C314_385 x1 x2 x3 x4 x5 x6 x7 x8 x9 (some (.inl x10)) d11 (some (.inl x12)) (some (.inl x13)) (some (.inl x14)) (some (.inl y0)) σ o else C314_364 x1 x2 x3 (some (.inl x4)) (some (.inl x5)) (some (.inl x6)) (some (.inl x7)) x8 x9 x10 d11 (some (.inl x12)) (some (.inl x13)) x14 (some (.inl y0)) σ o) else C314_385 x1 x2 x3 x4 x5 x6 x7 x8 x9 (some (.inl x10)) d11 (some (.inl x12)) (some (.inl x13)) (some (.inl x14)) (some (.inl y0)) σ o) else C314_364 x1 x2 x3 (some (.inl x4)) (some (.inl x5)) (some (.inl x6)) (some (.inl x7)) x8 x9 x10 d11 (some (.inl x12)) (some (.inl x13)) x14 (some (.inl y0)) σ o) else C314_385 x1 x2 x3 x4 x5 x6 x7 x8 x9 (some (.inl x10)) d11 (some (.inl x12)) (some (.inl x13)) (some (.inl x14)) (some (.inl y0)) σ o)))) : C314_327 x1 x2 x3 x4 x5 x6 x7 x8 x9 x10 d11 x12 x13 x14 d15 y0 σ o := by
  show Gd 314 327 [(some (.inr (.inr (some 682)))), (some (.inl x1)), (some (.inl x2)), (some (.inl x3)), (some (.inl x4)), (some (.inl x5)), (some (.inl x6)), (some (.inl x7)), (some (.inl x8)), (some (.inl x9)), (some (.inl x10)), d11, (some (.inl x12)), (some (.inl x13)), (some (.inl x14)), d15] [(.inl y0)] σ 0 0 o
  refine g_istore 329 [(some (.inr (.inr (some 682)))), (some (.inl x1)), (some (.inl x2)), (some (.inl x3)), (some (.inl x4)), (some (.inl x5)), (some (.inl x6)), (some (.inl x7)), (some (.inl x8)), (some (.inl x9)), (some (.inl x10)), d11, (some (.inl x12)), (some (.inl x13)), (some (.inl x14)), (some (.inl y0))] (show op 314 327 = some (.istore 15, 2) by decide +kernel) rfl rfl rfl ?_
  refine g_iload 331 (show op 314 329 = some (.iload 13, 2) by decide +kernel) rfl rfl ?_
  by_cases hc1 : x13 = 0
  · rw [if_pos hc1] at h
    refine g_ifT 385 (show op 314 331 = some (.ifCond .eq 54, 3) by decide +kernel) rfl (decide_eq_true hc1) ?_
    exact h
  · rw [if_neg hc1] at h
    refine g_ifF 334 385 (show op 314 331 = some (.ifCond .eq 54, 3) by decide +kernel) rfl rfl (decide_eq_false hc1) ?_
    refine g_iload 336 (show op 314 334 = some (.iload 12, 2) by decide +kernel) rfl rfl ?_
    by_cases hc2 : x12 = 0
    · rw [if_pos hc2] at h
      refine g_ifT 385 (show op 314 336 = some (.ifCond .eq 49, 3) by decide +kernel) rfl (decide_eq_true hc2) ?_
      exact h
    · rw [if_neg hc2] at h
      refine g_ifF 339 385 (show op 314 336 = some (.ifCond .eq 49, 3) by decide +kernel) rfl rfl (decide_eq_false hc2) ?_
      refine g_iload 341 (show op 314 339 = some (.iload 14, 2) by decide +kernel) rfl rfl ?_
      refine g_iconst 342 (show op 314 341 = some (.iconst 2, 1) by decide +kernel) rfl rfl ?_
      by_cases hc3 : 2 ≤ x14
      · rw [if_pos hc3] at h
        refine g_icmpF 345 385 (show op 314 342 = some (.if_icmp .lt 43, 3) by decide +kernel) rfl rfl (decide_eq_false (Int.not_lt.mpr hc3)) ?_
        refine g_iload 347 (show op 314 345 = some (.iload 14, 2) by decide +kernel) rfl rfl ?_
        refine g_iload 349 (show op 314 347 = some (.iload 4, 2) by decide +kernel) rfl rfl ?_
        by_cases hc4 : x14 ≤ x4
        · rw [if_pos hc4] at h
          refine g_icmpF 352 364 (show op 314 349 = some (.if_icmp .gt 15, 3) by decide +kernel) rfl rfl (decide_eq_false (Int.not_lt.mpr hc4)) ?_
          refine g_iload 354 (show op 314 352 = some (.iload 14, 2) by decide +kernel) rfl rfl ?_
          refine g_iload 356 (show op 314 354 = some (.iload 4, 2) by decide +kernel) rfl rfl ?_
          by_cases hc5 : x14 = x4
          · rw [if_pos hc5] at h
            refine g_icmpF 359 385 (show op 314 356 = some (.if_icmp .ne 29, 3) by decide +kernel) rfl rfl (decide_eq_false (fun h9 => h9 hc5)) ?_
            refine g_iload 361 (show op 314 359 = some (.iload 15, 2) by decide +kernel) rfl rfl ?_
            by_cases hc6 : y0 = 0
            · rw [if_pos hc6] at h
              refine g_ifT 385 (show op 314 361 = some (.ifCond .eq 24, 3) by decide +kernel) rfl (decide_eq_true hc6) ?_
              exact h
            · rw [if_neg hc6] at h
              refine g_ifF 364 385 (show op 314 361 = some (.ifCond .eq 24, 3) by decide +kernel) rfl rfl (decide_eq_false hc6) ?_
              exact h
          · rw [if_neg hc5] at h
            refine g_icmpT 385 (show op 314 356 = some (.if_icmp .ne 29, 3) by decide +kernel) rfl (decide_eq_true hc5) ?_
            exact h
        · rw [if_neg hc4] at h
          refine g_icmpT 364 (show op 314 349 = some (.if_icmp .gt 15, 3) by decide +kernel) rfl (decide_eq_true (Int.not_le.mp hc4)) ?_
          exact h
      · rw [if_neg hc3] at h
        refine g_icmpT 385 (show op 314 342 = some (.if_icmp .lt 43, 3) by decide +kernel) rfl (decide_eq_true (Int.not_le.mp hc3)) ?_
        exact h
theorem b314_385 {x1 : Int} {x2 : Int} {x3 : Int} {x4 : Int} {x5 : Int} {x6 : Int} {x7 : Int} {x8 : Int} {x9 : Int} {d10 : Option AV} {d11 : Option AV} {d12 : Option AV} {d13 : Option AV} {d14 : Option AV} {d15 : Option AV} {σ : Sg} {o : Rs}   (h : (-2147483648 ≤ (x9 + 1) ∧ (x9 + 1) ≤ 2147483647) ∧ C314_47 x1 x2 x3 x4 x5 x6 x7 x8 (x9 + 1) d10 d11 d12 d13 d14 d15 σ o) : C314_385 x1 x2 x3 x4 x5 x6 x7 x8 x9 d10 d11 d12 d13 d14 d15 σ o := by
  show Gd 314 385 [(some (.inr (.inr (some 682)))), (some (.inl x1)), (some (.inl x2)), (some (.inl x3)), (some (.inl x4)), (some (.inl x5)), (some (.inl x6)), (some (.inl x7)), (some (.inl x8)), (some (.inl x9)), d10, d11, d12, d13, d14, d15] [] σ 0 0 o
  obtain ⟨g1, h⟩ := h
  refine g_iinc 388 [(some (.inr (.inr (some 682)))), (some (.inl x1)), (some (.inl x2)), (some (.inl x3)), (some (.inl x4)), (some (.inl x5)), (some (.inl x6)), (some (.inl x7)), (some (.inl x8)), (some (.inl (x9 + 1))), d10, d11, d12, d13, d14, d15] (show op 314 385 = some (.iinc 9 1, 3) by decide +kernel) rfl rfl g1 rfl ?_
  refine g_goto 47 (show op 314 388 = some (.goto (-341), 3) by decide +kernel) rfl ?_
  exact h
theorem b314_364 {x1 : Int} {x2 : Int} {x3 : Int} {d4 : Option AV} {d5 : Option AV} {d6 : Option AV} {d7 : Option AV} {x8 : Int} {x9 : Int} {x10 : Int} {d11 : Option AV} {d12 : Option AV} {d13 : Option AV} {x14 : Int} {d15 : Option AV} {σ : Sg} {o : Rs}   (h : (-2147483648 ≤ (x9 - x10) ∧ (x9 - x10) ≤ 2147483647) ∧ (-2147483648 ≤ (x2 - x10) ∧ (x2 - x10) ≤ 2147483647) ∧ C314_385 x1 x2 x3 x14 (x9 - x10) (x2 - x10) x9 x8 x9 (some (.inl x10)) d11 d12 d13 (some (.inl x14)) d15 σ o) : C314_364 x1 x2 x3 d4 d5 d6 d7 x8 x9 x10 d11 d12 d13 x14 d15 σ o := by
  show Gd 314 364 [(some (.inr (.inr (some 682)))), (some (.inl x1)), (some (.inl x2)), (some (.inl x3)), d4, d5, d6, d7, (some (.inl x8)), (some (.inl x9)), (some (.inl x10)), d11, d12, d13, (some (.inl x14)), d15] [] σ 0 0 o
  refine g_iload 366 (show op 314 364 = some (.iload 14, 2) by decide +kernel) rfl rfl ?_
  refine g_istore 368 [(some (.inr (.inr (some 682)))), (some (.inl x1)), (some (.inl x2)), (some (.inl x3)), (some (.inl x14)), d5, d6, d7, (some (.inl x8)), (some (.inl x9)), (some (.inl x10)), d11, d12, d13, (some (.inl x14)), d15] (show op 314 366 = some (.istore 4, 2) by decide +kernel) rfl rfl rfl ?_
  refine g_iload 370 (show op 314 368 = some (.iload 9, 2) by decide +kernel) rfl rfl ?_
  refine g_iload 372 (show op 314 370 = some (.iload 10, 2) by decide +kernel) rfl rfl ?_
  obtain ⟨g1, h⟩ := h
  refine g_isub 373 (show op 314 372 = some (.isub, 1) by decide +kernel) rfl g1 ?_
  refine g_istore 375 [(some (.inr (.inr (some 682)))), (some (.inl x1)), (some (.inl x2)), (some (.inl x3)), (some (.inl x14)), (some (.inl (x9 - x10))), d6, d7, (some (.inl x8)), (some (.inl x9)), (some (.inl x10)), d11, d12, d13, (some (.inl x14)), d15] (show op 314 373 = some (.istore 5, 2) by decide +kernel) rfl rfl rfl ?_
  refine g_iload_n 376 (show op 314 375 = some (.iload_n 2, 1) by decide +kernel) rfl rfl ?_
  refine g_iload 378 (show op 314 376 = some (.iload 10, 2) by decide +kernel) rfl rfl ?_
  obtain ⟨g2, h⟩ := h
  refine g_isub 379 (show op 314 378 = some (.isub, 1) by decide +kernel) rfl g2 ?_
  refine g_istore 381 [(some (.inr (.inr (some 682)))), (some (.inl x1)), (some (.inl x2)), (some (.inl x3)), (some (.inl x14)), (some (.inl (x9 - x10))), (some (.inl (x2 - x10))), d7, (some (.inl x8)), (some (.inl x9)), (some (.inl x10)), d11, d12, d13, (some (.inl x14)), d15] (show op 314 379 = some (.istore 6, 2) by decide +kernel) rfl rfl rfl ?_
  refine g_iload 383 (show op 314 381 = some (.iload 9, 2) by decide +kernel) rfl rfl ?_
  refine g_istore 385 [(some (.inr (.inr (some 682)))), (some (.inl x1)), (some (.inl x2)), (some (.inl x3)), (some (.inl x14)), (some (.inl (x9 - x10))), (some (.inl (x2 - x10))), (some (.inl x9)), (some (.inl x8)), (some (.inl x9)), (some (.inl x10)), d11, d12, d13, (some (.inl x14)), d15] (show op 314 383 = some (.istore 7, 2) by decide +kernel) rfl rfl rfl ?_
  exact h
/-- PatchBenchModel.movedTo1 (II)I -/
theorem b314 {x1 : Int} {x2 : Int} {σ : Sg} {o : Rs}   (h : (∃ (v2 : Int) (s1 : Sg), Dd 312 [(.inr (.inr (some 682))), (.inl 0), (.inl x2)] σ (.inl (some (.inl v2)), s1) ∧ C314_22 x1 x2 v2 1 0 0 (-1) 0 none none none none none none none s1 o)) : Dd 314 [(.inr (.inr (some 682))), (.inl x1), (.inl x2)] σ o := by
  refine Dd_of (l := 16) (by decide +kernel) ?_
  show Gd 314 0 [(some (.inr (.inr (some 682)))), (some (.inl x1)), (some (.inl x2)), none, none, none, none, none, none, none, none, none, none, none, none, none] [] σ 0 0 o
  refine g_aload_n 1 (show op 314 0 = some (.aload_n 0, 1) by decide +kernel) rfl rfl ?_
  refine g_iconst 2 (show op 314 1 = some (.iconst 0, 1) by decide +kernel) rfl rfl ?_
  refine g_iload_n 3 (show op 314 2 = some (.iload_n 2, 1) by decide +kernel) rfl rfl ?_
  obtain ⟨v2, s1, hD3, h⟩ := h
  refine g_call 6 [(.inl v2)] (show op 314 3 = some (.invokevirtual 322, 3) by decide +kernel) (call_vi' (k' := 0) (n' := 0) (nj := 3) (j := 312) (k9 := 21) (t := []) (as := [(.inr (.inr (some 682))), (.inl 0), (.inl x2)]) (by decide +kernel) rfl (by decide +kernel) rfl rfl rfl rfl rfl rfl (by decide +kernel) (by decide +kernel)) hD3 rfl ?_
  refine g_istore_n 7 [(some (.inr (.inr (some 682)))), (some (.inl x1)), (some (.inl x2)), (some (.inl v2)), none, none, none, none, none, none, none, none, none, none, none, none] (show op 314 6 = some (.istore_n 3, 1) by decide +kernel) rfl rfl rfl ?_
  refine g_iconst 8 (show op 314 7 = some (.iconst 1, 1) by decide +kernel) rfl rfl ?_
  refine g_istore 10 [(some (.inr (.inr (some 682)))), (some (.inl x1)), (some (.inl x2)), (some (.inl v2)), (some (.inl 1)), none, none, none, none, none, none, none, none, none, none, none] (show op 314 8 = some (.istore 4, 2) by decide +kernel) rfl rfl rfl ?_
  refine g_iconst 11 (show op 314 10 = some (.iconst 0, 1) by decide +kernel) rfl rfl ?_
  refine g_istore 13 [(some (.inr (.inr (some 682)))), (some (.inl x1)), (some (.inl x2)), (some (.inl v2)), (some (.inl 1)), (some (.inl 0)), none, none, none, none, none, none, none, none, none, none] (show op 314 11 = some (.istore 5, 2) by decide +kernel) rfl rfl rfl ?_
  refine g_iconst 14 (show op 314 13 = some (.iconst 0, 1) by decide +kernel) rfl rfl ?_
  refine g_istore 16 [(some (.inr (.inr (some 682)))), (some (.inl x1)), (some (.inl x2)), (some (.inl v2)), (some (.inl 1)), (some (.inl 0)), (some (.inl 0)), none, none, none, none, none, none, none, none, none] (show op 314 14 = some (.istore 6, 2) by decide +kernel) rfl rfl rfl ?_
  refine g_iconst 17 (show op 314 16 = some (.iconst (-1), 1) by decide +kernel) rfl rfl ?_
  refine g_istore 19 [(some (.inr (.inr (some 682)))), (some (.inl x1)), (some (.inl x2)), (some (.inl v2)), (some (.inl 1)), (some (.inl 0)), (some (.inl 0)), (some (.inl (-1))), none, none, none, none, none, none, none, none] (show op 314 17 = some (.istore 7, 2) by decide +kernel) rfl rfl rfl ?_
  refine g_iconst 20 (show op 314 19 = some (.iconst 0, 1) by decide +kernel) rfl rfl ?_
  refine g_istore 22 [(some (.inr (.inr (some 682)))), (some (.inl x1)), (some (.inl x2)), (some (.inl v2)), (some (.inl 1)), (some (.inl 0)), (some (.inl 0)), (some (.inl (-1))), (some (.inl 0)), none, none, none, none, none, none, none] (show op 314 20 = some (.istore 8, 2) by decide +kernel) rfl rfl rfl ?_
  exact h
/-- PatchBenchModel.movedOf (II)I -/
theorem b315 {x1 : Int} {x2 : Int} {σ : Sg} {o : Rs}   (h : (∃ (v2 : Int) (s1 : Sg), Dd 280 [(.inr (.inr (some 682))), (.inl x1), (.inl 0)] σ (.inl (some (.inl v2)), s1) ∧ (∃ (v5 : Int) (s4 : Sg), Dd 314 [(.inr (.inr (some 682))), (.inl x1), (.inl x2)] s1 (.inl (some (.inl v5)), s4) ∧ o = (.inl (some (.inl v5)), s4)))) : Dd 315 [(.inr (.inr (some 682))), (.inl x1), (.inl x2)] σ o := by
  refine Dd_of (l := 4) (by decide +kernel) ?_
  show Gd 315 0 [(some (.inr (.inr (some 682)))), (some (.inl x1)), (some (.inl x2)), none] [] σ 0 0 o
  refine g_aload_n 1 (show op 315 0 = some (.aload_n 0, 1) by decide +kernel) rfl rfl ?_
  refine g_iload_n 2 (show op 315 1 = some (.iload_n 1, 1) by decide +kernel) rfl rfl ?_
  refine g_iconst 3 (show op 315 2 = some (.iconst 0, 1) by decide +kernel) rfl rfl ?_
  obtain ⟨v2, s1, hD3, h⟩ := h
  refine g_call 6 [(.inl v2)] (show op 315 3 = some (.invokevirtual 267, 3) by decide +kernel) (call_vi' (k' := 0) (n' := 0) (nj := 3) (j := 280) (k9 := 21) (t := []) (as := [(.inr (.inr (some 682))), (.inl x1), (.inl 0)]) (by decide +kernel) rfl (by decide +kernel) rfl rfl rfl rfl rfl rfl (by decide +kernel) (by decide +kernel)) hD3 rfl ?_
  refine g_istore_n 7 [(some (.inr (.inr (some 682)))), (some (.inl x1)), (some (.inl x2)), (some (.inl v2))] (show op 315 6 = some (.istore_n 3, 1) by decide +kernel) rfl rfl rfl ?_
  refine g_aload_n 8 (show op 315 7 = some (.aload_n 0, 1) by decide +kernel) rfl rfl ?_
  refine g_iload_n 9 (show op 315 8 = some (.iload_n 1, 1) by decide +kernel) rfl rfl ?_
  refine g_iload_n 10 (show op 315 9 = some (.iload_n 2, 1) by decide +kernel) rfl rfl ?_
  obtain ⟨v5, s4, hD6, h⟩ := h
  refine g_call 13 [(.inl v5)] (show op 315 10 = some (.invokevirtual 329, 3) by decide +kernel) (call_vi' (k' := 0) (n' := 0) (nj := 3) (j := 314) (k9 := 21) (t := []) (as := [(.inr (.inr (some 682))), (.inl x1), (.inl x2)]) (by decide +kernel) rfl (by decide +kernel) rfl rfl rfl rfl rfl rfl (by decide +kernel) (by decide +kernel)) hD6 rfl ?_
  exact (g_iret (show op 315 13 = some (.ireturn, 1) by decide +kernel) (by decide +kernel) h)
/-- PatchBenchModel.movedTo (II)I -/
theorem b316 {x1 : Int} {x2 : Int} {σ : Sg} {o : Rs}   (h : (∃ (v2 : Int) (s1 : Sg), Dd 308 [(.inr (.inr (some 682))), (.inl x1), (.inl x2)] σ (.inl (some (.inl v2)), s1) ∧ (if v2 = 0 then o = (.inl (some (.inl 0)), s1) else (∃ (v5 : Int) (s4 : Sg), Dd 315 [(.inr (.inr (some 682))), (.inl x1), (.inl x2)] s1 (.inl (some (.inl v5)), s4) ∧ o = (.inl (some (.inl v5)), s4))))) : Dd 316 [(.inr (.inr (some 682))), (.inl x1), (.inl x2)] σ o := by
  refine Dd_of (l := 3) (by decide +kernel) ?_
  show Gd 316 0 [(some (.inr (.inr (some 682)))), (some (.inl x1)), (some (.inl x2))] [] σ 0 0 o
  refine g_aload_n 1 (show op 316 0 = some (.aload_n 0, 1) by decide +kernel) rfl rfl ?_
  refine g_iload_n 2 (show op 316 1 = some (.iload_n 1, 1) by decide +kernel) rfl rfl ?_
  refine g_iload_n 3 (show op 316 2 = some (.iload_n 2, 1) by decide +kernel) rfl rfl ?_
  obtain ⟨v2, s1, hD3, h⟩ := h
  refine g_call 6 [(.inl v2)] (show op 316 3 = some (.invokevirtual 319, 3) by decide +kernel) (call_vi' (k' := 0) (n' := 0) (nj := 3) (j := 308) (k9 := 21) (t := []) (as := [(.inr (.inr (some 682))), (.inl x1), (.inl x2)]) (by decide +kernel) rfl (by decide +kernel) rfl rfl rfl rfl rfl rfl (by decide +kernel) (by decide +kernel)) hD3 rfl ?_
  by_cases hc7 : v2 = 0
  · rw [if_pos hc7] at h
    refine g_ifT 18 (show op 316 6 = some (.ifCond .eq 12, 3) by decide +kernel) rfl (decide_eq_true hc7) ?_
    refine g_iconst 19 (show op 316 18 = some (.iconst 0, 1) by decide +kernel) rfl rfl ?_
    exact (g_iret (show op 316 19 = some (.ireturn, 1) by decide +kernel) (by decide +kernel) h)
  · rw [if_neg hc7] at h
    refine g_ifF 9 18 (show op 316 6 = some (.ifCond .eq 12, 3) by decide +kernel) rfl rfl (decide_eq_false hc7) ?_
    refine g_aload_n 10 (show op 316 9 = some (.aload_n 0, 1) by decide +kernel) rfl rfl ?_
    refine g_iload_n 11 (show op 316 10 = some (.iload_n 1, 1) by decide +kernel) rfl rfl ?_
    refine g_iload_n 12 (show op 316 11 = some (.iload_n 2, 1) by decide +kernel) rfl rfl ?_
    obtain ⟨v5, s4, hD6, h⟩ := h
    refine g_call 15 [(.inl v5)] (show op 316 12 = some (.invokevirtual 332, 3) by decide +kernel) (call_vi' (k' := 0) (n' := 0) (nj := 3) (j := 315) (k9 := 21) (t := []) (as := [(.inr (.inr (some 682))), (.inl x1), (.inl x2)]) (by decide +kernel) rfl (by decide +kernel) rfl rfl rfl rfl rfl rfl (by decide +kernel) (by decide +kernel)) hD6 rfl ?_
    refine g_goto 19 (show op 316 15 = some (.goto 4, 3) by decide +kernel) rfl ?_
    exact (g_iret (show op 316 19 = some (.ireturn, 1) by decide +kernel) (by decide +kernel) h)
end
