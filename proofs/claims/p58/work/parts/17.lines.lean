noncomputable section
/-- java/lang/Integer.bitCount (I)I -/
theorem b443 {x0 : Int} {σ : Sg} {o : Rs}   (h : (-2147483648 ≤ (x0 - (iAnd (iUshr x0 1) 1431655765)) ∧ (x0 - (iAnd (iUshr x0 1) 1431655765)) ≤ 2147483647) ∧ (-2147483648 ≤ ((iAnd (x0 - (iAnd (iUshr x0 1) 1431655765)) 858993459) + (iAnd (iUshr (x0 - (iAnd (iUshr x0 1) 1431655765)) 2) 858993459)) ∧ ((iAnd (x0 - (iAnd (iUshr x0 1) 1431655765)) 858993459) + (iAnd (iUshr (x0 - (iAnd (iUshr x0 1) 1431655765)) 2) 858993459)) ≤ 2147483647) ∧ (-2147483648 ≤ (((iAnd (x0 - (iAnd (iUshr x0 1) 1431655765)) 858993459) + (iAnd (iUshr (x0 - (iAnd (iUshr x0 1) 1431655765)) 2) 858993459)) + (iUshr ((iAnd (x0 - (iAnd (iUshr x0 1) 1431655765)) 858993459) + (iAnd (iUshr (x0 - (iAnd (iUshr x0 1) 1431655765)) 2) 858993459)) 4)) ∧ (((iAnd (x0 - (iAnd (iUshr x0 1) 1431655765)) 858993459) + (iAnd (iUshr (x0 - (iAnd (iUshr x0 1) 1431655765)) 2) 858993459)) + (iUshr ((iAnd (x0 - (iAnd (iUshr x0 1) 1431655765)) 858993459) + (iAnd (iUshr (x0 - (iAnd (iUshr x0 1) 1431655765)) 2) 858993459)) 4)) ≤ 2147483647) ∧ (-2147483648 ≤ ((iAnd (((iAnd (x0 - (iAnd (iUshr x0 1) 1431655765)) 858993459) + (iAnd (iUshr (x0 - (iAnd (iUshr x0 1) 1431655765)) 2) 858993459)) + (iUshr ((iAnd (x0 - (iAnd (iUshr x0 1) 1431655765)) 858993459) + (iAnd (iUshr (x0 - (iAnd (iUshr x0 1) 1431655765)) 2) 858993459)) 4)) 252645135) + (iUshr (iAnd (((iAnd (x0 - (iAnd (iUshr x0 1) 1431655765)) 858993459) + (iAnd (iUshr (x0 - (iAnd (iUshr x0 1) 1431655765)) 2) 858993459)) + (iUshr ((iAnd (x0 - (iAnd (iUshr x0 1) 1431655765)) 858993459) + (iAnd (iUshr (x0 - (iAnd (iUshr x0 1) 1431655765)) 2) 858993459)) 4)) 252645135) 8)) ∧ ((iAnd (((iAnd (x0 - (iAnd (iUshr x0 1) 1431655765)) 858993459) + (iAnd (iUshr (x0 - (iAnd (iUshr x0 1) 1431655765)) 2) 858993459)) + (iUshr ((iAnd (x0 - (iAnd (iUshr x0 1) 1431655765)) 858993459) + (iAnd (iUshr (x0 - (iAnd (iUshr x0 1) 1431655765)) 2) 858993459)) 4)) 252645135) + (iUshr (iAnd (((iAnd (x0 - (iAnd (iUshr x0 1) 1431655765)) 858993459) + (iAnd (iUshr (x0 - (iAnd (iUshr x0 1) 1431655765)) 2) 858993459)) + (iUshr ((iAnd (x0 - (iAnd (iUshr x0 1) 1431655765)) 858993459) + (iAnd (iUshr (x0 - (iAnd (iUshr x0 1) 1431655765)) 2) 858993459)) 4)) 252645135) 8)) ≤ 2147483647) ∧ (-2147483648 ≤ (((iAnd (((iAnd (x0 - (iAnd (iUshr x0 1) 1431655765)) 858993459) + (iAnd (iUshr (x0 - (iAnd (iUshr x0 1) 1431655765)) 2) 858993459)) + (iUshr ((iAnd (x0 - (iAnd (iUshr x0 1) 1431655765)) 858993459) + (iAnd (iUshr (x0 - (iAnd (iUshr x0 1) 1431655765)) 2) 858993459)) 4)) 252645135) + (iUshr (iAnd (((iAnd (x0 - (iAnd (iUshr x0 1) 1431655765)) 858993459) + (iAnd (iUshr (x0 - (iAnd (iUshr x0 1) 1431655765)) 2) 858993459)) + (iUshr ((iAnd (x0 - (iAnd (iUshr x0 1) 1431655765)) 858993459) + (iAnd (iUshr (x0 - (iAnd (iUshr x0 1) 1431655765)) 2) 858993459)) 4)) 252645135) 8)) + (iUshr ((iAnd (((iAnd (x0 - (iAnd (iUshr x0 1) 1431655765)) 858993459) + (iAnd (iUshr (x0 - (iAnd (iUshr x0 1) 1431655765)) 2) 858993459)) + (iUshr ((iAnd (x0 - (iAnd (iUshr x0 1) 1431655765)) 858993459) + (iAnd (iUshr (x0 - (iAnd (iUshr x0 1) 1431655765)) 2) 858993459)) 4)) 252645135) + (iUshr (iAnd (((iAnd (x0 - (iAnd (iUshr x0 1) 1431655765)) 858993459) + (iAnd (iUshr (x0 - (iAnd (iUshr x0 1) 1431655765)) 2) 858993459)) + (iUshr ((iAnd (x0 - (iAnd (iUshr x0 1) 1431655765)) 858993459) + (iAnd (iUshr (x0 - (iAnd (iUshr x0 1) 1431655765)) 2) 858993459)) 4)) 252645135) 8)) 16)) ∧ (((iAnd (((iAnd (x0 - (iAnd (iUshr x0 1) 1431655765)) 858993459) + (iAnd (iUshr (x0 - (iAnd (iUshr x0 1) 1431655765)) 2) 858993459)) + (iUshr ((iAnd (x0 - (iAnd (iUshr x0 1) 1431655765)) 858993459) + (iAnd (iUshr (x0 - (iAnd (iUshr x0 1) 1431655765)) 2) 858993459)) 4)) 252645135) + (iUshr (iAnd (((iAnd (x0 - (iAnd (iUshr x0 1) 1431655765)) 858993459) + (iAnd (iUshr (x0 - (iAnd (iUshr x0 1) 1431655765)) 2) 858993459)) + (iUshr ((iAnd (x0 - (iAnd (iUshr x0 1) 1431655765)) 858993459) + (iAnd (iUshr (x0 - (iAnd (iUshr x0 1) 1431655765)) 2) 858993459)) 4)) 252645135) 8)) + (iUshr ((iAnd (((iAnd (x0 - (iAnd (iUshr x0 1) 1431655765)) 858993459) + (iAnd (iUshr (x0 - (iAnd (iUshr x0 1) 1431655765)) 2) 858993459)) + (iUshr ((iAnd (x0 - (iAnd (iUshr x0 1) 1431655765)) 858993459) + (iAnd (iUshr (x0 - (iAnd (iUshr x0 1) 1431655765)) 2) 858993459)) 4)) 252645135) + (iUshr (iAnd (((iAnd (x0 - (iAnd (iUshr x0 1) 1431655765)) 858993459) + (iAnd (iUshr (x0 - (iAnd (iUshr x0 1) 1431655765)) 2) 858993459)) + (iUshr ((iAnd (x0 - (iAnd (iUshr x0 1) 1431655765)) 858993459) + (iAnd (iUshr (x0 - (iAnd (iUshr x0 1) 1431655765)) 2) 858993459)) 4)) 252645135) 8)) 16)) ≤ 2147483647) ∧ o = (.inl (some (.inl (iAnd (((iAnd (((iAnd (x0 - (iAnd (iUshr x0 1) 1431655765)) 858993459) + (iAnd (iUshr (x0 - (iAnd (iUshr x0 1) 1431655765)) 2) 858993459)) + (iUshr ((iAnd (x0 - (iAnd (iUshr x0 1) 1431655765)) 858993459) + (iAnd (iUshr (x0 - (iAnd (iUshr x0 1) 1431655765)) 2) 858993459)) 4)) 252645135) + (iUshr (iAnd (((iAnd (x0 - (iAnd (iUshr x0 1) 1431655765)) 858993459) + (iAnd (iUshr (x0 - (iAnd (iUshr x0 1) 1431655765)) 2) 858993459)) + (iUshr ((iAnd (x0 - (iAnd (iUshr x0 1) 1431655765)) 858993459) + (iAnd (iUshr (x0 - (iAnd (iUshr x0 1) 1431655765)) 2) 858993459)) 4)) 252645135) 8)) + (iUshr ((iAnd (((iAnd (x0 - (iAnd (iUshr x0 1) 1431655765)) 858993459) + (iAnd (iUshr (x0 - (iAnd (iUshr x0 1) 1431655765)) 2) 858993459)) + (iUshr ((iAnd (x0 - (iAnd (iUshr x0 1) 1431655765)) 858993459) + (iAnd (iUshr (x0 - (iAnd (iUshr x0 1) 1431655765)) 2) 858993459)) 4)) 252645135) + (iUshr (iAnd (((iAnd (x0 - (iAnd (iUshr x0 1) 1431655765)) 858993459) + (iAnd (iUshr (x0 - (iAnd (iUshr x0 1) 1431655765)) 2) 858993459)) + (iUshr ((iAnd (x0 - (iAnd (iUshr x0 1) 1431655765)) 858993459) + (iAnd (iUshr (x0 - (iAnd (iUshr x0 1) 1431655765)) 2) 858993459)) 4)) 252645135) 8)) 16)) 63))), σ)) : Dd 443 [(.inl x0)] σ o := by
  refine Dd_of (l := 1) (by decide +kernel) ?_
  show Gd 443 0 [(some (.inl x0))] [] σ 0 0 o
  refine g_iload_n 1 (show op 443 0 = some (.iload_n 0, 1) by decide +kernel) rfl rfl ?_
  refine g_iload_n 2 (show op 443 1 = some (.iload_n 0, 1) by decide +kernel) rfl rfl ?_
  refine g_iconst 3 (show op 443 2 = some (.iconst 1, 1) by decide +kernel) rfl rfl ?_
  refine g_iushr 4 (show op 443 3 = some (.iushr, 1) by decide +kernel) rfl ?_
  refine g_ldc_w (v := 1431655765) 7 (show op 443 4 = some (.ldc_w 265, 3) by decide +kernel) rfl (by decide +kernel) rfl ?_
  refine g_iand 8 (show op 443 7 = some (.iand, 1) by decide +kernel) rfl ?_
  obtain ⟨g1, h⟩ := h
  refine g_isub 9 (show op 443 8 = some (.isub, 1) by decide +kernel) rfl g1 ?_
  refine g_istore_n 10 [(some (.inl (x0 - (iAnd (iUshr x0 1) 1431655765))))] (show op 443 9 = some (.istore_n 0, 1) by decide +kernel) rfl rfl rfl ?_
  refine g_iload_n 11 (show op 443 10 = some (.iload_n 0, 1) by decide +kernel) rfl rfl ?_
  refine g_ldc_w (v := 858993459) 14 (show op 443 11 = some (.ldc_w 266, 3) by decide +kernel) rfl (by decide +kernel) rfl ?_
  refine g_iand 15 (show op 443 14 = some (.iand, 1) by decide +kernel) rfl ?_
  refine g_iload_n 16 (show op 443 15 = some (.iload_n 0, 1) by decide +kernel) rfl rfl ?_
  refine g_iconst 17 (show op 443 16 = some (.iconst 2, 1) by decide +kernel) rfl rfl ?_
  refine g_iushr 18 (show op 443 17 = some (.iushr, 1) by decide +kernel) rfl ?_
  refine g_ldc_w (v := 858993459) 21 (show op 443 18 = some (.ldc_w 266, 3) by decide +kernel) rfl (by decide +kernel) rfl ?_
  refine g_iand 22 (show op 443 21 = some (.iand, 1) by decide +kernel) rfl ?_
  obtain ⟨g2, h⟩ := h
  refine g_iadd 23 (show op 443 22 = some (.iadd, 1) by decide +kernel) rfl g2 ?_
  refine g_istore_n 24 [(some (.inl ((iAnd (x0 - (iAnd (iUshr x0 1) 1431655765)) 858993459) + (iAnd (iUshr (x0 - (iAnd (iUshr x0 1) 1431655765)) 2) 858993459))))] (show op 443 23 = some (.istore_n 0, 1) by decide +kernel) rfl rfl rfl ?_
  refine g_iload_n 25 (show op 443 24 = some (.iload_n 0, 1) by decide +kernel) rfl rfl ?_
  refine g_iload_n 26 (show op 443 25 = some (.iload_n 0, 1) by decide +kernel) rfl rfl ?_
  refine g_iconst 27 (show op 443 26 = some (.iconst 4, 1) by decide +kernel) rfl rfl ?_
  refine g_iushr 28 (show op 443 27 = some (.iushr, 1) by decide +kernel) rfl ?_
  obtain ⟨g3, h⟩ := h
  refine g_iadd 29 (show op 443 28 = some (.iadd, 1) by decide +kernel) rfl g3 ?_
  refine g_ldc_w (v := 252645135) 32 (show op 443 29 = some (.ldc_w 267, 3) by decide +kernel) rfl (by decide +kernel) rfl ?_
  refine g_iand 33 (show op 443 32 = some (.iand, 1) by decide +kernel) rfl ?_
  refine g_istore_n 34 [(some (.inl (iAnd (((iAnd (x0 - (iAnd (iUshr x0 1) 1431655765)) 858993459) + (iAnd (iUshr (x0 - (iAnd (iUshr x0 1) 1431655765)) 2) 858993459)) + (iUshr ((iAnd (x0 - (iAnd (iUshr x0 1) 1431655765)) 858993459) + (iAnd (iUshr (x0 - (iAnd (iUshr x0 1) 1431655765)) 2) 858993459)) 4)) 252645135)))] (show op 443 33 = some (.istore_n 0, 1) by decide +kernel) rfl rfl rfl ?_
  refine g_iload_n 35 (show op 443 34 = some (.iload_n 0, 1) by decide +kernel) rfl rfl ?_
  refine g_iload_n 36 (show op 443 35 = some (.iload_n 0, 1) by decide +kernel) rfl rfl ?_
  refine g_bipush 38 (show op 443 36 = some (.bipush 8, 2) by decide +kernel) rfl (by decide) ?_
  refine g_iushr 39 (show op 443 38 = some (.iushr, 1) by decide +kernel) rfl ?_
  obtain ⟨g4, h⟩ := h
  refine g_iadd 40 (show op 443 39 = some (.iadd, 1) by decide +kernel) rfl g4 ?_
  refine g_istore_n 41 [(some (.inl ((iAnd (((iAnd (x0 - (iAnd (iUshr x0 1) 1431655765)) 858993459) + (iAnd (iUshr (x0 - (iAnd (iUshr x0 1) 1431655765)) 2) 858993459)) + (iUshr ((iAnd (x0 - (iAnd (iUshr x0 1) 1431655765)) 858993459) + (iAnd (iUshr (x0 - (iAnd (iUshr x0 1) 1431655765)) 2) 858993459)) 4)) 252645135) + (iUshr (iAnd (((iAnd (x0 - (iAnd (iUshr x0 1) 1431655765)) 858993459) + (iAnd (iUshr (x0 - (iAnd (iUshr x0 1) 1431655765)) 2) 858993459)) + (iUshr ((iAnd (x0 - (iAnd (iUshr x0 1) 1431655765)) 858993459) + (iAnd (iUshr (x0 - (iAnd (iUshr x0 1) 1431655765)) 2) 858993459)) 4)) 252645135) 8))))] (show op 443 40 = some (.istore_n 0, 1) by decide +kernel) rfl rfl rfl ?_
  refine g_iload_n 42 (show op 443 41 = some (.iload_n 0, 1) by decide +kernel) rfl rfl ?_
  refine g_iload_n 43 (show op 443 42 = some (.iload_n 0, 1) by decide +kernel) rfl rfl ?_
  refine g_bipush 45 (show op 443 43 = some (.bipush 16, 2) by decide +kernel) rfl (by decide) ?_
  refine g_iushr 46 (show op 443 45 = some (.iushr, 1) by decide +kernel) rfl ?_
  obtain ⟨g5, h⟩ := h
  refine g_iadd 47 (show op 443 46 = some (.iadd, 1) by decide +kernel) rfl g5 ?_
  refine g_istore_n 48 [(some (.inl (((iAnd (((iAnd (x0 - (iAnd (iUshr x0 1) 1431655765)) 858993459) + (iAnd (iUshr (x0 - (iAnd (iUshr x0 1) 1431655765)) 2) 858993459)) + (iUshr ((iAnd (x0 - (iAnd (iUshr x0 1) 1431655765)) 858993459) + (iAnd (iUshr (x0 - (iAnd (iUshr x0 1) 1431655765)) 2) 858993459)) 4)) 252645135) + (iUshr (iAnd (((iAnd (x0 - (iAnd (iUshr x0 1) 1431655765)) 858993459) + (iAnd (iUshr (x0 - (iAnd (iUshr x0 1) 1431655765)) 2) 858993459)) + (iUshr ((iAnd (x0 - (iAnd (iUshr x0 1) 1431655765)) 858993459) + (iAnd (iUshr (x0 - (iAnd (iUshr x0 1) 1431655765)) 2) 858993459)) 4)) 252645135) 8)) + (iUshr ((iAnd (((iAnd (x0 - (iAnd (iUshr x0 1) 1431655765)) 858993459) + (iAnd (iUshr (x0 - (iAnd (iUshr x0 1) 1431655765)) 2) 858993459)) + (iUshr ((iAnd (x0 - (iAnd (iUshr x0 1) 1431655765)) 858993459) + (iAnd (iUshr (x0 - (iAnd (iUshr x0 1) 1431655765)) 2) 858993459)) 4)) 252645135) + (iUshr (iAnd (((iAnd (x0 - (iAnd (iUshr x0 1) 1431655765)) 858993459) + (iAnd (iUshr (x0 - (iAnd (iUshr x0 1) 1431655765)) 2) 858993459)) + (iUshr ((iAnd (x0 - (iAnd (iUshr x0 1) 1431655765)) 858993459) + (iAnd (iUshr (x0 - (iAnd (iUshr x0 1) 1431655765)) 2) 858993459)) 4)) 252645135) 8)) 16))))] (show op 443 47 = some (.istore_n 0, 1) by decide +kernel) rfl rfl rfl ?_
  refine g_iload_n 49 (show op 443 48 = some (.iload_n 0, 1) by decide +kernel) rfl rfl ?_
  refine g_bipush 51 (show op 443 49 = some (.bipush 63, 2) by decide +kernel) rfl (by decide) ?_
  refine g_iand 52 (show op 443 51 = some (.iand, 1) by decide +kernel) rfl ?_
  exact (g_iret (show op 443 52 = some (.ireturn, 1) by decide +kernel) (by decide +kernel) h)
def C66_18 (d0 : Option AV) (σ : Sg) (o : Rs) : Prop := Gd 66 18 [d0] [] σ 0 0 o
theorem b66_18 {d0 : Option AV} {σ : Sg} {o : Rs}   (h : o = (.inl (some (.inl 1)), σ)) : C66_18 d0 σ o := by
  show Gd 66 18 [d0] [] σ 0 0 o
  refine g_iconst 19 (show op 66 18 = some (.iconst 1, 1) by decide +kernel) rfl rfl ?_
  refine g_goto 23 (show op 66 19 = some (.goto 4, 3) by decide +kernel) rfl ?_
  exact (g_zret (show op 66 23 = some (.ireturn, 1) by decide +kernel) (by decide +kernel) (by decide) h)
/-- PatchBench$Lines.isMark (I)Z -/
theorem b66 {x0 : Int} {σ : Sg} {o : Rs}   (h : (if x0 = 50001 then C66_18 (some (.inl x0)) σ o else (if x0 = 50002 then C66_18 (some (.inl x0)) σ o else (if x0 = 50003 then C66_18 (some (.inl x0)) σ o else o = (.inl (some (.inl 0)), σ))))) : Dd 66 [(.inl x0)] σ o := by
  refine Dd_of (l := 1) (by decide +kernel) ?_
  show Gd 66 0 [(some (.inl x0))] [] σ 0 0 o
  refine g_iload_n 1 (show op 66 0 = some (.iload_n 0, 1) by decide +kernel) rfl rfl ?_
  refine g_ldc (v := 50001) 3 (show op 66 1 = some (.ldc 9, 2) by decide +kernel) rfl (by decide +kernel) rfl ?_
  by_cases hc1 : x0 = 50001
  · rw [if_pos hc1] at h
    refine g_icmpT 18 (show op 66 3 = some (.if_icmp .eq 15, 3) by decide +kernel) rfl (decide_eq_true hc1) ?_
    exact h
  · rw [if_neg hc1] at h
    refine g_icmpF 6 18 (show op 66 3 = some (.if_icmp .eq 15, 3) by decide +kernel) rfl rfl (decide_eq_false hc1) ?_
    refine g_iload_n 7 (show op 66 6 = some (.iload_n 0, 1) by decide +kernel) rfl rfl ?_
    refine g_ldc (v := 50002) 9 (show op 66 7 = some (.ldc 10, 2) by decide +kernel) rfl (by decide +kernel) rfl ?_
    by_cases hc2 : x0 = 50002
    · rw [if_pos hc2] at h
      refine g_icmpT 18 (show op 66 9 = some (.if_icmp .eq 9, 3) by decide +kernel) rfl (decide_eq_true hc2) ?_
      exact h
    · rw [if_neg hc2] at h
      refine g_icmpF 12 18 (show op 66 9 = some (.if_icmp .eq 9, 3) by decide +kernel) rfl rfl (decide_eq_false hc2) ?_
      refine g_iload_n 13 (show op 66 12 = some (.iload_n 0, 1) by decide +kernel) rfl rfl ?_
      refine g_ldc (v := 50003) 15 (show op 66 13 = some (.ldc 11, 2) by decide +kernel) rfl (by decide +kernel) rfl ?_
      by_cases hc3 : x0 = 50003
      · rw [if_pos hc3] at h
        refine g_icmpF 18 22 (show op 66 15 = some (.if_icmp .ne 7, 3) by decide +kernel) rfl rfl (decide_eq_false (fun h9 => h9 hc3)) ?_
        exact h
      · rw [if_neg hc3] at h
        refine g_icmpT 22 (show op 66 15 = some (.if_icmp .ne 7, 3) by decide +kernel) rfl (decide_eq_true hc3) ?_
        refine g_iconst 23 (show op 66 22 = some (.iconst 0, 1) by decide +kernel) rfl rfl ?_
        exact (g_zret (show op 66 23 = some (.ireturn, 1) by decide +kernel) (by decide +kernel) (by decide) h)
/-- PatchBench$Lines.isBlank (I)Z -/
theorem b67 {x0 : Int} {σ : Sg} {o : Rs}   (h : o = (.inl (some (.inl (if x0 = 0 then 1 else 0))), σ)) : Dd 67 [(.inl x0)] σ o := by
  refine Dd_of (l := 1) (by decide +kernel) ?_
  show Gd 67 0 [(some (.inl x0))] [] σ 0 0 o
  refine g_iload_n 1 (show op 67 0 = some (.iload_n 0, 1) by decide +kernel) rfl rfl ?_
  by_cases hc1 : x0 = 0
  · refine g_ifF 4 8 (show op 67 1 = some (.ifCond .ne 7, 3) by decide +kernel) rfl rfl (decide_eq_false (fun h9 => h9 hc1)) ?_
    refine g_iconst 5 (show op 67 4 = some (.iconst 1, 1) by decide +kernel) rfl rfl ?_
    refine g_goto 9 (show op 67 5 = some (.goto 4, 3) by decide +kernel) rfl ?_
    have h9 := h; simp only [if_pos hc1] at h9; exact (g_zret (show op 67 9 = some (.ireturn, 1) by decide +kernel) (by decide +kernel) (by decide) h9)
  · refine g_ifT 8 (show op 67 1 = some (.ifCond .ne 7, 3) by decide +kernel) rfl (decide_eq_true hc1) ?_
    refine g_iconst 9 (show op 67 8 = some (.iconst 0, 1) by decide +kernel) rfl rfl ?_
    have h9 := h; simp only [if_neg hc1] at h9; exact (g_zret (show op 67 9 = some (.ireturn, 1) by decide +kernel) (by decide +kernel) (by decide) h9)
def C68_39 (x0 : Int) (x1 : Int) (x2 : Int) (σ : Sg) (o : Rs) : Prop := Gd 68 39 [(some (.inl x0)), (some (.inl x1)), (some (.inl x2))] [] σ 0 0 o
def C68_68 (x0 : Int) (d1 : Option AV) (d2 : Option AV) (σ : Sg) (o : Rs) : Prop := Gd 68 68 [(some (.inl x0)), d1, d2] [] σ 0 0 o
theorem b68_39 {x0 : Int} {x1 : Int} {x2 : Int} {σ : Sg} {o : Rs}   (h : (if x2 < 4 then (if 0 < x1 then (if (Int.tmod x1 10) = 0 then o = (.inl (some (.inl 0)), σ) else (-2147483648 ≤ (x2 + 1) ∧ (x2 + 1) ≤ 2147483647) ∧ C68_39 x0 (Int.tdiv x1 10) (x2 + 1) σ o) else C68_68 x0 (some (.inl x1)) (some (.inl x2)) σ o) else C68_68 x0 (some (.inl x1)) (some (.inl x2)) σ o)) : C68_39 x0 x1 x2 σ o := by
  show Gd 68 39 [(some (.inl x0)), (some (.inl x1)), (some (.inl x2))] [] σ 0 0 o
  refine g_iload_n 40 (show op 68 39 = some (.iload_n 2, 1) by decide +kernel) rfl rfl ?_
  refine g_iconst 41 (show op 68 40 = some (.iconst 4, 1) by decide +kernel) rfl rfl ?_
  by_cases hc2 : x2 < 4
  · rw [if_pos hc2] at h
    refine g_icmpF 44 68 (show op 68 41 = some (.if_icmp .ge 27, 3) by decide +kernel) rfl rfl (decide_eq_false (Int.not_le.mpr hc2)) ?_
    refine g_iload_n 45 (show op 68 44 = some (.iload_n 1, 1) by decide +kernel) rfl rfl ?_
    by_cases hc3 : 0 < x1
    · rw [if_pos hc3] at h
      refine g_ifF 48 68 (show op 68 45 = some (.ifCond .le 23, 3) by decide +kernel) rfl rfl (decide_eq_false (Int.not_le.mpr hc3)) ?_
      refine g_iload_n 49 (show op 68 48 = some (.iload_n 1, 1) by decide +kernel) rfl rfl ?_
      refine g_bipush 51 (show op 68 49 = some (.bipush 10, 2) by decide +kernel) rfl (by decide) ?_
      refine g_irem 52 (show op 68 51 = some (.irem, 1) by decide +kernel) rfl (by decide) ?_
      by_cases hc4 : (Int.tmod x1 10) = 0
      · rw [if_pos hc4] at h
        refine g_ifF 55 57 (show op 68 52 = some (.ifCond .ne 5, 3) by decide +kernel) rfl rfl (decide_eq_false (fun h9 => h9 hc4)) ?_
        refine g_iconst 56 (show op 68 55 = some (.iconst 0, 1) by decide +kernel) rfl rfl ?_
        exact (g_zret (show op 68 56 = some (.ireturn, 1) by decide +kernel) (by decide +kernel) (by decide) h)
      · rw [if_neg hc4] at h
        refine g_ifT 57 (show op 68 52 = some (.ifCond .ne 5, 3) by decide +kernel) rfl (decide_eq_true hc4) ?_
        refine g_iload_n 58 (show op 68 57 = some (.iload_n 1, 1) by decide +kernel) rfl rfl ?_
        refine g_bipush 60 (show op 68 58 = some (.bipush 10, 2) by decide +kernel) rfl (by decide) ?_
        refine g_idiv 61 (show op 68 60 = some (.idiv, 1) by decide +kernel) rfl (by decide) ?_
        refine g_istore_n 62 [(some (.inl x0)), (some (.inl (Int.tdiv x1 10))), (some (.inl x2))] (show op 68 61 = some (.istore_n 1, 1) by decide +kernel) rfl rfl rfl ?_
        obtain ⟨g1, h⟩ := h
        refine g_iinc 65 [(some (.inl x0)), (some (.inl (Int.tdiv x1 10))), (some (.inl (x2 + 1)))] (show op 68 62 = some (.iinc 2 1, 3) by decide +kernel) rfl rfl g1 rfl ?_
        refine g_goto 39 (show op 68 65 = some (.goto (-26), 3) by decide +kernel) rfl ?_
        exact h
    · rw [if_neg hc3] at h
      refine g_ifT 68 (show op 68 45 = some (.ifCond .le 23, 3) by decide +kernel) rfl (decide_eq_true (Int.not_lt.mp hc3)) ?_
      exact h
  · rw [if_neg hc2] at h
    refine g_icmpT 68 (show op 68 41 = some (.if_icmp .ge 27, 3) by decide +kernel) rfl (decide_eq_true (Int.not_lt.mp hc2)) ?_
    exact h
theorem b68_68 {x0 : Int} {d1 : Option AV} {d2 : Option AV} {σ : Sg} {o : Rs}   (h : o = (.inl (some (.inl (if 0 < (Int.tmod x0 10000) then 1 else 0))), σ)) : C68_68 x0 d1 d2 σ o := by
  show Gd 68 68 [(some (.inl x0)), d1, d2] [] σ 0 0 o
  refine g_iload_n 69 (show op 68 68 = some (.iload_n 0, 1) by decide +kernel) rfl rfl ?_
  refine g_sipush 72 (show op 68 69 = some (.sipush 10000, 3) by decide +kernel) rfl (by decide) ?_
  refine g_irem 73 (show op 68 72 = some (.irem, 1) by decide +kernel) rfl (by decide) ?_
  by_cases hc1 : 0 < (Int.tmod x0 10000)
  · refine g_ifF 76 80 (show op 68 73 = some (.ifCond .le 7, 3) by decide +kernel) rfl rfl (decide_eq_false (Int.not_le.mpr hc1)) ?_
    refine g_iconst 77 (show op 68 76 = some (.iconst 1, 1) by decide +kernel) rfl rfl ?_
    refine g_goto 81 (show op 68 77 = some (.goto 4, 3) by decide +kernel) rfl ?_
    have h9 := h; simp only [if_pos hc1] at h9; exact (g_zret (show op 68 81 = some (.ireturn, 1) by decide +kernel) (by decide +kernel) (by decide) h9)
  · refine g_ifT 80 (show op 68 73 = some (.ifCond .le 7, 3) by decide +kernel) rfl (decide_eq_true (Int.not_lt.mp hc1)) ?_
    refine g_iconst 81 (show op 68 80 = some (.iconst 0, 1) by decide +kernel) rfl rfl ?_
    have h9 := h; simp only [if_neg hc1] at h9; exact (g_zret (show op 68 81 = some (.ireturn, 1) by decide +kernel) (by decide +kernel) (by decide) h9)
/-- PatchBench$Lines.isLine (I)Z -/
theorem b68 {x0 : Int} {σ : Sg} {o : Rs}   (h : (∃ (v2 : Int) (s1 : Sg), Dd 67 [(.inl x0)] σ (.inl (some (.inl v2)), s1) ∧ (if v2 = 0 then (∃ (v5 : Int) (s4 : Sg), Dd 66 [(.inl x0)] s1 (.inl (some (.inl v5)), s4) ∧ (if v5 = 0 then (if 0 ≤ x0 then (if 3 < (Int.tdiv x0 10000) then o = (.inl (some (.inl 0)), s4) else C68_39 x0 (Int.tmod x0 10000) 0 s4 o) else o = (.inl (some (.inl 0)), s4)) else o = (.inl (some (.inl 1)), s4))) else o = (.inl (some (.inl 1)), s1)))) : Dd 68 [(.inl x0)] σ o := by
  refine Dd_of (l := 3) (by decide +kernel) ?_
  show Gd 68 0 [(some (.inl x0)), none, none] [] σ 0 0 o
  refine g_iload_n 1 (show op 68 0 = some (.iload_n 0, 1) by decide +kernel) rfl rfl ?_
  obtain ⟨v2, s1, hD3, h⟩ := h
  refine g_call 4 [(.inl v2)] (show op 68 1 = some (.invokestatic 12, 3) by decide +kernel) (call_st' (k' := 0) (n' := 0) (nj := 1) (j := 67) (t := []) (as := [(.inl x0)]) (by decide +kernel) rfl (by decide +kernel) rfl rfl rfl rfl rfl) hD3 rfl ?_
  by_cases hc7 : v2 = 0
  · rw [if_pos hc7] at h
    refine g_ifF 7 14 (show op 68 4 = some (.ifCond .ne 10, 3) by decide +kernel) rfl rfl (decide_eq_false (fun h9 => h9 hc7)) ?_
    refine g_iload_n 8 (show op 68 7 = some (.iload_n 0, 1) by decide +kernel) rfl rfl ?_
    obtain ⟨v5, s4, hD6, h⟩ := h
    refine g_call 11 [(.inl v5)] (show op 68 8 = some (.invokestatic 16, 3) by decide +kernel) (call_st' (k' := 0) (n' := 0) (nj := 1) (j := 66) (t := []) (as := [(.inl x0)]) (by decide +kernel) rfl (by decide +kernel) rfl rfl rfl rfl rfl) hD6 rfl ?_
    by_cases hc8 : v5 = 0
    · rw [if_pos hc8] at h
      refine g_ifT 16 (show op 68 11 = some (.ifCond .eq 5, 3) by decide +kernel) rfl (decide_eq_true hc8) ?_
      refine g_iload_n 17 (show op 68 16 = some (.iload_n 0, 1) by decide +kernel) rfl rfl ?_
      by_cases hc9 : 0 ≤ x0
      · rw [if_pos hc9] at h
        refine g_ifF 20 29 (show op 68 17 = some (.ifCond .lt 12, 3) by decide +kernel) rfl rfl (decide_eq_false (Int.not_lt.mpr hc9)) ?_
        refine g_iload_n 21 (show op 68 20 = some (.iload_n 0, 1) by decide +kernel) rfl rfl ?_
        refine g_sipush 24 (show op 68 21 = some (.sipush 10000, 3) by decide +kernel) rfl (by decide) ?_
        refine g_idiv 25 (show op 68 24 = some (.idiv, 1) by decide +kernel) rfl (by decide) ?_
        refine g_iconst 26 (show op 68 25 = some (.iconst 3, 1) by decide +kernel) rfl rfl ?_
        by_cases hc10 : 3 < (Int.tdiv x0 10000)
        · rw [if_pos hc10] at h
          refine g_icmpF 29 31 (show op 68 26 = some (.if_icmp .le 5, 3) by decide +kernel) rfl rfl (decide_eq_false (Int.not_le.mpr hc10)) ?_
          refine g_iconst 30 (show op 68 29 = some (.iconst 0, 1) by decide +kernel) rfl rfl ?_
          exact (g_zret (show op 68 30 = some (.ireturn, 1) by decide +kernel) (by decide +kernel) (by decide) h)
        · rw [if_neg hc10] at h
          refine g_icmpT 31 (show op 68 26 = some (.if_icmp .le 5, 3) by decide +kernel) rfl (decide_eq_true (Int.not_lt.mp hc10)) ?_
          refine g_iload_n 32 (show op 68 31 = some (.iload_n 0, 1) by decide +kernel) rfl rfl ?_
          refine g_sipush 35 (show op 68 32 = some (.sipush 10000, 3) by decide +kernel) rfl (by decide) ?_
          refine g_irem 36 (show op 68 35 = some (.irem, 1) by decide +kernel) rfl (by decide) ?_
          refine g_istore_n 37 [(some (.inl x0)), (some (.inl (Int.tmod x0 10000))), none] (show op 68 36 = some (.istore_n 1, 1) by decide +kernel) rfl rfl rfl ?_
          refine g_iconst 38 (show op 68 37 = some (.iconst 0, 1) by decide +kernel) rfl rfl ?_
          refine g_istore_n 39 [(some (.inl x0)), (some (.inl (Int.tmod x0 10000))), (some (.inl 0))] (show op 68 38 = some (.istore_n 2, 1) by decide +kernel) rfl rfl rfl ?_
          exact h
      · rw [if_neg hc9] at h
        refine g_ifT 29 (show op 68 17 = some (.ifCond .lt 12, 3) by decide +kernel) rfl (decide_eq_true (Int.not_le.mp hc9)) ?_
        refine g_iconst 30 (show op 68 29 = some (.iconst 0, 1) by decide +kernel) rfl rfl ?_
        exact (g_zret (show op 68 30 = some (.ireturn, 1) by decide +kernel) (by decide +kernel) (by decide) h)
    · rw [if_neg hc8] at h
      refine g_ifF 14 16 (show op 68 11 = some (.ifCond .eq 5, 3) by decide +kernel) rfl rfl (decide_eq_false hc8) ?_
      refine g_iconst 15 (show op 68 14 = some (.iconst 1, 1) by decide +kernel) rfl rfl ?_
      exact (g_zret (show op 68 15 = some (.ireturn, 1) by decide +kernel) (by decide +kernel) (by decide) h)
  · rw [if_neg hc7] at h
    refine g_ifT 14 (show op 68 4 = some (.ifCond .ne 10, 3) by decide +kernel) rfl (decide_eq_true hc7) ?_
    refine g_iconst 15 (show op 68 14 = some (.iconst 1, 1) by decide +kernel) rfl rfl ?_
    exact (g_zret (show op 68 15 = some (.ireturn, 1) by decide +kernel) (by decide +kernel) (by decide) h)
/-- PatchBench$Lines.indentOf (I)I -/
theorem b69 {x0 : Int} {σ : Sg} {o : Rs}   (h : (∃ (v2 : Int) (s1 : Sg), Dd 66 [(.inl x0)] σ (.inl (some (.inl v2)), s1) ∧ o = (.inl (some (.inl (if v2 = 0 then (Int.tdiv x0 10000) else 0))), s1))) : Dd 69 [(.inl x0)] σ o := by
  refine Dd_of (l := 1) (by decide +kernel) ?_
  show Gd 69 0 [(some (.inl x0))] [] σ 0 0 o
  refine g_iload_n 1 (show op 69 0 = some (.iload_n 0, 1) by decide +kernel) rfl rfl ?_
  obtain ⟨v2, s1, hD3, h⟩ := h
  refine g_call 4 [(.inl v2)] (show op 69 1 = some (.invokestatic 16, 3) by decide +kernel) (call_st' (k' := 0) (n' := 0) (nj := 1) (j := 66) (t := []) (as := [(.inl x0)]) (by decide +kernel) rfl (by decide +kernel) rfl rfl rfl rfl rfl) hD3 rfl ?_
  by_cases hc4 : v2 = 0
  · refine g_ifT 11 (show op 69 4 = some (.ifCond .eq 7, 3) by decide +kernel) rfl (decide_eq_true hc4) ?_
    refine g_iload_n 12 (show op 69 11 = some (.iload_n 0, 1) by decide +kernel) rfl rfl ?_
    refine g_sipush 15 (show op 69 12 = some (.sipush 10000, 3) by decide +kernel) rfl (by decide) ?_
    refine g_idiv 16 (show op 69 15 = some (.idiv, 1) by decide +kernel) rfl (by decide) ?_
    have h9 := h; simp only [if_pos hc4] at h9; exact (g_iret (show op 69 16 = some (.ireturn, 1) by decide +kernel) (by decide +kernel) h9)
  · refine g_ifF 7 11 (show op 69 4 = some (.ifCond .eq 7, 3) by decide +kernel) rfl rfl (decide_eq_false hc4) ?_
    refine g_iconst 8 (show op 69 7 = some (.iconst 0, 1) by decide +kernel) rfl rfl ?_
    refine g_goto 16 (show op 69 8 = some (.goto 8, 3) by decide +kernel) rfl ?_
    have h9 := h; simp only [if_neg hc4] at h9; exact (g_iret (show op 69 16 = some (.ireturn, 1) by decide +kernel) (by decide +kernel) h9)
/-- PatchBench$Lines.wordsOf (I)I -/
theorem b70 {x0 : Int} {σ : Sg} {o : Rs}   (h : (∃ (v2 : Int) (s1 : Sg), Dd 66 [(.inl x0)] σ (.inl (some (.inl v2)), s1) ∧ o = (.inl (some (.inl (if v2 = 0 then (Int.tmod x0 10000) else x0))), s1))) : Dd 70 [(.inl x0)] σ o := by
  refine Dd_of (l := 1) (by decide +kernel) ?_
  show Gd 70 0 [(some (.inl x0))] [] σ 0 0 o
  refine g_iload_n 1 (show op 70 0 = some (.iload_n 0, 1) by decide +kernel) rfl rfl ?_
  obtain ⟨v2, s1, hD3, h⟩ := h
  refine g_call 4 [(.inl v2)] (show op 70 1 = some (.invokestatic 16, 3) by decide +kernel) (call_st' (k' := 0) (n' := 0) (nj := 1) (j := 66) (t := []) (as := [(.inl x0)]) (by decide +kernel) rfl (by decide +kernel) rfl rfl rfl rfl rfl) hD3 rfl ?_
  by_cases hc4 : v2 = 0
  · refine g_ifT 11 (show op 70 4 = some (.ifCond .eq 7, 3) by decide +kernel) rfl (decide_eq_true hc4) ?_
    refine g_iload_n 12 (show op 70 11 = some (.iload_n 0, 1) by decide +kernel) rfl rfl ?_
    refine g_sipush 15 (show op 70 12 = some (.sipush 10000, 3) by decide +kernel) rfl (by decide) ?_
    refine g_irem 16 (show op 70 15 = some (.irem, 1) by decide +kernel) rfl (by decide) ?_
    have h9 := h; simp only [if_pos hc4] at h9; exact (g_iret (show op 70 16 = some (.ireturn, 1) by decide +kernel) (by decide +kernel) h9)
  · refine g_ifF 7 11 (show op 70 4 = some (.ifCond .eq 7, 3) by decide +kernel) rfl rfl (decide_eq_false hc4) ?_
    refine g_iload_n 8 (show op 70 7 = some (.iload_n 0, 1) by decide +kernel) rfl rfl ?_
    refine g_goto 16 (show op 70 8 = some (.goto 8, 3) by decide +kernel) rfl ?_
    have h9 := h; simp only [if_neg hc4] at h9; exact (g_iret (show op 70 16 = some (.ireturn, 1) by decide +kernel) (by decide +kernel) h9)
def C71_14 (x0 : Int) (x1 : Int) (d2 : Option AV) (σ : Sg) (o : Rs) : Prop := Gd 71 14 [(some (.inl x0)), (some (.inl x1)), d2] [] σ 0 0 o
theorem b71_14 {x0 : Int} {x1 : Int} {d2 : Option AV} {σ : Sg} {o : Rs}   (h : o = (.inl (some (.inl (if x0 = x1 then 100 else 0))), σ)) : C71_14 x0 x1 d2 σ o := by
  show Gd 71 14 [(some (.inl x0)), (some (.inl x1)), d2] [] σ 0 0 o
  refine g_iload_n 15 (show op 71 14 = some (.iload_n 0, 1) by decide +kernel) rfl rfl ?_
  refine g_iload_n 16 (show op 71 15 = some (.iload_n 1, 1) by decide +kernel) rfl rfl ?_
  by_cases hc1 : x0 = x1
  · refine g_icmpF 19 24 (show op 71 16 = some (.if_icmp .ne 8, 3) by decide +kernel) rfl rfl (decide_eq_false (fun h9 => h9 hc1)) ?_
    refine g_bipush 21 (show op 71 19 = some (.bipush 100, 2) by decide +kernel) rfl (by decide) ?_
    refine g_goto 25 (show op 71 21 = some (.goto 4, 3) by decide +kernel) rfl ?_
    have h9 := h; simp only [if_pos hc1] at h9; exact (g_iret (show op 71 25 = some (.ireturn, 1) by decide +kernel) (by decide +kernel) h9)
  · refine g_icmpT 24 (show op 71 16 = some (.if_icmp .ne 8, 3) by decide +kernel) rfl (decide_eq_true hc1) ?_
    refine g_iconst 25 (show op 71 24 = some (.iconst 0, 1) by decide +kernel) rfl rfl ?_
    have h9 := h; simp only [if_neg hc1] at h9; exact (g_iret (show op 71 25 = some (.ireturn, 1) by decide +kernel) (by decide +kernel) h9)
/-- PatchBench$Lines.resemblance (II)I -/
theorem b71 {x0 : Int} {x1 : Int} {σ : Sg} {o : Rs}   (h : (∃ (v2 : Int) (s1 : Sg), Dd 66 [(.inl x0)] σ (.inl (some (.inl v2)), s1) ∧ (if v2 = 0 then (∃ (v5 : Int) (s4 : Sg), Dd 66 [(.inl x1)] s1 (.inl (some (.inl v5)), s4) ∧ (if v5 = 0 then (∃ (v8 : Int) (s7 : Sg), Dd 70 [(.inl x0)] s4 (.inl (some (.inl v8)), s7) ∧ (∃ (v11 : Int) (s10 : Sg), Dd 72 [(.inl v8)] s7 (.inl (some (.inl v11)), s10) ∧ (∃ (v14 : Int) (s13 : Sg), Dd 70 [(.inl x1)] s10 (.inl (some (.inl v14)), s13) ∧ (∃ (v17 : Int) (s16 : Sg), Dd 72 [(.inl v14)] s13 (.inl (some (.inl v17)), s16) ∧ (-2147483648 ≤ (v11 + v17) ∧ (v11 + v17) ≤ 2147483647) ∧ (if (v11 + v17) = 0 then o = (.inl (some (.inl 100)), s16) else (∃ (v21 : Int) (s20 : Sg), Dd 70 [(.inl x0)] s16 (.inl (some (.inl v21)), s20) ∧ (∃ (v24 : Int) (s23 : Sg), Dd 70 [(.inl x1)] s20 (.inl (some (.inl v24)), s23) ∧ (∃ (v27 : Int) (s26 : Sg), Dd 73 [(.inl v21), (.inl v24)] s23 (.inl (some (.inl v27)), s26) ∧ (-2147483648 ≤ (200 * v27) ∧ (200 * v27) ≤ 2147483647) ∧ (0 < (v11 + v17)) ∧ o = (.inl (some (.inl (Int.tdiv (200 * v27) (v11 + v17)))), s26))))))))) else C71_14 x0 x1 none s4 o)) else C71_14 x0 x1 none s1 o))) : Dd 71 [(.inl x0), (.inl x1)] σ o := by
  refine Dd_of (l := 3) (by decide +kernel) ?_
  show Gd 71 0 [(some (.inl x0)), (some (.inl x1)), none] [] σ 0 0 o
  refine g_iload_n 1 (show op 71 0 = some (.iload_n 0, 1) by decide +kernel) rfl rfl ?_
  obtain ⟨v2, s1, hD3, h⟩ := h
  refine g_call 4 [(.inl v2)] (show op 71 1 = some (.invokestatic 16, 3) by decide +kernel) (call_st' (k' := 0) (n' := 0) (nj := 1) (j := 66) (t := []) (as := [(.inl x0)]) (by decide +kernel) rfl (by decide +kernel) rfl rfl rfl rfl rfl) hD3 rfl ?_
  by_cases hc31 : v2 = 0
  · rw [if_pos hc31] at h
    refine g_ifF 7 14 (show op 71 4 = some (.ifCond .ne 10, 3) by decide +kernel) rfl rfl (decide_eq_false (fun h9 => h9 hc31)) ?_
    refine g_iload_n 8 (show op 71 7 = some (.iload_n 1, 1) by decide +kernel) rfl rfl ?_
    obtain ⟨v5, s4, hD6, h⟩ := h
    refine g_call 11 [(.inl v5)] (show op 71 8 = some (.invokestatic 16, 3) by decide +kernel) (call_st' (k' := 0) (n' := 0) (nj := 1) (j := 66) (t := []) (as := [(.inl x1)]) (by decide +kernel) rfl (by decide +kernel) rfl rfl rfl rfl rfl) hD6 rfl ?_
    by_cases hc32 : v5 = 0
    · rw [if_pos hc32] at h
      refine g_ifT 26 (show op 71 11 = some (.ifCond .eq 15, 3) by decide +kernel) rfl (decide_eq_true hc32) ?_
      refine g_iload_n 27 (show op 71 26 = some (.iload_n 0, 1) by decide +kernel) rfl rfl ?_
      obtain ⟨v8, s7, hD9, h⟩ := h
      refine g_call 30 [(.inl v8)] (show op 71 27 = some (.invokestatic 19, 3) by decide +kernel) (call_st' (k' := 0) (n' := 0) (nj := 1) (j := 70) (t := []) (as := [(.inl x0)]) (by decide +kernel) rfl (by decide +kernel) rfl rfl rfl rfl rfl) hD9 rfl ?_
      obtain ⟨v11, s10, hD12, h⟩ := h
      refine g_call 33 [(.inl v11)] (show op 71 30 = some (.invokestatic 23, 3) by decide +kernel) (call_st' (k' := 0) (n' := 0) (nj := 1) (j := 72) (t := []) (as := [(.inl v8)]) (by decide +kernel) rfl (by decide +kernel) rfl rfl rfl rfl rfl) hD12 rfl ?_
      refine g_iload_n 34 (show op 71 33 = some (.iload_n 1, 1) by decide +kernel) rfl rfl ?_
      obtain ⟨v14, s13, hD15, h⟩ := h
      refine g_call 37 [(.inl v14), (.inl v11)] (show op 71 34 = some (.invokestatic 19, 3) by decide +kernel) (call_st' (k' := 0) (n' := 0) (nj := 1) (j := 70) (t := [(.inl v11)]) (as := [(.inl x1)]) (by decide +kernel) rfl (by decide +kernel) rfl rfl rfl rfl rfl) hD15 rfl ?_
      obtain ⟨v17, s16, hD18, h⟩ := h
      refine g_call 40 [(.inl v17), (.inl v11)] (show op 71 37 = some (.invokestatic 23, 3) by decide +kernel) (call_st' (k' := 0) (n' := 0) (nj := 1) (j := 72) (t := [(.inl v11)]) (as := [(.inl v14)]) (by decide +kernel) rfl (by decide +kernel) rfl rfl rfl rfl rfl) hD18 rfl ?_
      obtain ⟨g19, h⟩ := h
      refine g_iadd 41 (show op 71 40 = some (.iadd, 1) by decide +kernel) rfl g19 ?_
      refine g_istore_n 42 [(some (.inl x0)), (some (.inl x1)), (some (.inl (v11 + v17)))] (show op 71 41 = some (.istore_n 2, 1) by decide +kernel) rfl rfl rfl ?_
      refine g_iload_n 43 (show op 71 42 = some (.iload_n 2, 1) by decide +kernel) rfl rfl ?_
      by_cases hc33 : (v11 + v17) = 0
      · rw [if_pos hc33] at h
        refine g_ifF 46 51 (show op 71 43 = some (.ifCond .ne 8, 3) by decide +kernel) rfl rfl (decide_eq_false (fun h9 => h9 hc33)) ?_
        refine g_bipush 48 (show op 71 46 = some (.bipush 100, 2) by decide +kernel) rfl (by decide) ?_
        refine g_goto 68 (show op 71 48 = some (.goto 20, 3) by decide +kernel) rfl ?_
        exact (g_iret (show op 71 68 = some (.ireturn, 1) by decide +kernel) (by decide +kernel) h)
      · rw [if_neg hc33] at h
        refine g_ifT 51 (show op 71 43 = some (.ifCond .ne 8, 3) by decide +kernel) rfl (decide_eq_true hc33) ?_
        refine g_sipush 54 (show op 71 51 = some (.sipush 200, 3) by decide +kernel) rfl (by decide) ?_
        refine g_iload_n 55 (show op 71 54 = some (.iload_n 0, 1) by decide +kernel) rfl rfl ?_
        obtain ⟨v21, s20, hD22, h⟩ := h
        refine g_call 58 [(.inl v21), (.inl 200)] (show op 71 55 = some (.invokestatic 19, 3) by decide +kernel) (call_st' (k' := 0) (n' := 0) (nj := 1) (j := 70) (t := [(.inl 200)]) (as := [(.inl x0)]) (by decide +kernel) rfl (by decide +kernel) rfl rfl rfl rfl rfl) hD22 rfl ?_
        refine g_iload_n 59 (show op 71 58 = some (.iload_n 1, 1) by decide +kernel) rfl rfl ?_
        obtain ⟨v24, s23, hD25, h⟩ := h
        refine g_call 62 [(.inl v24), (.inl v21), (.inl 200)] (show op 71 59 = some (.invokestatic 19, 3) by decide +kernel) (call_st' (k' := 0) (n' := 0) (nj := 1) (j := 70) (t := [(.inl v21), (.inl 200)]) (as := [(.inl x1)]) (by decide +kernel) rfl (by decide +kernel) rfl rfl rfl rfl rfl) hD25 rfl ?_
        obtain ⟨v27, s26, hD28, h⟩ := h
        refine g_call 65 [(.inl v27), (.inl 200)] (show op 71 62 = some (.invokestatic 26, 3) by decide +kernel) (call_st' (k' := 0) (n' := 0) (nj := 2) (j := 73) (t := [(.inl 200)]) (as := [(.inl v21), (.inl v24)]) (by decide +kernel) rfl (by decide +kernel) rfl rfl rfl rfl rfl) hD28 rfl ?_
        obtain ⟨g29, h⟩ := h
        refine g_imul 66 (show op 71 65 = some (.imul, 1) by decide +kernel) rfl g29 ?_
        refine g_iload_n 67 (show op 71 66 = some (.iload_n 2, 1) by decide +kernel) rfl rfl ?_
        obtain ⟨g30, h⟩ := h
        refine g_idiv 68 (show op 71 67 = some (.idiv, 1) by decide +kernel) rfl g30 ?_
        exact (g_iret (show op 71 68 = some (.ireturn, 1) by decide +kernel) (by decide +kernel) h)
    · rw [if_neg hc32] at h
      refine g_ifF 14 26 (show op 71 11 = some (.ifCond .eq 15, 3) by decide +kernel) rfl rfl (decide_eq_false hc32) ?_
      exact h
  · rw [if_neg hc31] at h
    refine g_ifT 14 (show op 71 4 = some (.ifCond .ne 10, 3) by decide +kernel) rfl (decide_eq_true hc31) ?_
    exact h
def C72_6 (d0 : Option AV) (x1 : Int) (x2 : Int) (x3 : Int) (σ : Sg) (o : Rs) : Prop := Gd 72 6 [d0, (some (.inl x1)), (some (.inl x2)), (some (.inl x3))] [] σ 0 0 o
theorem b72_6 {d0 : Option AV} {x1 : Int} {x2 : Int} {x3 : Int} {σ : Sg} {o : Rs}   (h : (if x3 < 4 then (if 0 < x2 then (-2147483648 ≤ (x1 + 1) ∧ (x1 + 1) ≤ 2147483647) ∧ (-2147483648 ≤ (x3 + 1) ∧ (x3 + 1) ≤ 2147483647) ∧ C72_6 d0 (x1 + 1) (Int.tdiv x2 10) (x3 + 1) σ o else o = (.inl (some (.inl x1)), σ)) else o = (.inl (some (.inl x1)), σ))) : C72_6 d0 x1 x2 x3 σ o := by
  show Gd 72 6 [d0, (some (.inl x1)), (some (.inl x2)), (some (.inl x3))] [] σ 0 0 o
  refine g_iload_n 7 (show op 72 6 = some (.iload_n 3, 1) by decide +kernel) rfl rfl ?_
  refine g_iconst 8 (show op 72 7 = some (.iconst 4, 1) by decide +kernel) rfl rfl ?_
  by_cases hc3 : x3 < 4
  · rw [if_pos hc3] at h
    refine g_icmpF 11 29 (show op 72 8 = some (.if_icmp .ge 21, 3) by decide +kernel) rfl rfl (decide_eq_false (Int.not_le.mpr hc3)) ?_
    refine g_iload_n 12 (show op 72 11 = some (.iload_n 2, 1) by decide +kernel) rfl rfl ?_
    by_cases hc4 : 0 < x2
    · rw [if_pos hc4] at h
      refine g_ifF 15 29 (show op 72 12 = some (.ifCond .le 17, 3) by decide +kernel) rfl rfl (decide_eq_false (Int.not_le.mpr hc4)) ?_
      obtain ⟨g1, h⟩ := h
      refine g_iinc 18 [d0, (some (.inl (x1 + 1))), (some (.inl x2)), (some (.inl x3))] (show op 72 15 = some (.iinc 1 1, 3) by decide +kernel) rfl rfl g1 rfl ?_
      refine g_iload_n 19 (show op 72 18 = some (.iload_n 2, 1) by decide +kernel) rfl rfl ?_
      refine g_bipush 21 (show op 72 19 = some (.bipush 10, 2) by decide +kernel) rfl (by decide) ?_
      refine g_idiv 22 (show op 72 21 = some (.idiv, 1) by decide +kernel) rfl (by decide) ?_
      refine g_istore_n 23 [d0, (some (.inl (x1 + 1))), (some (.inl (Int.tdiv x2 10))), (some (.inl x3))] (show op 72 22 = some (.istore_n 2, 1) by decide +kernel) rfl rfl rfl ?_
      obtain ⟨g2, h⟩ := h
      refine g_iinc 26 [d0, (some (.inl (x1 + 1))), (some (.inl (Int.tdiv x2 10))), (some (.inl (x3 + 1)))] (show op 72 23 = some (.iinc 3 1, 3) by decide +kernel) rfl rfl g2 rfl ?_
      refine g_goto 6 (show op 72 26 = some (.goto (-20), 3) by decide +kernel) rfl ?_
      exact h
    · rw [if_neg hc4] at h
      refine g_ifT 29 (show op 72 12 = some (.ifCond .le 17, 3) by decide +kernel) rfl (decide_eq_true (Int.not_lt.mp hc4)) ?_
      refine g_iload_n 30 (show op 72 29 = some (.iload_n 1, 1) by decide +kernel) rfl rfl ?_
      exact (g_iret (show op 72 30 = some (.ireturn, 1) by decide +kernel) (by decide +kernel) h)
  · rw [if_neg hc3] at h
    refine g_icmpT 29 (show op 72 8 = some (.if_icmp .ge 21, 3) by decide +kernel) rfl (decide_eq_true (Int.not_lt.mp hc3)) ?_
    refine g_iload_n 30 (show op 72 29 = some (.iload_n 1, 1) by decide +kernel) rfl rfl ?_
    exact (g_iret (show op 72 30 = some (.ireturn, 1) by decide +kernel) (by decide +kernel) h)
/-- PatchBench$Lines.countWords (I)I -/
theorem b72 {x0 : Int} {σ : Sg} {o : Rs}   (h : C72_6 (some (.inl x0)) 0 x0 0 σ o) : Dd 72 [(.inl x0)] σ o := by
  refine Dd_of (l := 4) (by decide +kernel) ?_
  show Gd 72 0 [(some (.inl x0)), none, none, none] [] σ 0 0 o
  refine g_iconst 1 (show op 72 0 = some (.iconst 0, 1) by decide +kernel) rfl rfl ?_
  refine g_istore_n 2 [(some (.inl x0)), (some (.inl 0)), none, none] (show op 72 1 = some (.istore_n 1, 1) by decide +kernel) rfl rfl rfl ?_
  refine g_iload_n 3 (show op 72 2 = some (.iload_n 0, 1) by decide +kernel) rfl rfl ?_
  refine g_istore_n 4 [(some (.inl x0)), (some (.inl 0)), (some (.inl x0)), none] (show op 72 3 = some (.istore_n 2, 1) by decide +kernel) rfl rfl rfl ?_
  refine g_iconst 5 (show op 72 4 = some (.iconst 0, 1) by decide +kernel) rfl rfl ?_
  refine g_istore_n 6 [(some (.inl x0)), (some (.inl 0)), (some (.inl x0)), (some (.inl 0))] (show op 72 5 = some (.istore_n 3, 1) by decide +kernel) rfl rfl rfl ?_
  exact h
def C73_17 (x0 : Int) (d1 : Option AV) (x2 : Int) (x3 : Int) (x4 : Int) (x5 : Int) (d6 : Option AV) (σ : Sg) (o : Rs) : Prop := Gd 73 17 [(some (.inl x0)), d1, (some (.inl x2)), (some (.inl x3)), (some (.inl x4)), (some (.inl x5)), d6] [] σ 0 0 o
def C73_64 (d0 : Option AV) (d1 : Option AV) (x2 : Int) (x3 : Int) (d4 : Option AV) (d5 : Option AV) (d6 : Option AV) (σ : Sg) (o : Rs) : Prop := Gd 73 64 [d0, d1, (some (.inl x2)), (some (.inl x3)), d4, d5, d6] [] σ 0 0 o
theorem b73_17 {x0 : Int} {d1 : Option AV} {x2 : Int} {x3 : Int} {x4 : Int} {x5 : Int} {d6 : Option AV} {σ : Sg} {o : Rs}   (h : (if x5 < 4 then (if 0 < x4 then (∃ (v2 : Int) (s1 : Sg), Dd 74 [(.inl (Int.tmod x4 10)), (.inl x0)] σ (.inl (some (.inl v2)), s1) ∧ (-2147483648 ≤ (x3 + (iAnd x3 v2)) ∧ (x3 + (iAnd x3 v2)) ≤ 2147483647) ∧ (-2147483648 ≤ (x3 - (iAnd x3 v2)) ∧ (x3 - (iAnd x3 v2)) ≤ 2147483647) ∧ (-2147483648 ≤ (x5 + 1) ∧ (x5 + 1) ≤ 2147483647) ∧ C73_17 x0 d1 x2 (iOr (x3 + (iAnd x3 v2)) (x3 - (iAnd x3 v2))) (Int.tdiv x4 10) (x5 + 1) (some (.inl (iAnd x3 v2))) s1 o) else C73_64 (some (.inl x0)) d1 x2 x3 (some (.inl x4)) (some (.inl x5)) d6 σ o) else C73_64 (some (.inl x0)) d1 x2 x3 (some (.inl x4)) (some (.inl x5)) d6 σ o)) : C73_17 x0 d1 x2 x3 x4 x5 d6 σ o := by
  show Gd 73 17 [(some (.inl x0)), d1, (some (.inl x2)), (some (.inl x3)), (some (.inl x4)), (some (.inl x5)), d6] [] σ 0 0 o
  refine g_iload 19 (show op 73 17 = some (.iload 5, 2) by decide +kernel) rfl rfl ?_
  refine g_iconst 20 (show op 73 19 = some (.iconst 4, 1) by decide +kernel) rfl rfl ?_
  by_cases hc7 : x5 < 4
  · rw [if_pos hc7] at h
    refine g_icmpF 23 64 (show op 73 20 = some (.if_icmp .ge 44, 3) by decide +kernel) rfl rfl (decide_eq_false (Int.not_le.mpr hc7)) ?_
    refine g_iload 25 (show op 73 23 = some (.iload 4, 2) by decide +kernel) rfl rfl ?_
    by_cases hc8 : 0 < x4
    · rw [if_pos hc8] at h
      refine g_ifF 28 64 (show op 73 25 = some (.ifCond .le 39, 3) by decide +kernel) rfl rfl (decide_eq_false (Int.not_le.mpr hc8)) ?_
      refine g_iload_n 29 (show op 73 28 = some (.iload_n 3, 1) by decide +kernel) rfl rfl ?_
      refine g_iload 31 (show op 73 29 = some (.iload 4, 2) by decide +kernel) rfl rfl ?_
      refine g_bipush 33 (show op 73 31 = some (.bipush 10, 2) by decide +kernel) rfl (by decide) ?_
      refine g_irem 34 (show op 73 33 = some (.irem, 1) by decide +kernel) rfl (by decide) ?_
      refine g_iload_n 35 (show op 73 34 = some (.iload_n 0, 1) by decide +kernel) rfl rfl ?_
      obtain ⟨v2, s1, hD3, h⟩ := h
      refine g_call 38 [(.inl v2), (.inl x3)] (show op 73 35 = some (.invokestatic 30, 3) by decide +kernel) (call_st' (k' := 0) (n' := 0) (nj := 2) (j := 74) (t := [(.inl x3)]) (as := [(.inl (Int.tmod x4 10)), (.inl x0)]) (by decide +kernel) rfl (by decide +kernel) rfl rfl rfl rfl rfl) hD3 rfl ?_
      refine g_iand 39 (show op 73 38 = some (.iand, 1) by decide +kernel) rfl ?_
      refine g_istore 41 [(some (.inl x0)), d1, (some (.inl x2)), (some (.inl x3)), (some (.inl x4)), (some (.inl x5)), (some (.inl (iAnd x3 v2)))] (show op 73 39 = some (.istore 6, 2) by decide +kernel) rfl rfl rfl ?_
      refine g_iload_n 42 (show op 73 41 = some (.iload_n 3, 1) by decide +kernel) rfl rfl ?_
      refine g_iload 44 (show op 73 42 = some (.iload 6, 2) by decide +kernel) rfl rfl ?_
      obtain ⟨g4, h⟩ := h
      refine g_iadd 45 (show op 73 44 = some (.iadd, 1) by decide +kernel) rfl g4 ?_
      refine g_iload_n 46 (show op 73 45 = some (.iload_n 3, 1) by decide +kernel) rfl rfl ?_
      refine g_iload 48 (show op 73 46 = some (.iload 6, 2) by decide +kernel) rfl rfl ?_
      obtain ⟨g5, h⟩ := h
      refine g_isub 49 (show op 73 48 = some (.isub, 1) by decide +kernel) rfl g5 ?_
      refine g_ior 50 (show op 73 49 = some (.ior, 1) by decide +kernel) rfl ?_
      refine g_istore_n 51 [(some (.inl x0)), d1, (some (.inl x2)), (some (.inl (iOr (x3 + (iAnd x3 v2)) (x3 - (iAnd x3 v2))))), (some (.inl x4)), (some (.inl x5)), (some (.inl (iAnd x3 v2)))] (show op 73 50 = some (.istore_n 3, 1) by decide +kernel) rfl rfl rfl ?_
      refine g_iload 53 (show op 73 51 = some (.iload 4, 2) by decide +kernel) rfl rfl ?_
      refine g_bipush 55 (show op 73 53 = some (.bipush 10, 2) by decide +kernel) rfl (by decide) ?_
      refine g_idiv 56 (show op 73 55 = some (.idiv, 1) by decide +kernel) rfl (by decide) ?_
      refine g_istore 58 [(some (.inl x0)), d1, (some (.inl x2)), (some (.inl (iOr (x3 + (iAnd x3 v2)) (x3 - (iAnd x3 v2))))), (some (.inl (Int.tdiv x4 10))), (some (.inl x5)), (some (.inl (iAnd x3 v2)))] (show op 73 56 = some (.istore 4, 2) by decide +kernel) rfl rfl rfl ?_
      obtain ⟨g6, h⟩ := h
      refine g_iinc 61 [(some (.inl x0)), d1, (some (.inl x2)), (some (.inl (iOr (x3 + (iAnd x3 v2)) (x3 - (iAnd x3 v2))))), (some (.inl (Int.tdiv x4 10))), (some (.inl (x5 + 1))), (some (.inl (iAnd x3 v2)))] (show op 73 58 = some (.iinc 5 1, 3) by decide +kernel) rfl rfl g6 rfl ?_
      refine g_goto 17 (show op 73 61 = some (.goto (-44), 3) by decide +kernel) rfl ?_
      exact h
    · rw [if_neg hc8] at h
      refine g_ifT 64 (show op 73 25 = some (.ifCond .le 39, 3) by decide +kernel) rfl (decide_eq_true (Int.not_lt.mp hc8)) ?_
      exact h
  · rw [if_neg hc7] at h
    refine g_icmpT 64 (show op 73 20 = some (.if_icmp .ge 44, 3) by decide +kernel) rfl (decide_eq_true (Int.not_lt.mp hc7)) ?_
    exact h
theorem b73_64 {d0 : Option AV} {d1 : Option AV} {x2 : Int} {x3 : Int} {d4 : Option AV} {d5 : Option AV} {d6 : Option AV} {σ : Sg} {o : Rs}   (h : (∃ (v2 : Int) (s1 : Sg), Dd 443 [(.inl (iAnd x2 (iXor x3 (-1))))] σ (.inl (some (.inl v2)), s1) ∧ o = (.inl (some (.inl v2)), s1))) : C73_64 d0 d1 x2 x3 d4 d5 d6 σ o := by
  show Gd 73 64 [d0, d1, (some (.inl x2)), (some (.inl x3)), d4, d5, d6] [] σ 0 0 o
  refine g_iload_n 65 (show op 73 64 = some (.iload_n 2, 1) by decide +kernel) rfl rfl ?_
  refine g_iload_n 66 (show op 73 65 = some (.iload_n 3, 1) by decide +kernel) rfl rfl ?_
  refine g_iconst 67 (show op 73 66 = some (.iconst (-1), 1) by decide +kernel) rfl rfl ?_
  refine g_ixor 68 (show op 73 67 = some (.ixor, 1) by decide +kernel) rfl ?_
  refine g_iand 69 (show op 73 68 = some (.iand, 1) by decide +kernel) rfl ?_
  obtain ⟨v2, s1, hD3, h⟩ := h
  refine g_call 72 [(.inl v2)] (show op 73 69 = some (.invokestatic 33, 3) by decide +kernel) (call_st' (k' := 0) (n' := 0) (nj := 1) (j := 443) (t := []) (as := [(.inl (iAnd x2 (iXor x3 (-1))))]) (by decide +kernel) rfl (by decide +kernel) rfl rfl rfl rfl rfl) hD3 rfl ?_
  exact (g_iret (show op 73 72 = some (.ireturn, 1) by decide +kernel) (by decide +kernel) h)
/-- PatchBench$Lines.commonWords (II)I -/
theorem b73 {x0 : Int} {x1 : Int} {σ : Sg} {o : Rs}   (h : (∃ (v2 : Int) (s1 : Sg), Dd 72 [(.inl x0)] σ (.inl (some (.inl v2)), s1) ∧ (-2147483648 ≤ ((iShl 1 v2) - 1) ∧ ((iShl 1 v2) - 1) ≤ 2147483647) ∧ C73_17 x0 (some (.inl x1)) ((iShl 1 v2) - 1) ((iShl 1 v2) - 1) x1 0 none s1 o)) : Dd 73 [(.inl x0), (.inl x1)] σ o := by
  refine Dd_of (l := 7) (by decide +kernel) ?_
  show Gd 73 0 [(some (.inl x0)), (some (.inl x1)), none, none, none, none, none] [] σ 0 0 o
  refine g_iconst 1 (show op 73 0 = some (.iconst 1, 1) by decide +kernel) rfl rfl ?_
  refine g_iload_n 2 (show op 73 1 = some (.iload_n 0, 1) by decide +kernel) rfl rfl ?_
  obtain ⟨v2, s1, hD3, h⟩ := h
  refine g_call 5 [(.inl v2), (.inl 1)] (show op 73 2 = some (.invokestatic 23, 3) by decide +kernel) (call_st' (k' := 0) (n' := 0) (nj := 1) (j := 72) (t := [(.inl 1)]) (as := [(.inl x0)]) (by decide +kernel) rfl (by decide +kernel) rfl rfl rfl rfl rfl) hD3 rfl ?_
  refine g_ishl 6 (show op 73 5 = some (.ishl, 1) by decide +kernel) rfl ?_
  refine g_iconst 7 (show op 73 6 = some (.iconst 1, 1) by decide +kernel) rfl rfl ?_
  obtain ⟨g4, h⟩ := h
  refine g_isub 8 (show op 73 7 = some (.isub, 1) by decide +kernel) rfl g4 ?_
  refine g_istore_n 9 [(some (.inl x0)), (some (.inl x1)), (some (.inl ((iShl 1 v2) - 1))), none, none, none, none] (show op 73 8 = some (.istore_n 2, 1) by decide +kernel) rfl rfl rfl ?_
  refine g_iload_n 10 (show op 73 9 = some (.iload_n 2, 1) by decide +kernel) rfl rfl ?_
  refine g_istore_n 11 [(some (.inl x0)), (some (.inl x1)), (some (.inl ((iShl 1 v2) - 1))), (some (.inl ((iShl 1 v2) - 1))), none, none, none] (show op 73 10 = some (.istore_n 3, 1) by decide +kernel) rfl rfl rfl ?_
  refine g_iload_n 12 (show op 73 11 = some (.iload_n 1, 1) by decide +kernel) rfl rfl ?_
  refine g_istore 14 [(some (.inl x0)), (some (.inl x1)), (some (.inl ((iShl 1 v2) - 1))), (some (.inl ((iShl 1 v2) - 1))), (some (.inl x1)), none, none] (show op 73 12 = some (.istore 4, 2) by decide +kernel) rfl rfl rfl ?_
  refine g_iconst 15 (show op 73 14 = some (.iconst 0, 1) by decide +kernel) rfl rfl ?_
  refine g_istore 17 [(some (.inl x0)), (some (.inl x1)), (some (.inl ((iShl 1 v2) - 1))), (some (.inl ((iShl 1 v2) - 1))), (some (.inl x1)), (some (.inl 0)), none] (show op 73 15 = some (.istore 5, 2) by decide +kernel) rfl rfl rfl ?_
  exact h
def C74_7 (x0 : Int) (d1 : Option AV) (x2 : Int) (x3 : Int) (x4 : Int) (σ : Sg) (o : Rs) : Prop := Gd 74 7 [(some (.inl x0)), d1, (some (.inl x2)), (some (.inl x3)), (some (.inl x4))] [] σ 0 0 o
def C74_32 (x0 : Int) (d1 : Option AV) (x2 : Int) (x3 : Int) (x4 : Int) (σ : Sg) (o : Rs) : Prop := Gd 74 32 [(some (.inl x0)), d1, (some (.inl x2)), (some (.inl x3)), (some (.inl x4))] [] σ 0 0 o
theorem b74_7 {x0 : Int} {d1 : Option AV} {x2 : Int} {x3 : Int} {x4 : Int} {σ : Sg} {o : Rs}   (h : (if x4 < 4 then (if 0 < x3 then C74_32 x0 d1 (if (Int.tmod x3 10) = x0 then (iOr x2 (iShl 1 x4)) else x2) x3 x4 σ o else o = (.inl (some (.inl x2)), σ)) else o = (.inl (some (.inl x2)), σ))) : C74_7 x0 d1 x2 x3 x4 σ o := by
  show Gd 74 7 [(some (.inl x0)), d1, (some (.inl x2)), (some (.inl x3)), (some (.inl x4))] [] σ 0 0 o
  refine g_iload 9 (show op 74 7 = some (.iload 4, 2) by decide +kernel) rfl rfl ?_
  refine g_iconst 10 (show op 74 9 = some (.iconst 4, 1) by decide +kernel) rfl rfl ?_
  by_cases hc1 : x4 < 4
  · rw [if_pos hc1] at h
    refine g_icmpF 13 43 (show op 74 10 = some (.if_icmp .ge 33, 3) by decide +kernel) rfl rfl (decide_eq_false (Int.not_le.mpr hc1)) ?_
    refine g_iload_n 14 (show op 74 13 = some (.iload_n 3, 1) by decide +kernel) rfl rfl ?_
    by_cases hc2 : 0 < x3
    · rw [if_pos hc2] at h
      refine g_ifF 17 43 (show op 74 14 = some (.ifCond .le 29, 3) by decide +kernel) rfl rfl (decide_eq_false (Int.not_le.mpr hc2)) ?_
      refine g_iload_n 18 (show op 74 17 = some (.iload_n 3, 1) by decide +kernel) rfl rfl ?_
      refine g_bipush 20 (show op 74 18 = some (.bipush 10, 2) by decide +kernel) rfl (by decide) ?_
      refine g_irem 21 (show op 74 20 = some (.irem, 1) by decide +kernel) rfl (by decide) ?_
      refine g_iload_n 22 (show op 74 21 = some (.iload_n 0, 1) by decide +kernel) rfl rfl ?_
      by_cases hc3 : (Int.tmod x3 10) = x0
      · refine g_icmpF 25 32 (show op 74 22 = some (.if_icmp .ne 10, 3) by decide +kernel) rfl rfl (decide_eq_false (fun h9 => h9 hc3)) ?_
        refine g_iload_n 26 (show op 74 25 = some (.iload_n 2, 1) by decide +kernel) rfl rfl ?_
        refine g_iconst 27 (show op 74 26 = some (.iconst 1, 1) by decide +kernel) rfl rfl ?_
        refine g_iload 29 (show op 74 27 = some (.iload 4, 2) by decide +kernel) rfl rfl ?_
        refine g_ishl 30 (show op 74 29 = some (.ishl, 1) by decide +kernel) rfl ?_
        refine g_ior 31 (show op 74 30 = some (.ior, 1) by decide +kernel) rfl ?_
        refine g_istore_n 32 [(some (.inl x0)), d1, (some (.inl (iOr x2 (iShl 1 x4)))), (some (.inl x3)), (some (.inl x4))] (show op 74 31 = some (.istore_n 2, 1) by decide +kernel) rfl rfl rfl ?_
        have h9 := h; simp only [if_pos hc3] at h9; exact h9
      · refine g_icmpT 32 (show op 74 22 = some (.if_icmp .ne 10, 3) by decide +kernel) rfl (decide_eq_true hc3) ?_
        have h9 := h; simp only [if_neg hc3] at h9; exact h9
    · rw [if_neg hc2] at h
      refine g_ifT 43 (show op 74 14 = some (.ifCond .le 29, 3) by decide +kernel) rfl (decide_eq_true (Int.not_lt.mp hc2)) ?_
      refine g_iload_n 44 (show op 74 43 = some (.iload_n 2, 1) by decide +kernel) rfl rfl ?_
      exact (g_iret (show op 74 44 = some (.ireturn, 1) by decide +kernel) (by decide +kernel) h)
  · rw [if_neg hc1] at h
    refine g_icmpT 43 (show op 74 10 = some (.if_icmp .ge 33, 3) by decide +kernel) rfl (decide_eq_true (Int.not_lt.mp hc1)) ?_
    refine g_iload_n 44 (show op 74 43 = some (.iload_n 2, 1) by decide +kernel) rfl rfl ?_
    exact (g_iret (show op 74 44 = some (.ireturn, 1) by decide +kernel) (by decide +kernel) h)
theorem b74_32 {x0 : Int} {d1 : Option AV} {x2 : Int} {x3 : Int} {x4 : Int} {σ : Sg} {o : Rs}   (h : (-2147483648 ≤ (x4 + 1) ∧ (x4 + 1) ≤ 2147483647) ∧ C74_7 x0 d1 x2 (Int.tdiv x3 10) (x4 + 1) σ o) : C74_32 x0 d1 x2 x3 x4 σ o := by
  show Gd 74 32 [(some (.inl x0)), d1, (some (.inl x2)), (some (.inl x3)), (some (.inl x4))] [] σ 0 0 o
  refine g_iload_n 33 (show op 74 32 = some (.iload_n 3, 1) by decide +kernel) rfl rfl ?_
  refine g_bipush 35 (show op 74 33 = some (.bipush 10, 2) by decide +kernel) rfl (by decide) ?_
  refine g_idiv 36 (show op 74 35 = some (.idiv, 1) by decide +kernel) rfl (by decide) ?_
  refine g_istore_n 37 [(some (.inl x0)), d1, (some (.inl x2)), (some (.inl (Int.tdiv x3 10))), (some (.inl x4))] (show op 74 36 = some (.istore_n 3, 1) by decide +kernel) rfl rfl rfl ?_
  obtain ⟨g1, h⟩ := h
  refine g_iinc 40 [(some (.inl x0)), d1, (some (.inl x2)), (some (.inl (Int.tdiv x3 10))), (some (.inl (x4 + 1)))] (show op 74 37 = some (.iinc 4 1, 3) by decide +kernel) rfl rfl g1 rfl ?_
  refine g_goto 7 (show op 74 40 = some (.goto (-33), 3) by decide +kernel) rfl ?_
  exact h
/-- PatchBench$Lines.placesOf (II)I -/
theorem b74 {x0 : Int} {x1 : Int} {σ : Sg} {o : Rs}   (h : C74_7 x0 (some (.inl x1)) 0 x1 0 σ o) : Dd 74 [(.inl x0), (.inl x1)] σ o := by
  refine Dd_of (l := 5) (by decide +kernel) ?_
  show Gd 74 0 [(some (.inl x0)), (some (.inl x1)), none, none, none] [] σ 0 0 o
  refine g_iconst 1 (show op 74 0 = some (.iconst 0, 1) by decide +kernel) rfl rfl ?_
  refine g_istore_n 2 [(some (.inl x0)), (some (.inl x1)), (some (.inl 0)), none, none] (show op 74 1 = some (.istore_n 2, 1) by decide +kernel) rfl rfl rfl ?_
  refine g_iload_n 3 (show op 74 2 = some (.iload_n 1, 1) by decide +kernel) rfl rfl ?_
  refine g_istore_n 4 [(some (.inl x0)), (some (.inl x1)), (some (.inl 0)), (some (.inl x1)), none] (show op 74 3 = some (.istore_n 3, 1) by decide +kernel) rfl rfl rfl ?_
  refine g_iconst 5 (show op 74 4 = some (.iconst 0, 1) by decide +kernel) rfl rfl ?_
  refine g_istore 7 [(some (.inl x0)), (some (.inl x1)), (some (.inl 0)), (some (.inl x1)), (some (.inl 0))] (show op 74 5 = some (.istore 4, 2) by decide +kernel) rfl rfl rfl ?_
  exact h
end
