noncomputable section
theorem b0_23 {x4 : Int} {d5 : Option AV} {d6 : Option AV} {k : Nat} {n : Nat} {σ : Sg} {o : Rs} (h : (-2147483648 ≤ ((σ (SCR + 1) 0) - 6) ∧ ((σ (SCR + 1) 0) - 6) ≤ 2147483647) ∧ (if x4 ≤ ((σ (SCR + 1) 0) - 6) then (0 ≤ x4 ∧ x4 < σ (SCR + 1) 0) ∧ ((iAnd (σ SCR (x4).toNat) 63) = 0 → C0_276 x4 d5 d6 k n σ o) ∧ ((iAnd (σ SCR (x4).toNat) 63) = 1 → C0_356 x4 d5 d6 k n σ o) ∧ ((iAnd (σ SCR (x4).toNat) 63) = 2 → C0_424 x4 d5 d6 k n σ o) ∧ ((iAnd (σ SCR (x4).toNat) 63) = 3 → C0_492 x4 d5 d6 k n σ o) ∧ ((iAnd (σ SCR (x4).toNat) 63) = 4 → C0_548 x4 d5 d6 k n σ o) ∧ ((iAnd (σ SCR (x4).toNat) 63) = 5 → C0_616 x4 d5 d6 k n σ o) ∧ ((iAnd (σ SCR (x4).toNat) 63) = 6 → C0_684 x4 d5 d6 k n σ o) ∧ ((iAnd (σ SCR (x4).toNat) 63) = 7 → C0_776 x4 d5 d6 k n σ o) ∧ ((iAnd (σ SCR (x4).toNat) 63) = 8 → C0_856 x4 d5 d6 k n σ o) ∧ ((iAnd (σ SCR (x4).toNat) 63) = 9 → C0_924 x4 d5 d6 k n σ o) ∧ ((iAnd (σ SCR (x4).toNat) 63) = 10 → C0_1004 x4 d5 d6 k n σ o) ∧ ((iAnd (σ SCR (x4).toNat) 63) = 11 → C0_1060 x4 d5 d6 k n σ o) ∧ ((iAnd (σ SCR (x4).toNat) 63) = 12 → C0_1128 x4 d5 d6 k n σ o) ∧ ((iAnd (σ SCR (x4).toNat) 63) = 13 → C0_1203 x4 d5 d6 k n σ o) ∧ ((iAnd (σ SCR (x4).toNat) 63) = 14 → C0_1299 x4 d5 d6 k n σ o) ∧ ((iAnd (σ SCR (x4).toNat) 63) = 15 → C0_1419 x4 d5 d6 k n σ o) ∧ ((iAnd (σ SCR (x4).toNat) 63) = 16 → C0_1432 x4 d5 d6 k n σ o) ∧ ((iAnd (σ SCR (x4).toNat) 63) = 17 → C0_1528 x4 d5 d6 k n σ o) ∧ ((iAnd (σ SCR (x4).toNat) 63) = 18 → C0_1596 x4 d5 d6 k n σ o) ∧ ((iAnd (σ SCR (x4).toNat) 63) = 19 → C0_1652 x4 d5 d6 k n σ o) ∧ ((iAnd (σ SCR (x4).toNat) 63) = 20 → C0_1732 x4 d5 d6 k n σ o) ∧ ((iAnd (σ SCR (x4).toNat) 63) = 21 → C0_1800 x4 d5 d6 k n σ o) ∧ ((iAnd (σ SCR (x4).toNat) 63) = 22 → C0_1875 x4 d5 d6 k n σ o) ∧ ((iAnd (σ SCR (x4).toNat) 63) = 23 → C0_1943 x4 d5 d6 k n σ o) ∧ ((iAnd (σ SCR (x4).toNat) 63) = 24 → C0_2023 x4 d5 d6 k n σ o) ∧ ((iAnd (σ SCR (x4).toNat) 63) = 25 → C0_2079 x4 d5 d6 k n σ o) ∧ ((iAnd (σ SCR (x4).toNat) 63) = 26 → C0_2159 x4 d5 d6 k n σ o) ∧ ((iAnd (σ SCR (x4).toNat) 63) = 27 → C0_2215 x4 d5 d6 k n σ o) ∧ ((iAnd (σ SCR (x4).toNat) 63) = 28 → C0_2295 x4 d5 d6 k n σ o) ∧ ((iAnd (σ SCR (x4).toNat) 63) = 29 → C0_2351 x4 d5 d6 k n σ o) ∧ ((iAnd (σ SCR (x4).toNat) 63) = 30 → C0_2407 x4 d5 d6 k n σ o) ∧ ((iAnd (σ SCR (x4).toNat) 63) = 31 → C0_2451 x4 d5 d6 k n σ o) ∧ ((iAnd (σ SCR (x4).toNat) 63) = 32 → C0_2507 x4 d5 d6 k n σ o) ∧ ((iAnd (σ SCR (x4).toNat) 63) = 33 → C0_2563 x4 d5 d6 k n σ o) ∧ ((iAnd (σ SCR (x4).toNat) 63) = 34 → C0_2619 x4 d5 d6 k n σ o) ∧ ((iAnd (σ SCR (x4).toNat) 63) = 35 → C0_2699 x4 d5 d6 k n σ o) ∧ ((iAnd (σ SCR (x4).toNat) 63) = 36 → C0_2767 x4 d5 d6 k n σ o) ∧ ((iAnd (σ SCR (x4).toNat) 63) = 37 → C0_2780 x4 d5 d6 k n σ o) ∧ ((iAnd (σ SCR (x4).toNat) 63) = 38 → C0_2836 x4 d5 d6 k n σ o) ∧ ((iAnd (σ SCR (x4).toNat) 63) = 39 → C0_2892 x4 d5 d6 k n σ o) ∧ ((iAnd (σ SCR (x4).toNat) 63) = 40 → C0_2948 x4 d5 d6 k n σ o) ∧ ((iAnd (σ SCR (x4).toNat) 63) = 41 → C0_2992 x4 d5 d6 k n σ o) ∧ ((iAnd (σ SCR (x4).toNat) 63) = 42 → C0_3048 x4 d5 d6 k n σ o) ∧ ((iAnd (σ SCR (x4).toNat) 63) = 43 → C0_3104 x4 d5 d6 k n σ o) ∧ ((iAnd (σ SCR (x4).toNat) 63) = 44 → C0_3191 x4 d5 d6 k n σ o) ∧ ((iAnd (σ SCR (x4).toNat) 63) = 45 → C0_3259 x4 d5 d6 k n σ o) ∧ ((iAnd (σ SCR (x4).toNat) 63) = 46 → C0_3327 x4 d5 d6 k n σ o) ∧ ((iAnd (σ SCR (x4).toNat) 63) = 47 → C0_3395 x4 d5 d6 k n σ o) ∧ ((iAnd (σ SCR (x4).toNat) 63) = 48 → C0_3463 x4 d5 d6 k n σ o) ∧ ((iAnd (σ SCR (x4).toNat) 63) = 49 → C0_3519 x4 d5 d6 k n σ o) ∧ ((iAnd (σ SCR (x4).toNat) 63) = 50 → C0_3587 x4 d5 d6 k n σ o) ∧ ((iAnd (σ SCR (x4).toNat) 63) = 51 → C0_3655 x4 d5 d6 k n σ o) ∧ ((iAnd (σ SCR (x4).toNat) 63) = 52 → C0_3723 x4 d5 d6 k n σ o) ∧ ((iAnd (σ SCR (x4).toNat) 63) = 53 → C0_3779 x4 d5 d6 k n σ o) ∧ ((iAnd (σ SCR (x4).toNat) 63) = 54 → C0_3847 x4 d5 d6 k n σ o) ∧ ((iAnd (σ SCR (x4).toNat) 63) < 0 ∨ 54 < (iAnd (σ SCR (x4).toNat) 63) → C0_3927 x4 d5 d6 k n σ o) else o = (.inl (some (.inl 1)), σ))) : C0_23 x4 d5 d6 k n σ o := by
  show Gd 0 23 [(some (.inr (.inr (some SCR)))), (some (.inr (.inr (some 0)))), (some (.inr (.inr (some 682)))), (some (.inr (.inr (some 726)))), (some (.inl x4)), d5, d6] [] σ k n o
  refine g_iload 25 (opc_0 (by decide) (by decide +kernel) : op 0 23 = some (.iload 4, 2)) rfl rfl ?_
  refine g_aload_n 26 (opc_0 (by decide) (by decide +kernel) : op 0 25 = some (.aload_n 0, 1)) rfl rfl ?_
  refine g_slen 27 (opc_0 (by decide) (by decide +kernel) : op 0 26 = some (.arraylength, 1)) rfl ?_
  refine g_bipush 29 (opc_0 (by decide) (by decide +kernel) : op 0 27 = some (.bipush 6, 2)) rfl (by decide) ?_
  obtain ⟨g1, h⟩ := h
  refine g_isub 30 (opc_0 (by decide) (by decide +kernel) : op 0 29 = some (.isub, 1)) rfl g1 ?_
  by_cases hc3 : x4 ≤ ((σ (SCR + 1) 0) - 6)
  · rw [if_pos hc3] at h
    refine g_icmpF 33 3933 (opc_0 (by decide) (by decide +kernel) : op 0 30 = some (.if_icmp .gt 3903, 3)) rfl rfl (decide_eq_false (Int.not_lt.mpr hc3)) ?_
    refine g_aload_n 34 (opc_0 (by decide) (by decide +kernel) : op 0 33 = some (.aload_n 0, 1)) rfl rfl ?_
    refine g_iload 36 (opc_0 (by decide) (by decide +kernel) : op 0 34 = some (.iload 4, 2)) rfl rfl ?_
    obtain ⟨g2, h⟩ := h
    refine g_scr 37 (opc_0 (by decide) (by decide +kernel) : op 0 36 = some (.iaload, 1)) rfl g2 ?_
    refine g_bipush 39 (opc_0 (by decide) (by decide +kernel) : op 0 37 = some (.bipush 63, 2)) rfl (by decide) ?_
    refine g_iand 40 (opc_0 (by decide) (by decide +kernel) : op 0 39 = some (.iand, 1)) rfl ?_
    obtain ⟨c0, c1, c2, c3, c4, c5, c6, c7, c8, c9, c10, c11, c12, c13, c14, c15, c16, c17, c18, c19, c20, c21, c22, c23, c24, c25, c26, c27, c28, c29, c30, c31, c32, c33, c34, c35, c36, c37, c38, c39, c40, c41, c42, c43, c44, c45, c46, c47, c48, c49, c50, c51, c52, c53, c54, cD⟩ := h
    have hsw : (iAnd (σ SCR (x4).toNat) 63) = 0 ∨ (iAnd (σ SCR (x4).toNat) 63) = 1 ∨ (iAnd (σ SCR (x4).toNat) 63) = 2 ∨ (iAnd (σ SCR (x4).toNat) 63) = 3 ∨ (iAnd (σ SCR (x4).toNat) 63) = 4 ∨ (iAnd (σ SCR (x4).toNat) 63) = 5 ∨ (iAnd (σ SCR (x4).toNat) 63) = 6 ∨ (iAnd (σ SCR (x4).toNat) 63) = 7 ∨ (iAnd (σ SCR (x4).toNat) 63) = 8 ∨ (iAnd (σ SCR (x4).toNat) 63) = 9 ∨ (iAnd (σ SCR (x4).toNat) 63) = 10 ∨ (iAnd (σ SCR (x4).toNat) 63) = 11 ∨ (iAnd (σ SCR (x4).toNat) 63) = 12 ∨ (iAnd (σ SCR (x4).toNat) 63) = 13 ∨ (iAnd (σ SCR (x4).toNat) 63) = 14 ∨ (iAnd (σ SCR (x4).toNat) 63) = 15 ∨ (iAnd (σ SCR (x4).toNat) 63) = 16 ∨ (iAnd (σ SCR (x4).toNat) 63) = 17 ∨ (iAnd (σ SCR (x4).toNat) 63) = 18 ∨ (iAnd (σ SCR (x4).toNat) 63) = 19 ∨ (iAnd (σ SCR (x4).toNat) 63) = 20 ∨ (iAnd (σ SCR (x4).toNat) 63) = 21 ∨ (iAnd (σ SCR (x4).toNat) 63) = 22 ∨ (iAnd (σ SCR (x4).toNat) 63) = 23 ∨ (iAnd (σ SCR (x4).toNat) 63) = 24 ∨ (iAnd (σ SCR (x4).toNat) 63) = 25 ∨ (iAnd (σ SCR (x4).toNat) 63) = 26 ∨ (iAnd (σ SCR (x4).toNat) 63) = 27 ∨ (iAnd (σ SCR (x4).toNat) 63) = 28 ∨ (iAnd (σ SCR (x4).toNat) 63) = 29 ∨ (iAnd (σ SCR (x4).toNat) 63) = 30 ∨ (iAnd (σ SCR (x4).toNat) 63) = 31 ∨ (iAnd (σ SCR (x4).toNat) 63) = 32 ∨ (iAnd (σ SCR (x4).toNat) 63) = 33 ∨ (iAnd (σ SCR (x4).toNat) 63) = 34 ∨ (iAnd (σ SCR (x4).toNat) 63) = 35 ∨ (iAnd (σ SCR (x4).toNat) 63) = 36 ∨ (iAnd (σ SCR (x4).toNat) 63) = 37 ∨ (iAnd (σ SCR (x4).toNat) 63) = 38 ∨ (iAnd (σ SCR (x4).toNat) 63) = 39 ∨ (iAnd (σ SCR (x4).toNat) 63) = 40 ∨ (iAnd (σ SCR (x4).toNat) 63) = 41 ∨ (iAnd (σ SCR (x4).toNat) 63) = 42 ∨ (iAnd (σ SCR (x4).toNat) 63) = 43 ∨ (iAnd (σ SCR (x4).toNat) 63) = 44 ∨ (iAnd (σ SCR (x4).toNat) 63) = 45 ∨ (iAnd (σ SCR (x4).toNat) 63) = 46 ∨ (iAnd (σ SCR (x4).toNat) 63) = 47 ∨ (iAnd (σ SCR (x4).toNat) 63) = 48 ∨ (iAnd (σ SCR (x4).toNat) 63) = 49 ∨ (iAnd (σ SCR (x4).toNat) 63) = 50 ∨ (iAnd (σ SCR (x4).toNat) 63) = 51 ∨ (iAnd (σ SCR (x4).toNat) 63) = 52 ∨ (iAnd (σ SCR (x4).toNat) 63) = 53 ∨ (iAnd (σ SCR (x4).toNat) 63) = 54 ∨ ((iAnd (σ SCR (x4).toNat) 63) < 0 ∨ 54 < (iAnd (σ SCR (x4).toNat) 63)) := by omega
    rcases hsw with h8 | h8 | h8 | h8 | h8 | h8 | h8 | h8 | h8 | h8 | h8 | h8 | h8 | h8 | h8 | h8 | h8 | h8 | h8 | h8 | h8 | h8 | h8 | h8 | h8 | h8 | h8 | h8 | h8 | h8 | h8 | h8 | h8 | h8 | h8 | h8 | h8 | h8 | h8 | h8 | h8 | h8 | h8 | h8 | h8 | h8 | h8 | h8 | h8 | h8 | h8 | h8 | h8 | h8 | h8 | h8
    · exact g_swI 0 276 op_sw (by decide +kernel) h8 (c0 h8)
    · exact g_swI 1 356 op_sw (by decide +kernel) h8 (c1 h8)
    · exact g_swI 2 424 op_sw (by decide +kernel) h8 (c2 h8)
    · exact g_swI 3 492 op_sw (by decide +kernel) h8 (c3 h8)
    · exact g_swI 4 548 op_sw (by decide +kernel) h8 (c4 h8)
    · exact g_swI 5 616 op_sw (by decide +kernel) h8 (c5 h8)
    · exact g_swI 6 684 op_sw (by decide +kernel) h8 (c6 h8)
    · exact g_swI 7 776 op_sw (by decide +kernel) h8 (c7 h8)
    · exact g_swI 8 856 op_sw (by decide +kernel) h8 (c8 h8)
    · exact g_swI 9 924 op_sw (by decide +kernel) h8 (c9 h8)
    · exact g_swI 10 1004 op_sw (by decide +kernel) h8 (c10 h8)
    · exact g_swI 11 1060 op_sw (by decide +kernel) h8 (c11 h8)
    · exact g_swI 12 1128 op_sw (by decide +kernel) h8 (c12 h8)
    · exact g_swI 13 1203 op_sw (by decide +kernel) h8 (c13 h8)
    · exact g_swI 14 1299 op_sw (by decide +kernel) h8 (c14 h8)
    · exact g_swI 15 1419 op_sw (by decide +kernel) h8 (c15 h8)
    · exact g_swI 16 1432 op_sw (by decide +kernel) h8 (c16 h8)
    · exact g_swI 17 1528 op_sw (by decide +kernel) h8 (c17 h8)
    · exact g_swI 18 1596 op_sw (by decide +kernel) h8 (c18 h8)
    · exact g_swI 19 1652 op_sw (by decide +kernel) h8 (c19 h8)
    · exact g_swI 20 1732 op_sw (by decide +kernel) h8 (c20 h8)
    · exact g_swI 21 1800 op_sw (by decide +kernel) h8 (c21 h8)
    · exact g_swI 22 1875 op_sw (by decide +kernel) h8 (c22 h8)
    · exact g_swI 23 1943 op_sw (by decide +kernel) h8 (c23 h8)
    · exact g_swI 24 2023 op_sw (by decide +kernel) h8 (c24 h8)
    · exact g_swI 25 2079 op_sw (by decide +kernel) h8 (c25 h8)
    · exact g_swI 26 2159 op_sw (by decide +kernel) h8 (c26 h8)
    · exact g_swI 27 2215 op_sw (by decide +kernel) h8 (c27 h8)
    · exact g_swI 28 2295 op_sw (by decide +kernel) h8 (c28 h8)
    · exact g_swI 29 2351 op_sw (by decide +kernel) h8 (c29 h8)
    · exact g_swI 30 2407 op_sw (by decide +kernel) h8 (c30 h8)
    · exact g_swI 31 2451 op_sw (by decide +kernel) h8 (c31 h8)
    · exact g_swI 32 2507 op_sw (by decide +kernel) h8 (c32 h8)
    · exact g_swI 33 2563 op_sw (by decide +kernel) h8 (c33 h8)
    · exact g_swI 34 2619 op_sw (by decide +kernel) h8 (c34 h8)
    · exact g_swI 35 2699 op_sw (by decide +kernel) h8 (c35 h8)
    · exact g_swI 36 2767 op_sw (by decide +kernel) h8 (c36 h8)
    · exact g_swI 37 2780 op_sw (by decide +kernel) h8 (c37 h8)
    · exact g_swI 38 2836 op_sw (by decide +kernel) h8 (c38 h8)
    · exact g_swI 39 2892 op_sw (by decide +kernel) h8 (c39 h8)
    · exact g_swI 40 2948 op_sw (by decide +kernel) h8 (c40 h8)
    · exact g_swI 41 2992 op_sw (by decide +kernel) h8 (c41 h8)
    · exact g_swI 42 3048 op_sw (by decide +kernel) h8 (c42 h8)
    · exact g_swI 43 3104 op_sw (by decide +kernel) h8 (c43 h8)
    · exact g_swI 44 3191 op_sw (by decide +kernel) h8 (c44 h8)
    · exact g_swI 45 3259 op_sw (by decide +kernel) h8 (c45 h8)
    · exact g_swI 46 3327 op_sw (by decide +kernel) h8 (c46 h8)
    · exact g_swI 47 3395 op_sw (by decide +kernel) h8 (c47 h8)
    · exact g_swI 48 3463 op_sw (by decide +kernel) h8 (c48 h8)
    · exact g_swI 49 3519 op_sw (by decide +kernel) h8 (c49 h8)
    · exact g_swI 50 3587 op_sw (by decide +kernel) h8 (c50 h8)
    · exact g_swI 51 3655 op_sw (by decide +kernel) h8 (c51 h8)
    · exact g_swI 52 3723 op_sw (by decide +kernel) h8 (c52 h8)
    · exact g_swI 53 3779 op_sw (by decide +kernel) h8 (c53 h8)
    · exact g_swI 54 3847 op_sw (by decide +kernel) h8 (c54 h8)
    · exact g_swD 3927 op_sw rfl h8 (cD h8)
  · rw [if_neg hc3] at h
    refine g_icmpT 3933 (opc_0 (by decide) (by decide +kernel) : op 0 30 = some (.if_icmp .gt 3903, 3)) rfl (decide_eq_true (Int.not_le.mp hc3)) ?_
    refine g_iconst 3934 (opc_12 (by decide) (by decide +kernel) : op 0 3933 = some (.iconst 1, 1)) rfl rfl ?_
    exact (g_zret (opc_12 (by decide) (by decide +kernel) : op 0 3934 = some (.ireturn, 1)) (by decide +kernel) (by decide) h)
theorem b0_276 {x4 : Int} {d5 : Option AV} {d6 : Option AV} {k : Nat} {n : Nat} {σ : Sg} {o : Rs} (h : (-2147483648 ≤ (x4 + 1) ∧ (x4 + 1) ≤ 2147483647) ∧ (0 ≤ (x4 + 1) ∧ (x4 + 1) < σ (SCR + 1) 0) ∧ (-2147483648 ≤ (x4 + 2) ∧ (x4 + 2) ≤ 2147483647) ∧ (0 ≤ (x4 + 2) ∧ (x4 + 2) < σ (SCR + 1) 0) ∧ (-2147483648 ≤ (x4 + 3) ∧ (x4 + 3) ≤ 2147483647) ∧ (0 ≤ (x4 + 3) ∧ (x4 + 3) < σ (SCR + 1) 0) ∧ ((k + 4) ≤ room_1.cells ∧ (n + 24) ≤ room_1.slots) ∧ (∃ (v8 : Int) (s7 : Sg), Dd 390 [(.inr (.inr (some 0))), (.inl (σ SCR ((x4 + 1)).toNat)), (.inl (σ SCR ((x4 + 2)).toNat)), (.inl (σ SCR ((x4 + 3)).toNat)), (.inr (.inr (some 726)))] σ (.inl (some (.inl v8)), s7) ∧ (-2147483648 ≤ (x4 + 1) ∧ (x4 + 1) ≤ 2147483647) ∧ (0 ≤ (x4 + 1) ∧ (x4 + 1) < s7 (SCR + 1) 0) ∧ (-2147483648 ≤ (x4 + 2) ∧ (x4 + 2) ≤ 2147483647) ∧ (0 ≤ (x4 + 2) ∧ (x4 + 2) < s7 (SCR + 1) 0) ∧ (-2147483648 ≤ (x4 + 3) ∧ (x4 + 3) ≤ 2147483647) ∧ (0 ≤ (x4 + 3) ∧ (x4 + 3) < s7 (SCR + 1) 0) ∧ ((k + 4) ≤ room_1.cells ∧ (n + 24) ≤ room_1.slots) ∧ (∃ (v18 : Int) (s17 : Sg), Dd 256 [(.inr (.inr (some 682))), (.inl (s7 SCR ((x4 + 1)).toNat)), (.inl (s7 SCR ((x4 + 2)).toNat)), (.inl (s7 SCR ((x4 + 3)).toNat))] s7 (.inl (some (.inl v18)), s17) ∧ ((k + 4) ≤ room_1.cells ∧ (n + 24) ≤ room_1.slots) ∧ (∃ (v22 : Int) (s21 : Sg), Dd 244 [(.inr (.inr (some 682)))] s17 (.inl (some (.inl v22)), s21) ∧ (if v22 = v8 then (if v8 = 0 then (if (if v18 < (s21 726 (0 : Int).toNat) then 1 else if (s21 726 (0 : Int).toNat) = v18 then 0 else -1) = 0 then C0_353 x4 (some (.inl v8)) (some (.inl v18)) (k + 4) (n + 24) s21 o else o = (.inl (some (.inl 0)), s21)) else C0_353 x4 (some (.inl v8)) (some (.inl v18)) (k + 4) (n + 24) s21 o) else o = (.inl (some (.inl 0)), s21)))))) : C0_276 x4 d5 d6 k n σ o := by
  show Gd 0 276 [(some (.inr (.inr (some SCR)))), (some (.inr (.inr (some 0)))), (some (.inr (.inr (some 682)))), (some (.inr (.inr (some 726)))), (some (.inl x4)), d5, d6] [] σ k n o
  refine g_aload_n 277 (opc_0 (by decide) (by decide +kernel) : op 0 276 = some (.aload_n 1, 1)) rfl rfl ?_
  refine g_aload_n 278 (opc_0 (by decide) (by decide +kernel) : op 0 277 = some (.aload_n 0, 1)) rfl rfl ?_
  refine g_iload 280 (opc_0 (by decide) (by decide +kernel) : op 0 278 = some (.iload 4, 2)) rfl rfl ?_
  refine g_iconst 281 (opc_0 (by decide) (by decide +kernel) : op 0 280 = some (.iconst 1, 1)) rfl rfl ?_
  obtain ⟨g1, h⟩ := h
  refine g_iadd 282 (opc_0 (by decide) (by decide +kernel) : op 0 281 = some (.iadd, 1)) rfl g1 ?_
  obtain ⟨g2, h⟩ := h
  refine g_scr 283 (opc_0 (by decide) (by decide +kernel) : op 0 282 = some (.iaload, 1)) rfl g2 ?_
  refine g_aload_n 284 (opc_0 (by decide) (by decide +kernel) : op 0 283 = some (.aload_n 0, 1)) rfl rfl ?_
  refine g_iload 286 (opc_0 (by decide) (by decide +kernel) : op 0 284 = some (.iload 4, 2)) rfl rfl ?_
  refine g_iconst 287 (opc_0 (by decide) (by decide +kernel) : op 0 286 = some (.iconst 2, 1)) rfl rfl ?_
  obtain ⟨g3, h⟩ := h
  refine g_iadd 288 (opc_0 (by decide) (by decide +kernel) : op 0 287 = some (.iadd, 1)) rfl g3 ?_
  obtain ⟨g4, h⟩ := h
  refine g_scr 289 (opc_0 (by decide) (by decide +kernel) : op 0 288 = some (.iaload, 1)) rfl g4 ?_
  refine g_aload_n 290 (opc_0 (by decide) (by decide +kernel) : op 0 289 = some (.aload_n 0, 1)) rfl rfl ?_
  refine g_iload 292 (opc_0 (by decide) (by decide +kernel) : op 0 290 = some (.iload 4, 2)) rfl rfl ?_
  refine g_iconst 293 (opc_0 (by decide) (by decide +kernel) : op 0 292 = some (.iconst 3, 1)) rfl rfl ?_
  obtain ⟨g5, h⟩ := h
  refine g_iadd 294 (opc_0 (by decide) (by decide +kernel) : op 0 293 = some (.iadd, 1)) rfl g5 ?_
  obtain ⟨g6, h⟩ := h
  refine g_scr 295 (opc_0 (by decide) (by decide +kernel) : op 0 294 = some (.iaload, 1)) rfl g6 ?_
  refine g_aload_n 296 (opc_0 (by decide) (by decide +kernel) : op 0 295 = some (.aload_n 3, 1)) rfl rfl ?_
  obtain ⟨g10, h⟩ := h
  obtain ⟨v8, s7, hD9, h⟩ := h
  refine g_call 299 [(.inl v8)] (opc_0 (by decide) (by decide +kernel) : op 0 296 = some (.invokestatic 188, 3)) (call_stL (c := 4) (s := 24) (nj := 5) (j := 390) (t := []) (as := [(.inr (.inr (some 0))), (.inl (σ SCR ((x4 + 1)).toNat)), (.inl (σ SCR ((x4 + 2)).toNat)), (.inl (σ SCR ((x4 + 3)).toNat)), (.inr (.inr (some 726)))]) (by decide +kernel) rfl (by decide +kernel) g10 rfl rfl rfl rfl rfl) hD9 rfl ?_
  refine g_istore 301 [(some (.inr (.inr (some SCR)))), (some (.inr (.inr (some 0)))), (some (.inr (.inr (some 682)))), (some (.inr (.inr (some 726)))), (some (.inl x4)), (some (.inl v8)), d6] (opc_0 (by decide) (by decide +kernel) : op 0 299 = some (.istore 5, 2)) rfl rfl rfl ?_
  refine g_aload_n 302 (opc_0 (by decide) (by decide +kernel) : op 0 301 = some (.aload_n 2, 1)) rfl rfl ?_
  refine g_aload_n 303 (opc_0 (by decide) (by decide +kernel) : op 0 302 = some (.aload_n 0, 1)) rfl rfl ?_
  refine g_iload 305 (opc_0 (by decide) (by decide +kernel) : op 0 303 = some (.iload 4, 2)) rfl rfl ?_
  refine g_iconst 306 (opc_0 (by decide) (by decide +kernel) : op 0 305 = some (.iconst 1, 1)) rfl rfl ?_
  obtain ⟨g11, h⟩ := h
  refine g_iadd 307 (opc_0 (by decide) (by decide +kernel) : op 0 306 = some (.iadd, 1)) rfl g11 ?_
  obtain ⟨g12, h⟩ := h
  refine g_scr 308 (opc_0 (by decide) (by decide +kernel) : op 0 307 = some (.iaload, 1)) rfl g12 ?_
  refine g_aload_n 309 (opc_0 (by decide) (by decide +kernel) : op 0 308 = some (.aload_n 0, 1)) rfl rfl ?_
  refine g_iload 311 (opc_0 (by decide) (by decide +kernel) : op 0 309 = some (.iload 4, 2)) rfl rfl ?_
  refine g_iconst 312 (opc_0 (by decide) (by decide +kernel) : op 0 311 = some (.iconst 2, 1)) rfl rfl ?_
  obtain ⟨g13, h⟩ := h
  refine g_iadd 313 (opc_0 (by decide) (by decide +kernel) : op 0 312 = some (.iadd, 1)) rfl g13 ?_
  obtain ⟨g14, h⟩ := h
  refine g_scr 314 (opc_0 (by decide) (by decide +kernel) : op 0 313 = some (.iaload, 1)) rfl g14 ?_
  refine g_aload_n 315 (opc_0 (by decide) (by decide +kernel) : op 0 314 = some (.aload_n 0, 1)) rfl rfl ?_
  refine g_iload 317 (opc_0 (by decide) (by decide +kernel) : op 0 315 = some (.iload 4, 2)) rfl rfl ?_
  refine g_iconst 318 (opc_0 (by decide) (by decide +kernel) : op 0 317 = some (.iconst 3, 1)) rfl rfl ?_
  obtain ⟨g15, h⟩ := h
  refine g_iadd 319 (opc_0 (by decide) (by decide +kernel) : op 0 318 = some (.iadd, 1)) rfl g15 ?_
  obtain ⟨g16, h⟩ := h
  refine g_scr 320 (opc_0 (by decide) (by decide +kernel) : op 0 319 = some (.iaload, 1)) rfl g16 ?_
  obtain ⟨g20, h⟩ := h
  obtain ⟨v18, s17, hD19, h⟩ := h
  refine g_call 323 [(.inl v18)] (opc_0 (by decide) (by decide +kernel) : op 0 320 = some (.invokevirtual 193, 3)) (call_viL (c := 0) (s := 0) (nj := 4) (j := 256) (k9 := 21) (t := []) (as := [(.inr (.inr (some 682))), (.inl (s7 SCR ((x4 + 1)).toNat)), (.inl (s7 SCR ((x4 + 2)).toNat)), (.inl (s7 SCR ((x4 + 3)).toNat))]) (by decide +kernel) rfl (by decide +kernel) g20 rfl rfl rfl rfl rfl rfl (by decide +kernel) (by decide +kernel)) hD19 rfl ?_
  refine g_istore 325 [(some (.inr (.inr (some SCR)))), (some (.inr (.inr (some 0)))), (some (.inr (.inr (some 682)))), (some (.inr (.inr (some 726)))), (some (.inl x4)), (some (.inl v8)), (some (.inl v18))] (opc_0 (by decide) (by decide +kernel) : op 0 323 = some (.istore 6, 2)) rfl rfl rfl ?_
  refine g_aload_n 326 (opc_0 (by decide) (by decide +kernel) : op 0 325 = some (.aload_n 2, 1)) rfl rfl ?_
  obtain ⟨g24, h⟩ := h
  obtain ⟨v22, s21, hD23, h⟩ := h
  refine g_call 329 [(.inl v22)] (opc_0 (by decide) (by decide +kernel) : op 0 326 = some (.invokevirtual 194, 3)) (call_viL (c := 0) (s := 0) (nj := 1) (j := 244) (k9 := 21) (t := []) (as := [(.inr (.inr (some 682)))]) (by decide +kernel) rfl (by decide +kernel) g24 rfl rfl rfl rfl rfl rfl (by decide +kernel) (by decide +kernel)) hD23 rfl ?_
  refine g_iload 331 (opc_0 (by decide) (by decide +kernel) : op 0 329 = some (.iload 5, 2)) rfl rfl ?_
  by_cases hc25 : v22 = v8
  · rw [if_pos hc25] at h
    refine g_icmpT 336 (opc_0 (by decide) (by decide +kernel) : op 0 331 = some (.if_icmp .eq 5, 3)) rfl (decide_eq_true hc25) ?_
    refine g_iload 338 (opc_0 (by decide) (by decide +kernel) : op 0 336 = some (.iload 5, 2)) rfl rfl ?_
    by_cases hc26 : v8 = 0
    · rw [if_pos hc26] at h
      refine g_ifF 341 353 (opc_0 (by decide) (by decide +kernel) : op 0 338 = some (.ifCond .ne 15, 3)) rfl rfl (decide_eq_false (fun h9 => h9 hc26)) ?_
      refine g_aload_n 342 (opc_0 (by decide) (by decide +kernel) : op 0 341 = some (.aload_n 3, 1)) rfl rfl ?_
      refine g_iconst 343 (opc_0 (by decide) (by decide +kernel) : op 0 342 = some (.iconst 0, 1)) rfl rfl ?_
      refine g_laload 344 1 (opc_0 (by decide) (by decide +kernel) : op 0 343 = some (.laload, 1)) rfl (by decide +kernel) (by decide) ?_
      refine g_iload 346 (opc_0 (by decide) (by decide +kernel) : op 0 344 = some (.iload 6, 2)) rfl rfl ?_
      refine g_i2l 347 (opc_0 (by decide) (by decide +kernel) : op 0 346 = some (.i2l, 1)) rfl ?_
      refine g_lcmp 348 (opc_0 (by decide) (by decide +kernel) : op 0 347 = some (.lcmp, 1)) rfl ?_
      by_cases hc27 : (if v18 < (s21 726 (0 : Int).toNat) then 1 else if (s21 726 (0 : Int).toNat) = v18 then 0 else -1) = 0
      · rw [if_pos hc27] at h
        refine g_ifT 353 (opc_0 (by decide) (by decide +kernel) : op 0 348 = some (.ifCond .eq 5, 3)) rfl (decide_eq_true hc27) ?_
        exact h
      · rw [if_neg hc27] at h
        refine g_ifF 351 353 (opc_0 (by decide) (by decide +kernel) : op 0 348 = some (.ifCond .eq 5, 3)) rfl rfl (decide_eq_false hc27) ?_
        refine g_iconst 352 (opc_0 (by decide) (by decide +kernel) : op 0 351 = some (.iconst 0, 1)) rfl rfl ?_
        exact (g_zret (opc_0 (by decide) (by decide +kernel) : op 0 352 = some (.ireturn, 1)) (by decide +kernel) (by decide) h)
    · rw [if_neg hc26] at h
      refine g_ifT 353 (opc_0 (by decide) (by decide +kernel) : op 0 338 = some (.ifCond .ne 15, 3)) rfl (decide_eq_true hc26) ?_
      exact h
  · rw [if_neg hc25] at h
    refine g_icmpF 334 336 (opc_0 (by decide) (by decide +kernel) : op 0 331 = some (.if_icmp .eq 5, 3)) rfl rfl (decide_eq_false hc25) ?_
    refine g_iconst 335 (opc_0 (by decide) (by decide +kernel) : op 0 334 = some (.iconst 0, 1)) rfl rfl ?_
    exact (g_zret (opc_0 (by decide) (by decide +kernel) : op 0 335 = some (.ireturn, 1)) (by decide +kernel) (by decide) h)
theorem b0_356 {x4 : Int} {d5 : Option AV} {d6 : Option AV} {k : Nat} {n : Nat} {σ : Sg} {o : Rs} (h : (-2147483648 ≤ (x4 + 1) ∧ (x4 + 1) ≤ 2147483647) ∧ (0 ≤ (x4 + 1) ∧ (x4 + 1) < σ (SCR + 1) 0) ∧ (-2147483648 ≤ (x4 + 2) ∧ (x4 + 2) ≤ 2147483647) ∧ (0 ≤ (x4 + 2) ∧ (x4 + 2) < σ (SCR + 1) 0) ∧ ((k + 2) ≤ room_1.cells ∧ (n + 12) ≤ room_1.slots) ∧ (∃ (v6 : Int) (s5 : Sg), Dd 391 [(.inr (.inr (some 0))), (.inl (σ SCR ((x4 + 1)).toNat)), (.inl (σ SCR ((x4 + 2)).toNat)), (.inr (.inr (some 726)))] σ (.inl (some (.inl v6)), s5) ∧ (-2147483648 ≤ (x4 + 1) ∧ (x4 + 1) ≤ 2147483647) ∧ (0 ≤ (x4 + 1) ∧ (x4 + 1) < s5 (SCR + 1) 0) ∧ (-2147483648 ≤ (x4 + 2) ∧ (x4 + 2) ≤ 2147483647) ∧ (0 ≤ (x4 + 2) ∧ (x4 + 2) < s5 (SCR + 1) 0) ∧ ((k + 2) ≤ room_1.cells ∧ (n + 12) ≤ room_1.slots) ∧ (∃ (v14 : Int) (s13 : Sg), Dd 258 [(.inr (.inr (some 682))), (.inl (s5 SCR ((x4 + 1)).toNat)), (.inl (s5 SCR ((x4 + 2)).toNat))] s5 (.inl (some (.inl v14)), s13) ∧ ((k + 2) ≤ room_1.cells ∧ (n + 12) ≤ room_1.slots) ∧ (∃ (v18 : Int) (s17 : Sg), Dd 244 [(.inr (.inr (some 682)))] s13 (.inl (some (.inl v18)), s17) ∧ (if v18 = v6 then (if v6 = 0 then (if (if v14 < (s17 726 (0 : Int).toNat) then 1 else if (s17 726 (0 : Int).toNat) = v14 then 0 else -1) = 0 then C0_421 x4 (some (.inl v6)) (some (.inl v14)) (k + 2) (n + 12) s17 o else o = (.inl (some (.inl 0)), s17)) else C0_421 x4 (some (.inl v6)) (some (.inl v14)) (k + 2) (n + 12) s17 o) else o = (.inl (some (.inl 0)), s17)))))) : C0_356 x4 d5 d6 k n σ o := by
  show Gd 0 356 [(some (.inr (.inr (some SCR)))), (some (.inr (.inr (some 0)))), (some (.inr (.inr (some 682)))), (some (.inr (.inr (some 726)))), (some (.inl x4)), d5, d6] [] σ k n o
  refine g_aload_n 357 (opc_0 (by decide) (by decide +kernel) : op 0 356 = some (.aload_n 1, 1)) rfl rfl ?_
  refine g_aload_n 358 (opc_0 (by decide) (by decide +kernel) : op 0 357 = some (.aload_n 0, 1)) rfl rfl ?_
  refine g_iload 360 (opc_0 (by decide) (by decide +kernel) : op 0 358 = some (.iload 4, 2)) rfl rfl ?_
  refine g_iconst 361 (opc_0 (by decide) (by decide +kernel) : op 0 360 = some (.iconst 1, 1)) rfl rfl ?_
  obtain ⟨g1, h⟩ := h
  refine g_iadd 362 (opc_0 (by decide) (by decide +kernel) : op 0 361 = some (.iadd, 1)) rfl g1 ?_
  obtain ⟨g2, h⟩ := h
  refine g_scr 363 (opc_0 (by decide) (by decide +kernel) : op 0 362 = some (.iaload, 1)) rfl g2 ?_
  refine g_aload_n 364 (opc_0 (by decide) (by decide +kernel) : op 0 363 = some (.aload_n 0, 1)) rfl rfl ?_
  refine g_iload 366 (opc_0 (by decide) (by decide +kernel) : op 0 364 = some (.iload 4, 2)) rfl rfl ?_
  refine g_iconst 367 (opc_0 (by decide) (by decide +kernel) : op 0 366 = some (.iconst 2, 1)) rfl rfl ?_
  obtain ⟨g3, h⟩ := h
  refine g_iadd 368 (opc_0 (by decide) (by decide +kernel) : op 0 367 = some (.iadd, 1)) rfl g3 ?_
  obtain ⟨g4, h⟩ := h
  refine g_scr 369 (opc_0 (by decide) (by decide +kernel) : op 0 368 = some (.iaload, 1)) rfl g4 ?_
  refine g_aload_n 370 (opc_0 (by decide) (by decide +kernel) : op 0 369 = some (.aload_n 3, 1)) rfl rfl ?_
  obtain ⟨g8, h⟩ := h
  obtain ⟨v6, s5, hD7, h⟩ := h
  refine g_call 373 [(.inl v6)] (opc_0 (by decide) (by decide +kernel) : op 0 370 = some (.invokestatic 197, 3)) (call_stL (c := 2) (s := 12) (nj := 4) (j := 391) (t := []) (as := [(.inr (.inr (some 0))), (.inl (σ SCR ((x4 + 1)).toNat)), (.inl (σ SCR ((x4 + 2)).toNat)), (.inr (.inr (some 726)))]) (by decide +kernel) rfl (by decide +kernel) g8 rfl rfl rfl rfl rfl) hD7 rfl ?_
  refine g_istore 375 [(some (.inr (.inr (some SCR)))), (some (.inr (.inr (some 0)))), (some (.inr (.inr (some 682)))), (some (.inr (.inr (some 726)))), (some (.inl x4)), (some (.inl v6)), d6] (opc_0 (by decide) (by decide +kernel) : op 0 373 = some (.istore 5, 2)) rfl rfl rfl ?_
  refine g_aload_n 376 (opc_0 (by decide) (by decide +kernel) : op 0 375 = some (.aload_n 2, 1)) rfl rfl ?_
  refine g_aload_n 377 (opc_0 (by decide) (by decide +kernel) : op 0 376 = some (.aload_n 0, 1)) rfl rfl ?_
  refine g_iload 379 (opc_0 (by decide) (by decide +kernel) : op 0 377 = some (.iload 4, 2)) rfl rfl ?_
  refine g_iconst 380 (opc_0 (by decide) (by decide +kernel) : op 0 379 = some (.iconst 1, 1)) rfl rfl ?_
  obtain ⟨g9, h⟩ := h
  refine g_iadd 381 (opc_0 (by decide) (by decide +kernel) : op 0 380 = some (.iadd, 1)) rfl g9 ?_
  obtain ⟨g10, h⟩ := h
  refine g_scr 382 (opc_0 (by decide) (by decide +kernel) : op 0 381 = some (.iaload, 1)) rfl g10 ?_
  refine g_aload_n 383 (opc_0 (by decide) (by decide +kernel) : op 0 382 = some (.aload_n 0, 1)) rfl rfl ?_
  refine g_iload 385 (opc_0 (by decide) (by decide +kernel) : op 0 383 = some (.iload 4, 2)) rfl rfl ?_
  refine g_iconst 386 (opc_0 (by decide) (by decide +kernel) : op 0 385 = some (.iconst 2, 1)) rfl rfl ?_
  obtain ⟨g11, h⟩ := h
  refine g_iadd 387 (opc_0 (by decide) (by decide +kernel) : op 0 386 = some (.iadd, 1)) rfl g11 ?_
  obtain ⟨g12, h⟩ := h
  refine g_scr 388 (opc_0 (by decide) (by decide +kernel) : op 0 387 = some (.iaload, 1)) rfl g12 ?_
  obtain ⟨g16, h⟩ := h
  obtain ⟨v14, s13, hD15, h⟩ := h
  refine g_call 391 [(.inl v14)] (opc_0 (by decide) (by decide +kernel) : op 0 388 = some (.invokevirtual 200, 3)) (call_viL (c := 0) (s := 0) (nj := 3) (j := 258) (k9 := 21) (t := []) (as := [(.inr (.inr (some 682))), (.inl (s5 SCR ((x4 + 1)).toNat)), (.inl (s5 SCR ((x4 + 2)).toNat))]) (by decide +kernel) rfl (by decide +kernel) g16 rfl rfl rfl rfl rfl rfl (by decide +kernel) (by decide +kernel)) hD15 rfl ?_
  refine g_istore 393 [(some (.inr (.inr (some SCR)))), (some (.inr (.inr (some 0)))), (some (.inr (.inr (some 682)))), (some (.inr (.inr (some 726)))), (some (.inl x4)), (some (.inl v6)), (some (.inl v14))] (opc_0 (by decide) (by decide +kernel) : op 0 391 = some (.istore 6, 2)) rfl rfl rfl ?_
  refine g_aload_n 394 (opc_0 (by decide) (by decide +kernel) : op 0 393 = some (.aload_n 2, 1)) rfl rfl ?_
  obtain ⟨g20, h⟩ := h
  obtain ⟨v18, s17, hD19, h⟩ := h
  refine g_call 397 [(.inl v18)] (opc_0 (by decide) (by decide +kernel) : op 0 394 = some (.invokevirtual 194, 3)) (call_viL (c := 0) (s := 0) (nj := 1) (j := 244) (k9 := 21) (t := []) (as := [(.inr (.inr (some 682)))]) (by decide +kernel) rfl (by decide +kernel) g20 rfl rfl rfl rfl rfl rfl (by decide +kernel) (by decide +kernel)) hD19 rfl ?_
  refine g_iload 399 (opc_0 (by decide) (by decide +kernel) : op 0 397 = some (.iload 5, 2)) rfl rfl ?_
  by_cases hc21 : v18 = v6
  · rw [if_pos hc21] at h
    refine g_icmpT 404 (opc_0 (by decide) (by decide +kernel) : op 0 399 = some (.if_icmp .eq 5, 3)) rfl (decide_eq_true hc21) ?_
    refine g_iload 406 (opc_0 (by decide) (by decide +kernel) : op 0 404 = some (.iload 5, 2)) rfl rfl ?_
    by_cases hc22 : v6 = 0
    · rw [if_pos hc22] at h
      refine g_ifF 409 421 (opc_0 (by decide) (by decide +kernel) : op 0 406 = some (.ifCond .ne 15, 3)) rfl rfl (decide_eq_false (fun h9 => h9 hc22)) ?_
      refine g_aload_n 410 (opc_0 (by decide) (by decide +kernel) : op 0 409 = some (.aload_n 3, 1)) rfl rfl ?_
      refine g_iconst 411 (opc_0 (by decide) (by decide +kernel) : op 0 410 = some (.iconst 0, 1)) rfl rfl ?_
      refine g_laload 412 1 (opc_0 (by decide) (by decide +kernel) : op 0 411 = some (.laload, 1)) rfl (by decide +kernel) (by decide) ?_
      refine g_iload 414 (opc_0 (by decide) (by decide +kernel) : op 0 412 = some (.iload 6, 2)) rfl rfl ?_
      refine g_i2l 415 (opc_0 (by decide) (by decide +kernel) : op 0 414 = some (.i2l, 1)) rfl ?_
      refine g_lcmp 416 (opc_0 (by decide) (by decide +kernel) : op 0 415 = some (.lcmp, 1)) rfl ?_
      by_cases hc23 : (if v14 < (s17 726 (0 : Int).toNat) then 1 else if (s17 726 (0 : Int).toNat) = v14 then 0 else -1) = 0
      · rw [if_pos hc23] at h
        refine g_ifT 421 (opc_0 (by decide) (by decide +kernel) : op 0 416 = some (.ifCond .eq 5, 3)) rfl (decide_eq_true hc23) ?_
        exact h
      · rw [if_neg hc23] at h
        refine g_ifF 419 421 (opc_0 (by decide) (by decide +kernel) : op 0 416 = some (.ifCond .eq 5, 3)) rfl rfl (decide_eq_false hc23) ?_
        refine g_iconst 420 (opc_0 (by decide) (by decide +kernel) : op 0 419 = some (.iconst 0, 1)) rfl rfl ?_
        exact (g_zret (opc_0 (by decide) (by decide +kernel) : op 0 420 = some (.ireturn, 1)) (by decide +kernel) (by decide) h)
    · rw [if_neg hc22] at h
      refine g_ifT 421 (opc_0 (by decide) (by decide +kernel) : op 0 406 = some (.ifCond .ne 15, 3)) rfl (decide_eq_true hc22) ?_
      exact h
  · rw [if_neg hc21] at h
    refine g_icmpF 402 404 (opc_0 (by decide) (by decide +kernel) : op 0 399 = some (.if_icmp .eq 5, 3)) rfl rfl (decide_eq_false hc21) ?_
    refine g_iconst 403 (opc_0 (by decide) (by decide +kernel) : op 0 402 = some (.iconst 0, 1)) rfl rfl ?_
    exact (g_zret (opc_0 (by decide) (by decide +kernel) : op 0 403 = some (.ireturn, 1)) (by decide +kernel) (by decide) h)
theorem b0_424 {x4 : Int} {d5 : Option AV} {d6 : Option AV} {k : Nat} {n : Nat} {σ : Sg} {o : Rs} (h : (-2147483648 ≤ (x4 + 1) ∧ (x4 + 1) ≤ 2147483647) ∧ (0 ≤ (x4 + 1) ∧ (x4 + 1) < σ (SCR + 1) 0) ∧ (-2147483648 ≤ (x4 + 2) ∧ (x4 + 2) ≤ 2147483647) ∧ (0 ≤ (x4 + 2) ∧ (x4 + 2) < σ (SCR + 1) 0) ∧ ((k + 2) ≤ room_1.cells ∧ (n + 12) ≤ room_1.slots) ∧ (∃ (v6 : Int) (s5 : Sg), Dd 392 [(.inr (.inr (some 0))), (.inl (σ SCR ((x4 + 1)).toNat)), (.inl (σ SCR ((x4 + 2)).toNat)), (.inr (.inr (some 726)))] σ (.inl (some (.inl v6)), s5) ∧ (-2147483648 ≤ (x4 + 1) ∧ (x4 + 1) ≤ 2147483647) ∧ (0 ≤ (x4 + 1) ∧ (x4 + 1) < s5 (SCR + 1) 0) ∧ (-2147483648 ≤ (x4 + 2) ∧ (x4 + 2) ≤ 2147483647) ∧ (0 ≤ (x4 + 2) ∧ (x4 + 2) < s5 (SCR + 1) 0) ∧ ((k + 2) ≤ room_1.cells ∧ (n + 12) ≤ room_1.slots) ∧ (∃ (v14 : Int) (s13 : Sg), Dd 259 [(.inr (.inr (some 682))), (.inl (s5 SCR ((x4 + 1)).toNat)), (.inl (s5 SCR ((x4 + 2)).toNat))] s5 (.inl (some (.inl v14)), s13) ∧ ((k + 2) ≤ room_1.cells ∧ (n + 12) ≤ room_1.slots) ∧ (∃ (v18 : Int) (s17 : Sg), Dd 244 [(.inr (.inr (some 682)))] s13 (.inl (some (.inl v18)), s17) ∧ (if v18 = v6 then (if v6 = 0 then (if (if v14 < (s17 726 (0 : Int).toNat) then 1 else if (s17 726 (0 : Int).toNat) = v14 then 0 else -1) = 0 then C0_489 x4 (some (.inl v6)) (some (.inl v14)) (k + 2) (n + 12) s17 o else o = (.inl (some (.inl 0)), s17)) else C0_489 x4 (some (.inl v6)) (some (.inl v14)) (k + 2) (n + 12) s17 o) else o = (.inl (some (.inl 0)), s17)))))) : C0_424 x4 d5 d6 k n σ o := by
  show Gd 0 424 [(some (.inr (.inr (some SCR)))), (some (.inr (.inr (some 0)))), (some (.inr (.inr (some 682)))), (some (.inr (.inr (some 726)))), (some (.inl x4)), d5, d6] [] σ k n o
  refine g_aload_n 425 (opc_0 (by decide) (by decide +kernel) : op 0 424 = some (.aload_n 1, 1)) rfl rfl ?_
  refine g_aload_n 426 (opc_0 (by decide) (by decide +kernel) : op 0 425 = some (.aload_n 0, 1)) rfl rfl ?_
  refine g_iload 428 (opc_0 (by decide) (by decide +kernel) : op 0 426 = some (.iload 4, 2)) rfl rfl ?_
  refine g_iconst 429 (opc_0 (by decide) (by decide +kernel) : op 0 428 = some (.iconst 1, 1)) rfl rfl ?_
  obtain ⟨g1, h⟩ := h
  refine g_iadd 430 (opc_0 (by decide) (by decide +kernel) : op 0 429 = some (.iadd, 1)) rfl g1 ?_
  obtain ⟨g2, h⟩ := h
  refine g_scr 431 (opc_0 (by decide) (by decide +kernel) : op 0 430 = some (.iaload, 1)) rfl g2 ?_
  refine g_aload_n 432 (opc_0 (by decide) (by decide +kernel) : op 0 431 = some (.aload_n 0, 1)) rfl rfl ?_
  refine g_iload 434 (opc_0 (by decide) (by decide +kernel) : op 0 432 = some (.iload 4, 2)) rfl rfl ?_
  refine g_iconst 435 (opc_0 (by decide) (by decide +kernel) : op 0 434 = some (.iconst 2, 1)) rfl rfl ?_
  obtain ⟨g3, h⟩ := h
  refine g_iadd 436 (opc_0 (by decide) (by decide +kernel) : op 0 435 = some (.iadd, 1)) rfl g3 ?_
  obtain ⟨g4, h⟩ := h
  refine g_scr 437 (opc_0 (by decide) (by decide +kernel) : op 0 436 = some (.iaload, 1)) rfl g4 ?_
  refine g_aload_n 438 (opc_0 (by decide) (by decide +kernel) : op 0 437 = some (.aload_n 3, 1)) rfl rfl ?_
  obtain ⟨g8, h⟩ := h
  obtain ⟨v6, s5, hD7, h⟩ := h
  refine g_call 441 [(.inl v6)] (opc_0 (by decide) (by decide +kernel) : op 0 438 = some (.invokestatic 201, 3)) (call_stL (c := 2) (s := 12) (nj := 4) (j := 392) (t := []) (as := [(.inr (.inr (some 0))), (.inl (σ SCR ((x4 + 1)).toNat)), (.inl (σ SCR ((x4 + 2)).toNat)), (.inr (.inr (some 726)))]) (by decide +kernel) rfl (by decide +kernel) g8 rfl rfl rfl rfl rfl) hD7 rfl ?_
  refine g_istore 443 [(some (.inr (.inr (some SCR)))), (some (.inr (.inr (some 0)))), (some (.inr (.inr (some 682)))), (some (.inr (.inr (some 726)))), (some (.inl x4)), (some (.inl v6)), d6] (opc_0 (by decide) (by decide +kernel) : op 0 441 = some (.istore 5, 2)) rfl rfl rfl ?_
  refine g_aload_n 444 (opc_0 (by decide) (by decide +kernel) : op 0 443 = some (.aload_n 2, 1)) rfl rfl ?_
  refine g_aload_n 445 (opc_0 (by decide) (by decide +kernel) : op 0 444 = some (.aload_n 0, 1)) rfl rfl ?_
  refine g_iload 447 (opc_0 (by decide) (by decide +kernel) : op 0 445 = some (.iload 4, 2)) rfl rfl ?_
  refine g_iconst 448 (opc_0 (by decide) (by decide +kernel) : op 0 447 = some (.iconst 1, 1)) rfl rfl ?_
  obtain ⟨g9, h⟩ := h
  refine g_iadd 449 (opc_0 (by decide) (by decide +kernel) : op 0 448 = some (.iadd, 1)) rfl g9 ?_
  obtain ⟨g10, h⟩ := h
  refine g_scr 450 (opc_0 (by decide) (by decide +kernel) : op 0 449 = some (.iaload, 1)) rfl g10 ?_
  refine g_aload_n 451 (opc_0 (by decide) (by decide +kernel) : op 0 450 = some (.aload_n 0, 1)) rfl rfl ?_
  refine g_iload 453 (opc_0 (by decide) (by decide +kernel) : op 0 451 = some (.iload 4, 2)) rfl rfl ?_
  refine g_iconst 454 (opc_0 (by decide) (by decide +kernel) : op 0 453 = some (.iconst 2, 1)) rfl rfl ?_
  obtain ⟨g11, h⟩ := h
  refine g_iadd 455 (opc_0 (by decide) (by decide +kernel) : op 0 454 = some (.iadd, 1)) rfl g11 ?_
  obtain ⟨g12, h⟩ := h
  refine g_scr 456 (opc_0 (by decide) (by decide +kernel) : op 0 455 = some (.iaload, 1)) rfl g12 ?_
  obtain ⟨g16, h⟩ := h
  obtain ⟨v14, s13, hD15, h⟩ := h
  refine g_call 459 [(.inl v14)] (opc_0 (by decide) (by decide +kernel) : op 0 456 = some (.invokevirtual 203, 3)) (call_viL (c := 0) (s := 0) (nj := 3) (j := 259) (k9 := 21) (t := []) (as := [(.inr (.inr (some 682))), (.inl (s5 SCR ((x4 + 1)).toNat)), (.inl (s5 SCR ((x4 + 2)).toNat))]) (by decide +kernel) rfl (by decide +kernel) g16 rfl rfl rfl rfl rfl rfl (by decide +kernel) (by decide +kernel)) hD15 rfl ?_
  refine g_istore 461 [(some (.inr (.inr (some SCR)))), (some (.inr (.inr (some 0)))), (some (.inr (.inr (some 682)))), (some (.inr (.inr (some 726)))), (some (.inl x4)), (some (.inl v6)), (some (.inl v14))] (opc_0 (by decide) (by decide +kernel) : op 0 459 = some (.istore 6, 2)) rfl rfl rfl ?_
  refine g_aload_n 462 (opc_0 (by decide) (by decide +kernel) : op 0 461 = some (.aload_n 2, 1)) rfl rfl ?_
  obtain ⟨g20, h⟩ := h
  obtain ⟨v18, s17, hD19, h⟩ := h
  refine g_call 465 [(.inl v18)] (opc_0 (by decide) (by decide +kernel) : op 0 462 = some (.invokevirtual 194, 3)) (call_viL (c := 0) (s := 0) (nj := 1) (j := 244) (k9 := 21) (t := []) (as := [(.inr (.inr (some 682)))]) (by decide +kernel) rfl (by decide +kernel) g20 rfl rfl rfl rfl rfl rfl (by decide +kernel) (by decide +kernel)) hD19 rfl ?_
  refine g_iload 467 (opc_0 (by decide) (by decide +kernel) : op 0 465 = some (.iload 5, 2)) rfl rfl ?_
  by_cases hc21 : v18 = v6
  · rw [if_pos hc21] at h
    refine g_icmpT 472 (opc_0 (by decide) (by decide +kernel) : op 0 467 = some (.if_icmp .eq 5, 3)) rfl (decide_eq_true hc21) ?_
    refine g_iload 474 (opc_0 (by decide) (by decide +kernel) : op 0 472 = some (.iload 5, 2)) rfl rfl ?_
    by_cases hc22 : v6 = 0
    · rw [if_pos hc22] at h
      refine g_ifF 477 489 (opc_0 (by decide) (by decide +kernel) : op 0 474 = some (.ifCond .ne 15, 3)) rfl rfl (decide_eq_false (fun h9 => h9 hc22)) ?_
      refine g_aload_n 478 (opc_0 (by decide) (by decide +kernel) : op 0 477 = some (.aload_n 3, 1)) rfl rfl ?_
      refine g_iconst 479 (opc_0 (by decide) (by decide +kernel) : op 0 478 = some (.iconst 0, 1)) rfl rfl ?_
      refine g_laload 480 1 (opc_0 (by decide) (by decide +kernel) : op 0 479 = some (.laload, 1)) rfl (by decide +kernel) (by decide) ?_
      refine g_iload 482 (opc_0 (by decide) (by decide +kernel) : op 0 480 = some (.iload 6, 2)) rfl rfl ?_
      refine g_i2l 483 (opc_0 (by decide) (by decide +kernel) : op 0 482 = some (.i2l, 1)) rfl ?_
      refine g_lcmp 484 (opc_0 (by decide) (by decide +kernel) : op 0 483 = some (.lcmp, 1)) rfl ?_
      by_cases hc23 : (if v14 < (s17 726 (0 : Int).toNat) then 1 else if (s17 726 (0 : Int).toNat) = v14 then 0 else -1) = 0
      · rw [if_pos hc23] at h
        refine g_ifT 489 (opc_0 (by decide) (by decide +kernel) : op 0 484 = some (.ifCond .eq 5, 3)) rfl (decide_eq_true hc23) ?_
        exact h
      · rw [if_neg hc23] at h
        refine g_ifF 487 489 (opc_0 (by decide) (by decide +kernel) : op 0 484 = some (.ifCond .eq 5, 3)) rfl rfl (decide_eq_false hc23) ?_
        refine g_iconst 488 (opc_0 (by decide) (by decide +kernel) : op 0 487 = some (.iconst 0, 1)) rfl rfl ?_
        exact (g_zret (opc_0 (by decide) (by decide +kernel) : op 0 488 = some (.ireturn, 1)) (by decide +kernel) (by decide) h)
    · rw [if_neg hc22] at h
      refine g_ifT 489 (opc_0 (by decide) (by decide +kernel) : op 0 474 = some (.ifCond .ne 15, 3)) rfl (decide_eq_true hc22) ?_
      exact h
  · rw [if_neg hc21] at h
    refine g_icmpF 470 472 (opc_0 (by decide) (by decide +kernel) : op 0 467 = some (.if_icmp .eq 5, 3)) rfl rfl (decide_eq_false hc21) ?_
    refine g_iconst 471 (opc_0 (by decide) (by decide +kernel) : op 0 470 = some (.iconst 0, 1)) rfl rfl ?_
    exact (g_zret (opc_0 (by decide) (by decide +kernel) : op 0 471 = some (.ireturn, 1)) (by decide +kernel) (by decide) h)
theorem b0_492 {x4 : Int} {d5 : Option AV} {d6 : Option AV} {k : Nat} {n : Nat} {σ : Sg} {o : Rs} (h : (-2147483648 ≤ (x4 + 1) ∧ (x4 + 1) ≤ 2147483647) ∧ (0 ≤ (x4 + 1) ∧ (x4 + 1) < σ (SCR + 1) 0) ∧ ((k + 1) ≤ room_1.cells ∧ (n + 6) ≤ room_1.slots) ∧ (∃ (v4 : Int) (s3 : Sg), Dd 393 [(.inr (.inr (some 0))), (.inl (σ SCR ((x4 + 1)).toNat)), (.inr (.inr (some 726)))] σ (.inl (some (.inl v4)), s3) ∧ (-2147483648 ≤ (x4 + 1) ∧ (x4 + 1) ≤ 2147483647) ∧ (0 ≤ (x4 + 1) ∧ (x4 + 1) < s3 (SCR + 1) 0) ∧ ((k + 1) ≤ room_1.cells ∧ (n + 6) ≤ room_1.slots) ∧ (∃ (v10 : Int) (s9 : Sg), Dd 260 [(.inr (.inr (some 682))), (.inl (s3 SCR ((x4 + 1)).toNat))] s3 (.inl (some (.inl v10)), s9) ∧ ((k + 1) ≤ room_1.cells ∧ (n + 6) ≤ room_1.slots) ∧ (∃ (v14 : Int) (s13 : Sg), Dd 244 [(.inr (.inr (some 682)))] s9 (.inl (some (.inl v14)), s13) ∧ (if v14 = v4 then (if v4 = 0 then (if (if v10 < (s13 726 (0 : Int).toNat) then 1 else if (s13 726 (0 : Int).toNat) = v10 then 0 else -1) = 0 then C0_545 x4 (some (.inl v4)) (some (.inl v10)) (k + 1) (n + 6) s13 o else o = (.inl (some (.inl 0)), s13)) else C0_545 x4 (some (.inl v4)) (some (.inl v10)) (k + 1) (n + 6) s13 o) else o = (.inl (some (.inl 0)), s13)))))) : C0_492 x4 d5 d6 k n σ o := by
  show Gd 0 492 [(some (.inr (.inr (some SCR)))), (some (.inr (.inr (some 0)))), (some (.inr (.inr (some 682)))), (some (.inr (.inr (some 726)))), (some (.inl x4)), d5, d6] [] σ k n o
  refine g_aload_n 493 (opc_0 (by decide) (by decide +kernel) : op 0 492 = some (.aload_n 1, 1)) rfl rfl ?_
  refine g_aload_n 494 (opc_0 (by decide) (by decide +kernel) : op 0 493 = some (.aload_n 0, 1)) rfl rfl ?_
  refine g_iload 496 (opc_0 (by decide) (by decide +kernel) : op 0 494 = some (.iload 4, 2)) rfl rfl ?_
  refine g_iconst 497 (opc_0 (by decide) (by decide +kernel) : op 0 496 = some (.iconst 1, 1)) rfl rfl ?_
  obtain ⟨g1, h⟩ := h
  refine g_iadd 498 (opc_0 (by decide) (by decide +kernel) : op 0 497 = some (.iadd, 1)) rfl g1 ?_
  obtain ⟨g2, h⟩ := h
  refine g_scr 499 (opc_0 (by decide) (by decide +kernel) : op 0 498 = some (.iaload, 1)) rfl g2 ?_
  refine g_aload_n 500 (opc_0 (by decide) (by decide +kernel) : op 0 499 = some (.aload_n 3, 1)) rfl rfl ?_
  obtain ⟨g6, h⟩ := h
  obtain ⟨v4, s3, hD5, h⟩ := h
  refine g_call 503 [(.inl v4)] (opc_0 (by decide) (by decide +kernel) : op 0 500 = some (.invokestatic 204, 3)) (call_stL (c := 1) (s := 6) (nj := 3) (j := 393) (t := []) (as := [(.inr (.inr (some 0))), (.inl (σ SCR ((x4 + 1)).toNat)), (.inr (.inr (some 726)))]) (by decide +kernel) rfl (by decide +kernel) g6 rfl rfl rfl rfl rfl) hD5 rfl ?_
  refine g_istore 505 [(some (.inr (.inr (some SCR)))), (some (.inr (.inr (some 0)))), (some (.inr (.inr (some 682)))), (some (.inr (.inr (some 726)))), (some (.inl x4)), (some (.inl v4)), d6] (opc_0 (by decide) (by decide +kernel) : op 0 503 = some (.istore 5, 2)) rfl rfl rfl ?_
  refine g_aload_n 506 (opc_0 (by decide) (by decide +kernel) : op 0 505 = some (.aload_n 2, 1)) rfl rfl ?_
  refine g_aload_n 507 (opc_0 (by decide) (by decide +kernel) : op 0 506 = some (.aload_n 0, 1)) rfl rfl ?_
  refine g_iload 509 (opc_0 (by decide) (by decide +kernel) : op 0 507 = some (.iload 4, 2)) rfl rfl ?_
  refine g_iconst 510 (opc_0 (by decide) (by decide +kernel) : op 0 509 = some (.iconst 1, 1)) rfl rfl ?_
  obtain ⟨g7, h⟩ := h
  refine g_iadd 511 (opc_0 (by decide) (by decide +kernel) : op 0 510 = some (.iadd, 1)) rfl g7 ?_
  obtain ⟨g8, h⟩ := h
  refine g_scr 512 (opc_0 (by decide) (by decide +kernel) : op 0 511 = some (.iaload, 1)) rfl g8 ?_
  obtain ⟨g12, h⟩ := h
  obtain ⟨v10, s9, hD11, h⟩ := h
  refine g_call 515 [(.inl v10)] (opc_0 (by decide) (by decide +kernel) : op 0 512 = some (.invokevirtual 207, 3)) (call_viL (c := 0) (s := 0) (nj := 2) (j := 260) (k9 := 21) (t := []) (as := [(.inr (.inr (some 682))), (.inl (s3 SCR ((x4 + 1)).toNat))]) (by decide +kernel) rfl (by decide +kernel) g12 rfl rfl rfl rfl rfl rfl (by decide +kernel) (by decide +kernel)) hD11 rfl ?_
  refine g_istore 517 [(some (.inr (.inr (some SCR)))), (some (.inr (.inr (some 0)))), (some (.inr (.inr (some 682)))), (some (.inr (.inr (some 726)))), (some (.inl x4)), (some (.inl v4)), (some (.inl v10))] (opc_0 (by decide) (by decide +kernel) : op 0 515 = some (.istore 6, 2)) rfl rfl rfl ?_
  refine g_aload_n 518 (opc_0 (by decide) (by decide +kernel) : op 0 517 = some (.aload_n 2, 1)) rfl rfl ?_
  obtain ⟨g16, h⟩ := h
  obtain ⟨v14, s13, hD15, h⟩ := h
  refine g_call 521 [(.inl v14)] (opc_0 (by decide) (by decide +kernel) : op 0 518 = some (.invokevirtual 194, 3)) (call_viL (c := 0) (s := 0) (nj := 1) (j := 244) (k9 := 21) (t := []) (as := [(.inr (.inr (some 682)))]) (by decide +kernel) rfl (by decide +kernel) g16 rfl rfl rfl rfl rfl rfl (by decide +kernel) (by decide +kernel)) hD15 rfl ?_
  refine g_iload 523 (opc_0 (by decide) (by decide +kernel) : op 0 521 = some (.iload 5, 2)) rfl rfl ?_
  by_cases hc17 : v14 = v4
  · rw [if_pos hc17] at h
    refine g_icmpT 528 (opc_0 (by decide) (by decide +kernel) : op 0 523 = some (.if_icmp .eq 5, 3)) rfl (decide_eq_true hc17) ?_
    refine g_iload 530 (opc_0 (by decide) (by decide +kernel) : op 0 528 = some (.iload 5, 2)) rfl rfl ?_
    by_cases hc18 : v4 = 0
    · rw [if_pos hc18] at h
      refine g_ifF 533 545 (opc_0 (by decide) (by decide +kernel) : op 0 530 = some (.ifCond .ne 15, 3)) rfl rfl (decide_eq_false (fun h9 => h9 hc18)) ?_
      refine g_aload_n 534 (opc_0 (by decide) (by decide +kernel) : op 0 533 = some (.aload_n 3, 1)) rfl rfl ?_
      refine g_iconst 535 (opc_0 (by decide) (by decide +kernel) : op 0 534 = some (.iconst 0, 1)) rfl rfl ?_
      refine g_laload 536 1 (opc_0 (by decide) (by decide +kernel) : op 0 535 = some (.laload, 1)) rfl (by decide +kernel) (by decide) ?_
      refine g_iload 538 (opc_0 (by decide) (by decide +kernel) : op 0 536 = some (.iload 6, 2)) rfl rfl ?_
      refine g_i2l 539 (opc_0 (by decide) (by decide +kernel) : op 0 538 = some (.i2l, 1)) rfl ?_
      refine g_lcmp 540 (opc_1 (by decide) (by decide +kernel) : op 0 539 = some (.lcmp, 1)) rfl ?_
      by_cases hc19 : (if v10 < (s13 726 (0 : Int).toNat) then 1 else if (s13 726 (0 : Int).toNat) = v10 then 0 else -1) = 0
      · rw [if_pos hc19] at h
        refine g_ifT 545 (opc_1 (by decide) (by decide +kernel) : op 0 540 = some (.ifCond .eq 5, 3)) rfl (decide_eq_true hc19) ?_
        exact h
      · rw [if_neg hc19] at h
        refine g_ifF 543 545 (opc_1 (by decide) (by decide +kernel) : op 0 540 = some (.ifCond .eq 5, 3)) rfl rfl (decide_eq_false hc19) ?_
        refine g_iconst 544 (opc_1 (by decide) (by decide +kernel) : op 0 543 = some (.iconst 0, 1)) rfl rfl ?_
        exact (g_zret (opc_1 (by decide) (by decide +kernel) : op 0 544 = some (.ireturn, 1)) (by decide +kernel) (by decide) h)
    · rw [if_neg hc18] at h
      refine g_ifT 545 (opc_0 (by decide) (by decide +kernel) : op 0 530 = some (.ifCond .ne 15, 3)) rfl (decide_eq_true hc18) ?_
      exact h
  · rw [if_neg hc17] at h
    refine g_icmpF 526 528 (opc_0 (by decide) (by decide +kernel) : op 0 523 = some (.if_icmp .eq 5, 3)) rfl rfl (decide_eq_false hc17) ?_
    refine g_iconst 527 (opc_0 (by decide) (by decide +kernel) : op 0 526 = some (.iconst 0, 1)) rfl rfl ?_
    exact (g_zret (opc_0 (by decide) (by decide +kernel) : op 0 527 = some (.ireturn, 1)) (by decide +kernel) (by decide) h)
theorem b0_548 {x4 : Int} {d5 : Option AV} {d6 : Option AV} {k : Nat} {n : Nat} {σ : Sg} {o : Rs} (h : (-2147483648 ≤ (x4 + 1) ∧ (x4 + 1) ≤ 2147483647) ∧ (0 ≤ (x4 + 1) ∧ (x4 + 1) < σ (SCR + 1) 0) ∧ (-2147483648 ≤ (x4 + 2) ∧ (x4 + 2) ≤ 2147483647) ∧ (0 ≤ (x4 + 2) ∧ (x4 + 2) < σ (SCR + 1) 0) ∧ ((k + 2) ≤ room_1.cells ∧ (n + 12) ≤ room_1.slots) ∧ (∃ (v6 : Int) (s5 : Sg), Dd 394 [(.inr (.inr (some 0))), (.inl (σ SCR ((x4 + 1)).toNat)), (.inl (σ SCR ((x4 + 2)).toNat)), (.inr (.inr (some 726)))] σ (.inl (some (.inl v6)), s5) ∧ (-2147483648 ≤ (x4 + 1) ∧ (x4 + 1) ≤ 2147483647) ∧ (0 ≤ (x4 + 1) ∧ (x4 + 1) < s5 (SCR + 1) 0) ∧ (-2147483648 ≤ (x4 + 2) ∧ (x4 + 2) ≤ 2147483647) ∧ (0 ≤ (x4 + 2) ∧ (x4 + 2) < s5 (SCR + 1) 0) ∧ ((k + 2) ≤ room_1.cells ∧ (n + 12) ≤ room_1.slots) ∧ (∃ (v14 : Int) (s13 : Sg), Dd 261 [(.inr (.inr (some 682))), (.inl (s5 SCR ((x4 + 1)).toNat)), (.inl (s5 SCR ((x4 + 2)).toNat))] s5 (.inl (some (.inl v14)), s13) ∧ ((k + 2) ≤ room_1.cells ∧ (n + 12) ≤ room_1.slots) ∧ (∃ (v18 : Int) (s17 : Sg), Dd 244 [(.inr (.inr (some 682)))] s13 (.inl (some (.inl v18)), s17) ∧ (if v18 = v6 then (if v6 = 0 then (if (if v14 < (s17 726 (0 : Int).toNat) then 1 else if (s17 726 (0 : Int).toNat) = v14 then 0 else -1) = 0 then C0_613 x4 (some (.inl v6)) (some (.inl v14)) (k + 2) (n + 12) s17 o else o = (.inl (some (.inl 0)), s17)) else C0_613 x4 (some (.inl v6)) (some (.inl v14)) (k + 2) (n + 12) s17 o) else o = (.inl (some (.inl 0)), s17)))))) : C0_548 x4 d5 d6 k n σ o := by
  show Gd 0 548 [(some (.inr (.inr (some SCR)))), (some (.inr (.inr (some 0)))), (some (.inr (.inr (some 682)))), (some (.inr (.inr (some 726)))), (some (.inl x4)), d5, d6] [] σ k n o
  refine g_aload_n 549 (opc_1 (by decide) (by decide +kernel) : op 0 548 = some (.aload_n 1, 1)) rfl rfl ?_
  refine g_aload_n 550 (opc_1 (by decide) (by decide +kernel) : op 0 549 = some (.aload_n 0, 1)) rfl rfl ?_
  refine g_iload 552 (opc_1 (by decide) (by decide +kernel) : op 0 550 = some (.iload 4, 2)) rfl rfl ?_
  refine g_iconst 553 (opc_1 (by decide) (by decide +kernel) : op 0 552 = some (.iconst 1, 1)) rfl rfl ?_
  obtain ⟨g1, h⟩ := h
  refine g_iadd 554 (opc_1 (by decide) (by decide +kernel) : op 0 553 = some (.iadd, 1)) rfl g1 ?_
  obtain ⟨g2, h⟩ := h
  refine g_scr 555 (opc_1 (by decide) (by decide +kernel) : op 0 554 = some (.iaload, 1)) rfl g2 ?_
  refine g_aload_n 556 (opc_1 (by decide) (by decide +kernel) : op 0 555 = some (.aload_n 0, 1)) rfl rfl ?_
  refine g_iload 558 (opc_1 (by decide) (by decide +kernel) : op 0 556 = some (.iload 4, 2)) rfl rfl ?_
  refine g_iconst 559 (opc_1 (by decide) (by decide +kernel) : op 0 558 = some (.iconst 2, 1)) rfl rfl ?_
  obtain ⟨g3, h⟩ := h
  refine g_iadd 560 (opc_1 (by decide) (by decide +kernel) : op 0 559 = some (.iadd, 1)) rfl g3 ?_
  obtain ⟨g4, h⟩ := h
  refine g_scr 561 (opc_1 (by decide) (by decide +kernel) : op 0 560 = some (.iaload, 1)) rfl g4 ?_
  refine g_aload_n 562 (opc_1 (by decide) (by decide +kernel) : op 0 561 = some (.aload_n 3, 1)) rfl rfl ?_
  obtain ⟨g8, h⟩ := h
  obtain ⟨v6, s5, hD7, h⟩ := h
  refine g_call 565 [(.inl v6)] (opc_1 (by decide) (by decide +kernel) : op 0 562 = some (.invokestatic 208, 3)) (call_stL (c := 2) (s := 12) (nj := 4) (j := 394) (t := []) (as := [(.inr (.inr (some 0))), (.inl (σ SCR ((x4 + 1)).toNat)), (.inl (σ SCR ((x4 + 2)).toNat)), (.inr (.inr (some 726)))]) (by decide +kernel) rfl (by decide +kernel) g8 rfl rfl rfl rfl rfl) hD7 rfl ?_
  refine g_istore 567 [(some (.inr (.inr (some SCR)))), (some (.inr (.inr (some 0)))), (some (.inr (.inr (some 682)))), (some (.inr (.inr (some 726)))), (some (.inl x4)), (some (.inl v6)), d6] (opc_1 (by decide) (by decide +kernel) : op 0 565 = some (.istore 5, 2)) rfl rfl rfl ?_
  refine g_aload_n 568 (opc_1 (by decide) (by decide +kernel) : op 0 567 = some (.aload_n 2, 1)) rfl rfl ?_
  refine g_aload_n 569 (opc_1 (by decide) (by decide +kernel) : op 0 568 = some (.aload_n 0, 1)) rfl rfl ?_
  refine g_iload 571 (opc_1 (by decide) (by decide +kernel) : op 0 569 = some (.iload 4, 2)) rfl rfl ?_
  refine g_iconst 572 (opc_1 (by decide) (by decide +kernel) : op 0 571 = some (.iconst 1, 1)) rfl rfl ?_
  obtain ⟨g9, h⟩ := h
  refine g_iadd 573 (opc_1 (by decide) (by decide +kernel) : op 0 572 = some (.iadd, 1)) rfl g9 ?_
  obtain ⟨g10, h⟩ := h
  refine g_scr 574 (opc_1 (by decide) (by decide +kernel) : op 0 573 = some (.iaload, 1)) rfl g10 ?_
  refine g_aload_n 575 (opc_1 (by decide) (by decide +kernel) : op 0 574 = some (.aload_n 0, 1)) rfl rfl ?_
  refine g_iload 577 (opc_1 (by decide) (by decide +kernel) : op 0 575 = some (.iload 4, 2)) rfl rfl ?_
  refine g_iconst 578 (opc_1 (by decide) (by decide +kernel) : op 0 577 = some (.iconst 2, 1)) rfl rfl ?_
  obtain ⟨g11, h⟩ := h
  refine g_iadd 579 (opc_1 (by decide) (by decide +kernel) : op 0 578 = some (.iadd, 1)) rfl g11 ?_
  obtain ⟨g12, h⟩ := h
  refine g_scr 580 (opc_1 (by decide) (by decide +kernel) : op 0 579 = some (.iaload, 1)) rfl g12 ?_
  obtain ⟨g16, h⟩ := h
  obtain ⟨v14, s13, hD15, h⟩ := h
  refine g_call 583 [(.inl v14)] (opc_1 (by decide) (by decide +kernel) : op 0 580 = some (.invokevirtual 210, 3)) (call_viL (c := 0) (s := 0) (nj := 3) (j := 261) (k9 := 21) (t := []) (as := [(.inr (.inr (some 682))), (.inl (s5 SCR ((x4 + 1)).toNat)), (.inl (s5 SCR ((x4 + 2)).toNat))]) (by decide +kernel) rfl (by decide +kernel) g16 rfl rfl rfl rfl rfl rfl (by decide +kernel) (by decide +kernel)) hD15 rfl ?_
  refine g_istore 585 [(some (.inr (.inr (some SCR)))), (some (.inr (.inr (some 0)))), (some (.inr (.inr (some 682)))), (some (.inr (.inr (some 726)))), (some (.inl x4)), (some (.inl v6)), (some (.inl v14))] (opc_1 (by decide) (by decide +kernel) : op 0 583 = some (.istore 6, 2)) rfl rfl rfl ?_
  refine g_aload_n 586 (opc_1 (by decide) (by decide +kernel) : op 0 585 = some (.aload_n 2, 1)) rfl rfl ?_
  obtain ⟨g20, h⟩ := h
  obtain ⟨v18, s17, hD19, h⟩ := h
  refine g_call 589 [(.inl v18)] (opc_1 (by decide) (by decide +kernel) : op 0 586 = some (.invokevirtual 194, 3)) (call_viL (c := 0) (s := 0) (nj := 1) (j := 244) (k9 := 21) (t := []) (as := [(.inr (.inr (some 682)))]) (by decide +kernel) rfl (by decide +kernel) g20 rfl rfl rfl rfl rfl rfl (by decide +kernel) (by decide +kernel)) hD19 rfl ?_
  refine g_iload 591 (opc_1 (by decide) (by decide +kernel) : op 0 589 = some (.iload 5, 2)) rfl rfl ?_
  by_cases hc21 : v18 = v6
  · rw [if_pos hc21] at h
    refine g_icmpT 596 (opc_1 (by decide) (by decide +kernel) : op 0 591 = some (.if_icmp .eq 5, 3)) rfl (decide_eq_true hc21) ?_
    refine g_iload 598 (opc_1 (by decide) (by decide +kernel) : op 0 596 = some (.iload 5, 2)) rfl rfl ?_
    by_cases hc22 : v6 = 0
    · rw [if_pos hc22] at h
      refine g_ifF 601 613 (opc_1 (by decide) (by decide +kernel) : op 0 598 = some (.ifCond .ne 15, 3)) rfl rfl (decide_eq_false (fun h9 => h9 hc22)) ?_
      refine g_aload_n 602 (opc_1 (by decide) (by decide +kernel) : op 0 601 = some (.aload_n 3, 1)) rfl rfl ?_
      refine g_iconst 603 (opc_1 (by decide) (by decide +kernel) : op 0 602 = some (.iconst 0, 1)) rfl rfl ?_
      refine g_laload 604 1 (opc_1 (by decide) (by decide +kernel) : op 0 603 = some (.laload, 1)) rfl (by decide +kernel) (by decide) ?_
      refine g_iload 606 (opc_1 (by decide) (by decide +kernel) : op 0 604 = some (.iload 6, 2)) rfl rfl ?_
      refine g_i2l 607 (opc_1 (by decide) (by decide +kernel) : op 0 606 = some (.i2l, 1)) rfl ?_
      refine g_lcmp 608 (opc_1 (by decide) (by decide +kernel) : op 0 607 = some (.lcmp, 1)) rfl ?_
      by_cases hc23 : (if v14 < (s17 726 (0 : Int).toNat) then 1 else if (s17 726 (0 : Int).toNat) = v14 then 0 else -1) = 0
      · rw [if_pos hc23] at h
        refine g_ifT 613 (opc_1 (by decide) (by decide +kernel) : op 0 608 = some (.ifCond .eq 5, 3)) rfl (decide_eq_true hc23) ?_
        exact h
      · rw [if_neg hc23] at h
        refine g_ifF 611 613 (opc_1 (by decide) (by decide +kernel) : op 0 608 = some (.ifCond .eq 5, 3)) rfl rfl (decide_eq_false hc23) ?_
        refine g_iconst 612 (opc_1 (by decide) (by decide +kernel) : op 0 611 = some (.iconst 0, 1)) rfl rfl ?_
        exact (g_zret (opc_1 (by decide) (by decide +kernel) : op 0 612 = some (.ireturn, 1)) (by decide +kernel) (by decide) h)
    · rw [if_neg hc22] at h
      refine g_ifT 613 (opc_1 (by decide) (by decide +kernel) : op 0 598 = some (.ifCond .ne 15, 3)) rfl (decide_eq_true hc22) ?_
      exact h
  · rw [if_neg hc21] at h
    refine g_icmpF 594 596 (opc_1 (by decide) (by decide +kernel) : op 0 591 = some (.if_icmp .eq 5, 3)) rfl rfl (decide_eq_false hc21) ?_
    refine g_iconst 595 (opc_1 (by decide) (by decide +kernel) : op 0 594 = some (.iconst 0, 1)) rfl rfl ?_
    exact (g_zret (opc_1 (by decide) (by decide +kernel) : op 0 595 = some (.ireturn, 1)) (by decide +kernel) (by decide) h)
theorem b0_616 {x4 : Int} {d5 : Option AV} {d6 : Option AV} {k : Nat} {n : Nat} {σ : Sg} {o : Rs} (h : (-2147483648 ≤ (x4 + 1) ∧ (x4 + 1) ≤ 2147483647) ∧ (0 ≤ (x4 + 1) ∧ (x4 + 1) < σ (SCR + 1) 0) ∧ (-2147483648 ≤ (x4 + 2) ∧ (x4 + 2) ≤ 2147483647) ∧ (0 ≤ (x4 + 2) ∧ (x4 + 2) < σ (SCR + 1) 0) ∧ ((k + 2) ≤ room_1.cells ∧ (n + 12) ≤ room_1.slots) ∧ (∃ (v6 : Int) (s5 : Sg), Dd 395 [(.inr (.inr (some 0))), (.inl (σ SCR ((x4 + 1)).toNat)), (.inl (σ SCR ((x4 + 2)).toNat)), (.inr (.inr (some 726)))] σ (.inl (some (.inl v6)), s5) ∧ (-2147483648 ≤ (x4 + 1) ∧ (x4 + 1) ≤ 2147483647) ∧ (0 ≤ (x4 + 1) ∧ (x4 + 1) < s5 (SCR + 1) 0) ∧ (-2147483648 ≤ (x4 + 2) ∧ (x4 + 2) ≤ 2147483647) ∧ (0 ≤ (x4 + 2) ∧ (x4 + 2) < s5 (SCR + 1) 0) ∧ ((k + 2) ≤ room_1.cells ∧ (n + 12) ≤ room_1.slots) ∧ (∃ (v14 : Int) (s13 : Sg), Dd 262 [(.inr (.inr (some 682))), (.inl (s5 SCR ((x4 + 1)).toNat)), (.inl (s5 SCR ((x4 + 2)).toNat))] s5 (.inl (some (.inl v14)), s13) ∧ ((k + 2) ≤ room_1.cells ∧ (n + 12) ≤ room_1.slots) ∧ (∃ (v18 : Int) (s17 : Sg), Dd 244 [(.inr (.inr (some 682)))] s13 (.inl (some (.inl v18)), s17) ∧ (if v18 = v6 then (if v6 = 0 then (if (if v14 < (s17 726 (0 : Int).toNat) then 1 else if (s17 726 (0 : Int).toNat) = v14 then 0 else -1) = 0 then C0_681 x4 (some (.inl v6)) (some (.inl v14)) (k + 2) (n + 12) s17 o else o = (.inl (some (.inl 0)), s17)) else C0_681 x4 (some (.inl v6)) (some (.inl v14)) (k + 2) (n + 12) s17 o) else o = (.inl (some (.inl 0)), s17)))))) : C0_616 x4 d5 d6 k n σ o := by
  show Gd 0 616 [(some (.inr (.inr (some SCR)))), (some (.inr (.inr (some 0)))), (some (.inr (.inr (some 682)))), (some (.inr (.inr (some 726)))), (some (.inl x4)), d5, d6] [] σ k n o
  refine g_aload_n 617 (opc_1 (by decide) (by decide +kernel) : op 0 616 = some (.aload_n 1, 1)) rfl rfl ?_
  refine g_aload_n 618 (opc_1 (by decide) (by decide +kernel) : op 0 617 = some (.aload_n 0, 1)) rfl rfl ?_
  refine g_iload 620 (opc_1 (by decide) (by decide +kernel) : op 0 618 = some (.iload 4, 2)) rfl rfl ?_
  refine g_iconst 621 (opc_1 (by decide) (by decide +kernel) : op 0 620 = some (.iconst 1, 1)) rfl rfl ?_
  obtain ⟨g1, h⟩ := h
  refine g_iadd 622 (opc_1 (by decide) (by decide +kernel) : op 0 621 = some (.iadd, 1)) rfl g1 ?_
  obtain ⟨g2, h⟩ := h
  refine g_scr 623 (opc_1 (by decide) (by decide +kernel) : op 0 622 = some (.iaload, 1)) rfl g2 ?_
  refine g_aload_n 624 (opc_1 (by decide) (by decide +kernel) : op 0 623 = some (.aload_n 0, 1)) rfl rfl ?_
  refine g_iload 626 (opc_1 (by decide) (by decide +kernel) : op 0 624 = some (.iload 4, 2)) rfl rfl ?_
  refine g_iconst 627 (opc_1 (by decide) (by decide +kernel) : op 0 626 = some (.iconst 2, 1)) rfl rfl ?_
  obtain ⟨g3, h⟩ := h
  refine g_iadd 628 (opc_1 (by decide) (by decide +kernel) : op 0 627 = some (.iadd, 1)) rfl g3 ?_
  obtain ⟨g4, h⟩ := h
  refine g_scr 629 (opc_1 (by decide) (by decide +kernel) : op 0 628 = some (.iaload, 1)) rfl g4 ?_
  refine g_aload_n 630 (opc_1 (by decide) (by decide +kernel) : op 0 629 = some (.aload_n 3, 1)) rfl rfl ?_
  obtain ⟨g8, h⟩ := h
  obtain ⟨v6, s5, hD7, h⟩ := h
  refine g_call 633 [(.inl v6)] (opc_1 (by decide) (by decide +kernel) : op 0 630 = some (.invokestatic 211, 3)) (call_stL (c := 2) (s := 12) (nj := 4) (j := 395) (t := []) (as := [(.inr (.inr (some 0))), (.inl (σ SCR ((x4 + 1)).toNat)), (.inl (σ SCR ((x4 + 2)).toNat)), (.inr (.inr (some 726)))]) (by decide +kernel) rfl (by decide +kernel) g8 rfl rfl rfl rfl rfl) hD7 rfl ?_
  refine g_istore 635 [(some (.inr (.inr (some SCR)))), (some (.inr (.inr (some 0)))), (some (.inr (.inr (some 682)))), (some (.inr (.inr (some 726)))), (some (.inl x4)), (some (.inl v6)), d6] (opc_1 (by decide) (by decide +kernel) : op 0 633 = some (.istore 5, 2)) rfl rfl rfl ?_
  refine g_aload_n 636 (opc_1 (by decide) (by decide +kernel) : op 0 635 = some (.aload_n 2, 1)) rfl rfl ?_
  refine g_aload_n 637 (opc_1 (by decide) (by decide +kernel) : op 0 636 = some (.aload_n 0, 1)) rfl rfl ?_
  refine g_iload 639 (opc_1 (by decide) (by decide +kernel) : op 0 637 = some (.iload 4, 2)) rfl rfl ?_
  refine g_iconst 640 (opc_1 (by decide) (by decide +kernel) : op 0 639 = some (.iconst 1, 1)) rfl rfl ?_
  obtain ⟨g9, h⟩ := h
  refine g_iadd 641 (opc_1 (by decide) (by decide +kernel) : op 0 640 = some (.iadd, 1)) rfl g9 ?_
  obtain ⟨g10, h⟩ := h
  refine g_scr 642 (opc_1 (by decide) (by decide +kernel) : op 0 641 = some (.iaload, 1)) rfl g10 ?_
  refine g_aload_n 643 (opc_1 (by decide) (by decide +kernel) : op 0 642 = some (.aload_n 0, 1)) rfl rfl ?_
  refine g_iload 645 (opc_1 (by decide) (by decide +kernel) : op 0 643 = some (.iload 4, 2)) rfl rfl ?_
  refine g_iconst 646 (opc_1 (by decide) (by decide +kernel) : op 0 645 = some (.iconst 2, 1)) rfl rfl ?_
  obtain ⟨g11, h⟩ := h
  refine g_iadd 647 (opc_1 (by decide) (by decide +kernel) : op 0 646 = some (.iadd, 1)) rfl g11 ?_
  obtain ⟨g12, h⟩ := h
  refine g_scr 648 (opc_1 (by decide) (by decide +kernel) : op 0 647 = some (.iaload, 1)) rfl g12 ?_
  obtain ⟨g16, h⟩ := h
  obtain ⟨v14, s13, hD15, h⟩ := h
  refine g_call 651 [(.inl v14)] (opc_1 (by decide) (by decide +kernel) : op 0 648 = some (.invokevirtual 213, 3)) (call_viL (c := 0) (s := 0) (nj := 3) (j := 262) (k9 := 21) (t := []) (as := [(.inr (.inr (some 682))), (.inl (s5 SCR ((x4 + 1)).toNat)), (.inl (s5 SCR ((x4 + 2)).toNat))]) (by decide +kernel) rfl (by decide +kernel) g16 rfl rfl rfl rfl rfl rfl (by decide +kernel) (by decide +kernel)) hD15 rfl ?_
  refine g_istore 653 [(some (.inr (.inr (some SCR)))), (some (.inr (.inr (some 0)))), (some (.inr (.inr (some 682)))), (some (.inr (.inr (some 726)))), (some (.inl x4)), (some (.inl v6)), (some (.inl v14))] (opc_1 (by decide) (by decide +kernel) : op 0 651 = some (.istore 6, 2)) rfl rfl rfl ?_
  refine g_aload_n 654 (opc_1 (by decide) (by decide +kernel) : op 0 653 = some (.aload_n 2, 1)) rfl rfl ?_
  obtain ⟨g20, h⟩ := h
  obtain ⟨v18, s17, hD19, h⟩ := h
  refine g_call 657 [(.inl v18)] (opc_1 (by decide) (by decide +kernel) : op 0 654 = some (.invokevirtual 194, 3)) (call_viL (c := 0) (s := 0) (nj := 1) (j := 244) (k9 := 21) (t := []) (as := [(.inr (.inr (some 682)))]) (by decide +kernel) rfl (by decide +kernel) g20 rfl rfl rfl rfl rfl rfl (by decide +kernel) (by decide +kernel)) hD19 rfl ?_
  refine g_iload 659 (opc_1 (by decide) (by decide +kernel) : op 0 657 = some (.iload 5, 2)) rfl rfl ?_
  by_cases hc21 : v18 = v6
  · rw [if_pos hc21] at h
    refine g_icmpT 664 (opc_1 (by decide) (by decide +kernel) : op 0 659 = some (.if_icmp .eq 5, 3)) rfl (decide_eq_true hc21) ?_
    refine g_iload 666 (opc_1 (by decide) (by decide +kernel) : op 0 664 = some (.iload 5, 2)) rfl rfl ?_
    by_cases hc22 : v6 = 0
    · rw [if_pos hc22] at h
      refine g_ifF 669 681 (opc_1 (by decide) (by decide +kernel) : op 0 666 = some (.ifCond .ne 15, 3)) rfl rfl (decide_eq_false (fun h9 => h9 hc22)) ?_
      refine g_aload_n 670 (opc_1 (by decide) (by decide +kernel) : op 0 669 = some (.aload_n 3, 1)) rfl rfl ?_
      refine g_iconst 671 (opc_1 (by decide) (by decide +kernel) : op 0 670 = some (.iconst 0, 1)) rfl rfl ?_
      refine g_laload 672 1 (opc_1 (by decide) (by decide +kernel) : op 0 671 = some (.laload, 1)) rfl (by decide +kernel) (by decide) ?_
      refine g_iload 674 (opc_1 (by decide) (by decide +kernel) : op 0 672 = some (.iload 6, 2)) rfl rfl ?_
      refine g_i2l 675 (opc_1 (by decide) (by decide +kernel) : op 0 674 = some (.i2l, 1)) rfl ?_
      refine g_lcmp 676 (opc_1 (by decide) (by decide +kernel) : op 0 675 = some (.lcmp, 1)) rfl ?_
      by_cases hc23 : (if v14 < (s17 726 (0 : Int).toNat) then 1 else if (s17 726 (0 : Int).toNat) = v14 then 0 else -1) = 0
      · rw [if_pos hc23] at h
        refine g_ifT 681 (opc_1 (by decide) (by decide +kernel) : op 0 676 = some (.ifCond .eq 5, 3)) rfl (decide_eq_true hc23) ?_
        exact h
      · rw [if_neg hc23] at h
        refine g_ifF 679 681 (opc_1 (by decide) (by decide +kernel) : op 0 676 = some (.ifCond .eq 5, 3)) rfl rfl (decide_eq_false hc23) ?_
        refine g_iconst 680 (opc_1 (by decide) (by decide +kernel) : op 0 679 = some (.iconst 0, 1)) rfl rfl ?_
        exact (g_zret (opc_1 (by decide) (by decide +kernel) : op 0 680 = some (.ireturn, 1)) (by decide +kernel) (by decide) h)
    · rw [if_neg hc22] at h
      refine g_ifT 681 (opc_1 (by decide) (by decide +kernel) : op 0 666 = some (.ifCond .ne 15, 3)) rfl (decide_eq_true hc22) ?_
      exact h
  · rw [if_neg hc21] at h
    refine g_icmpF 662 664 (opc_1 (by decide) (by decide +kernel) : op 0 659 = some (.if_icmp .eq 5, 3)) rfl rfl (decide_eq_false hc21) ?_
    refine g_iconst 663 (opc_1 (by decide) (by decide +kernel) : op 0 662 = some (.iconst 0, 1)) rfl rfl ?_
    exact (g_zret (opc_1 (by decide) (by decide +kernel) : op 0 663 = some (.ireturn, 1)) (by decide +kernel) (by decide) h)
theorem b0_684 {x4 : Int} {d5 : Option AV} {d6 : Option AV} {k : Nat} {n : Nat} {σ : Sg} {o : Rs} (h : (-2147483648 ≤ (x4 + 1) ∧ (x4 + 1) ≤ 2147483647) ∧ (0 ≤ (x4 + 1) ∧ (x4 + 1) < σ (SCR + 1) 0) ∧ (-2147483648 ≤ (x4 + 2) ∧ (x4 + 2) ≤ 2147483647) ∧ (0 ≤ (x4 + 2) ∧ (x4 + 2) < σ (SCR + 1) 0) ∧ (-2147483648 ≤ (x4 + 3) ∧ (x4 + 3) ≤ 2147483647) ∧ (0 ≤ (x4 + 3) ∧ (x4 + 3) < σ (SCR + 1) 0) ∧ (-2147483648 ≤ (x4 + 4) ∧ (x4 + 4) ≤ 2147483647) ∧ (0 ≤ (x4 + 4) ∧ (x4 + 4) < σ (SCR + 1) 0) ∧ ((k + 4) ≤ room_1.cells ∧ (n + 24) ≤ room_1.slots) ∧ (∃ (v10 : Int) (s9 : Sg), Dd 396 [(.inr (.inr (some 0))), (.inl (σ SCR ((x4 + 1)).toNat)), (.inl (σ SCR ((x4 + 2)).toNat)), (.inl (σ SCR ((x4 + 3)).toNat)), (.inl (σ SCR ((x4 + 4)).toNat)), (.inr (.inr (some 726)))] σ (.inl (some (.inl v10)), s9) ∧ (-2147483648 ≤ (x4 + 1) ∧ (x4 + 1) ≤ 2147483647) ∧ (0 ≤ (x4 + 1) ∧ (x4 + 1) < s9 (SCR + 1) 0) ∧ (-2147483648 ≤ (x4 + 2) ∧ (x4 + 2) ≤ 2147483647) ∧ (0 ≤ (x4 + 2) ∧ (x4 + 2) < s9 (SCR + 1) 0) ∧ (-2147483648 ≤ (x4 + 3) ∧ (x4 + 3) ≤ 2147483647) ∧ (0 ≤ (x4 + 3) ∧ (x4 + 3) < s9 (SCR + 1) 0) ∧ (-2147483648 ≤ (x4 + 4) ∧ (x4 + 4) ≤ 2147483647) ∧ (0 ≤ (x4 + 4) ∧ (x4 + 4) < s9 (SCR + 1) 0) ∧ ((k + 4) ≤ room_1.cells ∧ (n + 24) ≤ room_1.slots) ∧ (∃ (v22 : Int) (s21 : Sg), Dd 277 [(.inr (.inr (some 682))), (.inl (s9 SCR ((x4 + 1)).toNat)), (.inl (s9 SCR ((x4 + 2)).toNat)), (.inl (s9 SCR ((x4 + 3)).toNat)), (.inl (s9 SCR ((x4 + 4)).toNat))] s9 (.inl (some (.inl v22)), s21) ∧ ((k + 4) ≤ room_1.cells ∧ (n + 24) ≤ room_1.slots) ∧ (∃ (v26 : Int) (s25 : Sg), Dd 244 [(.inr (.inr (some 682)))] s21 (.inl (some (.inl v26)), s25) ∧ (if v26 = v10 then (if v10 = 0 then (if (if v22 < (s25 726 (0 : Int).toNat) then 1 else if (s25 726 (0 : Int).toNat) = v22 then 0 else -1) = 0 then C0_773 x4 (some (.inl v10)) (some (.inl v22)) (k + 4) (n + 24) s25 o else o = (.inl (some (.inl 0)), s25)) else C0_773 x4 (some (.inl v10)) (some (.inl v22)) (k + 4) (n + 24) s25 o) else o = (.inl (some (.inl 0)), s25)))))) : C0_684 x4 d5 d6 k n σ o := by
  show Gd 0 684 [(some (.inr (.inr (some SCR)))), (some (.inr (.inr (some 0)))), (some (.inr (.inr (some 682)))), (some (.inr (.inr (some 726)))), (some (.inl x4)), d5, d6] [] σ k n o
  refine g_aload_n 685 (opc_1 (by decide) (by decide +kernel) : op 0 684 = some (.aload_n 1, 1)) rfl rfl ?_
  refine g_aload_n 686 (opc_1 (by decide) (by decide +kernel) : op 0 685 = some (.aload_n 0, 1)) rfl rfl ?_
  refine g_iload 688 (opc_1 (by decide) (by decide +kernel) : op 0 686 = some (.iload 4, 2)) rfl rfl ?_
  refine g_iconst 689 (opc_1 (by decide) (by decide +kernel) : op 0 688 = some (.iconst 1, 1)) rfl rfl ?_
  obtain ⟨g1, h⟩ := h
  refine g_iadd 690 (opc_1 (by decide) (by decide +kernel) : op 0 689 = some (.iadd, 1)) rfl g1 ?_
  obtain ⟨g2, h⟩ := h
  refine g_scr 691 (opc_1 (by decide) (by decide +kernel) : op 0 690 = some (.iaload, 1)) rfl g2 ?_
  refine g_aload_n 692 (opc_1 (by decide) (by decide +kernel) : op 0 691 = some (.aload_n 0, 1)) rfl rfl ?_
  refine g_iload 694 (opc_1 (by decide) (by decide +kernel) : op 0 692 = some (.iload 4, 2)) rfl rfl ?_
  refine g_iconst 695 (opc_1 (by decide) (by decide +kernel) : op 0 694 = some (.iconst 2, 1)) rfl rfl ?_
  obtain ⟨g3, h⟩ := h
  refine g_iadd 696 (opc_1 (by decide) (by decide +kernel) : op 0 695 = some (.iadd, 1)) rfl g3 ?_
  obtain ⟨g4, h⟩ := h
  refine g_scr 697 (opc_1 (by decide) (by decide +kernel) : op 0 696 = some (.iaload, 1)) rfl g4 ?_
  refine g_aload_n 698 (opc_1 (by decide) (by decide +kernel) : op 0 697 = some (.aload_n 0, 1)) rfl rfl ?_
  refine g_iload 700 (opc_1 (by decide) (by decide +kernel) : op 0 698 = some (.iload 4, 2)) rfl rfl ?_
  refine g_iconst 701 (opc_1 (by decide) (by decide +kernel) : op 0 700 = some (.iconst 3, 1)) rfl rfl ?_
  obtain ⟨g5, h⟩ := h
  refine g_iadd 702 (opc_1 (by decide) (by decide +kernel) : op 0 701 = some (.iadd, 1)) rfl g5 ?_
  obtain ⟨g6, h⟩ := h
  refine g_scr 703 (opc_1 (by decide) (by decide +kernel) : op 0 702 = some (.iaload, 1)) rfl g6 ?_
  refine g_aload_n 704 (opc_1 (by decide) (by decide +kernel) : op 0 703 = some (.aload_n 0, 1)) rfl rfl ?_
  refine g_iload 706 (opc_1 (by decide) (by decide +kernel) : op 0 704 = some (.iload 4, 2)) rfl rfl ?_
  refine g_iconst 707 (opc_1 (by decide) (by decide +kernel) : op 0 706 = some (.iconst 4, 1)) rfl rfl ?_
  obtain ⟨g7, h⟩ := h
  refine g_iadd 708 (opc_1 (by decide) (by decide +kernel) : op 0 707 = some (.iadd, 1)) rfl g7 ?_
  obtain ⟨g8, h⟩ := h
  refine g_scr 709 (opc_1 (by decide) (by decide +kernel) : op 0 708 = some (.iaload, 1)) rfl g8 ?_
  refine g_aload_n 710 (opc_1 (by decide) (by decide +kernel) : op 0 709 = some (.aload_n 3, 1)) rfl rfl ?_
  obtain ⟨g12, h⟩ := h
  obtain ⟨v10, s9, hD11, h⟩ := h
  refine g_call 713 [(.inl v10)] (opc_1 (by decide) (by decide +kernel) : op 0 710 = some (.invokestatic 214, 3)) (call_stL (c := 4) (s := 24) (nj := 6) (j := 396) (t := []) (as := [(.inr (.inr (some 0))), (.inl (σ SCR ((x4 + 1)).toNat)), (.inl (σ SCR ((x4 + 2)).toNat)), (.inl (σ SCR ((x4 + 3)).toNat)), (.inl (σ SCR ((x4 + 4)).toNat)), (.inr (.inr (some 726)))]) (by decide +kernel) rfl (by decide +kernel) g12 rfl rfl rfl rfl rfl) hD11 rfl ?_
  refine g_istore 715 [(some (.inr (.inr (some SCR)))), (some (.inr (.inr (some 0)))), (some (.inr (.inr (some 682)))), (some (.inr (.inr (some 726)))), (some (.inl x4)), (some (.inl v10)), d6] (opc_1 (by decide) (by decide +kernel) : op 0 713 = some (.istore 5, 2)) rfl rfl rfl ?_
  refine g_aload_n 716 (opc_1 (by decide) (by decide +kernel) : op 0 715 = some (.aload_n 2, 1)) rfl rfl ?_
  refine g_aload_n 717 (opc_1 (by decide) (by decide +kernel) : op 0 716 = some (.aload_n 0, 1)) rfl rfl ?_
  refine g_iload 719 (opc_1 (by decide) (by decide +kernel) : op 0 717 = some (.iload 4, 2)) rfl rfl ?_
  refine g_iconst 720 (opc_1 (by decide) (by decide +kernel) : op 0 719 = some (.iconst 1, 1)) rfl rfl ?_
  obtain ⟨g13, h⟩ := h
  refine g_iadd 721 (opc_1 (by decide) (by decide +kernel) : op 0 720 = some (.iadd, 1)) rfl g13 ?_
  obtain ⟨g14, h⟩ := h
  refine g_scr 722 (opc_1 (by decide) (by decide +kernel) : op 0 721 = some (.iaload, 1)) rfl g14 ?_
  refine g_aload_n 723 (opc_1 (by decide) (by decide +kernel) : op 0 722 = some (.aload_n 0, 1)) rfl rfl ?_
  refine g_iload 725 (opc_1 (by decide) (by decide +kernel) : op 0 723 = some (.iload 4, 2)) rfl rfl ?_
  refine g_iconst 726 (opc_1 (by decide) (by decide +kernel) : op 0 725 = some (.iconst 2, 1)) rfl rfl ?_
  obtain ⟨g15, h⟩ := h
  refine g_iadd 727 (opc_1 (by decide) (by decide +kernel) : op 0 726 = some (.iadd, 1)) rfl g15 ?_
  obtain ⟨g16, h⟩ := h
  refine g_scr 728 (opc_1 (by decide) (by decide +kernel) : op 0 727 = some (.iaload, 1)) rfl g16 ?_
  refine g_aload_n 729 (opc_1 (by decide) (by decide +kernel) : op 0 728 = some (.aload_n 0, 1)) rfl rfl ?_
  refine g_iload 731 (opc_1 (by decide) (by decide +kernel) : op 0 729 = some (.iload 4, 2)) rfl rfl ?_
  refine g_iconst 732 (opc_1 (by decide) (by decide +kernel) : op 0 731 = some (.iconst 3, 1)) rfl rfl ?_
  obtain ⟨g17, h⟩ := h
  refine g_iadd 733 (opc_1 (by decide) (by decide +kernel) : op 0 732 = some (.iadd, 1)) rfl g17 ?_
  obtain ⟨g18, h⟩ := h
  refine g_scr 734 (opc_1 (by decide) (by decide +kernel) : op 0 733 = some (.iaload, 1)) rfl g18 ?_
  refine g_aload_n 735 (opc_1 (by decide) (by decide +kernel) : op 0 734 = some (.aload_n 0, 1)) rfl rfl ?_
  refine g_iload 737 (opc_1 (by decide) (by decide +kernel) : op 0 735 = some (.iload 4, 2)) rfl rfl ?_
  refine g_iconst 738 (opc_1 (by decide) (by decide +kernel) : op 0 737 = some (.iconst 4, 1)) rfl rfl ?_
  obtain ⟨g19, h⟩ := h
  refine g_iadd 739 (opc_1 (by decide) (by decide +kernel) : op 0 738 = some (.iadd, 1)) rfl g19 ?_
  obtain ⟨g20, h⟩ := h
  refine g_scr 740 (opc_1 (by decide) (by decide +kernel) : op 0 739 = some (.iaload, 1)) rfl g20 ?_
  obtain ⟨g24, h⟩ := h
  obtain ⟨v22, s21, hD23, h⟩ := h
  refine g_call 743 [(.inl v22)] (opc_1 (by decide) (by decide +kernel) : op 0 740 = some (.invokevirtual 217, 3)) (call_viL (c := 0) (s := 0) (nj := 5) (j := 277) (k9 := 21) (t := []) (as := [(.inr (.inr (some 682))), (.inl (s9 SCR ((x4 + 1)).toNat)), (.inl (s9 SCR ((x4 + 2)).toNat)), (.inl (s9 SCR ((x4 + 3)).toNat)), (.inl (s9 SCR ((x4 + 4)).toNat))]) (by decide +kernel) rfl (by decide +kernel) g24 rfl rfl rfl rfl rfl rfl (by decide +kernel) (by decide +kernel)) hD23 rfl ?_
  refine g_istore 745 [(some (.inr (.inr (some SCR)))), (some (.inr (.inr (some 0)))), (some (.inr (.inr (some 682)))), (some (.inr (.inr (some 726)))), (some (.inl x4)), (some (.inl v10)), (some (.inl v22))] (opc_1 (by decide) (by decide +kernel) : op 0 743 = some (.istore 6, 2)) rfl rfl rfl ?_
  refine g_aload_n 746 (opc_1 (by decide) (by decide +kernel) : op 0 745 = some (.aload_n 2, 1)) rfl rfl ?_
  obtain ⟨g28, h⟩ := h
  obtain ⟨v26, s25, hD27, h⟩ := h
  refine g_call 749 [(.inl v26)] (opc_1 (by decide) (by decide +kernel) : op 0 746 = some (.invokevirtual 194, 3)) (call_viL (c := 0) (s := 0) (nj := 1) (j := 244) (k9 := 21) (t := []) (as := [(.inr (.inr (some 682)))]) (by decide +kernel) rfl (by decide +kernel) g28 rfl rfl rfl rfl rfl rfl (by decide +kernel) (by decide +kernel)) hD27 rfl ?_
  refine g_iload 751 (opc_1 (by decide) (by decide +kernel) : op 0 749 = some (.iload 5, 2)) rfl rfl ?_
  by_cases hc29 : v26 = v10
  · rw [if_pos hc29] at h
    refine g_icmpT 756 (opc_1 (by decide) (by decide +kernel) : op 0 751 = some (.if_icmp .eq 5, 3)) rfl (decide_eq_true hc29) ?_
    refine g_iload 758 (opc_1 (by decide) (by decide +kernel) : op 0 756 = some (.iload 5, 2)) rfl rfl ?_
    by_cases hc30 : v10 = 0
    · rw [if_pos hc30] at h
      refine g_ifF 761 773 (opc_1 (by decide) (by decide +kernel) : op 0 758 = some (.ifCond .ne 15, 3)) rfl rfl (decide_eq_false (fun h9 => h9 hc30)) ?_
      refine g_aload_n 762 (opc_1 (by decide) (by decide +kernel) : op 0 761 = some (.aload_n 3, 1)) rfl rfl ?_
      refine g_iconst 763 (opc_1 (by decide) (by decide +kernel) : op 0 762 = some (.iconst 0, 1)) rfl rfl ?_
      refine g_laload 764 1 (opc_1 (by decide) (by decide +kernel) : op 0 763 = some (.laload, 1)) rfl (by decide +kernel) (by decide) ?_
      refine g_iload 766 (opc_1 (by decide) (by decide +kernel) : op 0 764 = some (.iload 6, 2)) rfl rfl ?_
      refine g_i2l 767 (opc_1 (by decide) (by decide +kernel) : op 0 766 = some (.i2l, 1)) rfl ?_
      refine g_lcmp 768 (opc_1 (by decide) (by decide +kernel) : op 0 767 = some (.lcmp, 1)) rfl ?_
      by_cases hc31 : (if v22 < (s25 726 (0 : Int).toNat) then 1 else if (s25 726 (0 : Int).toNat) = v22 then 0 else -1) = 0
      · rw [if_pos hc31] at h
        refine g_ifT 773 (opc_1 (by decide) (by decide +kernel) : op 0 768 = some (.ifCond .eq 5, 3)) rfl (decide_eq_true hc31) ?_
        exact h
      · rw [if_neg hc31] at h
        refine g_ifF 771 773 (opc_1 (by decide) (by decide +kernel) : op 0 768 = some (.ifCond .eq 5, 3)) rfl rfl (decide_eq_false hc31) ?_
        refine g_iconst 772 (opc_1 (by decide) (by decide +kernel) : op 0 771 = some (.iconst 0, 1)) rfl rfl ?_
        exact (g_zret (opc_1 (by decide) (by decide +kernel) : op 0 772 = some (.ireturn, 1)) (by decide +kernel) (by decide) h)
    · rw [if_neg hc30] at h
      refine g_ifT 773 (opc_1 (by decide) (by decide +kernel) : op 0 758 = some (.ifCond .ne 15, 3)) rfl (decide_eq_true hc30) ?_
      exact h
  · rw [if_neg hc29] at h
    refine g_icmpF 754 756 (opc_1 (by decide) (by decide +kernel) : op 0 751 = some (.if_icmp .eq 5, 3)) rfl rfl (decide_eq_false hc29) ?_
    refine g_iconst 755 (opc_1 (by decide) (by decide +kernel) : op 0 754 = some (.iconst 0, 1)) rfl rfl ?_
    exact (g_zret (opc_1 (by decide) (by decide +kernel) : op 0 755 = some (.ireturn, 1)) (by decide +kernel) (by decide) h)
theorem b0_776 {x4 : Int} {d5 : Option AV} {d6 : Option AV} {k : Nat} {n : Nat} {σ : Sg} {o : Rs} (h : (-2147483648 ≤ (x4 + 1) ∧ (x4 + 1) ≤ 2147483647) ∧ (0 ≤ (x4 + 1) ∧ (x4 + 1) < σ (SCR + 1) 0) ∧ (-2147483648 ≤ (x4 + 2) ∧ (x4 + 2) ≤ 2147483647) ∧ (0 ≤ (x4 + 2) ∧ (x4 + 2) < σ (SCR + 1) 0) ∧ (-2147483648 ≤ (x4 + 3) ∧ (x4 + 3) ≤ 2147483647) ∧ (0 ≤ (x4 + 3) ∧ (x4 + 3) < σ (SCR + 1) 0) ∧ ((k + 3) ≤ room_1.cells ∧ (n + 18) ≤ room_1.slots) ∧ (∃ (v8 : Int) (s7 : Sg), Dd 397 [(.inr (.inr (some 0))), (.inl (σ SCR ((x4 + 1)).toNat)), (.inl (σ SCR ((x4 + 2)).toNat)), (.inl (σ SCR ((x4 + 3)).toNat)), (.inr (.inr (some 726)))] σ (.inl (some (.inl v8)), s7) ∧ (-2147483648 ≤ (x4 + 1) ∧ (x4 + 1) ≤ 2147483647) ∧ (0 ≤ (x4 + 1) ∧ (x4 + 1) < s7 (SCR + 1) 0) ∧ (-2147483648 ≤ (x4 + 2) ∧ (x4 + 2) ≤ 2147483647) ∧ (0 ≤ (x4 + 2) ∧ (x4 + 2) < s7 (SCR + 1) 0) ∧ (-2147483648 ≤ (x4 + 3) ∧ (x4 + 3) ≤ 2147483647) ∧ (0 ≤ (x4 + 3) ∧ (x4 + 3) < s7 (SCR + 1) 0) ∧ ((k + 3) ≤ room_1.cells ∧ (n + 18) ≤ room_1.slots) ∧ (∃ (v18 : Int) (s17 : Sg), Dd 278 [(.inr (.inr (some 682))), (.inl (s7 SCR ((x4 + 1)).toNat)), (.inl (s7 SCR ((x4 + 2)).toNat)), (.inl (s7 SCR ((x4 + 3)).toNat))] s7 (.inl (some (.inl v18)), s17) ∧ ((k + 3) ≤ room_1.cells ∧ (n + 18) ≤ room_1.slots) ∧ (∃ (v22 : Int) (s21 : Sg), Dd 244 [(.inr (.inr (some 682)))] s17 (.inl (some (.inl v22)), s21) ∧ (if v22 = v8 then (if v8 = 0 then (if (if v18 < (s21 726 (0 : Int).toNat) then 1 else if (s21 726 (0 : Int).toNat) = v18 then 0 else -1) = 0 then C0_853 x4 (some (.inl v8)) (some (.inl v18)) (k + 3) (n + 18) s21 o else o = (.inl (some (.inl 0)), s21)) else C0_853 x4 (some (.inl v8)) (some (.inl v18)) (k + 3) (n + 18) s21 o) else o = (.inl (some (.inl 0)), s21)))))) : C0_776 x4 d5 d6 k n σ o := by
  show Gd 0 776 [(some (.inr (.inr (some SCR)))), (some (.inr (.inr (some 0)))), (some (.inr (.inr (some 682)))), (some (.inr (.inr (some 726)))), (some (.inl x4)), d5, d6] [] σ k n o
  refine g_aload_n 777 (opc_1 (by decide) (by decide +kernel) : op 0 776 = some (.aload_n 1, 1)) rfl rfl ?_
  refine g_aload_n 778 (opc_1 (by decide) (by decide +kernel) : op 0 777 = some (.aload_n 0, 1)) rfl rfl ?_
  refine g_iload 780 (opc_1 (by decide) (by decide +kernel) : op 0 778 = some (.iload 4, 2)) rfl rfl ?_
  refine g_iconst 781 (opc_1 (by decide) (by decide +kernel) : op 0 780 = some (.iconst 1, 1)) rfl rfl ?_
  obtain ⟨g1, h⟩ := h
  refine g_iadd 782 (opc_1 (by decide) (by decide +kernel) : op 0 781 = some (.iadd, 1)) rfl g1 ?_
  obtain ⟨g2, h⟩ := h
  refine g_scr 783 (opc_1 (by decide) (by decide +kernel) : op 0 782 = some (.iaload, 1)) rfl g2 ?_
  refine g_aload_n 784 (opc_1 (by decide) (by decide +kernel) : op 0 783 = some (.aload_n 0, 1)) rfl rfl ?_
  refine g_iload 786 (opc_1 (by decide) (by decide +kernel) : op 0 784 = some (.iload 4, 2)) rfl rfl ?_
  refine g_iconst 787 (opc_1 (by decide) (by decide +kernel) : op 0 786 = some (.iconst 2, 1)) rfl rfl ?_
  obtain ⟨g3, h⟩ := h
  refine g_iadd 788 (opc_1 (by decide) (by decide +kernel) : op 0 787 = some (.iadd, 1)) rfl g3 ?_
  obtain ⟨g4, h⟩ := h
  refine g_scr 789 (opc_1 (by decide) (by decide +kernel) : op 0 788 = some (.iaload, 1)) rfl g4 ?_
  refine g_aload_n 790 (opc_1 (by decide) (by decide +kernel) : op 0 789 = some (.aload_n 0, 1)) rfl rfl ?_
  refine g_iload 792 (opc_1 (by decide) (by decide +kernel) : op 0 790 = some (.iload 4, 2)) rfl rfl ?_
  refine g_iconst 793 (opc_1 (by decide) (by decide +kernel) : op 0 792 = some (.iconst 3, 1)) rfl rfl ?_
  obtain ⟨g5, h⟩ := h
  refine g_iadd 794 (opc_1 (by decide) (by decide +kernel) : op 0 793 = some (.iadd, 1)) rfl g5 ?_
  obtain ⟨g6, h⟩ := h
  refine g_scr 795 (opc_1 (by decide) (by decide +kernel) : op 0 794 = some (.iaload, 1)) rfl g6 ?_
  refine g_aload_n 796 (opc_1 (by decide) (by decide +kernel) : op 0 795 = some (.aload_n 3, 1)) rfl rfl ?_
  obtain ⟨g10, h⟩ := h
  obtain ⟨v8, s7, hD9, h⟩ := h
  refine g_call 799 [(.inl v8)] (opc_1 (by decide) (by decide +kernel) : op 0 796 = some (.invokestatic 218, 3)) (call_stL (c := 3) (s := 18) (nj := 5) (j := 397) (t := []) (as := [(.inr (.inr (some 0))), (.inl (σ SCR ((x4 + 1)).toNat)), (.inl (σ SCR ((x4 + 2)).toNat)), (.inl (σ SCR ((x4 + 3)).toNat)), (.inr (.inr (some 726)))]) (by decide +kernel) rfl (by decide +kernel) g10 rfl rfl rfl rfl rfl) hD9 rfl ?_
  refine g_istore 801 [(some (.inr (.inr (some SCR)))), (some (.inr (.inr (some 0)))), (some (.inr (.inr (some 682)))), (some (.inr (.inr (some 726)))), (some (.inl x4)), (some (.inl v8)), d6] (opc_1 (by decide) (by decide +kernel) : op 0 799 = some (.istore 5, 2)) rfl rfl rfl ?_
  refine g_aload_n 802 (opc_1 (by decide) (by decide +kernel) : op 0 801 = some (.aload_n 2, 1)) rfl rfl ?_
  refine g_aload_n 803 (opc_1 (by decide) (by decide +kernel) : op 0 802 = some (.aload_n 0, 1)) rfl rfl ?_
  refine g_iload 805 (opc_1 (by decide) (by decide +kernel) : op 0 803 = some (.iload 4, 2)) rfl rfl ?_
  refine g_iconst 806 (opc_1 (by decide) (by decide +kernel) : op 0 805 = some (.iconst 1, 1)) rfl rfl ?_
  obtain ⟨g11, h⟩ := h
  refine g_iadd 807 (opc_1 (by decide) (by decide +kernel) : op 0 806 = some (.iadd, 1)) rfl g11 ?_
  obtain ⟨g12, h⟩ := h
  refine g_scr 808 (opc_1 (by decide) (by decide +kernel) : op 0 807 = some (.iaload, 1)) rfl g12 ?_
  refine g_aload_n 809 (opc_1 (by decide) (by decide +kernel) : op 0 808 = some (.aload_n 0, 1)) rfl rfl ?_
  refine g_iload 811 (opc_1 (by decide) (by decide +kernel) : op 0 809 = some (.iload 4, 2)) rfl rfl ?_
  refine g_iconst 812 (opc_1 (by decide) (by decide +kernel) : op 0 811 = some (.iconst 2, 1)) rfl rfl ?_
  obtain ⟨g13, h⟩ := h
  refine g_iadd 813 (opc_1 (by decide) (by decide +kernel) : op 0 812 = some (.iadd, 1)) rfl g13 ?_
  obtain ⟨g14, h⟩ := h
  refine g_scr 814 (opc_1 (by decide) (by decide +kernel) : op 0 813 = some (.iaload, 1)) rfl g14 ?_
  refine g_aload_n 815 (opc_1 (by decide) (by decide +kernel) : op 0 814 = some (.aload_n 0, 1)) rfl rfl ?_
  refine g_iload 817 (opc_1 (by decide) (by decide +kernel) : op 0 815 = some (.iload 4, 2)) rfl rfl ?_
  refine g_iconst 818 (opc_1 (by decide) (by decide +kernel) : op 0 817 = some (.iconst 3, 1)) rfl rfl ?_
  obtain ⟨g15, h⟩ := h
  refine g_iadd 819 (opc_1 (by decide) (by decide +kernel) : op 0 818 = some (.iadd, 1)) rfl g15 ?_
  obtain ⟨g16, h⟩ := h
  refine g_scr 820 (opc_1 (by decide) (by decide +kernel) : op 0 819 = some (.iaload, 1)) rfl g16 ?_
  obtain ⟨g20, h⟩ := h
  obtain ⟨v18, s17, hD19, h⟩ := h
  refine g_call 823 [(.inl v18)] (opc_1 (by decide) (by decide +kernel) : op 0 820 = some (.invokevirtual 220, 3)) (call_viL (c := 0) (s := 0) (nj := 4) (j := 278) (k9 := 21) (t := []) (as := [(.inr (.inr (some 682))), (.inl (s7 SCR ((x4 + 1)).toNat)), (.inl (s7 SCR ((x4 + 2)).toNat)), (.inl (s7 SCR ((x4 + 3)).toNat))]) (by decide +kernel) rfl (by decide +kernel) g20 rfl rfl rfl rfl rfl rfl (by decide +kernel) (by decide +kernel)) hD19 rfl ?_
  refine g_istore 825 [(some (.inr (.inr (some SCR)))), (some (.inr (.inr (some 0)))), (some (.inr (.inr (some 682)))), (some (.inr (.inr (some 726)))), (some (.inl x4)), (some (.inl v8)), (some (.inl v18))] (opc_1 (by decide) (by decide +kernel) : op 0 823 = some (.istore 6, 2)) rfl rfl rfl ?_
  refine g_aload_n 826 (opc_1 (by decide) (by decide +kernel) : op 0 825 = some (.aload_n 2, 1)) rfl rfl ?_
  obtain ⟨g24, h⟩ := h
  obtain ⟨v22, s21, hD23, h⟩ := h
  refine g_call 829 [(.inl v22)] (opc_1 (by decide) (by decide +kernel) : op 0 826 = some (.invokevirtual 194, 3)) (call_viL (c := 0) (s := 0) (nj := 1) (j := 244) (k9 := 21) (t := []) (as := [(.inr (.inr (some 682)))]) (by decide +kernel) rfl (by decide +kernel) g24 rfl rfl rfl rfl rfl rfl (by decide +kernel) (by decide +kernel)) hD23 rfl ?_
  refine g_iload 831 (opc_1 (by decide) (by decide +kernel) : op 0 829 = some (.iload 5, 2)) rfl rfl ?_
  by_cases hc25 : v22 = v8
  · rw [if_pos hc25] at h
    refine g_icmpT 836 (opc_2 (by decide) (by decide +kernel) : op 0 831 = some (.if_icmp .eq 5, 3)) rfl (decide_eq_true hc25) ?_
    refine g_iload 838 (opc_2 (by decide) (by decide +kernel) : op 0 836 = some (.iload 5, 2)) rfl rfl ?_
    by_cases hc26 : v8 = 0
    · rw [if_pos hc26] at h
      refine g_ifF 841 853 (opc_2 (by decide) (by decide +kernel) : op 0 838 = some (.ifCond .ne 15, 3)) rfl rfl (decide_eq_false (fun h9 => h9 hc26)) ?_
      refine g_aload_n 842 (opc_2 (by decide) (by decide +kernel) : op 0 841 = some (.aload_n 3, 1)) rfl rfl ?_
      refine g_iconst 843 (opc_2 (by decide) (by decide +kernel) : op 0 842 = some (.iconst 0, 1)) rfl rfl ?_
      refine g_laload 844 1 (opc_2 (by decide) (by decide +kernel) : op 0 843 = some (.laload, 1)) rfl (by decide +kernel) (by decide) ?_
      refine g_iload 846 (opc_2 (by decide) (by decide +kernel) : op 0 844 = some (.iload 6, 2)) rfl rfl ?_
      refine g_i2l 847 (opc_2 (by decide) (by decide +kernel) : op 0 846 = some (.i2l, 1)) rfl ?_
      refine g_lcmp 848 (opc_2 (by decide) (by decide +kernel) : op 0 847 = some (.lcmp, 1)) rfl ?_
      by_cases hc27 : (if v18 < (s21 726 (0 : Int).toNat) then 1 else if (s21 726 (0 : Int).toNat) = v18 then 0 else -1) = 0
      · rw [if_pos hc27] at h
        refine g_ifT 853 (opc_2 (by decide) (by decide +kernel) : op 0 848 = some (.ifCond .eq 5, 3)) rfl (decide_eq_true hc27) ?_
        exact h
      · rw [if_neg hc27] at h
        refine g_ifF 851 853 (opc_2 (by decide) (by decide +kernel) : op 0 848 = some (.ifCond .eq 5, 3)) rfl rfl (decide_eq_false hc27) ?_
        refine g_iconst 852 (opc_2 (by decide) (by decide +kernel) : op 0 851 = some (.iconst 0, 1)) rfl rfl ?_
        exact (g_zret (opc_2 (by decide) (by decide +kernel) : op 0 852 = some (.ireturn, 1)) (by decide +kernel) (by decide) h)
    · rw [if_neg hc26] at h
      refine g_ifT 853 (opc_2 (by decide) (by decide +kernel) : op 0 838 = some (.ifCond .ne 15, 3)) rfl (decide_eq_true hc26) ?_
      exact h
  · rw [if_neg hc25] at h
    refine g_icmpF 834 836 (opc_2 (by decide) (by decide +kernel) : op 0 831 = some (.if_icmp .eq 5, 3)) rfl rfl (decide_eq_false hc25) ?_
    refine g_iconst 835 (opc_2 (by decide) (by decide +kernel) : op 0 834 = some (.iconst 0, 1)) rfl rfl ?_
    exact (g_zret (opc_2 (by decide) (by decide +kernel) : op 0 835 = some (.ireturn, 1)) (by decide +kernel) (by decide) h)
theorem b0_856 {x4 : Int} {d5 : Option AV} {d6 : Option AV} {k : Nat} {n : Nat} {σ : Sg} {o : Rs} (h : (-2147483648 ≤ (x4 + 1) ∧ (x4 + 1) ≤ 2147483647) ∧ (0 ≤ (x4 + 1) ∧ (x4 + 1) < σ (SCR + 1) 0) ∧ (-2147483648 ≤ (x4 + 2) ∧ (x4 + 2) ≤ 2147483647) ∧ (0 ≤ (x4 + 2) ∧ (x4 + 2) < σ (SCR + 1) 0) ∧ ((k + 2) ≤ room_1.cells ∧ (n + 12) ≤ room_1.slots) ∧ (∃ (v6 : Int) (s5 : Sg), Dd 398 [(.inr (.inr (some 0))), (.inl (σ SCR ((x4 + 1)).toNat)), (.inl (σ SCR ((x4 + 2)).toNat)), (.inr (.inr (some 726)))] σ (.inl (some (.inl v6)), s5) ∧ (-2147483648 ≤ (x4 + 1) ∧ (x4 + 1) ≤ 2147483647) ∧ (0 ≤ (x4 + 1) ∧ (x4 + 1) < s5 (SCR + 1) 0) ∧ (-2147483648 ≤ (x4 + 2) ∧ (x4 + 2) ≤ 2147483647) ∧ (0 ≤ (x4 + 2) ∧ (x4 + 2) < s5 (SCR + 1) 0) ∧ ((k + 2) ≤ room_1.cells ∧ (n + 12) ≤ room_1.slots) ∧ (∃ (v14 : Int) (s13 : Sg), Dd 279 [(.inr (.inr (some 682))), (.inl (s5 SCR ((x4 + 1)).toNat)), (.inl (s5 SCR ((x4 + 2)).toNat))] s5 (.inl (some (.inl v14)), s13) ∧ ((k + 2) ≤ room_1.cells ∧ (n + 12) ≤ room_1.slots) ∧ (∃ (v18 : Int) (s17 : Sg), Dd 244 [(.inr (.inr (some 682)))] s13 (.inl (some (.inl v18)), s17) ∧ (if v18 = v6 then (if v6 = 0 then (if (if v14 < (s17 726 (0 : Int).toNat) then 1 else if (s17 726 (0 : Int).toNat) = v14 then 0 else -1) = 0 then C0_921 x4 (some (.inl v6)) (some (.inl v14)) (k + 2) (n + 12) s17 o else o = (.inl (some (.inl 0)), s17)) else C0_921 x4 (some (.inl v6)) (some (.inl v14)) (k + 2) (n + 12) s17 o) else o = (.inl (some (.inl 0)), s17)))))) : C0_856 x4 d5 d6 k n σ o := by
  show Gd 0 856 [(some (.inr (.inr (some SCR)))), (some (.inr (.inr (some 0)))), (some (.inr (.inr (some 682)))), (some (.inr (.inr (some 726)))), (some (.inl x4)), d5, d6] [] σ k n o
  refine g_aload_n 857 (opc_2 (by decide) (by decide +kernel) : op 0 856 = some (.aload_n 1, 1)) rfl rfl ?_
  refine g_aload_n 858 (opc_2 (by decide) (by decide +kernel) : op 0 857 = some (.aload_n 0, 1)) rfl rfl ?_
  refine g_iload 860 (opc_2 (by decide) (by decide +kernel) : op 0 858 = some (.iload 4, 2)) rfl rfl ?_
  refine g_iconst 861 (opc_2 (by decide) (by decide +kernel) : op 0 860 = some (.iconst 1, 1)) rfl rfl ?_
  obtain ⟨g1, h⟩ := h
  refine g_iadd 862 (opc_2 (by decide) (by decide +kernel) : op 0 861 = some (.iadd, 1)) rfl g1 ?_
  obtain ⟨g2, h⟩ := h
  refine g_scr 863 (opc_2 (by decide) (by decide +kernel) : op 0 862 = some (.iaload, 1)) rfl g2 ?_
  refine g_aload_n 864 (opc_2 (by decide) (by decide +kernel) : op 0 863 = some (.aload_n 0, 1)) rfl rfl ?_
  refine g_iload 866 (opc_2 (by decide) (by decide +kernel) : op 0 864 = some (.iload 4, 2)) rfl rfl ?_
  refine g_iconst 867 (opc_2 (by decide) (by decide +kernel) : op 0 866 = some (.iconst 2, 1)) rfl rfl ?_
  obtain ⟨g3, h⟩ := h
  refine g_iadd 868 (opc_2 (by decide) (by decide +kernel) : op 0 867 = some (.iadd, 1)) rfl g3 ?_
  obtain ⟨g4, h⟩ := h
  refine g_scr 869 (opc_2 (by decide) (by decide +kernel) : op 0 868 = some (.iaload, 1)) rfl g4 ?_
  refine g_aload_n 870 (opc_2 (by decide) (by decide +kernel) : op 0 869 = some (.aload_n 3, 1)) rfl rfl ?_
  obtain ⟨g8, h⟩ := h
  obtain ⟨v6, s5, hD7, h⟩ := h
  refine g_call 873 [(.inl v6)] (opc_2 (by decide) (by decide +kernel) : op 0 870 = some (.invokestatic 221, 3)) (call_stL (c := 2) (s := 12) (nj := 4) (j := 398) (t := []) (as := [(.inr (.inr (some 0))), (.inl (σ SCR ((x4 + 1)).toNat)), (.inl (σ SCR ((x4 + 2)).toNat)), (.inr (.inr (some 726)))]) (by decide +kernel) rfl (by decide +kernel) g8 rfl rfl rfl rfl rfl) hD7 rfl ?_
  refine g_istore 875 [(some (.inr (.inr (some SCR)))), (some (.inr (.inr (some 0)))), (some (.inr (.inr (some 682)))), (some (.inr (.inr (some 726)))), (some (.inl x4)), (some (.inl v6)), d6] (opc_2 (by decide) (by decide +kernel) : op 0 873 = some (.istore 5, 2)) rfl rfl rfl ?_
  refine g_aload_n 876 (opc_2 (by decide) (by decide +kernel) : op 0 875 = some (.aload_n 2, 1)) rfl rfl ?_
  refine g_aload_n 877 (opc_2 (by decide) (by decide +kernel) : op 0 876 = some (.aload_n 0, 1)) rfl rfl ?_
  refine g_iload 879 (opc_2 (by decide) (by decide +kernel) : op 0 877 = some (.iload 4, 2)) rfl rfl ?_
  refine g_iconst 880 (opc_2 (by decide) (by decide +kernel) : op 0 879 = some (.iconst 1, 1)) rfl rfl ?_
  obtain ⟨g9, h⟩ := h
  refine g_iadd 881 (opc_2 (by decide) (by decide +kernel) : op 0 880 = some (.iadd, 1)) rfl g9 ?_
  obtain ⟨g10, h⟩ := h
  refine g_scr 882 (opc_2 (by decide) (by decide +kernel) : op 0 881 = some (.iaload, 1)) rfl g10 ?_
  refine g_aload_n 883 (opc_2 (by decide) (by decide +kernel) : op 0 882 = some (.aload_n 0, 1)) rfl rfl ?_
  refine g_iload 885 (opc_2 (by decide) (by decide +kernel) : op 0 883 = some (.iload 4, 2)) rfl rfl ?_
  refine g_iconst 886 (opc_2 (by decide) (by decide +kernel) : op 0 885 = some (.iconst 2, 1)) rfl rfl ?_
  obtain ⟨g11, h⟩ := h
  refine g_iadd 887 (opc_2 (by decide) (by decide +kernel) : op 0 886 = some (.iadd, 1)) rfl g11 ?_
  obtain ⟨g12, h⟩ := h
  refine g_scr 888 (opc_2 (by decide) (by decide +kernel) : op 0 887 = some (.iaload, 1)) rfl g12 ?_
  obtain ⟨g16, h⟩ := h
  obtain ⟨v14, s13, hD15, h⟩ := h
  refine g_call 891 [(.inl v14)] (opc_2 (by decide) (by decide +kernel) : op 0 888 = some (.invokevirtual 223, 3)) (call_viL (c := 0) (s := 0) (nj := 3) (j := 279) (k9 := 21) (t := []) (as := [(.inr (.inr (some 682))), (.inl (s5 SCR ((x4 + 1)).toNat)), (.inl (s5 SCR ((x4 + 2)).toNat))]) (by decide +kernel) rfl (by decide +kernel) g16 rfl rfl rfl rfl rfl rfl (by decide +kernel) (by decide +kernel)) hD15 rfl ?_
  refine g_istore 893 [(some (.inr (.inr (some SCR)))), (some (.inr (.inr (some 0)))), (some (.inr (.inr (some 682)))), (some (.inr (.inr (some 726)))), (some (.inl x4)), (some (.inl v6)), (some (.inl v14))] (opc_2 (by decide) (by decide +kernel) : op 0 891 = some (.istore 6, 2)) rfl rfl rfl ?_
  refine g_aload_n 894 (opc_2 (by decide) (by decide +kernel) : op 0 893 = some (.aload_n 2, 1)) rfl rfl ?_
  obtain ⟨g20, h⟩ := h
  obtain ⟨v18, s17, hD19, h⟩ := h
  refine g_call 897 [(.inl v18)] (opc_2 (by decide) (by decide +kernel) : op 0 894 = some (.invokevirtual 194, 3)) (call_viL (c := 0) (s := 0) (nj := 1) (j := 244) (k9 := 21) (t := []) (as := [(.inr (.inr (some 682)))]) (by decide +kernel) rfl (by decide +kernel) g20 rfl rfl rfl rfl rfl rfl (by decide +kernel) (by decide +kernel)) hD19 rfl ?_
  refine g_iload 899 (opc_2 (by decide) (by decide +kernel) : op 0 897 = some (.iload 5, 2)) rfl rfl ?_
  by_cases hc21 : v18 = v6
  · rw [if_pos hc21] at h
    refine g_icmpT 904 (opc_2 (by decide) (by decide +kernel) : op 0 899 = some (.if_icmp .eq 5, 3)) rfl (decide_eq_true hc21) ?_
    refine g_iload 906 (opc_2 (by decide) (by decide +kernel) : op 0 904 = some (.iload 5, 2)) rfl rfl ?_
    by_cases hc22 : v6 = 0
    · rw [if_pos hc22] at h
      refine g_ifF 909 921 (opc_2 (by decide) (by decide +kernel) : op 0 906 = some (.ifCond .ne 15, 3)) rfl rfl (decide_eq_false (fun h9 => h9 hc22)) ?_
      refine g_aload_n 910 (opc_2 (by decide) (by decide +kernel) : op 0 909 = some (.aload_n 3, 1)) rfl rfl ?_
      refine g_iconst 911 (opc_2 (by decide) (by decide +kernel) : op 0 910 = some (.iconst 0, 1)) rfl rfl ?_
      refine g_laload 912 1 (opc_2 (by decide) (by decide +kernel) : op 0 911 = some (.laload, 1)) rfl (by decide +kernel) (by decide) ?_
      refine g_iload 914 (opc_2 (by decide) (by decide +kernel) : op 0 912 = some (.iload 6, 2)) rfl rfl ?_
      refine g_i2l 915 (opc_2 (by decide) (by decide +kernel) : op 0 914 = some (.i2l, 1)) rfl ?_
      refine g_lcmp 916 (opc_2 (by decide) (by decide +kernel) : op 0 915 = some (.lcmp, 1)) rfl ?_
      by_cases hc23 : (if v14 < (s17 726 (0 : Int).toNat) then 1 else if (s17 726 (0 : Int).toNat) = v14 then 0 else -1) = 0
      · rw [if_pos hc23] at h
        refine g_ifT 921 (opc_2 (by decide) (by decide +kernel) : op 0 916 = some (.ifCond .eq 5, 3)) rfl (decide_eq_true hc23) ?_
        exact h
      · rw [if_neg hc23] at h
        refine g_ifF 919 921 (opc_2 (by decide) (by decide +kernel) : op 0 916 = some (.ifCond .eq 5, 3)) rfl rfl (decide_eq_false hc23) ?_
        refine g_iconst 920 (opc_2 (by decide) (by decide +kernel) : op 0 919 = some (.iconst 0, 1)) rfl rfl ?_
        exact (g_zret (opc_2 (by decide) (by decide +kernel) : op 0 920 = some (.ireturn, 1)) (by decide +kernel) (by decide) h)
    · rw [if_neg hc22] at h
      refine g_ifT 921 (opc_2 (by decide) (by decide +kernel) : op 0 906 = some (.ifCond .ne 15, 3)) rfl (decide_eq_true hc22) ?_
      exact h
  · rw [if_neg hc21] at h
    refine g_icmpF 902 904 (opc_2 (by decide) (by decide +kernel) : op 0 899 = some (.if_icmp .eq 5, 3)) rfl rfl (decide_eq_false hc21) ?_
    refine g_iconst 903 (opc_2 (by decide) (by decide +kernel) : op 0 902 = some (.iconst 0, 1)) rfl rfl ?_
    exact (g_zret (opc_2 (by decide) (by decide +kernel) : op 0 903 = some (.ireturn, 1)) (by decide +kernel) (by decide) h)
theorem b0_924 {x4 : Int} {d5 : Option AV} {d6 : Option AV} {k : Nat} {n : Nat} {σ : Sg} {o : Rs} (h : (-2147483648 ≤ (x4 + 1) ∧ (x4 + 1) ≤ 2147483647) ∧ (0 ≤ (x4 + 1) ∧ (x4 + 1) < σ (SCR + 1) 0) ∧ (-2147483648 ≤ (x4 + 2) ∧ (x4 + 2) ≤ 2147483647) ∧ (0 ≤ (x4 + 2) ∧ (x4 + 2) < σ (SCR + 1) 0) ∧ (-2147483648 ≤ (x4 + 3) ∧ (x4 + 3) ≤ 2147483647) ∧ (0 ≤ (x4 + 3) ∧ (x4 + 3) < σ (SCR + 1) 0) ∧ ((k + 4) ≤ room_1.cells ∧ (n + 24) ≤ room_1.slots) ∧ (∃ (v8 : Int) (s7 : Sg), Dd 399 [(.inr (.inr (some 0))), (.inl (σ SCR ((x4 + 1)).toNat)), (.inl (σ SCR ((x4 + 2)).toNat)), (.inl (σ SCR ((x4 + 3)).toNat)), (.inr (.inr (some 726)))] σ (.inl (some (.inl v8)), s7) ∧ (-2147483648 ≤ (x4 + 1) ∧ (x4 + 1) ≤ 2147483647) ∧ (0 ≤ (x4 + 1) ∧ (x4 + 1) < s7 (SCR + 1) 0) ∧ (-2147483648 ≤ (x4 + 2) ∧ (x4 + 2) ≤ 2147483647) ∧ (0 ≤ (x4 + 2) ∧ (x4 + 2) < s7 (SCR + 1) 0) ∧ (-2147483648 ≤ (x4 + 3) ∧ (x4 + 3) ≤ 2147483647) ∧ (0 ≤ (x4 + 3) ∧ (x4 + 3) < s7 (SCR + 1) 0) ∧ ((k + 4) ≤ room_1.cells ∧ (n + 24) ≤ room_1.slots) ∧ (∃ (v18 : Int) (s17 : Sg), Dd 299 [(.inr (.inr (some 682))), (.inl (s7 SCR ((x4 + 1)).toNat)), (.inl (s7 SCR ((x4 + 2)).toNat)), (.inl (s7 SCR ((x4 + 3)).toNat))] s7 (.inl (some (.inl v18)), s17) ∧ ((k + 4) ≤ room_1.cells ∧ (n + 24) ≤ room_1.slots) ∧ (∃ (v22 : Int) (s21 : Sg), Dd 244 [(.inr (.inr (some 682)))] s17 (.inl (some (.inl v22)), s21) ∧ (if v22 = v8 then (if v8 = 0 then (if (if v18 < (s21 726 (0 : Int).toNat) then 1 else if (s21 726 (0 : Int).toNat) = v18 then 0 else -1) = 0 then C0_1001 x4 (some (.inl v8)) (some (.inl v18)) (k + 4) (n + 24) s21 o else o = (.inl (some (.inl 0)), s21)) else C0_1001 x4 (some (.inl v8)) (some (.inl v18)) (k + 4) (n + 24) s21 o) else o = (.inl (some (.inl 0)), s21)))))) : C0_924 x4 d5 d6 k n σ o := by
  show Gd 0 924 [(some (.inr (.inr (some SCR)))), (some (.inr (.inr (some 0)))), (some (.inr (.inr (some 682)))), (some (.inr (.inr (some 726)))), (some (.inl x4)), d5, d6] [] σ k n o
  refine g_aload_n 925 (opc_2 (by decide) (by decide +kernel) : op 0 924 = some (.aload_n 1, 1)) rfl rfl ?_
  refine g_aload_n 926 (opc_2 (by decide) (by decide +kernel) : op 0 925 = some (.aload_n 0, 1)) rfl rfl ?_
  refine g_iload 928 (opc_2 (by decide) (by decide +kernel) : op 0 926 = some (.iload 4, 2)) rfl rfl ?_
  refine g_iconst 929 (opc_2 (by decide) (by decide +kernel) : op 0 928 = some (.iconst 1, 1)) rfl rfl ?_
  obtain ⟨g1, h⟩ := h
  refine g_iadd 930 (opc_2 (by decide) (by decide +kernel) : op 0 929 = some (.iadd, 1)) rfl g1 ?_
  obtain ⟨g2, h⟩ := h
  refine g_scr 931 (opc_2 (by decide) (by decide +kernel) : op 0 930 = some (.iaload, 1)) rfl g2 ?_
  refine g_aload_n 932 (opc_2 (by decide) (by decide +kernel) : op 0 931 = some (.aload_n 0, 1)) rfl rfl ?_
  refine g_iload 934 (opc_2 (by decide) (by decide +kernel) : op 0 932 = some (.iload 4, 2)) rfl rfl ?_
  refine g_iconst 935 (opc_2 (by decide) (by decide +kernel) : op 0 934 = some (.iconst 2, 1)) rfl rfl ?_
  obtain ⟨g3, h⟩ := h
  refine g_iadd 936 (opc_2 (by decide) (by decide +kernel) : op 0 935 = some (.iadd, 1)) rfl g3 ?_
  obtain ⟨g4, h⟩ := h
  refine g_scr 937 (opc_2 (by decide) (by decide +kernel) : op 0 936 = some (.iaload, 1)) rfl g4 ?_
  refine g_aload_n 938 (opc_2 (by decide) (by decide +kernel) : op 0 937 = some (.aload_n 0, 1)) rfl rfl ?_
  refine g_iload 940 (opc_2 (by decide) (by decide +kernel) : op 0 938 = some (.iload 4, 2)) rfl rfl ?_
  refine g_iconst 941 (opc_2 (by decide) (by decide +kernel) : op 0 940 = some (.iconst 3, 1)) rfl rfl ?_
  obtain ⟨g5, h⟩ := h
  refine g_iadd 942 (opc_2 (by decide) (by decide +kernel) : op 0 941 = some (.iadd, 1)) rfl g5 ?_
  obtain ⟨g6, h⟩ := h
  refine g_scr 943 (opc_2 (by decide) (by decide +kernel) : op 0 942 = some (.iaload, 1)) rfl g6 ?_
  refine g_aload_n 944 (opc_2 (by decide) (by decide +kernel) : op 0 943 = some (.aload_n 3, 1)) rfl rfl ?_
  obtain ⟨g10, h⟩ := h
  obtain ⟨v8, s7, hD9, h⟩ := h
  refine g_call 947 [(.inl v8)] (opc_2 (by decide) (by decide +kernel) : op 0 944 = some (.invokestatic 224, 3)) (call_stL (c := 4) (s := 24) (nj := 5) (j := 399) (t := []) (as := [(.inr (.inr (some 0))), (.inl (σ SCR ((x4 + 1)).toNat)), (.inl (σ SCR ((x4 + 2)).toNat)), (.inl (σ SCR ((x4 + 3)).toNat)), (.inr (.inr (some 726)))]) (by decide +kernel) rfl (by decide +kernel) g10 rfl rfl rfl rfl rfl) hD9 rfl ?_
  refine g_istore 949 [(some (.inr (.inr (some SCR)))), (some (.inr (.inr (some 0)))), (some (.inr (.inr (some 682)))), (some (.inr (.inr (some 726)))), (some (.inl x4)), (some (.inl v8)), d6] (opc_2 (by decide) (by decide +kernel) : op 0 947 = some (.istore 5, 2)) rfl rfl rfl ?_
  refine g_aload_n 950 (opc_2 (by decide) (by decide +kernel) : op 0 949 = some (.aload_n 2, 1)) rfl rfl ?_
  refine g_aload_n 951 (opc_2 (by decide) (by decide +kernel) : op 0 950 = some (.aload_n 0, 1)) rfl rfl ?_
  refine g_iload 953 (opc_2 (by decide) (by decide +kernel) : op 0 951 = some (.iload 4, 2)) rfl rfl ?_
  refine g_iconst 954 (opc_2 (by decide) (by decide +kernel) : op 0 953 = some (.iconst 1, 1)) rfl rfl ?_
  obtain ⟨g11, h⟩ := h
  refine g_iadd 955 (opc_2 (by decide) (by decide +kernel) : op 0 954 = some (.iadd, 1)) rfl g11 ?_
  obtain ⟨g12, h⟩ := h
  refine g_scr 956 (opc_2 (by decide) (by decide +kernel) : op 0 955 = some (.iaload, 1)) rfl g12 ?_
  refine g_aload_n 957 (opc_2 (by decide) (by decide +kernel) : op 0 956 = some (.aload_n 0, 1)) rfl rfl ?_
  refine g_iload 959 (opc_2 (by decide) (by decide +kernel) : op 0 957 = some (.iload 4, 2)) rfl rfl ?_
  refine g_iconst 960 (opc_2 (by decide) (by decide +kernel) : op 0 959 = some (.iconst 2, 1)) rfl rfl ?_
  obtain ⟨g13, h⟩ := h
  refine g_iadd 961 (opc_2 (by decide) (by decide +kernel) : op 0 960 = some (.iadd, 1)) rfl g13 ?_
  obtain ⟨g14, h⟩ := h
  refine g_scr 962 (opc_2 (by decide) (by decide +kernel) : op 0 961 = some (.iaload, 1)) rfl g14 ?_
  refine g_aload_n 963 (opc_2 (by decide) (by decide +kernel) : op 0 962 = some (.aload_n 0, 1)) rfl rfl ?_
  refine g_iload 965 (opc_2 (by decide) (by decide +kernel) : op 0 963 = some (.iload 4, 2)) rfl rfl ?_
  refine g_iconst 966 (opc_2 (by decide) (by decide +kernel) : op 0 965 = some (.iconst 3, 1)) rfl rfl ?_
  obtain ⟨g15, h⟩ := h
  refine g_iadd 967 (opc_2 (by decide) (by decide +kernel) : op 0 966 = some (.iadd, 1)) rfl g15 ?_
  obtain ⟨g16, h⟩ := h
  refine g_scr 968 (opc_2 (by decide) (by decide +kernel) : op 0 967 = some (.iaload, 1)) rfl g16 ?_
  obtain ⟨g20, h⟩ := h
  obtain ⟨v18, s17, hD19, h⟩ := h
  refine g_call 971 [(.inl v18)] (opc_2 (by decide) (by decide +kernel) : op 0 968 = some (.invokevirtual 226, 3)) (call_viL (c := 0) (s := 0) (nj := 4) (j := 299) (k9 := 21) (t := []) (as := [(.inr (.inr (some 682))), (.inl (s7 SCR ((x4 + 1)).toNat)), (.inl (s7 SCR ((x4 + 2)).toNat)), (.inl (s7 SCR ((x4 + 3)).toNat))]) (by decide +kernel) rfl (by decide +kernel) g20 rfl rfl rfl rfl rfl rfl (by decide +kernel) (by decide +kernel)) hD19 rfl ?_
  refine g_istore 973 [(some (.inr (.inr (some SCR)))), (some (.inr (.inr (some 0)))), (some (.inr (.inr (some 682)))), (some (.inr (.inr (some 726)))), (some (.inl x4)), (some (.inl v8)), (some (.inl v18))] (opc_2 (by decide) (by decide +kernel) : op 0 971 = some (.istore 6, 2)) rfl rfl rfl ?_
  refine g_aload_n 974 (opc_2 (by decide) (by decide +kernel) : op 0 973 = some (.aload_n 2, 1)) rfl rfl ?_
  obtain ⟨g24, h⟩ := h
  obtain ⟨v22, s21, hD23, h⟩ := h
  refine g_call 977 [(.inl v22)] (opc_2 (by decide) (by decide +kernel) : op 0 974 = some (.invokevirtual 194, 3)) (call_viL (c := 0) (s := 0) (nj := 1) (j := 244) (k9 := 21) (t := []) (as := [(.inr (.inr (some 682)))]) (by decide +kernel) rfl (by decide +kernel) g24 rfl rfl rfl rfl rfl rfl (by decide +kernel) (by decide +kernel)) hD23 rfl ?_
  refine g_iload 979 (opc_2 (by decide) (by decide +kernel) : op 0 977 = some (.iload 5, 2)) rfl rfl ?_
  by_cases hc25 : v22 = v8
  · rw [if_pos hc25] at h
    refine g_icmpT 984 (opc_2 (by decide) (by decide +kernel) : op 0 979 = some (.if_icmp .eq 5, 3)) rfl (decide_eq_true hc25) ?_
    refine g_iload 986 (opc_2 (by decide) (by decide +kernel) : op 0 984 = some (.iload 5, 2)) rfl rfl ?_
    by_cases hc26 : v8 = 0
    · rw [if_pos hc26] at h
      refine g_ifF 989 1001 (opc_2 (by decide) (by decide +kernel) : op 0 986 = some (.ifCond .ne 15, 3)) rfl rfl (decide_eq_false (fun h9 => h9 hc26)) ?_
      refine g_aload_n 990 (opc_2 (by decide) (by decide +kernel) : op 0 989 = some (.aload_n 3, 1)) rfl rfl ?_
      refine g_iconst 991 (opc_2 (by decide) (by decide +kernel) : op 0 990 = some (.iconst 0, 1)) rfl rfl ?_
      refine g_laload 992 1 (opc_2 (by decide) (by decide +kernel) : op 0 991 = some (.laload, 1)) rfl (by decide +kernel) (by decide) ?_
      refine g_iload 994 (opc_2 (by decide) (by decide +kernel) : op 0 992 = some (.iload 6, 2)) rfl rfl ?_
      refine g_i2l 995 (opc_2 (by decide) (by decide +kernel) : op 0 994 = some (.i2l, 1)) rfl ?_
      refine g_lcmp 996 (opc_2 (by decide) (by decide +kernel) : op 0 995 = some (.lcmp, 1)) rfl ?_
      by_cases hc27 : (if v18 < (s21 726 (0 : Int).toNat) then 1 else if (s21 726 (0 : Int).toNat) = v18 then 0 else -1) = 0
      · rw [if_pos hc27] at h
        refine g_ifT 1001 (opc_2 (by decide) (by decide +kernel) : op 0 996 = some (.ifCond .eq 5, 3)) rfl (decide_eq_true hc27) ?_
        exact h
      · rw [if_neg hc27] at h
        refine g_ifF 999 1001 (opc_2 (by decide) (by decide +kernel) : op 0 996 = some (.ifCond .eq 5, 3)) rfl rfl (decide_eq_false hc27) ?_
        refine g_iconst 1000 (opc_2 (by decide) (by decide +kernel) : op 0 999 = some (.iconst 0, 1)) rfl rfl ?_
        exact (g_zret (opc_2 (by decide) (by decide +kernel) : op 0 1000 = some (.ireturn, 1)) (by decide +kernel) (by decide) h)
    · rw [if_neg hc26] at h
      refine g_ifT 1001 (opc_2 (by decide) (by decide +kernel) : op 0 986 = some (.ifCond .ne 15, 3)) rfl (decide_eq_true hc26) ?_
      exact h
  · rw [if_neg hc25] at h
    refine g_icmpF 982 984 (opc_2 (by decide) (by decide +kernel) : op 0 979 = some (.if_icmp .eq 5, 3)) rfl rfl (decide_eq_false hc25) ?_
    refine g_iconst 983 (opc_2 (by decide) (by decide +kernel) : op 0 982 = some (.iconst 0, 1)) rfl rfl ?_
    exact (g_zret (opc_2 (by decide) (by decide +kernel) : op 0 983 = some (.ireturn, 1)) (by decide +kernel) (by decide) h)
theorem b0_1004 {x4 : Int} {d5 : Option AV} {d6 : Option AV} {k : Nat} {n : Nat} {σ : Sg} {o : Rs} (h : (-2147483648 ≤ (x4 + 1) ∧ (x4 + 1) ≤ 2147483647) ∧ (0 ≤ (x4 + 1) ∧ (x4 + 1) < σ (SCR + 1) 0) ∧ ((k + 2) ≤ room_1.cells ∧ (n + 12) ≤ room_1.slots) ∧ (∃ (v4 : Int) (s3 : Sg), Dd 400 [(.inr (.inr (some 0))), (.inl (σ SCR ((x4 + 1)).toNat)), (.inr (.inr (some 726)))] σ (.inl (some (.inl v4)), s3) ∧ (-2147483648 ≤ (x4 + 1) ∧ (x4 + 1) ≤ 2147483647) ∧ (0 ≤ (x4 + 1) ∧ (x4 + 1) < s3 (SCR + 1) 0) ∧ ((k + 2) ≤ room_1.cells ∧ (n + 12) ≤ room_1.slots) ∧ (∃ (v10 : Int) (s9 : Sg), Dd 300 [(.inr (.inr (some 682))), (.inl (s3 SCR ((x4 + 1)).toNat))] s3 (.inl (some (.inl v10)), s9) ∧ ((k + 2) ≤ room_1.cells ∧ (n + 12) ≤ room_1.slots) ∧ (∃ (v14 : Int) (s13 : Sg), Dd 244 [(.inr (.inr (some 682)))] s9 (.inl (some (.inl v14)), s13) ∧ (if v14 = v4 then (if v4 = 0 then (if (if v10 < (s13 726 (0 : Int).toNat) then 1 else if (s13 726 (0 : Int).toNat) = v10 then 0 else -1) = 0 then C0_1057 x4 (some (.inl v4)) (some (.inl v10)) (k + 2) (n + 12) s13 o else o = (.inl (some (.inl 0)), s13)) else C0_1057 x4 (some (.inl v4)) (some (.inl v10)) (k + 2) (n + 12) s13 o) else o = (.inl (some (.inl 0)), s13)))))) : C0_1004 x4 d5 d6 k n σ o := by
  show Gd 0 1004 [(some (.inr (.inr (some SCR)))), (some (.inr (.inr (some 0)))), (some (.inr (.inr (some 682)))), (some (.inr (.inr (some 726)))), (some (.inl x4)), d5, d6] [] σ k n o
  refine g_aload_n 1005 (opc_2 (by decide) (by decide +kernel) : op 0 1004 = some (.aload_n 1, 1)) rfl rfl ?_
  refine g_aload_n 1006 (opc_2 (by decide) (by decide +kernel) : op 0 1005 = some (.aload_n 0, 1)) rfl rfl ?_
  refine g_iload 1008 (opc_2 (by decide) (by decide +kernel) : op 0 1006 = some (.iload 4, 2)) rfl rfl ?_
  refine g_iconst 1009 (opc_2 (by decide) (by decide +kernel) : op 0 1008 = some (.iconst 1, 1)) rfl rfl ?_
  obtain ⟨g1, h⟩ := h
  refine g_iadd 1010 (opc_2 (by decide) (by decide +kernel) : op 0 1009 = some (.iadd, 1)) rfl g1 ?_
  obtain ⟨g2, h⟩ := h
  refine g_scr 1011 (opc_2 (by decide) (by decide +kernel) : op 0 1010 = some (.iaload, 1)) rfl g2 ?_
  refine g_aload_n 1012 (opc_2 (by decide) (by decide +kernel) : op 0 1011 = some (.aload_n 3, 1)) rfl rfl ?_
  obtain ⟨g6, h⟩ := h
  obtain ⟨v4, s3, hD5, h⟩ := h
  refine g_call 1015 [(.inl v4)] (opc_2 (by decide) (by decide +kernel) : op 0 1012 = some (.invokestatic 227, 3)) (call_stL (c := 2) (s := 12) (nj := 3) (j := 400) (t := []) (as := [(.inr (.inr (some 0))), (.inl (σ SCR ((x4 + 1)).toNat)), (.inr (.inr (some 726)))]) (by decide +kernel) rfl (by decide +kernel) g6 rfl rfl rfl rfl rfl) hD5 rfl ?_
  refine g_istore 1017 [(some (.inr (.inr (some SCR)))), (some (.inr (.inr (some 0)))), (some (.inr (.inr (some 682)))), (some (.inr (.inr (some 726)))), (some (.inl x4)), (some (.inl v4)), d6] (opc_2 (by decide) (by decide +kernel) : op 0 1015 = some (.istore 5, 2)) rfl rfl rfl ?_
  refine g_aload_n 1018 (opc_2 (by decide) (by decide +kernel) : op 0 1017 = some (.aload_n 2, 1)) rfl rfl ?_
  refine g_aload_n 1019 (opc_2 (by decide) (by decide +kernel) : op 0 1018 = some (.aload_n 0, 1)) rfl rfl ?_
  refine g_iload 1021 (opc_2 (by decide) (by decide +kernel) : op 0 1019 = some (.iload 4, 2)) rfl rfl ?_
  refine g_iconst 1022 (opc_2 (by decide) (by decide +kernel) : op 0 1021 = some (.iconst 1, 1)) rfl rfl ?_
  obtain ⟨g7, h⟩ := h
  refine g_iadd 1023 (opc_2 (by decide) (by decide +kernel) : op 0 1022 = some (.iadd, 1)) rfl g7 ?_
  obtain ⟨g8, h⟩ := h
  refine g_scr 1024 (opc_2 (by decide) (by decide +kernel) : op 0 1023 = some (.iaload, 1)) rfl g8 ?_
  obtain ⟨g12, h⟩ := h
  obtain ⟨v10, s9, hD11, h⟩ := h
  refine g_call 1027 [(.inl v10)] (opc_2 (by decide) (by decide +kernel) : op 0 1024 = some (.invokevirtual 229, 3)) (call_viL (c := 0) (s := 0) (nj := 2) (j := 300) (k9 := 21) (t := []) (as := [(.inr (.inr (some 682))), (.inl (s3 SCR ((x4 + 1)).toNat))]) (by decide +kernel) rfl (by decide +kernel) g12 rfl rfl rfl rfl rfl rfl (by decide +kernel) (by decide +kernel)) hD11 rfl ?_
  refine g_istore 1029 [(some (.inr (.inr (some SCR)))), (some (.inr (.inr (some 0)))), (some (.inr (.inr (some 682)))), (some (.inr (.inr (some 726)))), (some (.inl x4)), (some (.inl v4)), (some (.inl v10))] (opc_2 (by decide) (by decide +kernel) : op 0 1027 = some (.istore 6, 2)) rfl rfl rfl ?_
  refine g_aload_n 1030 (opc_2 (by decide) (by decide +kernel) : op 0 1029 = some (.aload_n 2, 1)) rfl rfl ?_
  obtain ⟨g16, h⟩ := h
  obtain ⟨v14, s13, hD15, h⟩ := h
  refine g_call 1033 [(.inl v14)] (opc_2 (by decide) (by decide +kernel) : op 0 1030 = some (.invokevirtual 194, 3)) (call_viL (c := 0) (s := 0) (nj := 1) (j := 244) (k9 := 21) (t := []) (as := [(.inr (.inr (some 682)))]) (by decide +kernel) rfl (by decide +kernel) g16 rfl rfl rfl rfl rfl rfl (by decide +kernel) (by decide +kernel)) hD15 rfl ?_
  refine g_iload 1035 (opc_2 (by decide) (by decide +kernel) : op 0 1033 = some (.iload 5, 2)) rfl rfl ?_
  by_cases hc17 : v14 = v4
  · rw [if_pos hc17] at h
    refine g_icmpT 1040 (opc_2 (by decide) (by decide +kernel) : op 0 1035 = some (.if_icmp .eq 5, 3)) rfl (decide_eq_true hc17) ?_
    refine g_iload 1042 (opc_2 (by decide) (by decide +kernel) : op 0 1040 = some (.iload 5, 2)) rfl rfl ?_
    by_cases hc18 : v4 = 0
    · rw [if_pos hc18] at h
      refine g_ifF 1045 1057 (opc_2 (by decide) (by decide +kernel) : op 0 1042 = some (.ifCond .ne 15, 3)) rfl rfl (decide_eq_false (fun h9 => h9 hc18)) ?_
      refine g_aload_n 1046 (opc_2 (by decide) (by decide +kernel) : op 0 1045 = some (.aload_n 3, 1)) rfl rfl ?_
      refine g_iconst 1047 (opc_2 (by decide) (by decide +kernel) : op 0 1046 = some (.iconst 0, 1)) rfl rfl ?_
      refine g_laload 1048 1 (opc_2 (by decide) (by decide +kernel) : op 0 1047 = some (.laload, 1)) rfl (by decide +kernel) (by decide) ?_
      refine g_iload 1050 (opc_2 (by decide) (by decide +kernel) : op 0 1048 = some (.iload 6, 2)) rfl rfl ?_
      refine g_i2l 1051 (opc_2 (by decide) (by decide +kernel) : op 0 1050 = some (.i2l, 1)) rfl ?_
      refine g_lcmp 1052 (opc_2 (by decide) (by decide +kernel) : op 0 1051 = some (.lcmp, 1)) rfl ?_
      by_cases hc19 : (if v10 < (s13 726 (0 : Int).toNat) then 1 else if (s13 726 (0 : Int).toNat) = v10 then 0 else -1) = 0
      · rw [if_pos hc19] at h
        refine g_ifT 1057 (opc_2 (by decide) (by decide +kernel) : op 0 1052 = some (.ifCond .eq 5, 3)) rfl (decide_eq_true hc19) ?_
        exact h
      · rw [if_neg hc19] at h
        refine g_ifF 1055 1057 (opc_2 (by decide) (by decide +kernel) : op 0 1052 = some (.ifCond .eq 5, 3)) rfl rfl (decide_eq_false hc19) ?_
        refine g_iconst 1056 (opc_2 (by decide) (by decide +kernel) : op 0 1055 = some (.iconst 0, 1)) rfl rfl ?_
        exact (g_zret (opc_2 (by decide) (by decide +kernel) : op 0 1056 = some (.ireturn, 1)) (by decide +kernel) (by decide) h)
    · rw [if_neg hc18] at h
      refine g_ifT 1057 (opc_2 (by decide) (by decide +kernel) : op 0 1042 = some (.ifCond .ne 15, 3)) rfl (decide_eq_true hc18) ?_
      exact h
  · rw [if_neg hc17] at h
    refine g_icmpF 1038 1040 (opc_2 (by decide) (by decide +kernel) : op 0 1035 = some (.if_icmp .eq 5, 3)) rfl rfl (decide_eq_false hc17) ?_
    refine g_iconst 1039 (opc_2 (by decide) (by decide +kernel) : op 0 1038 = some (.iconst 0, 1)) rfl rfl ?_
    exact (g_zret (opc_2 (by decide) (by decide +kernel) : op 0 1039 = some (.ireturn, 1)) (by decide +kernel) (by decide) h)
theorem b0_1060 {x4 : Int} {d5 : Option AV} {d6 : Option AV} {k : Nat} {n : Nat} {σ : Sg} {o : Rs} (h : (-2147483648 ≤ (x4 + 1) ∧ (x4 + 1) ≤ 2147483647) ∧ (0 ≤ (x4 + 1) ∧ (x4 + 1) < σ (SCR + 1) 0) ∧ (-2147483648 ≤ (x4 + 2) ∧ (x4 + 2) ≤ 2147483647) ∧ (0 ≤ (x4 + 2) ∧ (x4 + 2) < σ (SCR + 1) 0) ∧ ((k + 4) ≤ room_1.cells ∧ (n + 24) ≤ room_1.slots) ∧ (∃ (v6 : Int) (s5 : Sg), Dd 401 [(.inr (.inr (some 0))), (.inl (σ SCR ((x4 + 1)).toNat)), (.inl (σ SCR ((x4 + 2)).toNat)), (.inr (.inr (some 726)))] σ (.inl (some (.inl v6)), s5) ∧ (-2147483648 ≤ (x4 + 1) ∧ (x4 + 1) ≤ 2147483647) ∧ (0 ≤ (x4 + 1) ∧ (x4 + 1) < s5 (SCR + 1) 0) ∧ (-2147483648 ≤ (x4 + 2) ∧ (x4 + 2) ≤ 2147483647) ∧ (0 ≤ (x4 + 2) ∧ (x4 + 2) < s5 (SCR + 1) 0) ∧ ((k + 4) ≤ room_1.cells ∧ (n + 24) ≤ room_1.slots) ∧ (∃ (v14 : Int) (s13 : Sg), Dd 301 [(.inr (.inr (some 682))), (.inl (s5 SCR ((x4 + 1)).toNat)), (.inl (s5 SCR ((x4 + 2)).toNat))] s5 (.inl (some (.inl v14)), s13) ∧ ((k + 4) ≤ room_1.cells ∧ (n + 24) ≤ room_1.slots) ∧ (∃ (v18 : Int) (s17 : Sg), Dd 244 [(.inr (.inr (some 682)))] s13 (.inl (some (.inl v18)), s17) ∧ (if v18 = v6 then (if v6 = 0 then (if (if v14 < (s17 726 (0 : Int).toNat) then 1 else if (s17 726 (0 : Int).toNat) = v14 then 0 else -1) = 0 then C0_1125 x4 (some (.inl v6)) (some (.inl v14)) (k + 4) (n + 24) s17 o else o = (.inl (some (.inl 0)), s17)) else C0_1125 x4 (some (.inl v6)) (some (.inl v14)) (k + 4) (n + 24) s17 o) else o = (.inl (some (.inl 0)), s17)))))) : C0_1060 x4 d5 d6 k n σ o := by
  show Gd 0 1060 [(some (.inr (.inr (some SCR)))), (some (.inr (.inr (some 0)))), (some (.inr (.inr (some 682)))), (some (.inr (.inr (some 726)))), (some (.inl x4)), d5, d6] [] σ k n o
  refine g_aload_n 1061 (opc_2 (by decide) (by decide +kernel) : op 0 1060 = some (.aload_n 1, 1)) rfl rfl ?_
  refine g_aload_n 1062 (opc_2 (by decide) (by decide +kernel) : op 0 1061 = some (.aload_n 0, 1)) rfl rfl ?_
  refine g_iload 1064 (opc_2 (by decide) (by decide +kernel) : op 0 1062 = some (.iload 4, 2)) rfl rfl ?_
  refine g_iconst 1065 (opc_2 (by decide) (by decide +kernel) : op 0 1064 = some (.iconst 1, 1)) rfl rfl ?_
  obtain ⟨g1, h⟩ := h
  refine g_iadd 1066 (opc_2 (by decide) (by decide +kernel) : op 0 1065 = some (.iadd, 1)) rfl g1 ?_
  obtain ⟨g2, h⟩ := h
  refine g_scr 1067 (opc_2 (by decide) (by decide +kernel) : op 0 1066 = some (.iaload, 1)) rfl g2 ?_
  refine g_aload_n 1068 (opc_2 (by decide) (by decide +kernel) : op 0 1067 = some (.aload_n 0, 1)) rfl rfl ?_
  refine g_iload 1070 (opc_2 (by decide) (by decide +kernel) : op 0 1068 = some (.iload 4, 2)) rfl rfl ?_
  refine g_iconst 1071 (opc_2 (by decide) (by decide +kernel) : op 0 1070 = some (.iconst 2, 1)) rfl rfl ?_
  obtain ⟨g3, h⟩ := h
  refine g_iadd 1072 (opc_2 (by decide) (by decide +kernel) : op 0 1071 = some (.iadd, 1)) rfl g3 ?_
  obtain ⟨g4, h⟩ := h
  refine g_scr 1073 (opc_2 (by decide) (by decide +kernel) : op 0 1072 = some (.iaload, 1)) rfl g4 ?_
  refine g_aload_n 1074 (opc_2 (by decide) (by decide +kernel) : op 0 1073 = some (.aload_n 3, 1)) rfl rfl ?_
  obtain ⟨g8, h⟩ := h
  obtain ⟨v6, s5, hD7, h⟩ := h
  refine g_call 1077 [(.inl v6)] (opc_2 (by decide) (by decide +kernel) : op 0 1074 = some (.invokestatic 230, 3)) (call_stL (c := 4) (s := 24) (nj := 4) (j := 401) (t := []) (as := [(.inr (.inr (some 0))), (.inl (σ SCR ((x4 + 1)).toNat)), (.inl (σ SCR ((x4 + 2)).toNat)), (.inr (.inr (some 726)))]) (by decide +kernel) rfl (by decide +kernel) g8 rfl rfl rfl rfl rfl) hD7 rfl ?_
  refine g_istore 1079 [(some (.inr (.inr (some SCR)))), (some (.inr (.inr (some 0)))), (some (.inr (.inr (some 682)))), (some (.inr (.inr (some 726)))), (some (.inl x4)), (some (.inl v6)), d6] (opc_2 (by decide) (by decide +kernel) : op 0 1077 = some (.istore 5, 2)) rfl rfl rfl ?_
  refine g_aload_n 1080 (opc_2 (by decide) (by decide +kernel) : op 0 1079 = some (.aload_n 2, 1)) rfl rfl ?_
  refine g_aload_n 1081 (opc_2 (by decide) (by decide +kernel) : op 0 1080 = some (.aload_n 0, 1)) rfl rfl ?_
  refine g_iload 1083 (opc_2 (by decide) (by decide +kernel) : op 0 1081 = some (.iload 4, 2)) rfl rfl ?_
  refine g_iconst 1084 (opc_2 (by decide) (by decide +kernel) : op 0 1083 = some (.iconst 1, 1)) rfl rfl ?_
  obtain ⟨g9, h⟩ := h
  refine g_iadd 1085 (opc_2 (by decide) (by decide +kernel) : op 0 1084 = some (.iadd, 1)) rfl g9 ?_
  obtain ⟨g10, h⟩ := h
  refine g_scr 1086 (opc_2 (by decide) (by decide +kernel) : op 0 1085 = some (.iaload, 1)) rfl g10 ?_
  refine g_aload_n 1087 (opc_2 (by decide) (by decide +kernel) : op 0 1086 = some (.aload_n 0, 1)) rfl rfl ?_
  refine g_iload 1089 (opc_2 (by decide) (by decide +kernel) : op 0 1087 = some (.iload 4, 2)) rfl rfl ?_
  refine g_iconst 1090 (opc_2 (by decide) (by decide +kernel) : op 0 1089 = some (.iconst 2, 1)) rfl rfl ?_
  obtain ⟨g11, h⟩ := h
  refine g_iadd 1091 (opc_2 (by decide) (by decide +kernel) : op 0 1090 = some (.iadd, 1)) rfl g11 ?_
  obtain ⟨g12, h⟩ := h
  refine g_scr 1092 (opc_2 (by decide) (by decide +kernel) : op 0 1091 = some (.iaload, 1)) rfl g12 ?_
  obtain ⟨g16, h⟩ := h
  obtain ⟨v14, s13, hD15, h⟩ := h
  refine g_call 1095 [(.inl v14)] (opc_2 (by decide) (by decide +kernel) : op 0 1092 = some (.invokevirtual 232, 3)) (call_viL (c := 0) (s := 0) (nj := 3) (j := 301) (k9 := 21) (t := []) (as := [(.inr (.inr (some 682))), (.inl (s5 SCR ((x4 + 1)).toNat)), (.inl (s5 SCR ((x4 + 2)).toNat))]) (by decide +kernel) rfl (by decide +kernel) g16 rfl rfl rfl rfl rfl rfl (by decide +kernel) (by decide +kernel)) hD15 rfl ?_
  refine g_istore 1097 [(some (.inr (.inr (some SCR)))), (some (.inr (.inr (some 0)))), (some (.inr (.inr (some 682)))), (some (.inr (.inr (some 726)))), (some (.inl x4)), (some (.inl v6)), (some (.inl v14))] (opc_2 (by decide) (by decide +kernel) : op 0 1095 = some (.istore 6, 2)) rfl rfl rfl ?_
  refine g_aload_n 1098 (opc_2 (by decide) (by decide +kernel) : op 0 1097 = some (.aload_n 2, 1)) rfl rfl ?_
  obtain ⟨g20, h⟩ := h
  obtain ⟨v18, s17, hD19, h⟩ := h
  refine g_call 1101 [(.inl v18)] (opc_2 (by decide) (by decide +kernel) : op 0 1098 = some (.invokevirtual 194, 3)) (call_viL (c := 0) (s := 0) (nj := 1) (j := 244) (k9 := 21) (t := []) (as := [(.inr (.inr (some 682)))]) (by decide +kernel) rfl (by decide +kernel) g20 rfl rfl rfl rfl rfl rfl (by decide +kernel) (by decide +kernel)) hD19 rfl ?_
  refine g_iload 1103 (opc_2 (by decide) (by decide +kernel) : op 0 1101 = some (.iload 5, 2)) rfl rfl ?_
  by_cases hc21 : v18 = v6
  · rw [if_pos hc21] at h
    refine g_icmpT 1108 (opc_2 (by decide) (by decide +kernel) : op 0 1103 = some (.if_icmp .eq 5, 3)) rfl (decide_eq_true hc21) ?_
    refine g_iload 1110 (opc_2 (by decide) (by decide +kernel) : op 0 1108 = some (.iload 5, 2)) rfl rfl ?_
    by_cases hc22 : v6 = 0
    · rw [if_pos hc22] at h
      refine g_ifF 1113 1125 (opc_2 (by decide) (by decide +kernel) : op 0 1110 = some (.ifCond .ne 15, 3)) rfl rfl (decide_eq_false (fun h9 => h9 hc22)) ?_
      refine g_aload_n 1114 (opc_2 (by decide) (by decide +kernel) : op 0 1113 = some (.aload_n 3, 1)) rfl rfl ?_
      refine g_iconst 1115 (opc_2 (by decide) (by decide +kernel) : op 0 1114 = some (.iconst 0, 1)) rfl rfl ?_
      refine g_laload 1116 1 (opc_2 (by decide) (by decide +kernel) : op 0 1115 = some (.laload, 1)) rfl (by decide +kernel) (by decide) ?_
      refine g_iload 1118 (opc_2 (by decide) (by decide +kernel) : op 0 1116 = some (.iload 6, 2)) rfl rfl ?_
      refine g_i2l 1119 (opc_2 (by decide) (by decide +kernel) : op 0 1118 = some (.i2l, 1)) rfl ?_
      refine g_lcmp 1120 (opc_2 (by decide) (by decide +kernel) : op 0 1119 = some (.lcmp, 1)) rfl ?_
      by_cases hc23 : (if v14 < (s17 726 (0 : Int).toNat) then 1 else if (s17 726 (0 : Int).toNat) = v14 then 0 else -1) = 0
      · rw [if_pos hc23] at h
        refine g_ifT 1125 (opc_2 (by decide) (by decide +kernel) : op 0 1120 = some (.ifCond .eq 5, 3)) rfl (decide_eq_true hc23) ?_
        exact h
      · rw [if_neg hc23] at h
        refine g_ifF 1123 1125 (opc_2 (by decide) (by decide +kernel) : op 0 1120 = some (.ifCond .eq 5, 3)) rfl rfl (decide_eq_false hc23) ?_
        refine g_iconst 1124 (opc_2 (by decide) (by decide +kernel) : op 0 1123 = some (.iconst 0, 1)) rfl rfl ?_
        exact (g_zret (opc_2 (by decide) (by decide +kernel) : op 0 1124 = some (.ireturn, 1)) (by decide +kernel) (by decide) h)
    · rw [if_neg hc22] at h
      refine g_ifT 1125 (opc_2 (by decide) (by decide +kernel) : op 0 1110 = some (.ifCond .ne 15, 3)) rfl (decide_eq_true hc22) ?_
      exact h
  · rw [if_neg hc21] at h
    refine g_icmpF 1106 1108 (opc_2 (by decide) (by decide +kernel) : op 0 1103 = some (.if_icmp .eq 5, 3)) rfl rfl (decide_eq_false hc21) ?_
    refine g_iconst 1107 (opc_2 (by decide) (by decide +kernel) : op 0 1106 = some (.iconst 0, 1)) rfl rfl ?_
    exact (g_zret (opc_2 (by decide) (by decide +kernel) : op 0 1107 = some (.ireturn, 1)) (by decide +kernel) (by decide) h)
theorem b0_1128 {x4 : Int} {d5 : Option AV} {d6 : Option AV} {k : Nat} {n : Nat} {σ : Sg} {o : Rs} (h : (-2147483648 ≤ (x4 + 1) ∧ (x4 + 1) ≤ 2147483647) ∧ (0 ≤ (x4 + 1) ∧ (x4 + 1) < σ (SCR + 1) 0) ∧ (-2147483648 ≤ (x4 + 2) ∧ (x4 + 2) ≤ 2147483647) ∧ (0 ≤ (x4 + 2) ∧ (x4 + 2) < σ (SCR + 1) 0) ∧ ((k + 3) ≤ room_1.cells ∧ (n + 18) ≤ room_1.slots) ∧ (∃ (v6 : Int) (s5 : Sg), Dd 402 [(.inr (.inr (some 0))), (.inl (σ SCR ((x4 + 1)).toNat)), (.inl (σ SCR ((x4 + 2)).toNat)), (.inr (.inr (some 726)))] σ (.inl (some (.inl v6)), s5) ∧ (-2147483648 ≤ (x4 + 1) ∧ (x4 + 1) ≤ 2147483647) ∧ (0 ≤ (x4 + 1) ∧ (x4 + 1) < s5 (SCR + 1) 0) ∧ (-2147483648 ≤ (x4 + 2) ∧ (x4 + 2) ≤ 2147483647) ∧ (0 ≤ (x4 + 2) ∧ (x4 + 2) < s5 (SCR + 1) 0) ∧ ((k + 3) ≤ room_1.cells ∧ (n + 18) ≤ room_1.slots) ∧ (∃ (v14 : Int) (s13 : Sg), Dd 302 [(.inr (.inr (some 682))), (.inl (s5 SCR ((x4 + 1)).toNat)), (.inl (s5 SCR ((x4 + 2)).toNat))] s5 (.inl (some (.inl v14)), s13) ∧ ((k + 3) ≤ room_1.cells ∧ (n + 18) ≤ room_1.slots) ∧ (∃ (v18 : Int) (s17 : Sg), Dd 244 [(.inr (.inr (some 682)))] s13 (.inl (some (.inl v18)), s17) ∧ (if v18 = v6 then (if v6 = 0 then C0_1194 x4 (some (.inl v6)) (some (.inl v14)) (s17 726 (0 : Int).toNat) (if v14 = 0 then 0 else 1) (k + 3) (n + 18) s17 o else C0_1200 x4 (some (.inl v6)) (some (.inl v14)) (k + 3) (n + 18) s17 o) else o = (.inl (some (.inl 0)), s17)))))) : C0_1128 x4 d5 d6 k n σ o := by
  show Gd 0 1128 [(some (.inr (.inr (some SCR)))), (some (.inr (.inr (some 0)))), (some (.inr (.inr (some 682)))), (some (.inr (.inr (some 726)))), (some (.inl x4)), d5, d6] [] σ k n o
  refine g_aload_n 1129 (opc_2 (by decide) (by decide +kernel) : op 0 1128 = some (.aload_n 1, 1)) rfl rfl ?_
  refine g_aload_n 1130 (opc_2 (by decide) (by decide +kernel) : op 0 1129 = some (.aload_n 0, 1)) rfl rfl ?_
  refine g_iload 1132 (opc_2 (by decide) (by decide +kernel) : op 0 1130 = some (.iload 4, 2)) rfl rfl ?_
  refine g_iconst 1133 (opc_2 (by decide) (by decide +kernel) : op 0 1132 = some (.iconst 1, 1)) rfl rfl ?_
  obtain ⟨g1, h⟩ := h
  refine g_iadd 1134 (opc_2 (by decide) (by decide +kernel) : op 0 1133 = some (.iadd, 1)) rfl g1 ?_
  obtain ⟨g2, h⟩ := h
  refine g_scr 1135 (opc_3 (by decide) (by decide +kernel) : op 0 1134 = some (.iaload, 1)) rfl g2 ?_
  refine g_aload_n 1136 (opc_3 (by decide) (by decide +kernel) : op 0 1135 = some (.aload_n 0, 1)) rfl rfl ?_
  refine g_iload 1138 (opc_3 (by decide) (by decide +kernel) : op 0 1136 = some (.iload 4, 2)) rfl rfl ?_
  refine g_iconst 1139 (opc_3 (by decide) (by decide +kernel) : op 0 1138 = some (.iconst 2, 1)) rfl rfl ?_
  obtain ⟨g3, h⟩ := h
  refine g_iadd 1140 (opc_3 (by decide) (by decide +kernel) : op 0 1139 = some (.iadd, 1)) rfl g3 ?_
  obtain ⟨g4, h⟩ := h
  refine g_scr 1141 (opc_3 (by decide) (by decide +kernel) : op 0 1140 = some (.iaload, 1)) rfl g4 ?_
  refine g_aload_n 1142 (opc_3 (by decide) (by decide +kernel) : op 0 1141 = some (.aload_n 3, 1)) rfl rfl ?_
  obtain ⟨g8, h⟩ := h
  obtain ⟨v6, s5, hD7, h⟩ := h
  refine g_call 1145 [(.inl v6)] (opc_3 (by decide) (by decide +kernel) : op 0 1142 = some (.invokestatic 233, 3)) (call_stL (c := 3) (s := 18) (nj := 4) (j := 402) (t := []) (as := [(.inr (.inr (some 0))), (.inl (σ SCR ((x4 + 1)).toNat)), (.inl (σ SCR ((x4 + 2)).toNat)), (.inr (.inr (some 726)))]) (by decide +kernel) rfl (by decide +kernel) g8 rfl rfl rfl rfl rfl) hD7 rfl ?_
  refine g_istore 1147 [(some (.inr (.inr (some SCR)))), (some (.inr (.inr (some 0)))), (some (.inr (.inr (some 682)))), (some (.inr (.inr (some 726)))), (some (.inl x4)), (some (.inl v6)), d6] (opc_3 (by decide) (by decide +kernel) : op 0 1145 = some (.istore 5, 2)) rfl rfl rfl ?_
  refine g_aload_n 1148 (opc_3 (by decide) (by decide +kernel) : op 0 1147 = some (.aload_n 2, 1)) rfl rfl ?_
  refine g_aload_n 1149 (opc_3 (by decide) (by decide +kernel) : op 0 1148 = some (.aload_n 0, 1)) rfl rfl ?_
  refine g_iload 1151 (opc_3 (by decide) (by decide +kernel) : op 0 1149 = some (.iload 4, 2)) rfl rfl ?_
  refine g_iconst 1152 (opc_3 (by decide) (by decide +kernel) : op 0 1151 = some (.iconst 1, 1)) rfl rfl ?_
  obtain ⟨g9, h⟩ := h
  refine g_iadd 1153 (opc_3 (by decide) (by decide +kernel) : op 0 1152 = some (.iadd, 1)) rfl g9 ?_
  obtain ⟨g10, h⟩ := h
  refine g_scr 1154 (opc_3 (by decide) (by decide +kernel) : op 0 1153 = some (.iaload, 1)) rfl g10 ?_
  refine g_aload_n 1155 (opc_3 (by decide) (by decide +kernel) : op 0 1154 = some (.aload_n 0, 1)) rfl rfl ?_
  refine g_iload 1157 (opc_3 (by decide) (by decide +kernel) : op 0 1155 = some (.iload 4, 2)) rfl rfl ?_
  refine g_iconst 1158 (opc_3 (by decide) (by decide +kernel) : op 0 1157 = some (.iconst 2, 1)) rfl rfl ?_
  obtain ⟨g11, h⟩ := h
  refine g_iadd 1159 (opc_3 (by decide) (by decide +kernel) : op 0 1158 = some (.iadd, 1)) rfl g11 ?_
  obtain ⟨g12, h⟩ := h
  refine g_scr 1160 (opc_3 (by decide) (by decide +kernel) : op 0 1159 = some (.iaload, 1)) rfl g12 ?_
  obtain ⟨g16, h⟩ := h
  obtain ⟨v14, s13, hD15, h⟩ := h
  refine g_call 1163 [(.inl v14)] (opc_3 (by decide) (by decide +kernel) : op 0 1160 = some (.invokevirtual 235, 3)) (call_viL (c := 0) (s := 0) (nj := 3) (j := 302) (k9 := 21) (t := []) (as := [(.inr (.inr (some 682))), (.inl (s5 SCR ((x4 + 1)).toNat)), (.inl (s5 SCR ((x4 + 2)).toNat))]) (by decide +kernel) rfl (by decide +kernel) g16 rfl rfl rfl rfl rfl rfl (by decide +kernel) (by decide +kernel)) hD15 rfl ?_
  refine g_istore 1165 [(some (.inr (.inr (some SCR)))), (some (.inr (.inr (some 0)))), (some (.inr (.inr (some 682)))), (some (.inr (.inr (some 726)))), (some (.inl x4)), (some (.inl v6)), (some (.inl v14))] (opc_3 (by decide) (by decide +kernel) : op 0 1163 = some (.istore 6, 2)) rfl rfl rfl ?_
  refine g_aload_n 1166 (opc_3 (by decide) (by decide +kernel) : op 0 1165 = some (.aload_n 2, 1)) rfl rfl ?_
  obtain ⟨g20, h⟩ := h
  obtain ⟨v18, s17, hD19, h⟩ := h
  refine g_call 1169 [(.inl v18)] (opc_3 (by decide) (by decide +kernel) : op 0 1166 = some (.invokevirtual 194, 3)) (call_viL (c := 0) (s := 0) (nj := 1) (j := 244) (k9 := 21) (t := []) (as := [(.inr (.inr (some 682)))]) (by decide +kernel) rfl (by decide +kernel) g20 rfl rfl rfl rfl rfl rfl (by decide +kernel) (by decide +kernel)) hD19 rfl ?_
  refine g_iload 1171 (opc_3 (by decide) (by decide +kernel) : op 0 1169 = some (.iload 5, 2)) rfl rfl ?_
  by_cases hc21 : v18 = v6
  · rw [if_pos hc21] at h
    refine g_icmpT 1176 (opc_3 (by decide) (by decide +kernel) : op 0 1171 = some (.if_icmp .eq 5, 3)) rfl (decide_eq_true hc21) ?_
    refine g_iload 1178 (opc_3 (by decide) (by decide +kernel) : op 0 1176 = some (.iload 5, 2)) rfl rfl ?_
    by_cases hc22 : v6 = 0
    · rw [if_pos hc22] at h
      refine g_ifF 1181 1200 (opc_3 (by decide) (by decide +kernel) : op 0 1178 = some (.ifCond .ne 22, 3)) rfl rfl (decide_eq_false (fun h9 => h9 hc22)) ?_
      refine g_aload_n 1182 (opc_3 (by decide) (by decide +kernel) : op 0 1181 = some (.aload_n 3, 1)) rfl rfl ?_
      refine g_iconst 1183 (opc_3 (by decide) (by decide +kernel) : op 0 1182 = some (.iconst 0, 1)) rfl rfl ?_
      refine g_laload 1184 1 (opc_3 (by decide) (by decide +kernel) : op 0 1183 = some (.laload, 1)) rfl (by decide +kernel) (by decide) ?_
      refine g_iload 1186 (opc_3 (by decide) (by decide +kernel) : op 0 1184 = some (.iload 6, 2)) rfl rfl ?_
      by_cases hc23 : v14 = 0
      · refine g_ifT 1193 (opc_3 (by decide) (by decide +kernel) : op 0 1186 = some (.ifCond .eq 7, 3)) rfl (decide_eq_true hc23) ?_
        refine g_lconst 1194 (opc_3 (by decide) (by decide +kernel) : op 0 1193 = some (.lconst 0, 1)) rfl ?_
        have h9 := h; simp only [if_pos hc23] at h9; exact h9
      · refine g_ifF 1189 1193 (opc_3 (by decide) (by decide +kernel) : op 0 1186 = some (.ifCond .eq 7, 3)) rfl rfl (decide_eq_false hc23) ?_
        refine g_lconst 1190 (opc_3 (by decide) (by decide +kernel) : op 0 1189 = some (.lconst 1, 1)) rfl ?_
        refine g_goto 1194 (opc_3 (by decide) (by decide +kernel) : op 0 1190 = some (.goto 4, 3)) rfl ?_
        have h9 := h; simp only [if_neg hc23] at h9; exact h9
    · rw [if_neg hc22] at h
      refine g_ifT 1200 (opc_3 (by decide) (by decide +kernel) : op 0 1178 = some (.ifCond .ne 22, 3)) rfl (decide_eq_true hc22) ?_
      exact h
  · rw [if_neg hc21] at h
    refine g_icmpF 1174 1176 (opc_3 (by decide) (by decide +kernel) : op 0 1171 = some (.if_icmp .eq 5, 3)) rfl rfl (decide_eq_false hc21) ?_
    refine g_iconst 1175 (opc_3 (by decide) (by decide +kernel) : op 0 1174 = some (.iconst 0, 1)) rfl rfl ?_
    exact (g_zret (opc_3 (by decide) (by decide +kernel) : op 0 1175 = some (.ireturn, 1)) (by decide +kernel) (by decide) h)
theorem b0_1203 {x4 : Int} {d5 : Option AV} {d6 : Option AV} {k : Nat} {n : Nat} {σ : Sg} {o : Rs} (h : (-2147483648 ≤ (x4 + 1) ∧ (x4 + 1) ≤ 2147483647) ∧ (0 ≤ (x4 + 1) ∧ (x4 + 1) < σ (SCR + 1) 0) ∧ (-2147483648 ≤ (x4 + 2) ∧ (x4 + 2) ≤ 2147483647) ∧ (0 ≤ (x4 + 2) ∧ (x4 + 2) < σ (SCR + 1) 0) ∧ (-2147483648 ≤ (x4 + 3) ∧ (x4 + 3) ≤ 2147483647) ∧ (0 ≤ (x4 + 3) ∧ (x4 + 3) < σ (SCR + 1) 0) ∧ C0_1230 x4 d5 d6 (σ SCR ((x4 + 1)).toNat) (σ SCR ((x4 + 2)).toNat) (if (σ SCR ((x4 + 3)).toNat) = 0 then 0 else 1) k n σ o) : C0_1203 x4 d5 d6 k n σ o := by
  show Gd 0 1203 [(some (.inr (.inr (some SCR)))), (some (.inr (.inr (some 0)))), (some (.inr (.inr (some 682)))), (some (.inr (.inr (some 726)))), (some (.inl x4)), d5, d6] [] σ k n o
  refine g_aload_n 1204 (opc_3 (by decide) (by decide +kernel) : op 0 1203 = some (.aload_n 1, 1)) rfl rfl ?_
  refine g_aload_n 1205 (opc_3 (by decide) (by decide +kernel) : op 0 1204 = some (.aload_n 0, 1)) rfl rfl ?_
  refine g_iload 1207 (opc_3 (by decide) (by decide +kernel) : op 0 1205 = some (.iload 4, 2)) rfl rfl ?_
  refine g_iconst 1208 (opc_3 (by decide) (by decide +kernel) : op 0 1207 = some (.iconst 1, 1)) rfl rfl ?_
  obtain ⟨g1, h⟩ := h
  refine g_iadd 1209 (opc_3 (by decide) (by decide +kernel) : op 0 1208 = some (.iadd, 1)) rfl g1 ?_
  obtain ⟨g2, h⟩ := h
  refine g_scr 1210 (opc_3 (by decide) (by decide +kernel) : op 0 1209 = some (.iaload, 1)) rfl g2 ?_
  refine g_aload_n 1211 (opc_3 (by decide) (by decide +kernel) : op 0 1210 = some (.aload_n 0, 1)) rfl rfl ?_
  refine g_iload 1213 (opc_3 (by decide) (by decide +kernel) : op 0 1211 = some (.iload 4, 2)) rfl rfl ?_
  refine g_iconst 1214 (opc_3 (by decide) (by decide +kernel) : op 0 1213 = some (.iconst 2, 1)) rfl rfl ?_
  obtain ⟨g3, h⟩ := h
  refine g_iadd 1215 (opc_3 (by decide) (by decide +kernel) : op 0 1214 = some (.iadd, 1)) rfl g3 ?_
  obtain ⟨g4, h⟩ := h
  refine g_scr 1216 (opc_3 (by decide) (by decide +kernel) : op 0 1215 = some (.iaload, 1)) rfl g4 ?_
  refine g_aload_n 1217 (opc_3 (by decide) (by decide +kernel) : op 0 1216 = some (.aload_n 0, 1)) rfl rfl ?_
  refine g_iload 1219 (opc_3 (by decide) (by decide +kernel) : op 0 1217 = some (.iload 4, 2)) rfl rfl ?_
  refine g_iconst 1220 (opc_3 (by decide) (by decide +kernel) : op 0 1219 = some (.iconst 3, 1)) rfl rfl ?_
  obtain ⟨g5, h⟩ := h
  refine g_iadd 1221 (opc_3 (by decide) (by decide +kernel) : op 0 1220 = some (.iadd, 1)) rfl g5 ?_
  obtain ⟨g6, h⟩ := h
  refine g_scr 1222 (opc_3 (by decide) (by decide +kernel) : op 0 1221 = some (.iaload, 1)) rfl g6 ?_
  by_cases hc7 : (σ SCR ((x4 + 3)).toNat) = 0
  · refine g_ifT 1229 (opc_3 (by decide) (by decide +kernel) : op 0 1222 = some (.ifCond .eq 7, 3)) rfl (decide_eq_true hc7) ?_
    refine g_iconst 1230 (opc_3 (by decide) (by decide +kernel) : op 0 1229 = some (.iconst 0, 1)) rfl rfl ?_
    have h9 := h; simp only [if_pos hc7] at h9; exact h9
  · refine g_ifF 1225 1229 (opc_3 (by decide) (by decide +kernel) : op 0 1222 = some (.ifCond .eq 7, 3)) rfl rfl (decide_eq_false hc7) ?_
    refine g_iconst 1226 (opc_3 (by decide) (by decide +kernel) : op 0 1225 = some (.iconst 1, 1)) rfl rfl ?_
    refine g_goto 1230 (opc_3 (by decide) (by decide +kernel) : op 0 1226 = some (.goto 4, 3)) rfl ?_
    have h9 := h; simp only [if_neg hc7] at h9; exact h9
theorem b0_1299 {x4 : Int} {d5 : Option AV} {d6 : Option AV} {k : Nat} {n : Nat} {σ : Sg} {o : Rs} (h : (-2147483648 ≤ (x4 + 1) ∧ (x4 + 1) ≤ 2147483647) ∧ (0 ≤ (x4 + 1) ∧ (x4 + 1) < σ (SCR + 1) 0) ∧ (-2147483648 ≤ (x4 + 2) ∧ (x4 + 2) ≤ 2147483647) ∧ (0 ≤ (x4 + 2) ∧ (x4 + 2) < σ (SCR + 1) 0) ∧ (-2147483648 ≤ (x4 + 3) ∧ (x4 + 3) ≤ 2147483647) ∧ (0 ≤ (x4 + 3) ∧ (x4 + 3) < σ (SCR + 1) 0) ∧ (-2147483648 ≤ (x4 + 4) ∧ (x4 + 4) ≤ 2147483647) ∧ (0 ≤ (x4 + 4) ∧ (x4 + 4) < σ (SCR + 1) 0) ∧ (-2147483648 ≤ (x4 + 5) ∧ (x4 + 5) ≤ 2147483647) ∧ (0 ≤ (x4 + 5) ∧ (x4 + 5) < σ (SCR + 1) 0) ∧ C0_1338 x4 d5 d6 (σ SCR ((x4 + 1)).toNat) (σ SCR ((x4 + 2)).toNat) (σ SCR ((x4 + 3)).toNat) (σ SCR ((x4 + 4)).toNat) (if (σ SCR ((x4 + 5)).toNat) = 0 then 0 else 1) k n σ o) : C0_1299 x4 d5 d6 k n σ o := by
  show Gd 0 1299 [(some (.inr (.inr (some SCR)))), (some (.inr (.inr (some 0)))), (some (.inr (.inr (some 682)))), (some (.inr (.inr (some 726)))), (some (.inl x4)), d5, d6] [] σ k n o
  refine g_aload_n 1300 (opc_3 (by decide) (by decide +kernel) : op 0 1299 = some (.aload_n 1, 1)) rfl rfl ?_
  refine g_aload_n 1301 (opc_3 (by decide) (by decide +kernel) : op 0 1300 = some (.aload_n 0, 1)) rfl rfl ?_
  refine g_iload 1303 (opc_3 (by decide) (by decide +kernel) : op 0 1301 = some (.iload 4, 2)) rfl rfl ?_
  refine g_iconst 1304 (opc_3 (by decide) (by decide +kernel) : op 0 1303 = some (.iconst 1, 1)) rfl rfl ?_
  obtain ⟨g1, h⟩ := h
  refine g_iadd 1305 (opc_3 (by decide) (by decide +kernel) : op 0 1304 = some (.iadd, 1)) rfl g1 ?_
  obtain ⟨g2, h⟩ := h
  refine g_scr 1306 (opc_3 (by decide) (by decide +kernel) : op 0 1305 = some (.iaload, 1)) rfl g2 ?_
  refine g_aload_n 1307 (opc_3 (by decide) (by decide +kernel) : op 0 1306 = some (.aload_n 0, 1)) rfl rfl ?_
  refine g_iload 1309 (opc_3 (by decide) (by decide +kernel) : op 0 1307 = some (.iload 4, 2)) rfl rfl ?_
  refine g_iconst 1310 (opc_3 (by decide) (by decide +kernel) : op 0 1309 = some (.iconst 2, 1)) rfl rfl ?_
  obtain ⟨g3, h⟩ := h
  refine g_iadd 1311 (opc_3 (by decide) (by decide +kernel) : op 0 1310 = some (.iadd, 1)) rfl g3 ?_
  obtain ⟨g4, h⟩ := h
  refine g_scr 1312 (opc_3 (by decide) (by decide +kernel) : op 0 1311 = some (.iaload, 1)) rfl g4 ?_
  refine g_aload_n 1313 (opc_3 (by decide) (by decide +kernel) : op 0 1312 = some (.aload_n 0, 1)) rfl rfl ?_
  refine g_iload 1315 (opc_3 (by decide) (by decide +kernel) : op 0 1313 = some (.iload 4, 2)) rfl rfl ?_
  refine g_iconst 1316 (opc_3 (by decide) (by decide +kernel) : op 0 1315 = some (.iconst 3, 1)) rfl rfl ?_
  obtain ⟨g5, h⟩ := h
  refine g_iadd 1317 (opc_3 (by decide) (by decide +kernel) : op 0 1316 = some (.iadd, 1)) rfl g5 ?_
  obtain ⟨g6, h⟩ := h
  refine g_scr 1318 (opc_3 (by decide) (by decide +kernel) : op 0 1317 = some (.iaload, 1)) rfl g6 ?_
  refine g_aload_n 1319 (opc_3 (by decide) (by decide +kernel) : op 0 1318 = some (.aload_n 0, 1)) rfl rfl ?_
  refine g_iload 1321 (opc_3 (by decide) (by decide +kernel) : op 0 1319 = some (.iload 4, 2)) rfl rfl ?_
  refine g_iconst 1322 (opc_3 (by decide) (by decide +kernel) : op 0 1321 = some (.iconst 4, 1)) rfl rfl ?_
  obtain ⟨g7, h⟩ := h
  refine g_iadd 1323 (opc_3 (by decide) (by decide +kernel) : op 0 1322 = some (.iadd, 1)) rfl g7 ?_
  obtain ⟨g8, h⟩ := h
  refine g_scr 1324 (opc_3 (by decide) (by decide +kernel) : op 0 1323 = some (.iaload, 1)) rfl g8 ?_
  refine g_aload_n 1325 (opc_3 (by decide) (by decide +kernel) : op 0 1324 = some (.aload_n 0, 1)) rfl rfl ?_
  refine g_iload 1327 (opc_3 (by decide) (by decide +kernel) : op 0 1325 = some (.iload 4, 2)) rfl rfl ?_
  refine g_iconst 1328 (opc_3 (by decide) (by decide +kernel) : op 0 1327 = some (.iconst 5, 1)) rfl rfl ?_
  obtain ⟨g9, h⟩ := h
  refine g_iadd 1329 (opc_3 (by decide) (by decide +kernel) : op 0 1328 = some (.iadd, 1)) rfl g9 ?_
  obtain ⟨g10, h⟩ := h
  refine g_scr 1330 (opc_3 (by decide) (by decide +kernel) : op 0 1329 = some (.iaload, 1)) rfl g10 ?_
  by_cases hc11 : (σ SCR ((x4 + 5)).toNat) = 0
  · refine g_ifT 1337 (opc_3 (by decide) (by decide +kernel) : op 0 1330 = some (.ifCond .eq 7, 3)) rfl (decide_eq_true hc11) ?_
    refine g_iconst 1338 (opc_3 (by decide) (by decide +kernel) : op 0 1337 = some (.iconst 0, 1)) rfl rfl ?_
    have h9 := h; simp only [if_pos hc11] at h9; exact h9
  · refine g_ifF 1333 1337 (opc_3 (by decide) (by decide +kernel) : op 0 1330 = some (.ifCond .eq 7, 3)) rfl rfl (decide_eq_false hc11) ?_
    refine g_iconst 1334 (opc_3 (by decide) (by decide +kernel) : op 0 1333 = some (.iconst 1, 1)) rfl rfl ?_
    refine g_goto 1338 (opc_3 (by decide) (by decide +kernel) : op 0 1334 = some (.goto 4, 3)) rfl ?_
    have h9 := h; simp only [if_neg hc11] at h9; exact h9
theorem b0_1419 {x4 : Int} {d5 : Option AV} {d6 : Option AV} {k : Nat} {n : Nat} {σ : Sg} {o : Rs} (h : (k ≤ room_1.cells ∧ n ≤ room_1.slots) ∧ (∃ (v2 : Int) (s1 : Sg), Dd 187 [(.inr (.inr (some 0)))] σ (.inl (some (.inl v2)), s1) ∧ (k ≤ room_1.cells ∧ n ≤ room_1.slots) ∧ (∃ (v6 : Int) (s5 : Sg), Dd 306 [(.inr (.inr (some 682)))] s1 (.inl (some (.inl v6)), s5) ∧ (if v2 = v6 then C0_3927 x4 d5 d6 k n s5 o else o = (.inl (some (.inl 0)), s5))))) : C0_1419 x4 d5 d6 k n σ o := by
  show Gd 0 1419 [(some (.inr (.inr (some SCR)))), (some (.inr (.inr (some 0)))), (some (.inr (.inr (some 682)))), (some (.inr (.inr (some 726)))), (some (.inl x4)), d5, d6] [] σ k n o
  refine g_aload_n 1420 (opc_3 (by decide) (by decide +kernel) : op 0 1419 = some (.aload_n 1, 1)) rfl rfl ?_
  obtain ⟨g4, h⟩ := h
  obtain ⟨v2, s1, hD3, h⟩ := h
  refine g_call 1423 [(.inl v2)] (opc_3 (by decide) (by decide +kernel) : op 0 1420 = some (.invokevirtual 244, 3)) (call_viL (c := 0) (s := 0) (nj := 1) (j := 187) (k9 := 20) (t := []) (as := [(.inr (.inr (some 0)))]) (by decide +kernel) rfl (by decide +kernel) g4 rfl rfl rfl rfl rfl rfl (by decide +kernel) (by decide +kernel)) hD3 rfl ?_
  refine g_aload_n 1424 (opc_3 (by decide) (by decide +kernel) : op 0 1423 = some (.aload_n 2, 1)) rfl rfl ?_
  obtain ⟨g8, h⟩ := h
  obtain ⟨v6, s5, hD7, h⟩ := h
  refine g_call 1427 [(.inl v6), (.inl v2)] (opc_3 (by decide) (by decide +kernel) : op 0 1424 = some (.invokevirtual 247, 3)) (call_viL (c := 0) (s := 0) (nj := 1) (j := 306) (k9 := 21) (t := [(.inl v2)]) (as := [(.inr (.inr (some 682)))]) (by decide +kernel) rfl (by decide +kernel) g8 rfl rfl rfl rfl rfl rfl (by decide +kernel) (by decide +kernel)) hD7 rfl ?_
  by_cases hc9 : v2 = v6
  · rw [if_pos hc9] at h
    refine g_icmpT 3927 (opc_3 (by decide) (by decide +kernel) : op 0 1427 = some (.if_icmp .eq 2500, 3)) rfl (decide_eq_true hc9) ?_
    exact h
  · rw [if_neg hc9] at h
    refine g_icmpF 1430 3927 (opc_3 (by decide) (by decide +kernel) : op 0 1427 = some (.if_icmp .eq 2500, 3)) rfl rfl (decide_eq_false hc9) ?_
    refine g_iconst 1431 (opc_3 (by decide) (by decide +kernel) : op 0 1430 = some (.iconst 0, 1)) rfl rfl ?_
    exact (g_zret (opc_3 (by decide) (by decide +kernel) : op 0 1431 = some (.ireturn, 1)) (by decide +kernel) (by decide) h)
theorem b0_1432 {x4 : Int} {d5 : Option AV} {d6 : Option AV} {k : Nat} {n : Nat} {σ : Sg} {o : Rs} (h : (-2147483648 ≤ (x4 + 1) ∧ (x4 + 1) ≤ 2147483647) ∧ (0 ≤ (x4 + 1) ∧ (x4 + 1) < σ (SCR + 1) 0) ∧ (-2147483648 ≤ (x4 + 2) ∧ (x4 + 2) ≤ 2147483647) ∧ (0 ≤ (x4 + 2) ∧ (x4 + 2) < σ (SCR + 1) 0) ∧ C0_1453 x4 d5 d6 (σ SCR ((x4 + 1)).toNat) (if (σ SCR ((x4 + 2)).toNat) = 0 then 0 else 1) k n σ o) : C0_1432 x4 d5 d6 k n σ o := by
  show Gd 0 1432 [(some (.inr (.inr (some SCR)))), (some (.inr (.inr (some 0)))), (some (.inr (.inr (some 682)))), (some (.inr (.inr (some 726)))), (some (.inl x4)), d5, d6] [] σ k n o
  refine g_aload_n 1433 (opc_3 (by decide) (by decide +kernel) : op 0 1432 = some (.aload_n 1, 1)) rfl rfl ?_
  refine g_aload_n 1434 (opc_3 (by decide) (by decide +kernel) : op 0 1433 = some (.aload_n 0, 1)) rfl rfl ?_
  refine g_iload 1436 (opc_3 (by decide) (by decide +kernel) : op 0 1434 = some (.iload 4, 2)) rfl rfl ?_
  refine g_iconst 1437 (opc_3 (by decide) (by decide +kernel) : op 0 1436 = some (.iconst 1, 1)) rfl rfl ?_
  obtain ⟨g1, h⟩ := h
  refine g_iadd 1438 (opc_4 (by decide) (by decide +kernel) : op 0 1437 = some (.iadd, 1)) rfl g1 ?_
  obtain ⟨g2, h⟩ := h
  refine g_scr 1439 (opc_4 (by decide) (by decide +kernel) : op 0 1438 = some (.iaload, 1)) rfl g2 ?_
  refine g_aload_n 1440 (opc_4 (by decide) (by decide +kernel) : op 0 1439 = some (.aload_n 0, 1)) rfl rfl ?_
  refine g_iload 1442 (opc_4 (by decide) (by decide +kernel) : op 0 1440 = some (.iload 4, 2)) rfl rfl ?_
  refine g_iconst 1443 (opc_4 (by decide) (by decide +kernel) : op 0 1442 = some (.iconst 2, 1)) rfl rfl ?_
  obtain ⟨g3, h⟩ := h
  refine g_iadd 1444 (opc_4 (by decide) (by decide +kernel) : op 0 1443 = some (.iadd, 1)) rfl g3 ?_
  obtain ⟨g4, h⟩ := h
  refine g_scr 1445 (opc_4 (by decide) (by decide +kernel) : op 0 1444 = some (.iaload, 1)) rfl g4 ?_
  by_cases hc5 : (σ SCR ((x4 + 2)).toNat) = 0
  · refine g_ifT 1452 (opc_4 (by decide) (by decide +kernel) : op 0 1445 = some (.ifCond .eq 7, 3)) rfl (decide_eq_true hc5) ?_
    refine g_iconst 1453 (opc_4 (by decide) (by decide +kernel) : op 0 1452 = some (.iconst 0, 1)) rfl rfl ?_
    have h9 := h; simp only [if_pos hc5] at h9; exact h9
  · refine g_ifF 1448 1452 (opc_4 (by decide) (by decide +kernel) : op 0 1445 = some (.ifCond .eq 7, 3)) rfl rfl (decide_eq_false hc5) ?_
    refine g_iconst 1449 (opc_4 (by decide) (by decide +kernel) : op 0 1448 = some (.iconst 1, 1)) rfl rfl ?_
    refine g_goto 1453 (opc_4 (by decide) (by decide +kernel) : op 0 1449 = some (.goto 4, 3)) rfl ?_
    have h9 := h; simp only [if_neg hc5] at h9; exact h9
theorem b0_1528 {x4 : Int} {d5 : Option AV} {d6 : Option AV} {k : Nat} {n : Nat} {σ : Sg} {o : Rs} (h : (-2147483648 ≤ (x4 + 1) ∧ (x4 + 1) ≤ 2147483647) ∧ (0 ≤ (x4 + 1) ∧ (x4 + 1) < σ (SCR + 1) 0) ∧ (-2147483648 ≤ (x4 + 2) ∧ (x4 + 2) ≤ 2147483647) ∧ (0 ≤ (x4 + 2) ∧ (x4 + 2) < σ (SCR + 1) 0) ∧ ((k + 2) ≤ room_1.cells ∧ (n + 12) ≤ room_1.slots) ∧ (∃ (v6 : Int) (s5 : Sg), Dd 406 [(.inr (.inr (some 0))), (.inl (σ SCR ((x4 + 1)).toNat)), (.inl (σ SCR ((x4 + 2)).toNat)), (.inr (.inr (some 726)))] σ (.inl (some (.inl v6)), s5) ∧ (-2147483648 ≤ (x4 + 1) ∧ (x4 + 1) ≤ 2147483647) ∧ (0 ≤ (x4 + 1) ∧ (x4 + 1) < s5 (SCR + 1) 0) ∧ (-2147483648 ≤ (x4 + 2) ∧ (x4 + 2) ≤ 2147483647) ∧ (0 ≤ (x4 + 2) ∧ (x4 + 2) < s5 (SCR + 1) 0) ∧ ((k + 2) ≤ room_1.cells ∧ (n + 12) ≤ room_1.slots) ∧ (∃ (v14 : Int) (s13 : Sg), Dd 309 [(.inr (.inr (some 682))), (.inl (s5 SCR ((x4 + 1)).toNat)), (.inl (s5 SCR ((x4 + 2)).toNat))] s5 (.inl (some (.inl v14)), s13) ∧ ((k + 2) ≤ room_1.cells ∧ (n + 12) ≤ room_1.slots) ∧ (∃ (v18 : Int) (s17 : Sg), Dd 244 [(.inr (.inr (some 682)))] s13 (.inl (some (.inl v18)), s17) ∧ (if v18 = v6 then (if v6 = 0 then (if (if v14 < (s17 726 (0 : Int).toNat) then 1 else if (s17 726 (0 : Int).toNat) = v14 then 0 else -1) = 0 then C0_1593 x4 (some (.inl v6)) (some (.inl v14)) (k + 2) (n + 12) s17 o else o = (.inl (some (.inl 0)), s17)) else C0_1593 x4 (some (.inl v6)) (some (.inl v14)) (k + 2) (n + 12) s17 o) else o = (.inl (some (.inl 0)), s17)))))) : C0_1528 x4 d5 d6 k n σ o := by
  show Gd 0 1528 [(some (.inr (.inr (some SCR)))), (some (.inr (.inr (some 0)))), (some (.inr (.inr (some 682)))), (some (.inr (.inr (some 726)))), (some (.inl x4)), d5, d6] [] σ k n o
  refine g_aload_n 1529 (opc_4 (by decide) (by decide +kernel) : op 0 1528 = some (.aload_n 1, 1)) rfl rfl ?_
  refine g_aload_n 1530 (opc_4 (by decide) (by decide +kernel) : op 0 1529 = some (.aload_n 0, 1)) rfl rfl ?_
  refine g_iload 1532 (opc_4 (by decide) (by decide +kernel) : op 0 1530 = some (.iload 4, 2)) rfl rfl ?_
  refine g_iconst 1533 (opc_4 (by decide) (by decide +kernel) : op 0 1532 = some (.iconst 1, 1)) rfl rfl ?_
  obtain ⟨g1, h⟩ := h
  refine g_iadd 1534 (opc_4 (by decide) (by decide +kernel) : op 0 1533 = some (.iadd, 1)) rfl g1 ?_
  obtain ⟨g2, h⟩ := h
  refine g_scr 1535 (opc_4 (by decide) (by decide +kernel) : op 0 1534 = some (.iaload, 1)) rfl g2 ?_
  refine g_aload_n 1536 (opc_4 (by decide) (by decide +kernel) : op 0 1535 = some (.aload_n 0, 1)) rfl rfl ?_
  refine g_iload 1538 (opc_4 (by decide) (by decide +kernel) : op 0 1536 = some (.iload 4, 2)) rfl rfl ?_
  refine g_iconst 1539 (opc_4 (by decide) (by decide +kernel) : op 0 1538 = some (.iconst 2, 1)) rfl rfl ?_
  obtain ⟨g3, h⟩ := h
  refine g_iadd 1540 (opc_4 (by decide) (by decide +kernel) : op 0 1539 = some (.iadd, 1)) rfl g3 ?_
  obtain ⟨g4, h⟩ := h
  refine g_scr 1541 (opc_4 (by decide) (by decide +kernel) : op 0 1540 = some (.iaload, 1)) rfl g4 ?_
  refine g_aload_n 1542 (opc_4 (by decide) (by decide +kernel) : op 0 1541 = some (.aload_n 3, 1)) rfl rfl ?_
  obtain ⟨g8, h⟩ := h
  obtain ⟨v6, s5, hD7, h⟩ := h
  refine g_call 1545 [(.inl v6)] (opc_4 (by decide) (by decide +kernel) : op 0 1542 = some (.invokestatic 252, 3)) (call_stL (c := 2) (s := 12) (nj := 4) (j := 406) (t := []) (as := [(.inr (.inr (some 0))), (.inl (σ SCR ((x4 + 1)).toNat)), (.inl (σ SCR ((x4 + 2)).toNat)), (.inr (.inr (some 726)))]) (by decide +kernel) rfl (by decide +kernel) g8 rfl rfl rfl rfl rfl) hD7 rfl ?_
  refine g_istore 1547 [(some (.inr (.inr (some SCR)))), (some (.inr (.inr (some 0)))), (some (.inr (.inr (some 682)))), (some (.inr (.inr (some 726)))), (some (.inl x4)), (some (.inl v6)), d6] (opc_4 (by decide) (by decide +kernel) : op 0 1545 = some (.istore 5, 2)) rfl rfl rfl ?_
  refine g_aload_n 1548 (opc_4 (by decide) (by decide +kernel) : op 0 1547 = some (.aload_n 2, 1)) rfl rfl ?_
  refine g_aload_n 1549 (opc_4 (by decide) (by decide +kernel) : op 0 1548 = some (.aload_n 0, 1)) rfl rfl ?_
  refine g_iload 1551 (opc_4 (by decide) (by decide +kernel) : op 0 1549 = some (.iload 4, 2)) rfl rfl ?_
  refine g_iconst 1552 (opc_4 (by decide) (by decide +kernel) : op 0 1551 = some (.iconst 1, 1)) rfl rfl ?_
  obtain ⟨g9, h⟩ := h
  refine g_iadd 1553 (opc_4 (by decide) (by decide +kernel) : op 0 1552 = some (.iadd, 1)) rfl g9 ?_
  obtain ⟨g10, h⟩ := h
  refine g_scr 1554 (opc_4 (by decide) (by decide +kernel) : op 0 1553 = some (.iaload, 1)) rfl g10 ?_
  refine g_aload_n 1555 (opc_4 (by decide) (by decide +kernel) : op 0 1554 = some (.aload_n 0, 1)) rfl rfl ?_
  refine g_iload 1557 (opc_4 (by decide) (by decide +kernel) : op 0 1555 = some (.iload 4, 2)) rfl rfl ?_
  refine g_iconst 1558 (opc_4 (by decide) (by decide +kernel) : op 0 1557 = some (.iconst 2, 1)) rfl rfl ?_
  obtain ⟨g11, h⟩ := h
  refine g_iadd 1559 (opc_4 (by decide) (by decide +kernel) : op 0 1558 = some (.iadd, 1)) rfl g11 ?_
  obtain ⟨g12, h⟩ := h
  refine g_scr 1560 (opc_4 (by decide) (by decide +kernel) : op 0 1559 = some (.iaload, 1)) rfl g12 ?_
  obtain ⟨g16, h⟩ := h
  obtain ⟨v14, s13, hD15, h⟩ := h
  refine g_call 1563 [(.inl v14)] (opc_4 (by decide) (by decide +kernel) : op 0 1560 = some (.invokevirtual 254, 3)) (call_viL (c := 0) (s := 0) (nj := 3) (j := 309) (k9 := 21) (t := []) (as := [(.inr (.inr (some 682))), (.inl (s5 SCR ((x4 + 1)).toNat)), (.inl (s5 SCR ((x4 + 2)).toNat))]) (by decide +kernel) rfl (by decide +kernel) g16 rfl rfl rfl rfl rfl rfl (by decide +kernel) (by decide +kernel)) hD15 rfl ?_
  refine g_istore 1565 [(some (.inr (.inr (some SCR)))), (some (.inr (.inr (some 0)))), (some (.inr (.inr (some 682)))), (some (.inr (.inr (some 726)))), (some (.inl x4)), (some (.inl v6)), (some (.inl v14))] (opc_4 (by decide) (by decide +kernel) : op 0 1563 = some (.istore 6, 2)) rfl rfl rfl ?_
  refine g_aload_n 1566 (opc_4 (by decide) (by decide +kernel) : op 0 1565 = some (.aload_n 2, 1)) rfl rfl ?_
  obtain ⟨g20, h⟩ := h
  obtain ⟨v18, s17, hD19, h⟩ := h
  refine g_call 1569 [(.inl v18)] (opc_4 (by decide) (by decide +kernel) : op 0 1566 = some (.invokevirtual 194, 3)) (call_viL (c := 0) (s := 0) (nj := 1) (j := 244) (k9 := 21) (t := []) (as := [(.inr (.inr (some 682)))]) (by decide +kernel) rfl (by decide +kernel) g20 rfl rfl rfl rfl rfl rfl (by decide +kernel) (by decide +kernel)) hD19 rfl ?_
  refine g_iload 1571 (opc_4 (by decide) (by decide +kernel) : op 0 1569 = some (.iload 5, 2)) rfl rfl ?_
  by_cases hc21 : v18 = v6
  · rw [if_pos hc21] at h
    refine g_icmpT 1576 (opc_4 (by decide) (by decide +kernel) : op 0 1571 = some (.if_icmp .eq 5, 3)) rfl (decide_eq_true hc21) ?_
    refine g_iload 1578 (opc_4 (by decide) (by decide +kernel) : op 0 1576 = some (.iload 5, 2)) rfl rfl ?_
    by_cases hc22 : v6 = 0
    · rw [if_pos hc22] at h
      refine g_ifF 1581 1593 (opc_4 (by decide) (by decide +kernel) : op 0 1578 = some (.ifCond .ne 15, 3)) rfl rfl (decide_eq_false (fun h9 => h9 hc22)) ?_
      refine g_aload_n 1582 (opc_4 (by decide) (by decide +kernel) : op 0 1581 = some (.aload_n 3, 1)) rfl rfl ?_
      refine g_iconst 1583 (opc_4 (by decide) (by decide +kernel) : op 0 1582 = some (.iconst 0, 1)) rfl rfl ?_
      refine g_laload 1584 1 (opc_4 (by decide) (by decide +kernel) : op 0 1583 = some (.laload, 1)) rfl (by decide +kernel) (by decide) ?_
      refine g_iload 1586 (opc_4 (by decide) (by decide +kernel) : op 0 1584 = some (.iload 6, 2)) rfl rfl ?_
      refine g_i2l 1587 (opc_4 (by decide) (by decide +kernel) : op 0 1586 = some (.i2l, 1)) rfl ?_
      refine g_lcmp 1588 (opc_4 (by decide) (by decide +kernel) : op 0 1587 = some (.lcmp, 1)) rfl ?_
      by_cases hc23 : (if v14 < (s17 726 (0 : Int).toNat) then 1 else if (s17 726 (0 : Int).toNat) = v14 then 0 else -1) = 0
      · rw [if_pos hc23] at h
        refine g_ifT 1593 (opc_4 (by decide) (by decide +kernel) : op 0 1588 = some (.ifCond .eq 5, 3)) rfl (decide_eq_true hc23) ?_
        exact h
      · rw [if_neg hc23] at h
        refine g_ifF 1591 1593 (opc_4 (by decide) (by decide +kernel) : op 0 1588 = some (.ifCond .eq 5, 3)) rfl rfl (decide_eq_false hc23) ?_
        refine g_iconst 1592 (opc_4 (by decide) (by decide +kernel) : op 0 1591 = some (.iconst 0, 1)) rfl rfl ?_
        exact (g_zret (opc_4 (by decide) (by decide +kernel) : op 0 1592 = some (.ireturn, 1)) (by decide +kernel) (by decide) h)
    · rw [if_neg hc22] at h
      refine g_ifT 1593 (opc_4 (by decide) (by decide +kernel) : op 0 1578 = some (.ifCond .ne 15, 3)) rfl (decide_eq_true hc22) ?_
      exact h
  · rw [if_neg hc21] at h
    refine g_icmpF 1574 1576 (opc_4 (by decide) (by decide +kernel) : op 0 1571 = some (.if_icmp .eq 5, 3)) rfl rfl (decide_eq_false hc21) ?_
    refine g_iconst 1575 (opc_4 (by decide) (by decide +kernel) : op 0 1574 = some (.iconst 0, 1)) rfl rfl ?_
    exact (g_zret (opc_4 (by decide) (by decide +kernel) : op 0 1575 = some (.ireturn, 1)) (by decide +kernel) (by decide) h)
theorem b0_1596 {x4 : Int} {d5 : Option AV} {d6 : Option AV} {k : Nat} {n : Nat} {σ : Sg} {o : Rs} (h : (-2147483648 ≤ (x4 + 1) ∧ (x4 + 1) ≤ 2147483647) ∧ (0 ≤ (x4 + 1) ∧ (x4 + 1) < σ (SCR + 1) 0) ∧ ((k + 1) ≤ room_1.cells ∧ (n + 6) ≤ room_1.slots) ∧ (∃ (v4 : Int) (s3 : Sg), Dd 407 [(.inr (.inr (some 0))), (.inl (σ SCR ((x4 + 1)).toNat)), (.inr (.inr (some 726)))] σ (.inl (some (.inl v4)), s3) ∧ (-2147483648 ≤ (x4 + 1) ∧ (x4 + 1) ≤ 2147483647) ∧ (0 ≤ (x4 + 1) ∧ (x4 + 1) < s3 (SCR + 1) 0) ∧ ((k + 1) ≤ room_1.cells ∧ (n + 6) ≤ room_1.slots) ∧ (∃ (v10 : Int) (s9 : Sg), Dd 310 [(.inr (.inr (some 682))), (.inl (s3 SCR ((x4 + 1)).toNat))] s3 (.inl (some (.inl v10)), s9) ∧ ((k + 1) ≤ room_1.cells ∧ (n + 6) ≤ room_1.slots) ∧ (∃ (v14 : Int) (s13 : Sg), Dd 244 [(.inr (.inr (some 682)))] s9 (.inl (some (.inl v14)), s13) ∧ (if v14 = v4 then (if v4 = 0 then (if (if v10 < (s13 726 (0 : Int).toNat) then 1 else if (s13 726 (0 : Int).toNat) = v10 then 0 else -1) = 0 then C0_1649 x4 (some (.inl v4)) (some (.inl v10)) (k + 1) (n + 6) s13 o else o = (.inl (some (.inl 0)), s13)) else C0_1649 x4 (some (.inl v4)) (some (.inl v10)) (k + 1) (n + 6) s13 o) else o = (.inl (some (.inl 0)), s13)))))) : C0_1596 x4 d5 d6 k n σ o := by
  show Gd 0 1596 [(some (.inr (.inr (some SCR)))), (some (.inr (.inr (some 0)))), (some (.inr (.inr (some 682)))), (some (.inr (.inr (some 726)))), (some (.inl x4)), d5, d6] [] σ k n o
  refine g_aload_n 1597 (opc_4 (by decide) (by decide +kernel) : op 0 1596 = some (.aload_n 1, 1)) rfl rfl ?_
  refine g_aload_n 1598 (opc_4 (by decide) (by decide +kernel) : op 0 1597 = some (.aload_n 0, 1)) rfl rfl ?_
  refine g_iload 1600 (opc_4 (by decide) (by decide +kernel) : op 0 1598 = some (.iload 4, 2)) rfl rfl ?_
  refine g_iconst 1601 (opc_4 (by decide) (by decide +kernel) : op 0 1600 = some (.iconst 1, 1)) rfl rfl ?_
  obtain ⟨g1, h⟩ := h
  refine g_iadd 1602 (opc_4 (by decide) (by decide +kernel) : op 0 1601 = some (.iadd, 1)) rfl g1 ?_
  obtain ⟨g2, h⟩ := h
  refine g_scr 1603 (opc_4 (by decide) (by decide +kernel) : op 0 1602 = some (.iaload, 1)) rfl g2 ?_
  refine g_aload_n 1604 (opc_4 (by decide) (by decide +kernel) : op 0 1603 = some (.aload_n 3, 1)) rfl rfl ?_
  obtain ⟨g6, h⟩ := h
  obtain ⟨v4, s3, hD5, h⟩ := h
  refine g_call 1607 [(.inl v4)] (opc_4 (by decide) (by decide +kernel) : op 0 1604 = some (.invokestatic 255, 3)) (call_stL (c := 1) (s := 6) (nj := 3) (j := 407) (t := []) (as := [(.inr (.inr (some 0))), (.inl (σ SCR ((x4 + 1)).toNat)), (.inr (.inr (some 726)))]) (by decide +kernel) rfl (by decide +kernel) g6 rfl rfl rfl rfl rfl) hD5 rfl ?_
  refine g_istore 1609 [(some (.inr (.inr (some SCR)))), (some (.inr (.inr (some 0)))), (some (.inr (.inr (some 682)))), (some (.inr (.inr (some 726)))), (some (.inl x4)), (some (.inl v4)), d6] (opc_4 (by decide) (by decide +kernel) : op 0 1607 = some (.istore 5, 2)) rfl rfl rfl ?_
  refine g_aload_n 1610 (opc_4 (by decide) (by decide +kernel) : op 0 1609 = some (.aload_n 2, 1)) rfl rfl ?_
  refine g_aload_n 1611 (opc_4 (by decide) (by decide +kernel) : op 0 1610 = some (.aload_n 0, 1)) rfl rfl ?_
  refine g_iload 1613 (opc_4 (by decide) (by decide +kernel) : op 0 1611 = some (.iload 4, 2)) rfl rfl ?_
  refine g_iconst 1614 (opc_4 (by decide) (by decide +kernel) : op 0 1613 = some (.iconst 1, 1)) rfl rfl ?_
  obtain ⟨g7, h⟩ := h
  refine g_iadd 1615 (opc_4 (by decide) (by decide +kernel) : op 0 1614 = some (.iadd, 1)) rfl g7 ?_
  obtain ⟨g8, h⟩ := h
  refine g_scr 1616 (opc_4 (by decide) (by decide +kernel) : op 0 1615 = some (.iaload, 1)) rfl g8 ?_
  obtain ⟨g12, h⟩ := h
  obtain ⟨v10, s9, hD11, h⟩ := h
  refine g_call 1619 [(.inl v10)] (opc_4 (by decide) (by decide +kernel) : op 0 1616 = some (.invokevirtual 257, 3)) (call_viL (c := 0) (s := 0) (nj := 2) (j := 310) (k9 := 21) (t := []) (as := [(.inr (.inr (some 682))), (.inl (s3 SCR ((x4 + 1)).toNat))]) (by decide +kernel) rfl (by decide +kernel) g12 rfl rfl rfl rfl rfl rfl (by decide +kernel) (by decide +kernel)) hD11 rfl ?_
  refine g_istore 1621 [(some (.inr (.inr (some SCR)))), (some (.inr (.inr (some 0)))), (some (.inr (.inr (some 682)))), (some (.inr (.inr (some 726)))), (some (.inl x4)), (some (.inl v4)), (some (.inl v10))] (opc_4 (by decide) (by decide +kernel) : op 0 1619 = some (.istore 6, 2)) rfl rfl rfl ?_
  refine g_aload_n 1622 (opc_4 (by decide) (by decide +kernel) : op 0 1621 = some (.aload_n 2, 1)) rfl rfl ?_
  obtain ⟨g16, h⟩ := h
  obtain ⟨v14, s13, hD15, h⟩ := h
  refine g_call 1625 [(.inl v14)] (opc_4 (by decide) (by decide +kernel) : op 0 1622 = some (.invokevirtual 194, 3)) (call_viL (c := 0) (s := 0) (nj := 1) (j := 244) (k9 := 21) (t := []) (as := [(.inr (.inr (some 682)))]) (by decide +kernel) rfl (by decide +kernel) g16 rfl rfl rfl rfl rfl rfl (by decide +kernel) (by decide +kernel)) hD15 rfl ?_
  refine g_iload 1627 (opc_4 (by decide) (by decide +kernel) : op 0 1625 = some (.iload 5, 2)) rfl rfl ?_
  by_cases hc17 : v14 = v4
  · rw [if_pos hc17] at h
    refine g_icmpT 1632 (opc_4 (by decide) (by decide +kernel) : op 0 1627 = some (.if_icmp .eq 5, 3)) rfl (decide_eq_true hc17) ?_
    refine g_iload 1634 (opc_4 (by decide) (by decide +kernel) : op 0 1632 = some (.iload 5, 2)) rfl rfl ?_
    by_cases hc18 : v4 = 0
    · rw [if_pos hc18] at h
      refine g_ifF 1637 1649 (opc_4 (by decide) (by decide +kernel) : op 0 1634 = some (.ifCond .ne 15, 3)) rfl rfl (decide_eq_false (fun h9 => h9 hc18)) ?_
      refine g_aload_n 1638 (opc_4 (by decide) (by decide +kernel) : op 0 1637 = some (.aload_n 3, 1)) rfl rfl ?_
      refine g_iconst 1639 (opc_4 (by decide) (by decide +kernel) : op 0 1638 = some (.iconst 0, 1)) rfl rfl ?_
      refine g_laload 1640 1 (opc_4 (by decide) (by decide +kernel) : op 0 1639 = some (.laload, 1)) rfl (by decide +kernel) (by decide) ?_
      refine g_iload 1642 (opc_4 (by decide) (by decide +kernel) : op 0 1640 = some (.iload 6, 2)) rfl rfl ?_
      refine g_i2l 1643 (opc_4 (by decide) (by decide +kernel) : op 0 1642 = some (.i2l, 1)) rfl ?_
      refine g_lcmp 1644 (opc_4 (by decide) (by decide +kernel) : op 0 1643 = some (.lcmp, 1)) rfl ?_
      by_cases hc19 : (if v10 < (s13 726 (0 : Int).toNat) then 1 else if (s13 726 (0 : Int).toNat) = v10 then 0 else -1) = 0
      · rw [if_pos hc19] at h
        refine g_ifT 1649 (opc_4 (by decide) (by decide +kernel) : op 0 1644 = some (.ifCond .eq 5, 3)) rfl (decide_eq_true hc19) ?_
        exact h
      · rw [if_neg hc19] at h
        refine g_ifF 1647 1649 (opc_4 (by decide) (by decide +kernel) : op 0 1644 = some (.ifCond .eq 5, 3)) rfl rfl (decide_eq_false hc19) ?_
        refine g_iconst 1648 (opc_4 (by decide) (by decide +kernel) : op 0 1647 = some (.iconst 0, 1)) rfl rfl ?_
        exact (g_zret (opc_4 (by decide) (by decide +kernel) : op 0 1648 = some (.ireturn, 1)) (by decide +kernel) (by decide) h)
    · rw [if_neg hc18] at h
      refine g_ifT 1649 (opc_4 (by decide) (by decide +kernel) : op 0 1634 = some (.ifCond .ne 15, 3)) rfl (decide_eq_true hc18) ?_
      exact h
  · rw [if_neg hc17] at h
    refine g_icmpF 1630 1632 (opc_4 (by decide) (by decide +kernel) : op 0 1627 = some (.if_icmp .eq 5, 3)) rfl rfl (decide_eq_false hc17) ?_
    refine g_iconst 1631 (opc_4 (by decide) (by decide +kernel) : op 0 1630 = some (.iconst 0, 1)) rfl rfl ?_
    exact (g_zret (opc_4 (by decide) (by decide +kernel) : op 0 1631 = some (.ireturn, 1)) (by decide +kernel) (by decide) h)
theorem b0_1652 {x4 : Int} {d5 : Option AV} {d6 : Option AV} {k : Nat} {n : Nat} {σ : Sg} {o : Rs} (h : (-2147483648 ≤ (x4 + 1) ∧ (x4 + 1) ≤ 2147483647) ∧ (0 ≤ (x4 + 1) ∧ (x4 + 1) < σ (SCR + 1) 0) ∧ (-2147483648 ≤ (x4 + 2) ∧ (x4 + 2) ≤ 2147483647) ∧ (0 ≤ (x4 + 2) ∧ (x4 + 2) < σ (SCR + 1) 0) ∧ (-2147483648 ≤ (x4 + 3) ∧ (x4 + 3) ≤ 2147483647) ∧ (0 ≤ (x4 + 3) ∧ (x4 + 3) < σ (SCR + 1) 0) ∧ ((k + 3) ≤ room_1.cells ∧ (n + 18) ≤ room_1.slots) ∧ (∃ (v8 : Int) (s7 : Sg), Dd 408 [(.inr (.inr (some 0))), (.inl (σ SCR ((x4 + 1)).toNat)), (.inl (σ SCR ((x4 + 2)).toNat)), (.inl (σ SCR ((x4 + 3)).toNat)), (.inr (.inr (some 726)))] σ (.inl (some (.inl v8)), s7) ∧ (-2147483648 ≤ (x4 + 1) ∧ (x4 + 1) ≤ 2147483647) ∧ (0 ≤ (x4 + 1) ∧ (x4 + 1) < s7 (SCR + 1) 0) ∧ (-2147483648 ≤ (x4 + 2) ∧ (x4 + 2) ≤ 2147483647) ∧ (0 ≤ (x4 + 2) ∧ (x4 + 2) < s7 (SCR + 1) 0) ∧ (-2147483648 ≤ (x4 + 3) ∧ (x4 + 3) ≤ 2147483647) ∧ (0 ≤ (x4 + 3) ∧ (x4 + 3) < s7 (SCR + 1) 0) ∧ ((k + 3) ≤ room_1.cells ∧ (n + 18) ≤ room_1.slots) ∧ (∃ (v18 : Int) (s17 : Sg), Dd 311 [(.inr (.inr (some 682))), (.inl (s7 SCR ((x4 + 1)).toNat)), (.inl (s7 SCR ((x4 + 2)).toNat)), (.inl (s7 SCR ((x4 + 3)).toNat))] s7 (.inl (some (.inl v18)), s17) ∧ ((k + 3) ≤ room_1.cells ∧ (n + 18) ≤ room_1.slots) ∧ (∃ (v22 : Int) (s21 : Sg), Dd 244 [(.inr (.inr (some 682)))] s17 (.inl (some (.inl v22)), s21) ∧ (if v22 = v8 then (if v8 = 0 then (if (if v18 < (s21 726 (0 : Int).toNat) then 1 else if (s21 726 (0 : Int).toNat) = v18 then 0 else -1) = 0 then C0_1729 x4 (some (.inl v8)) (some (.inl v18)) (k + 3) (n + 18) s21 o else o = (.inl (some (.inl 0)), s21)) else C0_1729 x4 (some (.inl v8)) (some (.inl v18)) (k + 3) (n + 18) s21 o) else o = (.inl (some (.inl 0)), s21)))))) : C0_1652 x4 d5 d6 k n σ o := by
  show Gd 0 1652 [(some (.inr (.inr (some SCR)))), (some (.inr (.inr (some 0)))), (some (.inr (.inr (some 682)))), (some (.inr (.inr (some 726)))), (some (.inl x4)), d5, d6] [] σ k n o
  refine g_aload_n 1653 (opc_4 (by decide) (by decide +kernel) : op 0 1652 = some (.aload_n 1, 1)) rfl rfl ?_
  refine g_aload_n 1654 (opc_4 (by decide) (by decide +kernel) : op 0 1653 = some (.aload_n 0, 1)) rfl rfl ?_
  refine g_iload 1656 (opc_4 (by decide) (by decide +kernel) : op 0 1654 = some (.iload 4, 2)) rfl rfl ?_
  refine g_iconst 1657 (opc_4 (by decide) (by decide +kernel) : op 0 1656 = some (.iconst 1, 1)) rfl rfl ?_
  obtain ⟨g1, h⟩ := h
  refine g_iadd 1658 (opc_4 (by decide) (by decide +kernel) : op 0 1657 = some (.iadd, 1)) rfl g1 ?_
  obtain ⟨g2, h⟩ := h
  refine g_scr 1659 (opc_4 (by decide) (by decide +kernel) : op 0 1658 = some (.iaload, 1)) rfl g2 ?_
  refine g_aload_n 1660 (opc_4 (by decide) (by decide +kernel) : op 0 1659 = some (.aload_n 0, 1)) rfl rfl ?_
  refine g_iload 1662 (opc_4 (by decide) (by decide +kernel) : op 0 1660 = some (.iload 4, 2)) rfl rfl ?_
  refine g_iconst 1663 (opc_4 (by decide) (by decide +kernel) : op 0 1662 = some (.iconst 2, 1)) rfl rfl ?_
  obtain ⟨g3, h⟩ := h
  refine g_iadd 1664 (opc_4 (by decide) (by decide +kernel) : op 0 1663 = some (.iadd, 1)) rfl g3 ?_
  obtain ⟨g4, h⟩ := h
  refine g_scr 1665 (opc_4 (by decide) (by decide +kernel) : op 0 1664 = some (.iaload, 1)) rfl g4 ?_
  refine g_aload_n 1666 (opc_4 (by decide) (by decide +kernel) : op 0 1665 = some (.aload_n 0, 1)) rfl rfl ?_
  refine g_iload 1668 (opc_4 (by decide) (by decide +kernel) : op 0 1666 = some (.iload 4, 2)) rfl rfl ?_
  refine g_iconst 1669 (opc_4 (by decide) (by decide +kernel) : op 0 1668 = some (.iconst 3, 1)) rfl rfl ?_
  obtain ⟨g5, h⟩ := h
  refine g_iadd 1670 (opc_4 (by decide) (by decide +kernel) : op 0 1669 = some (.iadd, 1)) rfl g5 ?_
  obtain ⟨g6, h⟩ := h
  refine g_scr 1671 (opc_4 (by decide) (by decide +kernel) : op 0 1670 = some (.iaload, 1)) rfl g6 ?_
  refine g_aload_n 1672 (opc_4 (by decide) (by decide +kernel) : op 0 1671 = some (.aload_n 3, 1)) rfl rfl ?_
  obtain ⟨g10, h⟩ := h
  obtain ⟨v8, s7, hD9, h⟩ := h
  refine g_call 1675 [(.inl v8)] (opc_4 (by decide) (by decide +kernel) : op 0 1672 = some (.invokestatic 258, 3)) (call_stL (c := 3) (s := 18) (nj := 5) (j := 408) (t := []) (as := [(.inr (.inr (some 0))), (.inl (σ SCR ((x4 + 1)).toNat)), (.inl (σ SCR ((x4 + 2)).toNat)), (.inl (σ SCR ((x4 + 3)).toNat)), (.inr (.inr (some 726)))]) (by decide +kernel) rfl (by decide +kernel) g10 rfl rfl rfl rfl rfl) hD9 rfl ?_
  refine g_istore 1677 [(some (.inr (.inr (some SCR)))), (some (.inr (.inr (some 0)))), (some (.inr (.inr (some 682)))), (some (.inr (.inr (some 726)))), (some (.inl x4)), (some (.inl v8)), d6] (opc_4 (by decide) (by decide +kernel) : op 0 1675 = some (.istore 5, 2)) rfl rfl rfl ?_
  refine g_aload_n 1678 (opc_4 (by decide) (by decide +kernel) : op 0 1677 = some (.aload_n 2, 1)) rfl rfl ?_
  refine g_aload_n 1679 (opc_4 (by decide) (by decide +kernel) : op 0 1678 = some (.aload_n 0, 1)) rfl rfl ?_
  refine g_iload 1681 (opc_4 (by decide) (by decide +kernel) : op 0 1679 = some (.iload 4, 2)) rfl rfl ?_
  refine g_iconst 1682 (opc_4 (by decide) (by decide +kernel) : op 0 1681 = some (.iconst 1, 1)) rfl rfl ?_
  obtain ⟨g11, h⟩ := h
  refine g_iadd 1683 (opc_4 (by decide) (by decide +kernel) : op 0 1682 = some (.iadd, 1)) rfl g11 ?_
  obtain ⟨g12, h⟩ := h
  refine g_scr 1684 (opc_4 (by decide) (by decide +kernel) : op 0 1683 = some (.iaload, 1)) rfl g12 ?_
  refine g_aload_n 1685 (opc_4 (by decide) (by decide +kernel) : op 0 1684 = some (.aload_n 0, 1)) rfl rfl ?_
  refine g_iload 1687 (opc_4 (by decide) (by decide +kernel) : op 0 1685 = some (.iload 4, 2)) rfl rfl ?_
  refine g_iconst 1688 (opc_4 (by decide) (by decide +kernel) : op 0 1687 = some (.iconst 2, 1)) rfl rfl ?_
  obtain ⟨g13, h⟩ := h
  refine g_iadd 1689 (opc_4 (by decide) (by decide +kernel) : op 0 1688 = some (.iadd, 1)) rfl g13 ?_
  obtain ⟨g14, h⟩ := h
  refine g_scr 1690 (opc_4 (by decide) (by decide +kernel) : op 0 1689 = some (.iaload, 1)) rfl g14 ?_
  refine g_aload_n 1691 (opc_4 (by decide) (by decide +kernel) : op 0 1690 = some (.aload_n 0, 1)) rfl rfl ?_
  refine g_iload 1693 (opc_4 (by decide) (by decide +kernel) : op 0 1691 = some (.iload 4, 2)) rfl rfl ?_
  refine g_iconst 1694 (opc_4 (by decide) (by decide +kernel) : op 0 1693 = some (.iconst 3, 1)) rfl rfl ?_
  obtain ⟨g15, h⟩ := h
  refine g_iadd 1695 (opc_4 (by decide) (by decide +kernel) : op 0 1694 = some (.iadd, 1)) rfl g15 ?_
  obtain ⟨g16, h⟩ := h
  refine g_scr 1696 (opc_4 (by decide) (by decide +kernel) : op 0 1695 = some (.iaload, 1)) rfl g16 ?_
  obtain ⟨g20, h⟩ := h
  obtain ⟨v18, s17, hD19, h⟩ := h
  refine g_call 1699 [(.inl v18)] (opc_4 (by decide) (by decide +kernel) : op 0 1696 = some (.invokevirtual 260, 3)) (call_viL (c := 0) (s := 0) (nj := 4) (j := 311) (k9 := 21) (t := []) (as := [(.inr (.inr (some 682))), (.inl (s7 SCR ((x4 + 1)).toNat)), (.inl (s7 SCR ((x4 + 2)).toNat)), (.inl (s7 SCR ((x4 + 3)).toNat))]) (by decide +kernel) rfl (by decide +kernel) g20 rfl rfl rfl rfl rfl rfl (by decide +kernel) (by decide +kernel)) hD19 rfl ?_
  refine g_istore 1701 [(some (.inr (.inr (some SCR)))), (some (.inr (.inr (some 0)))), (some (.inr (.inr (some 682)))), (some (.inr (.inr (some 726)))), (some (.inl x4)), (some (.inl v8)), (some (.inl v18))] (opc_4 (by decide) (by decide +kernel) : op 0 1699 = some (.istore 6, 2)) rfl rfl rfl ?_
  refine g_aload_n 1702 (opc_4 (by decide) (by decide +kernel) : op 0 1701 = some (.aload_n 2, 1)) rfl rfl ?_
  obtain ⟨g24, h⟩ := h
  obtain ⟨v22, s21, hD23, h⟩ := h
  refine g_call 1705 [(.inl v22)] (opc_4 (by decide) (by decide +kernel) : op 0 1702 = some (.invokevirtual 194, 3)) (call_viL (c := 0) (s := 0) (nj := 1) (j := 244) (k9 := 21) (t := []) (as := [(.inr (.inr (some 682)))]) (by decide +kernel) rfl (by decide +kernel) g24 rfl rfl rfl rfl rfl rfl (by decide +kernel) (by decide +kernel)) hD23 rfl ?_
  refine g_iload 1707 (opc_4 (by decide) (by decide +kernel) : op 0 1705 = some (.iload 5, 2)) rfl rfl ?_
  by_cases hc25 : v22 = v8
  · rw [if_pos hc25] at h
    refine g_icmpT 1712 (opc_4 (by decide) (by decide +kernel) : op 0 1707 = some (.if_icmp .eq 5, 3)) rfl (decide_eq_true hc25) ?_
    refine g_iload 1714 (opc_4 (by decide) (by decide +kernel) : op 0 1712 = some (.iload 5, 2)) rfl rfl ?_
    by_cases hc26 : v8 = 0
    · rw [if_pos hc26] at h
      refine g_ifF 1717 1729 (opc_4 (by decide) (by decide +kernel) : op 0 1714 = some (.ifCond .ne 15, 3)) rfl rfl (decide_eq_false (fun h9 => h9 hc26)) ?_
      refine g_aload_n 1718 (opc_4 (by decide) (by decide +kernel) : op 0 1717 = some (.aload_n 3, 1)) rfl rfl ?_
      refine g_iconst 1719 (opc_4 (by decide) (by decide +kernel) : op 0 1718 = some (.iconst 0, 1)) rfl rfl ?_
      refine g_laload 1720 1 (opc_4 (by decide) (by decide +kernel) : op 0 1719 = some (.laload, 1)) rfl (by decide +kernel) (by decide) ?_
      refine g_iload 1722 (opc_4 (by decide) (by decide +kernel) : op 0 1720 = some (.iload 6, 2)) rfl rfl ?_
      refine g_i2l 1723 (opc_4 (by decide) (by decide +kernel) : op 0 1722 = some (.i2l, 1)) rfl ?_
      refine g_lcmp 1724 (opc_4 (by decide) (by decide +kernel) : op 0 1723 = some (.lcmp, 1)) rfl ?_
      by_cases hc27 : (if v18 < (s21 726 (0 : Int).toNat) then 1 else if (s21 726 (0 : Int).toNat) = v18 then 0 else -1) = 0
      · rw [if_pos hc27] at h
        refine g_ifT 1729 (opc_4 (by decide) (by decide +kernel) : op 0 1724 = some (.ifCond .eq 5, 3)) rfl (decide_eq_true hc27) ?_
        exact h
      · rw [if_neg hc27] at h
        refine g_ifF 1727 1729 (opc_4 (by decide) (by decide +kernel) : op 0 1724 = some (.ifCond .eq 5, 3)) rfl rfl (decide_eq_false hc27) ?_
        refine g_iconst 1728 (opc_4 (by decide) (by decide +kernel) : op 0 1727 = some (.iconst 0, 1)) rfl rfl ?_
        exact (g_zret (opc_4 (by decide) (by decide +kernel) : op 0 1728 = some (.ireturn, 1)) (by decide +kernel) (by decide) h)
    · rw [if_neg hc26] at h
      refine g_ifT 1729 (opc_4 (by decide) (by decide +kernel) : op 0 1714 = some (.ifCond .ne 15, 3)) rfl (decide_eq_true hc26) ?_
      exact h
  · rw [if_neg hc25] at h
    refine g_icmpF 1710 1712 (opc_4 (by decide) (by decide +kernel) : op 0 1707 = some (.if_icmp .eq 5, 3)) rfl rfl (decide_eq_false hc25) ?_
    refine g_iconst 1711 (opc_4 (by decide) (by decide +kernel) : op 0 1710 = some (.iconst 0, 1)) rfl rfl ?_
    exact (g_zret (opc_4 (by decide) (by decide +kernel) : op 0 1711 = some (.ireturn, 1)) (by decide +kernel) (by decide) h)
theorem b0_1732 {x4 : Int} {d5 : Option AV} {d6 : Option AV} {k : Nat} {n : Nat} {σ : Sg} {o : Rs} (h : (-2147483648 ≤ (x4 + 1) ∧ (x4 + 1) ≤ 2147483647) ∧ (0 ≤ (x4 + 1) ∧ (x4 + 1) < σ (SCR + 1) 0) ∧ (-2147483648 ≤ (x4 + 2) ∧ (x4 + 2) ≤ 2147483647) ∧ (0 ≤ (x4 + 2) ∧ (x4 + 2) < σ (SCR + 1) 0) ∧ ((k + 2) ≤ room_1.cells ∧ (n + 12) ≤ room_1.slots) ∧ (∃ (v6 : Int) (s5 : Sg), Dd 409 [(.inr (.inr (some 0))), (.inl (σ SCR ((x4 + 1)).toNat)), (.inl (σ SCR ((x4 + 2)).toNat)), (.inr (.inr (some 726)))] σ (.inl (some (.inl v6)), s5) ∧ (-2147483648 ≤ (x4 + 1) ∧ (x4 + 1) ≤ 2147483647) ∧ (0 ≤ (x4 + 1) ∧ (x4 + 1) < s5 (SCR + 1) 0) ∧ (-2147483648 ≤ (x4 + 2) ∧ (x4 + 2) ≤ 2147483647) ∧ (0 ≤ (x4 + 2) ∧ (x4 + 2) < s5 (SCR + 1) 0) ∧ ((k + 2) ≤ room_1.cells ∧ (n + 12) ≤ room_1.slots) ∧ (∃ (v14 : Int) (s13 : Sg), Dd 316 [(.inr (.inr (some 682))), (.inl (s5 SCR ((x4 + 1)).toNat)), (.inl (s5 SCR ((x4 + 2)).toNat))] s5 (.inl (some (.inl v14)), s13) ∧ ((k + 2) ≤ room_1.cells ∧ (n + 12) ≤ room_1.slots) ∧ (∃ (v18 : Int) (s17 : Sg), Dd 244 [(.inr (.inr (some 682)))] s13 (.inl (some (.inl v18)), s17) ∧ (if v18 = v6 then (if v6 = 0 then (if (if v14 < (s17 726 (0 : Int).toNat) then 1 else if (s17 726 (0 : Int).toNat) = v14 then 0 else -1) = 0 then C0_1797 x4 (some (.inl v6)) (some (.inl v14)) (k + 2) (n + 12) s17 o else o = (.inl (some (.inl 0)), s17)) else C0_1797 x4 (some (.inl v6)) (some (.inl v14)) (k + 2) (n + 12) s17 o) else o = (.inl (some (.inl 0)), s17)))))) : C0_1732 x4 d5 d6 k n σ o := by
  show Gd 0 1732 [(some (.inr (.inr (some SCR)))), (some (.inr (.inr (some 0)))), (some (.inr (.inr (some 682)))), (some (.inr (.inr (some 726)))), (some (.inl x4)), d5, d6] [] σ k n o
  refine g_aload_n 1733 (opc_4 (by decide) (by decide +kernel) : op 0 1732 = some (.aload_n 1, 1)) rfl rfl ?_
  refine g_aload_n 1734 (opc_4 (by decide) (by decide +kernel) : op 0 1733 = some (.aload_n 0, 1)) rfl rfl ?_
  refine g_iload 1736 (opc_4 (by decide) (by decide +kernel) : op 0 1734 = some (.iload 4, 2)) rfl rfl ?_
  refine g_iconst 1737 (opc_4 (by decide) (by decide +kernel) : op 0 1736 = some (.iconst 1, 1)) rfl rfl ?_
  obtain ⟨g1, h⟩ := h
  refine g_iadd 1738 (opc_4 (by decide) (by decide +kernel) : op 0 1737 = some (.iadd, 1)) rfl g1 ?_
  obtain ⟨g2, h⟩ := h
  refine g_scr 1739 (opc_4 (by decide) (by decide +kernel) : op 0 1738 = some (.iaload, 1)) rfl g2 ?_
  refine g_aload_n 1740 (opc_5 (by decide) (by decide +kernel) : op 0 1739 = some (.aload_n 0, 1)) rfl rfl ?_
  refine g_iload 1742 (opc_5 (by decide) (by decide +kernel) : op 0 1740 = some (.iload 4, 2)) rfl rfl ?_
  refine g_iconst 1743 (opc_5 (by decide) (by decide +kernel) : op 0 1742 = some (.iconst 2, 1)) rfl rfl ?_
  obtain ⟨g3, h⟩ := h
  refine g_iadd 1744 (opc_5 (by decide) (by decide +kernel) : op 0 1743 = some (.iadd, 1)) rfl g3 ?_
  obtain ⟨g4, h⟩ := h
  refine g_scr 1745 (opc_5 (by decide) (by decide +kernel) : op 0 1744 = some (.iaload, 1)) rfl g4 ?_
  refine g_aload_n 1746 (opc_5 (by decide) (by decide +kernel) : op 0 1745 = some (.aload_n 3, 1)) rfl rfl ?_
  obtain ⟨g8, h⟩ := h
  obtain ⟨v6, s5, hD7, h⟩ := h
  refine g_call 1749 [(.inl v6)] (opc_5 (by decide) (by decide +kernel) : op 0 1746 = some (.invokestatic 261, 3)) (call_stL (c := 2) (s := 12) (nj := 4) (j := 409) (t := []) (as := [(.inr (.inr (some 0))), (.inl (σ SCR ((x4 + 1)).toNat)), (.inl (σ SCR ((x4 + 2)).toNat)), (.inr (.inr (some 726)))]) (by decide +kernel) rfl (by decide +kernel) g8 rfl rfl rfl rfl rfl) hD7 rfl ?_
  refine g_istore 1751 [(some (.inr (.inr (some SCR)))), (some (.inr (.inr (some 0)))), (some (.inr (.inr (some 682)))), (some (.inr (.inr (some 726)))), (some (.inl x4)), (some (.inl v6)), d6] (opc_5 (by decide) (by decide +kernel) : op 0 1749 = some (.istore 5, 2)) rfl rfl rfl ?_
  refine g_aload_n 1752 (opc_5 (by decide) (by decide +kernel) : op 0 1751 = some (.aload_n 2, 1)) rfl rfl ?_
  refine g_aload_n 1753 (opc_5 (by decide) (by decide +kernel) : op 0 1752 = some (.aload_n 0, 1)) rfl rfl ?_
  refine g_iload 1755 (opc_5 (by decide) (by decide +kernel) : op 0 1753 = some (.iload 4, 2)) rfl rfl ?_
  refine g_iconst 1756 (opc_5 (by decide) (by decide +kernel) : op 0 1755 = some (.iconst 1, 1)) rfl rfl ?_
  obtain ⟨g9, h⟩ := h
  refine g_iadd 1757 (opc_5 (by decide) (by decide +kernel) : op 0 1756 = some (.iadd, 1)) rfl g9 ?_
  obtain ⟨g10, h⟩ := h
  refine g_scr 1758 (opc_5 (by decide) (by decide +kernel) : op 0 1757 = some (.iaload, 1)) rfl g10 ?_
  refine g_aload_n 1759 (opc_5 (by decide) (by decide +kernel) : op 0 1758 = some (.aload_n 0, 1)) rfl rfl ?_
  refine g_iload 1761 (opc_5 (by decide) (by decide +kernel) : op 0 1759 = some (.iload 4, 2)) rfl rfl ?_
  refine g_iconst 1762 (opc_5 (by decide) (by decide +kernel) : op 0 1761 = some (.iconst 2, 1)) rfl rfl ?_
  obtain ⟨g11, h⟩ := h
  refine g_iadd 1763 (opc_5 (by decide) (by decide +kernel) : op 0 1762 = some (.iadd, 1)) rfl g11 ?_
  obtain ⟨g12, h⟩ := h
  refine g_scr 1764 (opc_5 (by decide) (by decide +kernel) : op 0 1763 = some (.iaload, 1)) rfl g12 ?_
  obtain ⟨g16, h⟩ := h
  obtain ⟨v14, s13, hD15, h⟩ := h
  refine g_call 1767 [(.inl v14)] (opc_5 (by decide) (by decide +kernel) : op 0 1764 = some (.invokevirtual 263, 3)) (call_viL (c := 0) (s := 0) (nj := 3) (j := 316) (k9 := 21) (t := []) (as := [(.inr (.inr (some 682))), (.inl (s5 SCR ((x4 + 1)).toNat)), (.inl (s5 SCR ((x4 + 2)).toNat))]) (by decide +kernel) rfl (by decide +kernel) g16 rfl rfl rfl rfl rfl rfl (by decide +kernel) (by decide +kernel)) hD15 rfl ?_
  refine g_istore 1769 [(some (.inr (.inr (some SCR)))), (some (.inr (.inr (some 0)))), (some (.inr (.inr (some 682)))), (some (.inr (.inr (some 726)))), (some (.inl x4)), (some (.inl v6)), (some (.inl v14))] (opc_5 (by decide) (by decide +kernel) : op 0 1767 = some (.istore 6, 2)) rfl rfl rfl ?_
  refine g_aload_n 1770 (opc_5 (by decide) (by decide +kernel) : op 0 1769 = some (.aload_n 2, 1)) rfl rfl ?_
  obtain ⟨g20, h⟩ := h
  obtain ⟨v18, s17, hD19, h⟩ := h
  refine g_call 1773 [(.inl v18)] (opc_5 (by decide) (by decide +kernel) : op 0 1770 = some (.invokevirtual 194, 3)) (call_viL (c := 0) (s := 0) (nj := 1) (j := 244) (k9 := 21) (t := []) (as := [(.inr (.inr (some 682)))]) (by decide +kernel) rfl (by decide +kernel) g20 rfl rfl rfl rfl rfl rfl (by decide +kernel) (by decide +kernel)) hD19 rfl ?_
  refine g_iload 1775 (opc_5 (by decide) (by decide +kernel) : op 0 1773 = some (.iload 5, 2)) rfl rfl ?_
  by_cases hc21 : v18 = v6
  · rw [if_pos hc21] at h
    refine g_icmpT 1780 (opc_5 (by decide) (by decide +kernel) : op 0 1775 = some (.if_icmp .eq 5, 3)) rfl (decide_eq_true hc21) ?_
    refine g_iload 1782 (opc_5 (by decide) (by decide +kernel) : op 0 1780 = some (.iload 5, 2)) rfl rfl ?_
    by_cases hc22 : v6 = 0
    · rw [if_pos hc22] at h
      refine g_ifF 1785 1797 (opc_5 (by decide) (by decide +kernel) : op 0 1782 = some (.ifCond .ne 15, 3)) rfl rfl (decide_eq_false (fun h9 => h9 hc22)) ?_
      refine g_aload_n 1786 (opc_5 (by decide) (by decide +kernel) : op 0 1785 = some (.aload_n 3, 1)) rfl rfl ?_
      refine g_iconst 1787 (opc_5 (by decide) (by decide +kernel) : op 0 1786 = some (.iconst 0, 1)) rfl rfl ?_
      refine g_laload 1788 1 (opc_5 (by decide) (by decide +kernel) : op 0 1787 = some (.laload, 1)) rfl (by decide +kernel) (by decide) ?_
      refine g_iload 1790 (opc_5 (by decide) (by decide +kernel) : op 0 1788 = some (.iload 6, 2)) rfl rfl ?_
      refine g_i2l 1791 (opc_5 (by decide) (by decide +kernel) : op 0 1790 = some (.i2l, 1)) rfl ?_
      refine g_lcmp 1792 (opc_5 (by decide) (by decide +kernel) : op 0 1791 = some (.lcmp, 1)) rfl ?_
      by_cases hc23 : (if v14 < (s17 726 (0 : Int).toNat) then 1 else if (s17 726 (0 : Int).toNat) = v14 then 0 else -1) = 0
      · rw [if_pos hc23] at h
        refine g_ifT 1797 (opc_5 (by decide) (by decide +kernel) : op 0 1792 = some (.ifCond .eq 5, 3)) rfl (decide_eq_true hc23) ?_
        exact h
      · rw [if_neg hc23] at h
        refine g_ifF 1795 1797 (opc_5 (by decide) (by decide +kernel) : op 0 1792 = some (.ifCond .eq 5, 3)) rfl rfl (decide_eq_false hc23) ?_
        refine g_iconst 1796 (opc_5 (by decide) (by decide +kernel) : op 0 1795 = some (.iconst 0, 1)) rfl rfl ?_
        exact (g_zret (opc_5 (by decide) (by decide +kernel) : op 0 1796 = some (.ireturn, 1)) (by decide +kernel) (by decide) h)
    · rw [if_neg hc22] at h
      refine g_ifT 1797 (opc_5 (by decide) (by decide +kernel) : op 0 1782 = some (.ifCond .ne 15, 3)) rfl (decide_eq_true hc22) ?_
      exact h
  · rw [if_neg hc21] at h
    refine g_icmpF 1778 1780 (opc_5 (by decide) (by decide +kernel) : op 0 1775 = some (.if_icmp .eq 5, 3)) rfl rfl (decide_eq_false hc21) ?_
    refine g_iconst 1779 (opc_5 (by decide) (by decide +kernel) : op 0 1778 = some (.iconst 0, 1)) rfl rfl ?_
    exact (g_zret (opc_5 (by decide) (by decide +kernel) : op 0 1779 = some (.ireturn, 1)) (by decide +kernel) (by decide) h)
theorem b0_1800 {x4 : Int} {d5 : Option AV} {d6 : Option AV} {k : Nat} {n : Nat} {σ : Sg} {o : Rs} (h : (-2147483648 ≤ (x4 + 1) ∧ (x4 + 1) ≤ 2147483647) ∧ (0 ≤ (x4 + 1) ∧ (x4 + 1) < σ (SCR + 1) 0) ∧ (-2147483648 ≤ (x4 + 2) ∧ (x4 + 2) ≤ 2147483647) ∧ (0 ≤ (x4 + 2) ∧ (x4 + 2) < σ (SCR + 1) 0) ∧ ((k + 2) ≤ room_1.cells ∧ (n + 12) ≤ room_1.slots) ∧ (∃ (v6 : Int) (s5 : Sg), Dd 410 [(.inr (.inr (some 0))), (.inl (σ SCR ((x4 + 1)).toNat)), (.inl (σ SCR ((x4 + 2)).toNat)), (.inr (.inr (some 726)))] σ (.inl (some (.inl v6)), s5) ∧ (-2147483648 ≤ (x4 + 1) ∧ (x4 + 1) ≤ 2147483647) ∧ (0 ≤ (x4 + 1) ∧ (x4 + 1) < s5 (SCR + 1) 0) ∧ (-2147483648 ≤ (x4 + 2) ∧ (x4 + 2) ≤ 2147483647) ∧ (0 ≤ (x4 + 2) ∧ (x4 + 2) < s5 (SCR + 1) 0) ∧ ((k + 2) ≤ room_1.cells ∧ (n + 12) ≤ room_1.slots) ∧ (∃ (v14 : Int) (s13 : Sg), Dd 317 [(.inr (.inr (some 682))), (.inl (s5 SCR ((x4 + 1)).toNat)), (.inl (s5 SCR ((x4 + 2)).toNat))] s5 (.inl (some (.inl v14)), s13) ∧ ((k + 2) ≤ room_1.cells ∧ (n + 12) ≤ room_1.slots) ∧ (∃ (v18 : Int) (s17 : Sg), Dd 244 [(.inr (.inr (some 682)))] s13 (.inl (some (.inl v18)), s17) ∧ (if v18 = v6 then (if v6 = 0 then C0_1866 x4 (some (.inl v6)) (some (.inl v14)) (s17 726 (0 : Int).toNat) (if v14 = 0 then 0 else 1) (k + 2) (n + 12) s17 o else C0_1872 x4 (some (.inl v6)) (some (.inl v14)) (k + 2) (n + 12) s17 o) else o = (.inl (some (.inl 0)), s17)))))) : C0_1800 x4 d5 d6 k n σ o := by
  show Gd 0 1800 [(some (.inr (.inr (some SCR)))), (some (.inr (.inr (some 0)))), (some (.inr (.inr (some 682)))), (some (.inr (.inr (some 726)))), (some (.inl x4)), d5, d6] [] σ k n o
  refine g_aload_n 1801 (opc_5 (by decide) (by decide +kernel) : op 0 1800 = some (.aload_n 1, 1)) rfl rfl ?_
  refine g_aload_n 1802 (opc_5 (by decide) (by decide +kernel) : op 0 1801 = some (.aload_n 0, 1)) rfl rfl ?_
  refine g_iload 1804 (opc_5 (by decide) (by decide +kernel) : op 0 1802 = some (.iload 4, 2)) rfl rfl ?_
  refine g_iconst 1805 (opc_5 (by decide) (by decide +kernel) : op 0 1804 = some (.iconst 1, 1)) rfl rfl ?_
  obtain ⟨g1, h⟩ := h
  refine g_iadd 1806 (opc_5 (by decide) (by decide +kernel) : op 0 1805 = some (.iadd, 1)) rfl g1 ?_
  obtain ⟨g2, h⟩ := h
  refine g_scr 1807 (opc_5 (by decide) (by decide +kernel) : op 0 1806 = some (.iaload, 1)) rfl g2 ?_
  refine g_aload_n 1808 (opc_5 (by decide) (by decide +kernel) : op 0 1807 = some (.aload_n 0, 1)) rfl rfl ?_
  refine g_iload 1810 (opc_5 (by decide) (by decide +kernel) : op 0 1808 = some (.iload 4, 2)) rfl rfl ?_
  refine g_iconst 1811 (opc_5 (by decide) (by decide +kernel) : op 0 1810 = some (.iconst 2, 1)) rfl rfl ?_
  obtain ⟨g3, h⟩ := h
  refine g_iadd 1812 (opc_5 (by decide) (by decide +kernel) : op 0 1811 = some (.iadd, 1)) rfl g3 ?_
  obtain ⟨g4, h⟩ := h
  refine g_scr 1813 (opc_5 (by decide) (by decide +kernel) : op 0 1812 = some (.iaload, 1)) rfl g4 ?_
  refine g_aload_n 1814 (opc_5 (by decide) (by decide +kernel) : op 0 1813 = some (.aload_n 3, 1)) rfl rfl ?_
  obtain ⟨g8, h⟩ := h
  obtain ⟨v6, s5, hD7, h⟩ := h
  refine g_call 1817 [(.inl v6)] (opc_5 (by decide) (by decide +kernel) : op 0 1814 = some (.invokestatic 264, 3)) (call_stL (c := 2) (s := 12) (nj := 4) (j := 410) (t := []) (as := [(.inr (.inr (some 0))), (.inl (σ SCR ((x4 + 1)).toNat)), (.inl (σ SCR ((x4 + 2)).toNat)), (.inr (.inr (some 726)))]) (by decide +kernel) rfl (by decide +kernel) g8 rfl rfl rfl rfl rfl) hD7 rfl ?_
  refine g_istore 1819 [(some (.inr (.inr (some SCR)))), (some (.inr (.inr (some 0)))), (some (.inr (.inr (some 682)))), (some (.inr (.inr (some 726)))), (some (.inl x4)), (some (.inl v6)), d6] (opc_5 (by decide) (by decide +kernel) : op 0 1817 = some (.istore 5, 2)) rfl rfl rfl ?_
  refine g_aload_n 1820 (opc_5 (by decide) (by decide +kernel) : op 0 1819 = some (.aload_n 2, 1)) rfl rfl ?_
  refine g_aload_n 1821 (opc_5 (by decide) (by decide +kernel) : op 0 1820 = some (.aload_n 0, 1)) rfl rfl ?_
  refine g_iload 1823 (opc_5 (by decide) (by decide +kernel) : op 0 1821 = some (.iload 4, 2)) rfl rfl ?_
  refine g_iconst 1824 (opc_5 (by decide) (by decide +kernel) : op 0 1823 = some (.iconst 1, 1)) rfl rfl ?_
  obtain ⟨g9, h⟩ := h
  refine g_iadd 1825 (opc_5 (by decide) (by decide +kernel) : op 0 1824 = some (.iadd, 1)) rfl g9 ?_
  obtain ⟨g10, h⟩ := h
  refine g_scr 1826 (opc_5 (by decide) (by decide +kernel) : op 0 1825 = some (.iaload, 1)) rfl g10 ?_
  refine g_aload_n 1827 (opc_5 (by decide) (by decide +kernel) : op 0 1826 = some (.aload_n 0, 1)) rfl rfl ?_
  refine g_iload 1829 (opc_5 (by decide) (by decide +kernel) : op 0 1827 = some (.iload 4, 2)) rfl rfl ?_
  refine g_iconst 1830 (opc_5 (by decide) (by decide +kernel) : op 0 1829 = some (.iconst 2, 1)) rfl rfl ?_
  obtain ⟨g11, h⟩ := h
  refine g_iadd 1831 (opc_5 (by decide) (by decide +kernel) : op 0 1830 = some (.iadd, 1)) rfl g11 ?_
  obtain ⟨g12, h⟩ := h
  refine g_scr 1832 (opc_5 (by decide) (by decide +kernel) : op 0 1831 = some (.iaload, 1)) rfl g12 ?_
  obtain ⟨g16, h⟩ := h
  obtain ⟨v14, s13, hD15, h⟩ := h
  refine g_call 1835 [(.inl v14)] (opc_5 (by decide) (by decide +kernel) : op 0 1832 = some (.invokevirtual 266, 3)) (call_viL (c := 0) (s := 0) (nj := 3) (j := 317) (k9 := 21) (t := []) (as := [(.inr (.inr (some 682))), (.inl (s5 SCR ((x4 + 1)).toNat)), (.inl (s5 SCR ((x4 + 2)).toNat))]) (by decide +kernel) rfl (by decide +kernel) g16 rfl rfl rfl rfl rfl rfl (by decide +kernel) (by decide +kernel)) hD15 rfl ?_
  refine g_istore 1837 [(some (.inr (.inr (some SCR)))), (some (.inr (.inr (some 0)))), (some (.inr (.inr (some 682)))), (some (.inr (.inr (some 726)))), (some (.inl x4)), (some (.inl v6)), (some (.inl v14))] (opc_5 (by decide) (by decide +kernel) : op 0 1835 = some (.istore 6, 2)) rfl rfl rfl ?_
  refine g_aload_n 1838 (opc_5 (by decide) (by decide +kernel) : op 0 1837 = some (.aload_n 2, 1)) rfl rfl ?_
  obtain ⟨g20, h⟩ := h
  obtain ⟨v18, s17, hD19, h⟩ := h
  refine g_call 1841 [(.inl v18)] (opc_5 (by decide) (by decide +kernel) : op 0 1838 = some (.invokevirtual 194, 3)) (call_viL (c := 0) (s := 0) (nj := 1) (j := 244) (k9 := 21) (t := []) (as := [(.inr (.inr (some 682)))]) (by decide +kernel) rfl (by decide +kernel) g20 rfl rfl rfl rfl rfl rfl (by decide +kernel) (by decide +kernel)) hD19 rfl ?_
  refine g_iload 1843 (opc_5 (by decide) (by decide +kernel) : op 0 1841 = some (.iload 5, 2)) rfl rfl ?_
  by_cases hc21 : v18 = v6
  · rw [if_pos hc21] at h
    refine g_icmpT 1848 (opc_5 (by decide) (by decide +kernel) : op 0 1843 = some (.if_icmp .eq 5, 3)) rfl (decide_eq_true hc21) ?_
    refine g_iload 1850 (opc_5 (by decide) (by decide +kernel) : op 0 1848 = some (.iload 5, 2)) rfl rfl ?_
    by_cases hc22 : v6 = 0
    · rw [if_pos hc22] at h
      refine g_ifF 1853 1872 (opc_5 (by decide) (by decide +kernel) : op 0 1850 = some (.ifCond .ne 22, 3)) rfl rfl (decide_eq_false (fun h9 => h9 hc22)) ?_
      refine g_aload_n 1854 (opc_5 (by decide) (by decide +kernel) : op 0 1853 = some (.aload_n 3, 1)) rfl rfl ?_
      refine g_iconst 1855 (opc_5 (by decide) (by decide +kernel) : op 0 1854 = some (.iconst 0, 1)) rfl rfl ?_
      refine g_laload 1856 1 (opc_5 (by decide) (by decide +kernel) : op 0 1855 = some (.laload, 1)) rfl (by decide +kernel) (by decide) ?_
      refine g_iload 1858 (opc_5 (by decide) (by decide +kernel) : op 0 1856 = some (.iload 6, 2)) rfl rfl ?_
      by_cases hc23 : v14 = 0
      · refine g_ifT 1865 (opc_5 (by decide) (by decide +kernel) : op 0 1858 = some (.ifCond .eq 7, 3)) rfl (decide_eq_true hc23) ?_
        refine g_lconst 1866 (opc_5 (by decide) (by decide +kernel) : op 0 1865 = some (.lconst 0, 1)) rfl ?_
        have h9 := h; simp only [if_pos hc23] at h9; exact h9
      · refine g_ifF 1861 1865 (opc_5 (by decide) (by decide +kernel) : op 0 1858 = some (.ifCond .eq 7, 3)) rfl rfl (decide_eq_false hc23) ?_
        refine g_lconst 1862 (opc_5 (by decide) (by decide +kernel) : op 0 1861 = some (.lconst 1, 1)) rfl ?_
        refine g_goto 1866 (opc_5 (by decide) (by decide +kernel) : op 0 1862 = some (.goto 4, 3)) rfl ?_
        have h9 := h; simp only [if_neg hc23] at h9; exact h9
    · rw [if_neg hc22] at h
      refine g_ifT 1872 (opc_5 (by decide) (by decide +kernel) : op 0 1850 = some (.ifCond .ne 22, 3)) rfl (decide_eq_true hc22) ?_
      exact h
  · rw [if_neg hc21] at h
    refine g_icmpF 1846 1848 (opc_5 (by decide) (by decide +kernel) : op 0 1843 = some (.if_icmp .eq 5, 3)) rfl rfl (decide_eq_false hc21) ?_
    refine g_iconst 1847 (opc_5 (by decide) (by decide +kernel) : op 0 1846 = some (.iconst 0, 1)) rfl rfl ?_
    exact (g_zret (opc_5 (by decide) (by decide +kernel) : op 0 1847 = some (.ireturn, 1)) (by decide +kernel) (by decide) h)
theorem b0_1875 {x4 : Int} {d5 : Option AV} {d6 : Option AV} {k : Nat} {n : Nat} {σ : Sg} {o : Rs} (h : (-2147483648 ≤ (x4 + 1) ∧ (x4 + 1) ≤ 2147483647) ∧ (0 ≤ (x4 + 1) ∧ (x4 + 1) < σ (SCR + 1) 0) ∧ (-2147483648 ≤ (x4 + 2) ∧ (x4 + 2) ≤ 2147483647) ∧ (0 ≤ (x4 + 2) ∧ (x4 + 2) < σ (SCR + 1) 0) ∧ ((k + 2) ≤ room_1.cells ∧ (n + 12) ≤ room_1.slots) ∧ (∃ (v6 : Int) (s5 : Sg), Dd 411 [(.inr (.inr (some 0))), (.inl (σ SCR ((x4 + 1)).toNat)), (.inl (σ SCR ((x4 + 2)).toNat)), (.inr (.inr (some 726)))] σ (.inl (some (.inl v6)), s5) ∧ (-2147483648 ≤ (x4 + 1) ∧ (x4 + 1) ≤ 2147483647) ∧ (0 ≤ (x4 + 1) ∧ (x4 + 1) < s5 (SCR + 1) 0) ∧ (-2147483648 ≤ (x4 + 2) ∧ (x4 + 2) ≤ 2147483647) ∧ (0 ≤ (x4 + 2) ∧ (x4 + 2) < s5 (SCR + 1) 0) ∧ ((k + 2) ≤ room_1.cells ∧ (n + 12) ≤ room_1.slots) ∧ (∃ (v14 : Int) (s13 : Sg), Dd 320 [(.inr (.inr (some 682))), (.inl (s5 SCR ((x4 + 1)).toNat)), (.inl (s5 SCR ((x4 + 2)).toNat))] s5 (.inl (some (.inl v14)), s13) ∧ ((k + 2) ≤ room_1.cells ∧ (n + 12) ≤ room_1.slots) ∧ (∃ (v18 : Int) (s17 : Sg), Dd 244 [(.inr (.inr (some 682)))] s13 (.inl (some (.inl v18)), s17) ∧ (if v18 = v6 then (if v6 = 0 then (if (if v14 < (s17 726 (0 : Int).toNat) then 1 else if (s17 726 (0 : Int).toNat) = v14 then 0 else -1) = 0 then C0_1940 x4 (some (.inl v6)) (some (.inl v14)) (k + 2) (n + 12) s17 o else o = (.inl (some (.inl 0)), s17)) else C0_1940 x4 (some (.inl v6)) (some (.inl v14)) (k + 2) (n + 12) s17 o) else o = (.inl (some (.inl 0)), s17)))))) : C0_1875 x4 d5 d6 k n σ o := by
  show Gd 0 1875 [(some (.inr (.inr (some SCR)))), (some (.inr (.inr (some 0)))), (some (.inr (.inr (some 682)))), (some (.inr (.inr (some 726)))), (some (.inl x4)), d5, d6] [] σ k n o
  refine g_aload_n 1876 (opc_5 (by decide) (by decide +kernel) : op 0 1875 = some (.aload_n 1, 1)) rfl rfl ?_
  refine g_aload_n 1877 (opc_5 (by decide) (by decide +kernel) : op 0 1876 = some (.aload_n 0, 1)) rfl rfl ?_
  refine g_iload 1879 (opc_5 (by decide) (by decide +kernel) : op 0 1877 = some (.iload 4, 2)) rfl rfl ?_
  refine g_iconst 1880 (opc_5 (by decide) (by decide +kernel) : op 0 1879 = some (.iconst 1, 1)) rfl rfl ?_
  obtain ⟨g1, h⟩ := h
  refine g_iadd 1881 (opc_5 (by decide) (by decide +kernel) : op 0 1880 = some (.iadd, 1)) rfl g1 ?_
  obtain ⟨g2, h⟩ := h
  refine g_scr 1882 (opc_5 (by decide) (by decide +kernel) : op 0 1881 = some (.iaload, 1)) rfl g2 ?_
  refine g_aload_n 1883 (opc_5 (by decide) (by decide +kernel) : op 0 1882 = some (.aload_n 0, 1)) rfl rfl ?_
  refine g_iload 1885 (opc_5 (by decide) (by decide +kernel) : op 0 1883 = some (.iload 4, 2)) rfl rfl ?_
  refine g_iconst 1886 (opc_5 (by decide) (by decide +kernel) : op 0 1885 = some (.iconst 2, 1)) rfl rfl ?_
  obtain ⟨g3, h⟩ := h
  refine g_iadd 1887 (opc_5 (by decide) (by decide +kernel) : op 0 1886 = some (.iadd, 1)) rfl g3 ?_
  obtain ⟨g4, h⟩ := h
  refine g_scr 1888 (opc_5 (by decide) (by decide +kernel) : op 0 1887 = some (.iaload, 1)) rfl g4 ?_
  refine g_aload_n 1889 (opc_5 (by decide) (by decide +kernel) : op 0 1888 = some (.aload_n 3, 1)) rfl rfl ?_
  obtain ⟨g8, h⟩ := h
  obtain ⟨v6, s5, hD7, h⟩ := h
  refine g_call 1892 [(.inl v6)] (opc_5 (by decide) (by decide +kernel) : op 0 1889 = some (.invokestatic 267, 3)) (call_stL (c := 2) (s := 12) (nj := 4) (j := 411) (t := []) (as := [(.inr (.inr (some 0))), (.inl (σ SCR ((x4 + 1)).toNat)), (.inl (σ SCR ((x4 + 2)).toNat)), (.inr (.inr (some 726)))]) (by decide +kernel) rfl (by decide +kernel) g8 rfl rfl rfl rfl rfl) hD7 rfl ?_
  refine g_istore 1894 [(some (.inr (.inr (some SCR)))), (some (.inr (.inr (some 0)))), (some (.inr (.inr (some 682)))), (some (.inr (.inr (some 726)))), (some (.inl x4)), (some (.inl v6)), d6] (opc_5 (by decide) (by decide +kernel) : op 0 1892 = some (.istore 5, 2)) rfl rfl rfl ?_
  refine g_aload_n 1895 (opc_5 (by decide) (by decide +kernel) : op 0 1894 = some (.aload_n 2, 1)) rfl rfl ?_
  refine g_aload_n 1896 (opc_5 (by decide) (by decide +kernel) : op 0 1895 = some (.aload_n 0, 1)) rfl rfl ?_
  refine g_iload 1898 (opc_5 (by decide) (by decide +kernel) : op 0 1896 = some (.iload 4, 2)) rfl rfl ?_
  refine g_iconst 1899 (opc_5 (by decide) (by decide +kernel) : op 0 1898 = some (.iconst 1, 1)) rfl rfl ?_
  obtain ⟨g9, h⟩ := h
  refine g_iadd 1900 (opc_5 (by decide) (by decide +kernel) : op 0 1899 = some (.iadd, 1)) rfl g9 ?_
  obtain ⟨g10, h⟩ := h
  refine g_scr 1901 (opc_5 (by decide) (by decide +kernel) : op 0 1900 = some (.iaload, 1)) rfl g10 ?_
  refine g_aload_n 1902 (opc_5 (by decide) (by decide +kernel) : op 0 1901 = some (.aload_n 0, 1)) rfl rfl ?_
  refine g_iload 1904 (opc_5 (by decide) (by decide +kernel) : op 0 1902 = some (.iload 4, 2)) rfl rfl ?_
  refine g_iconst 1905 (opc_5 (by decide) (by decide +kernel) : op 0 1904 = some (.iconst 2, 1)) rfl rfl ?_
  obtain ⟨g11, h⟩ := h
  refine g_iadd 1906 (opc_5 (by decide) (by decide +kernel) : op 0 1905 = some (.iadd, 1)) rfl g11 ?_
  obtain ⟨g12, h⟩ := h
  refine g_scr 1907 (opc_5 (by decide) (by decide +kernel) : op 0 1906 = some (.iaload, 1)) rfl g12 ?_
  obtain ⟨g16, h⟩ := h
  obtain ⟨v14, s13, hD15, h⟩ := h
  refine g_call 1910 [(.inl v14)] (opc_5 (by decide) (by decide +kernel) : op 0 1907 = some (.invokevirtual 269, 3)) (call_viL (c := 0) (s := 0) (nj := 3) (j := 320) (k9 := 21) (t := []) (as := [(.inr (.inr (some 682))), (.inl (s5 SCR ((x4 + 1)).toNat)), (.inl (s5 SCR ((x4 + 2)).toNat))]) (by decide +kernel) rfl (by decide +kernel) g16 rfl rfl rfl rfl rfl rfl (by decide +kernel) (by decide +kernel)) hD15 rfl ?_
  refine g_istore 1912 [(some (.inr (.inr (some SCR)))), (some (.inr (.inr (some 0)))), (some (.inr (.inr (some 682)))), (some (.inr (.inr (some 726)))), (some (.inl x4)), (some (.inl v6)), (some (.inl v14))] (opc_5 (by decide) (by decide +kernel) : op 0 1910 = some (.istore 6, 2)) rfl rfl rfl ?_
  refine g_aload_n 1913 (opc_5 (by decide) (by decide +kernel) : op 0 1912 = some (.aload_n 2, 1)) rfl rfl ?_
  obtain ⟨g20, h⟩ := h
  obtain ⟨v18, s17, hD19, h⟩ := h
  refine g_call 1916 [(.inl v18)] (opc_5 (by decide) (by decide +kernel) : op 0 1913 = some (.invokevirtual 194, 3)) (call_viL (c := 0) (s := 0) (nj := 1) (j := 244) (k9 := 21) (t := []) (as := [(.inr (.inr (some 682)))]) (by decide +kernel) rfl (by decide +kernel) g20 rfl rfl rfl rfl rfl rfl (by decide +kernel) (by decide +kernel)) hD19 rfl ?_
  refine g_iload 1918 (opc_5 (by decide) (by decide +kernel) : op 0 1916 = some (.iload 5, 2)) rfl rfl ?_
  by_cases hc21 : v18 = v6
  · rw [if_pos hc21] at h
    refine g_icmpT 1923 (opc_5 (by decide) (by decide +kernel) : op 0 1918 = some (.if_icmp .eq 5, 3)) rfl (decide_eq_true hc21) ?_
    refine g_iload 1925 (opc_5 (by decide) (by decide +kernel) : op 0 1923 = some (.iload 5, 2)) rfl rfl ?_
    by_cases hc22 : v6 = 0
    · rw [if_pos hc22] at h
      refine g_ifF 1928 1940 (opc_5 (by decide) (by decide +kernel) : op 0 1925 = some (.ifCond .ne 15, 3)) rfl rfl (decide_eq_false (fun h9 => h9 hc22)) ?_
      refine g_aload_n 1929 (opc_5 (by decide) (by decide +kernel) : op 0 1928 = some (.aload_n 3, 1)) rfl rfl ?_
      refine g_iconst 1930 (opc_5 (by decide) (by decide +kernel) : op 0 1929 = some (.iconst 0, 1)) rfl rfl ?_
      refine g_laload 1931 1 (opc_5 (by decide) (by decide +kernel) : op 0 1930 = some (.laload, 1)) rfl (by decide +kernel) (by decide) ?_
      refine g_iload 1933 (opc_5 (by decide) (by decide +kernel) : op 0 1931 = some (.iload 6, 2)) rfl rfl ?_
      refine g_i2l 1934 (opc_5 (by decide) (by decide +kernel) : op 0 1933 = some (.i2l, 1)) rfl ?_
      refine g_lcmp 1935 (opc_5 (by decide) (by decide +kernel) : op 0 1934 = some (.lcmp, 1)) rfl ?_
      by_cases hc23 : (if v14 < (s17 726 (0 : Int).toNat) then 1 else if (s17 726 (0 : Int).toNat) = v14 then 0 else -1) = 0
      · rw [if_pos hc23] at h
        refine g_ifT 1940 (opc_5 (by decide) (by decide +kernel) : op 0 1935 = some (.ifCond .eq 5, 3)) rfl (decide_eq_true hc23) ?_
        exact h
      · rw [if_neg hc23] at h
        refine g_ifF 1938 1940 (opc_5 (by decide) (by decide +kernel) : op 0 1935 = some (.ifCond .eq 5, 3)) rfl rfl (decide_eq_false hc23) ?_
        refine g_iconst 1939 (opc_5 (by decide) (by decide +kernel) : op 0 1938 = some (.iconst 0, 1)) rfl rfl ?_
        exact (g_zret (opc_5 (by decide) (by decide +kernel) : op 0 1939 = some (.ireturn, 1)) (by decide +kernel) (by decide) h)
    · rw [if_neg hc22] at h
      refine g_ifT 1940 (opc_5 (by decide) (by decide +kernel) : op 0 1925 = some (.ifCond .ne 15, 3)) rfl (decide_eq_true hc22) ?_
      exact h
  · rw [if_neg hc21] at h
    refine g_icmpF 1921 1923 (opc_5 (by decide) (by decide +kernel) : op 0 1918 = some (.if_icmp .eq 5, 3)) rfl rfl (decide_eq_false hc21) ?_
    refine g_iconst 1922 (opc_5 (by decide) (by decide +kernel) : op 0 1921 = some (.iconst 0, 1)) rfl rfl ?_
    exact (g_zret (opc_5 (by decide) (by decide +kernel) : op 0 1922 = some (.ireturn, 1)) (by decide +kernel) (by decide) h)
theorem b0_1943 {x4 : Int} {d5 : Option AV} {d6 : Option AV} {k : Nat} {n : Nat} {σ : Sg} {o : Rs} (h : (-2147483648 ≤ (x4 + 1) ∧ (x4 + 1) ≤ 2147483647) ∧ (0 ≤ (x4 + 1) ∧ (x4 + 1) < σ (SCR + 1) 0) ∧ (-2147483648 ≤ (x4 + 2) ∧ (x4 + 2) ≤ 2147483647) ∧ (0 ≤ (x4 + 2) ∧ (x4 + 2) < σ (SCR + 1) 0) ∧ (-2147483648 ≤ (x4 + 3) ∧ (x4 + 3) ≤ 2147483647) ∧ (0 ≤ (x4 + 3) ∧ (x4 + 3) < σ (SCR + 1) 0) ∧ ((k + 4) ≤ room_1.cells ∧ (n + 24) ≤ room_1.slots) ∧ (∃ (v8 : Int) (s7 : Sg), Dd 412 [(.inr (.inr (some 0))), (.inl (σ SCR ((x4 + 1)).toNat)), (.inl (σ SCR ((x4 + 2)).toNat)), (.inl (σ SCR ((x4 + 3)).toNat)), (.inr (.inr (some 726)))] σ (.inl (some (.inl v8)), s7) ∧ (-2147483648 ≤ (x4 + 1) ∧ (x4 + 1) ≤ 2147483647) ∧ (0 ≤ (x4 + 1) ∧ (x4 + 1) < s7 (SCR + 1) 0) ∧ (-2147483648 ≤ (x4 + 2) ∧ (x4 + 2) ≤ 2147483647) ∧ (0 ≤ (x4 + 2) ∧ (x4 + 2) < s7 (SCR + 1) 0) ∧ (-2147483648 ≤ (x4 + 3) ∧ (x4 + 3) ≤ 2147483647) ∧ (0 ≤ (x4 + 3) ∧ (x4 + 3) < s7 (SCR + 1) 0) ∧ ((k + 4) ≤ room_1.cells ∧ (n + 24) ≤ room_1.slots) ∧ (∃ (v18 : Int) (s17 : Sg), Dd 326 [(.inr (.inr (some 682))), (.inl (s7 SCR ((x4 + 1)).toNat)), (.inl (s7 SCR ((x4 + 2)).toNat)), (.inl (s7 SCR ((x4 + 3)).toNat))] s7 (.inl (some (.inl v18)), s17) ∧ ((k + 4) ≤ room_1.cells ∧ (n + 24) ≤ room_1.slots) ∧ (∃ (v22 : Int) (s21 : Sg), Dd 244 [(.inr (.inr (some 682)))] s17 (.inl (some (.inl v22)), s21) ∧ (if v22 = v8 then (if v8 = 0 then (if (if v18 < (s21 726 (0 : Int).toNat) then 1 else if (s21 726 (0 : Int).toNat) = v18 then 0 else -1) = 0 then C0_2020 x4 (some (.inl v8)) (some (.inl v18)) (k + 4) (n + 24) s21 o else o = (.inl (some (.inl 0)), s21)) else C0_2020 x4 (some (.inl v8)) (some (.inl v18)) (k + 4) (n + 24) s21 o) else o = (.inl (some (.inl 0)), s21)))))) : C0_1943 x4 d5 d6 k n σ o := by
  show Gd 0 1943 [(some (.inr (.inr (some SCR)))), (some (.inr (.inr (some 0)))), (some (.inr (.inr (some 682)))), (some (.inr (.inr (some 726)))), (some (.inl x4)), d5, d6] [] σ k n o
  refine g_aload_n 1944 (opc_5 (by decide) (by decide +kernel) : op 0 1943 = some (.aload_n 1, 1)) rfl rfl ?_
  refine g_aload_n 1945 (opc_5 (by decide) (by decide +kernel) : op 0 1944 = some (.aload_n 0, 1)) rfl rfl ?_
  refine g_iload 1947 (opc_5 (by decide) (by decide +kernel) : op 0 1945 = some (.iload 4, 2)) rfl rfl ?_
  refine g_iconst 1948 (opc_5 (by decide) (by decide +kernel) : op 0 1947 = some (.iconst 1, 1)) rfl rfl ?_
  obtain ⟨g1, h⟩ := h
  refine g_iadd 1949 (opc_5 (by decide) (by decide +kernel) : op 0 1948 = some (.iadd, 1)) rfl g1 ?_
  obtain ⟨g2, h⟩ := h
  refine g_scr 1950 (opc_5 (by decide) (by decide +kernel) : op 0 1949 = some (.iaload, 1)) rfl g2 ?_
  refine g_aload_n 1951 (opc_5 (by decide) (by decide +kernel) : op 0 1950 = some (.aload_n 0, 1)) rfl rfl ?_
  refine g_iload 1953 (opc_5 (by decide) (by decide +kernel) : op 0 1951 = some (.iload 4, 2)) rfl rfl ?_
  refine g_iconst 1954 (opc_5 (by decide) (by decide +kernel) : op 0 1953 = some (.iconst 2, 1)) rfl rfl ?_
  obtain ⟨g3, h⟩ := h
  refine g_iadd 1955 (opc_5 (by decide) (by decide +kernel) : op 0 1954 = some (.iadd, 1)) rfl g3 ?_
  obtain ⟨g4, h⟩ := h
  refine g_scr 1956 (opc_5 (by decide) (by decide +kernel) : op 0 1955 = some (.iaload, 1)) rfl g4 ?_
  refine g_aload_n 1957 (opc_5 (by decide) (by decide +kernel) : op 0 1956 = some (.aload_n 0, 1)) rfl rfl ?_
  refine g_iload 1959 (opc_5 (by decide) (by decide +kernel) : op 0 1957 = some (.iload 4, 2)) rfl rfl ?_
  refine g_iconst 1960 (opc_5 (by decide) (by decide +kernel) : op 0 1959 = some (.iconst 3, 1)) rfl rfl ?_
  obtain ⟨g5, h⟩ := h
  refine g_iadd 1961 (opc_5 (by decide) (by decide +kernel) : op 0 1960 = some (.iadd, 1)) rfl g5 ?_
  obtain ⟨g6, h⟩ := h
  refine g_scr 1962 (opc_5 (by decide) (by decide +kernel) : op 0 1961 = some (.iaload, 1)) rfl g6 ?_
  refine g_aload_n 1963 (opc_5 (by decide) (by decide +kernel) : op 0 1962 = some (.aload_n 3, 1)) rfl rfl ?_
  obtain ⟨g10, h⟩ := h
  obtain ⟨v8, s7, hD9, h⟩ := h
  refine g_call 1966 [(.inl v8)] (opc_5 (by decide) (by decide +kernel) : op 0 1963 = some (.invokestatic 270, 3)) (call_stL (c := 4) (s := 24) (nj := 5) (j := 412) (t := []) (as := [(.inr (.inr (some 0))), (.inl (σ SCR ((x4 + 1)).toNat)), (.inl (σ SCR ((x4 + 2)).toNat)), (.inl (σ SCR ((x4 + 3)).toNat)), (.inr (.inr (some 726)))]) (by decide +kernel) rfl (by decide +kernel) g10 rfl rfl rfl rfl rfl) hD9 rfl ?_
  refine g_istore 1968 [(some (.inr (.inr (some SCR)))), (some (.inr (.inr (some 0)))), (some (.inr (.inr (some 682)))), (some (.inr (.inr (some 726)))), (some (.inl x4)), (some (.inl v8)), d6] (opc_5 (by decide) (by decide +kernel) : op 0 1966 = some (.istore 5, 2)) rfl rfl rfl ?_
  refine g_aload_n 1969 (opc_5 (by decide) (by decide +kernel) : op 0 1968 = some (.aload_n 2, 1)) rfl rfl ?_
  refine g_aload_n 1970 (opc_5 (by decide) (by decide +kernel) : op 0 1969 = some (.aload_n 0, 1)) rfl rfl ?_
  refine g_iload 1972 (opc_5 (by decide) (by decide +kernel) : op 0 1970 = some (.iload 4, 2)) rfl rfl ?_
  refine g_iconst 1973 (opc_5 (by decide) (by decide +kernel) : op 0 1972 = some (.iconst 1, 1)) rfl rfl ?_
  obtain ⟨g11, h⟩ := h
  refine g_iadd 1974 (opc_5 (by decide) (by decide +kernel) : op 0 1973 = some (.iadd, 1)) rfl g11 ?_
  obtain ⟨g12, h⟩ := h
  refine g_scr 1975 (opc_5 (by decide) (by decide +kernel) : op 0 1974 = some (.iaload, 1)) rfl g12 ?_
  refine g_aload_n 1976 (opc_5 (by decide) (by decide +kernel) : op 0 1975 = some (.aload_n 0, 1)) rfl rfl ?_
  refine g_iload 1978 (opc_5 (by decide) (by decide +kernel) : op 0 1976 = some (.iload 4, 2)) rfl rfl ?_
  refine g_iconst 1979 (opc_5 (by decide) (by decide +kernel) : op 0 1978 = some (.iconst 2, 1)) rfl rfl ?_
  obtain ⟨g13, h⟩ := h
  refine g_iadd 1980 (opc_5 (by decide) (by decide +kernel) : op 0 1979 = some (.iadd, 1)) rfl g13 ?_
  obtain ⟨g14, h⟩ := h
  refine g_scr 1981 (opc_5 (by decide) (by decide +kernel) : op 0 1980 = some (.iaload, 1)) rfl g14 ?_
  refine g_aload_n 1982 (opc_5 (by decide) (by decide +kernel) : op 0 1981 = some (.aload_n 0, 1)) rfl rfl ?_
  refine g_iload 1984 (opc_5 (by decide) (by decide +kernel) : op 0 1982 = some (.iload 4, 2)) rfl rfl ?_
  refine g_iconst 1985 (opc_5 (by decide) (by decide +kernel) : op 0 1984 = some (.iconst 3, 1)) rfl rfl ?_
  obtain ⟨g15, h⟩ := h
  refine g_iadd 1986 (opc_5 (by decide) (by decide +kernel) : op 0 1985 = some (.iadd, 1)) rfl g15 ?_
  obtain ⟨g16, h⟩ := h
  refine g_scr 1987 (opc_5 (by decide) (by decide +kernel) : op 0 1986 = some (.iaload, 1)) rfl g16 ?_
  obtain ⟨g20, h⟩ := h
  obtain ⟨v18, s17, hD19, h⟩ := h
  refine g_call 1990 [(.inl v18)] (opc_5 (by decide) (by decide +kernel) : op 0 1987 = some (.invokevirtual 272, 3)) (call_viL (c := 0) (s := 0) (nj := 4) (j := 326) (k9 := 21) (t := []) (as := [(.inr (.inr (some 682))), (.inl (s7 SCR ((x4 + 1)).toNat)), (.inl (s7 SCR ((x4 + 2)).toNat)), (.inl (s7 SCR ((x4 + 3)).toNat))]) (by decide +kernel) rfl (by decide +kernel) g20 rfl rfl rfl rfl rfl rfl (by decide +kernel) (by decide +kernel)) hD19 rfl ?_
  refine g_istore 1992 [(some (.inr (.inr (some SCR)))), (some (.inr (.inr (some 0)))), (some (.inr (.inr (some 682)))), (some (.inr (.inr (some 726)))), (some (.inl x4)), (some (.inl v8)), (some (.inl v18))] (opc_5 (by decide) (by decide +kernel) : op 0 1990 = some (.istore 6, 2)) rfl rfl rfl ?_
  refine g_aload_n 1993 (opc_5 (by decide) (by decide +kernel) : op 0 1992 = some (.aload_n 2, 1)) rfl rfl ?_
  obtain ⟨g24, h⟩ := h
  obtain ⟨v22, s21, hD23, h⟩ := h
  refine g_call 1996 [(.inl v22)] (opc_5 (by decide) (by decide +kernel) : op 0 1993 = some (.invokevirtual 194, 3)) (call_viL (c := 0) (s := 0) (nj := 1) (j := 244) (k9 := 21) (t := []) (as := [(.inr (.inr (some 682)))]) (by decide +kernel) rfl (by decide +kernel) g24 rfl rfl rfl rfl rfl rfl (by decide +kernel) (by decide +kernel)) hD23 rfl ?_
  refine g_iload 1998 (opc_5 (by decide) (by decide +kernel) : op 0 1996 = some (.iload 5, 2)) rfl rfl ?_
  by_cases hc25 : v22 = v8
  · rw [if_pos hc25] at h
    refine g_icmpT 2003 (opc_5 (by decide) (by decide +kernel) : op 0 1998 = some (.if_icmp .eq 5, 3)) rfl (decide_eq_true hc25) ?_
    refine g_iload 2005 (opc_5 (by decide) (by decide +kernel) : op 0 2003 = some (.iload 5, 2)) rfl rfl ?_
    by_cases hc26 : v8 = 0
    · rw [if_pos hc26] at h
      refine g_ifF 2008 2020 (opc_5 (by decide) (by decide +kernel) : op 0 2005 = some (.ifCond .ne 15, 3)) rfl rfl (decide_eq_false (fun h9 => h9 hc26)) ?_
      refine g_aload_n 2009 (opc_5 (by decide) (by decide +kernel) : op 0 2008 = some (.aload_n 3, 1)) rfl rfl ?_
      refine g_iconst 2010 (opc_5 (by decide) (by decide +kernel) : op 0 2009 = some (.iconst 0, 1)) rfl rfl ?_
      refine g_laload 2011 1 (opc_5 (by decide) (by decide +kernel) : op 0 2010 = some (.laload, 1)) rfl (by decide +kernel) (by decide) ?_
      refine g_iload 2013 (opc_5 (by decide) (by decide +kernel) : op 0 2011 = some (.iload 6, 2)) rfl rfl ?_
      refine g_i2l 2014 (opc_5 (by decide) (by decide +kernel) : op 0 2013 = some (.i2l, 1)) rfl ?_
      refine g_lcmp 2015 (opc_5 (by decide) (by decide +kernel) : op 0 2014 = some (.lcmp, 1)) rfl ?_
      by_cases hc27 : (if v18 < (s21 726 (0 : Int).toNat) then 1 else if (s21 726 (0 : Int).toNat) = v18 then 0 else -1) = 0
      · rw [if_pos hc27] at h
        refine g_ifT 2020 (opc_5 (by decide) (by decide +kernel) : op 0 2015 = some (.ifCond .eq 5, 3)) rfl (decide_eq_true hc27) ?_
        exact h
      · rw [if_neg hc27] at h
        refine g_ifF 2018 2020 (opc_5 (by decide) (by decide +kernel) : op 0 2015 = some (.ifCond .eq 5, 3)) rfl rfl (decide_eq_false hc27) ?_
        refine g_iconst 2019 (opc_5 (by decide) (by decide +kernel) : op 0 2018 = some (.iconst 0, 1)) rfl rfl ?_
        exact (g_zret (opc_5 (by decide) (by decide +kernel) : op 0 2019 = some (.ireturn, 1)) (by decide +kernel) (by decide) h)
    · rw [if_neg hc26] at h
      refine g_ifT 2020 (opc_5 (by decide) (by decide +kernel) : op 0 2005 = some (.ifCond .ne 15, 3)) rfl (decide_eq_true hc26) ?_
      exact h
  · rw [if_neg hc25] at h
    refine g_icmpF 2001 2003 (opc_5 (by decide) (by decide +kernel) : op 0 1998 = some (.if_icmp .eq 5, 3)) rfl rfl (decide_eq_false hc25) ?_
    refine g_iconst 2002 (opc_5 (by decide) (by decide +kernel) : op 0 2001 = some (.iconst 0, 1)) rfl rfl ?_
    exact (g_zret (opc_5 (by decide) (by decide +kernel) : op 0 2002 = some (.ireturn, 1)) (by decide +kernel) (by decide) h)
theorem b0_2023 {x4 : Int} {d5 : Option AV} {d6 : Option AV} {k : Nat} {n : Nat} {σ : Sg} {o : Rs} (h : (-2147483648 ≤ (x4 + 1) ∧ (x4 + 1) ≤ 2147483647) ∧ (0 ≤ (x4 + 1) ∧ (x4 + 1) < σ (SCR + 1) 0) ∧ ((k + 1) ≤ room_1.cells ∧ (n + 6) ≤ room_1.slots) ∧ (∃ (v4 : Int) (s3 : Sg), Dd 413 [(.inr (.inr (some 0))), (.inl (σ SCR ((x4 + 1)).toNat)), (.inr (.inr (some 726)))] σ (.inl (some (.inl v4)), s3) ∧ (-2147483648 ≤ (x4 + 1) ∧ (x4 + 1) ≤ 2147483647) ∧ (0 ≤ (x4 + 1) ∧ (x4 + 1) < s3 (SCR + 1) 0) ∧ ((k + 1) ≤ room_1.cells ∧ (n + 6) ≤ room_1.slots) ∧ (∃ (v10 : Int) (s9 : Sg), Dd 327 [(.inr (.inr (some 682))), (.inl (s3 SCR ((x4 + 1)).toNat))] s3 (.inl (some (.inl v10)), s9) ∧ ((k + 1) ≤ room_1.cells ∧ (n + 6) ≤ room_1.slots) ∧ (∃ (v14 : Int) (s13 : Sg), Dd 244 [(.inr (.inr (some 682)))] s9 (.inl (some (.inl v14)), s13) ∧ (if v14 = v4 then (if v4 = 0 then (if (if v10 < (s13 726 (0 : Int).toNat) then 1 else if (s13 726 (0 : Int).toNat) = v10 then 0 else -1) = 0 then C0_2076 x4 (some (.inl v4)) (some (.inl v10)) (k + 1) (n + 6) s13 o else o = (.inl (some (.inl 0)), s13)) else C0_2076 x4 (some (.inl v4)) (some (.inl v10)) (k + 1) (n + 6) s13 o) else o = (.inl (some (.inl 0)), s13)))))) : C0_2023 x4 d5 d6 k n σ o := by
  show Gd 0 2023 [(some (.inr (.inr (some SCR)))), (some (.inr (.inr (some 0)))), (some (.inr (.inr (some 682)))), (some (.inr (.inr (some 726)))), (some (.inl x4)), d5, d6] [] σ k n o
  refine g_aload_n 2024 (opc_5 (by decide) (by decide +kernel) : op 0 2023 = some (.aload_n 1, 1)) rfl rfl ?_
  refine g_aload_n 2025 (opc_5 (by decide) (by decide +kernel) : op 0 2024 = some (.aload_n 0, 1)) rfl rfl ?_
  refine g_iload 2027 (opc_5 (by decide) (by decide +kernel) : op 0 2025 = some (.iload 4, 2)) rfl rfl ?_
  refine g_iconst 2028 (opc_5 (by decide) (by decide +kernel) : op 0 2027 = some (.iconst 1, 1)) rfl rfl ?_
  obtain ⟨g1, h⟩ := h
  refine g_iadd 2029 (opc_5 (by decide) (by decide +kernel) : op 0 2028 = some (.iadd, 1)) rfl g1 ?_
  obtain ⟨g2, h⟩ := h
  refine g_scr 2030 (opc_5 (by decide) (by decide +kernel) : op 0 2029 = some (.iaload, 1)) rfl g2 ?_
  refine g_aload_n 2031 (opc_5 (by decide) (by decide +kernel) : op 0 2030 = some (.aload_n 3, 1)) rfl rfl ?_
  obtain ⟨g6, h⟩ := h
  obtain ⟨v4, s3, hD5, h⟩ := h
  refine g_call 2034 [(.inl v4)] (opc_5 (by decide) (by decide +kernel) : op 0 2031 = some (.invokestatic 273, 3)) (call_stL (c := 1) (s := 6) (nj := 3) (j := 413) (t := []) (as := [(.inr (.inr (some 0))), (.inl (σ SCR ((x4 + 1)).toNat)), (.inr (.inr (some 726)))]) (by decide +kernel) rfl (by decide +kernel) g6 rfl rfl rfl rfl rfl) hD5 rfl ?_
  refine g_istore 2036 [(some (.inr (.inr (some SCR)))), (some (.inr (.inr (some 0)))), (some (.inr (.inr (some 682)))), (some (.inr (.inr (some 726)))), (some (.inl x4)), (some (.inl v4)), d6] (opc_5 (by decide) (by decide +kernel) : op 0 2034 = some (.istore 5, 2)) rfl rfl rfl ?_
  refine g_aload_n 2037 (opc_5 (by decide) (by decide +kernel) : op 0 2036 = some (.aload_n 2, 1)) rfl rfl ?_
  refine g_aload_n 2038 (opc_5 (by decide) (by decide +kernel) : op 0 2037 = some (.aload_n 0, 1)) rfl rfl ?_
  refine g_iload 2040 (opc_5 (by decide) (by decide +kernel) : op 0 2038 = some (.iload 4, 2)) rfl rfl ?_
  refine g_iconst 2041 (opc_5 (by decide) (by decide +kernel) : op 0 2040 = some (.iconst 1, 1)) rfl rfl ?_
  obtain ⟨g7, h⟩ := h
  refine g_iadd 2042 (opc_6 (by decide) (by decide +kernel) : op 0 2041 = some (.iadd, 1)) rfl g7 ?_
  obtain ⟨g8, h⟩ := h
  refine g_scr 2043 (opc_6 (by decide) (by decide +kernel) : op 0 2042 = some (.iaload, 1)) rfl g8 ?_
  obtain ⟨g12, h⟩ := h
  obtain ⟨v10, s9, hD11, h⟩ := h
  refine g_call 2046 [(.inl v10)] (opc_6 (by decide) (by decide +kernel) : op 0 2043 = some (.invokevirtual 275, 3)) (call_viL (c := 0) (s := 0) (nj := 2) (j := 327) (k9 := 21) (t := []) (as := [(.inr (.inr (some 682))), (.inl (s3 SCR ((x4 + 1)).toNat))]) (by decide +kernel) rfl (by decide +kernel) g12 rfl rfl rfl rfl rfl rfl (by decide +kernel) (by decide +kernel)) hD11 rfl ?_
  refine g_istore 2048 [(some (.inr (.inr (some SCR)))), (some (.inr (.inr (some 0)))), (some (.inr (.inr (some 682)))), (some (.inr (.inr (some 726)))), (some (.inl x4)), (some (.inl v4)), (some (.inl v10))] (opc_6 (by decide) (by decide +kernel) : op 0 2046 = some (.istore 6, 2)) rfl rfl rfl ?_
  refine g_aload_n 2049 (opc_6 (by decide) (by decide +kernel) : op 0 2048 = some (.aload_n 2, 1)) rfl rfl ?_
  obtain ⟨g16, h⟩ := h
  obtain ⟨v14, s13, hD15, h⟩ := h
  refine g_call 2052 [(.inl v14)] (opc_6 (by decide) (by decide +kernel) : op 0 2049 = some (.invokevirtual 194, 3)) (call_viL (c := 0) (s := 0) (nj := 1) (j := 244) (k9 := 21) (t := []) (as := [(.inr (.inr (some 682)))]) (by decide +kernel) rfl (by decide +kernel) g16 rfl rfl rfl rfl rfl rfl (by decide +kernel) (by decide +kernel)) hD15 rfl ?_
  refine g_iload 2054 (opc_6 (by decide) (by decide +kernel) : op 0 2052 = some (.iload 5, 2)) rfl rfl ?_
  by_cases hc17 : v14 = v4
  · rw [if_pos hc17] at h
    refine g_icmpT 2059 (opc_6 (by decide) (by decide +kernel) : op 0 2054 = some (.if_icmp .eq 5, 3)) rfl (decide_eq_true hc17) ?_
    refine g_iload 2061 (opc_6 (by decide) (by decide +kernel) : op 0 2059 = some (.iload 5, 2)) rfl rfl ?_
    by_cases hc18 : v4 = 0
    · rw [if_pos hc18] at h
      refine g_ifF 2064 2076 (opc_6 (by decide) (by decide +kernel) : op 0 2061 = some (.ifCond .ne 15, 3)) rfl rfl (decide_eq_false (fun h9 => h9 hc18)) ?_
      refine g_aload_n 2065 (opc_6 (by decide) (by decide +kernel) : op 0 2064 = some (.aload_n 3, 1)) rfl rfl ?_
      refine g_iconst 2066 (opc_6 (by decide) (by decide +kernel) : op 0 2065 = some (.iconst 0, 1)) rfl rfl ?_
      refine g_laload 2067 1 (opc_6 (by decide) (by decide +kernel) : op 0 2066 = some (.laload, 1)) rfl (by decide +kernel) (by decide) ?_
      refine g_iload 2069 (opc_6 (by decide) (by decide +kernel) : op 0 2067 = some (.iload 6, 2)) rfl rfl ?_
      refine g_i2l 2070 (opc_6 (by decide) (by decide +kernel) : op 0 2069 = some (.i2l, 1)) rfl ?_
      refine g_lcmp 2071 (opc_6 (by decide) (by decide +kernel) : op 0 2070 = some (.lcmp, 1)) rfl ?_
      by_cases hc19 : (if v10 < (s13 726 (0 : Int).toNat) then 1 else if (s13 726 (0 : Int).toNat) = v10 then 0 else -1) = 0
      · rw [if_pos hc19] at h
        refine g_ifT 2076 (opc_6 (by decide) (by decide +kernel) : op 0 2071 = some (.ifCond .eq 5, 3)) rfl (decide_eq_true hc19) ?_
        exact h
      · rw [if_neg hc19] at h
        refine g_ifF 2074 2076 (opc_6 (by decide) (by decide +kernel) : op 0 2071 = some (.ifCond .eq 5, 3)) rfl rfl (decide_eq_false hc19) ?_
        refine g_iconst 2075 (opc_6 (by decide) (by decide +kernel) : op 0 2074 = some (.iconst 0, 1)) rfl rfl ?_
        exact (g_zret (opc_6 (by decide) (by decide +kernel) : op 0 2075 = some (.ireturn, 1)) (by decide +kernel) (by decide) h)
    · rw [if_neg hc18] at h
      refine g_ifT 2076 (opc_6 (by decide) (by decide +kernel) : op 0 2061 = some (.ifCond .ne 15, 3)) rfl (decide_eq_true hc18) ?_
      exact h
  · rw [if_neg hc17] at h
    refine g_icmpF 2057 2059 (opc_6 (by decide) (by decide +kernel) : op 0 2054 = some (.if_icmp .eq 5, 3)) rfl rfl (decide_eq_false hc17) ?_
    refine g_iconst 2058 (opc_6 (by decide) (by decide +kernel) : op 0 2057 = some (.iconst 0, 1)) rfl rfl ?_
    exact (g_zret (opc_6 (by decide) (by decide +kernel) : op 0 2058 = some (.ireturn, 1)) (by decide +kernel) (by decide) h)
theorem b0_2079 {x4 : Int} {d5 : Option AV} {d6 : Option AV} {k : Nat} {n : Nat} {σ : Sg} {o : Rs} (h : (-2147483648 ≤ (x4 + 1) ∧ (x4 + 1) ≤ 2147483647) ∧ (0 ≤ (x4 + 1) ∧ (x4 + 1) < σ (SCR + 1) 0) ∧ (-2147483648 ≤ (x4 + 2) ∧ (x4 + 2) ≤ 2147483647) ∧ (0 ≤ (x4 + 2) ∧ (x4 + 2) < σ (SCR + 1) 0) ∧ (-2147483648 ≤ (x4 + 3) ∧ (x4 + 3) ≤ 2147483647) ∧ (0 ≤ (x4 + 3) ∧ (x4 + 3) < σ (SCR + 1) 0) ∧ ((k + 5) ≤ room_1.cells ∧ (n + 30) ≤ room_1.slots) ∧ (∃ (v8 : Int) (s7 : Sg), Dd 414 [(.inr (.inr (some 0))), (.inl (σ SCR ((x4 + 1)).toNat)), (.inl (σ SCR ((x4 + 2)).toNat)), (.inl (σ SCR ((x4 + 3)).toNat)), (.inr (.inr (some 726)))] σ (.inl (some (.inl v8)), s7) ∧ (-2147483648 ≤ (x4 + 1) ∧ (x4 + 1) ≤ 2147483647) ∧ (0 ≤ (x4 + 1) ∧ (x4 + 1) < s7 (SCR + 1) 0) ∧ (-2147483648 ≤ (x4 + 2) ∧ (x4 + 2) ≤ 2147483647) ∧ (0 ≤ (x4 + 2) ∧ (x4 + 2) < s7 (SCR + 1) 0) ∧ (-2147483648 ≤ (x4 + 3) ∧ (x4 + 3) ≤ 2147483647) ∧ (0 ≤ (x4 + 3) ∧ (x4 + 3) < s7 (SCR + 1) 0) ∧ ((k + 5) ≤ room_1.cells ∧ (n + 30) ≤ room_1.slots) ∧ (∃ (v18 : Int) (s17 : Sg), Dd 333 [(.inr (.inr (some 682))), (.inl (s7 SCR ((x4 + 1)).toNat)), (.inl (s7 SCR ((x4 + 2)).toNat)), (.inl (s7 SCR ((x4 + 3)).toNat))] s7 (.inl (some (.inl v18)), s17) ∧ ((k + 5) ≤ room_1.cells ∧ (n + 30) ≤ room_1.slots) ∧ (∃ (v22 : Int) (s21 : Sg), Dd 244 [(.inr (.inr (some 682)))] s17 (.inl (some (.inl v22)), s21) ∧ (if v22 = v8 then (if v8 = 0 then (if (if v18 < (s21 726 (0 : Int).toNat) then 1 else if (s21 726 (0 : Int).toNat) = v18 then 0 else -1) = 0 then C0_2156 x4 (some (.inl v8)) (some (.inl v18)) (k + 5) (n + 30) s21 o else o = (.inl (some (.inl 0)), s21)) else C0_2156 x4 (some (.inl v8)) (some (.inl v18)) (k + 5) (n + 30) s21 o) else o = (.inl (some (.inl 0)), s21)))))) : C0_2079 x4 d5 d6 k n σ o := by
  show Gd 0 2079 [(some (.inr (.inr (some SCR)))), (some (.inr (.inr (some 0)))), (some (.inr (.inr (some 682)))), (some (.inr (.inr (some 726)))), (some (.inl x4)), d5, d6] [] σ k n o
  refine g_aload_n 2080 (opc_6 (by decide) (by decide +kernel) : op 0 2079 = some (.aload_n 1, 1)) rfl rfl ?_
  refine g_aload_n 2081 (opc_6 (by decide) (by decide +kernel) : op 0 2080 = some (.aload_n 0, 1)) rfl rfl ?_
  refine g_iload 2083 (opc_6 (by decide) (by decide +kernel) : op 0 2081 = some (.iload 4, 2)) rfl rfl ?_
  refine g_iconst 2084 (opc_6 (by decide) (by decide +kernel) : op 0 2083 = some (.iconst 1, 1)) rfl rfl ?_
  obtain ⟨g1, h⟩ := h
  refine g_iadd 2085 (opc_6 (by decide) (by decide +kernel) : op 0 2084 = some (.iadd, 1)) rfl g1 ?_
  obtain ⟨g2, h⟩ := h
  refine g_scr 2086 (opc_6 (by decide) (by decide +kernel) : op 0 2085 = some (.iaload, 1)) rfl g2 ?_
  refine g_aload_n 2087 (opc_6 (by decide) (by decide +kernel) : op 0 2086 = some (.aload_n 0, 1)) rfl rfl ?_
  refine g_iload 2089 (opc_6 (by decide) (by decide +kernel) : op 0 2087 = some (.iload 4, 2)) rfl rfl ?_
  refine g_iconst 2090 (opc_6 (by decide) (by decide +kernel) : op 0 2089 = some (.iconst 2, 1)) rfl rfl ?_
  obtain ⟨g3, h⟩ := h
  refine g_iadd 2091 (opc_6 (by decide) (by decide +kernel) : op 0 2090 = some (.iadd, 1)) rfl g3 ?_
  obtain ⟨g4, h⟩ := h
  refine g_scr 2092 (opc_6 (by decide) (by decide +kernel) : op 0 2091 = some (.iaload, 1)) rfl g4 ?_
  refine g_aload_n 2093 (opc_6 (by decide) (by decide +kernel) : op 0 2092 = some (.aload_n 0, 1)) rfl rfl ?_
  refine g_iload 2095 (opc_6 (by decide) (by decide +kernel) : op 0 2093 = some (.iload 4, 2)) rfl rfl ?_
  refine g_iconst 2096 (opc_6 (by decide) (by decide +kernel) : op 0 2095 = some (.iconst 3, 1)) rfl rfl ?_
  obtain ⟨g5, h⟩ := h
  refine g_iadd 2097 (opc_6 (by decide) (by decide +kernel) : op 0 2096 = some (.iadd, 1)) rfl g5 ?_
  obtain ⟨g6, h⟩ := h
  refine g_scr 2098 (opc_6 (by decide) (by decide +kernel) : op 0 2097 = some (.iaload, 1)) rfl g6 ?_
  refine g_aload_n 2099 (opc_6 (by decide) (by decide +kernel) : op 0 2098 = some (.aload_n 3, 1)) rfl rfl ?_
  obtain ⟨g10, h⟩ := h
  obtain ⟨v8, s7, hD9, h⟩ := h
  refine g_call 2102 [(.inl v8)] (opc_6 (by decide) (by decide +kernel) : op 0 2099 = some (.invokestatic 276, 3)) (call_stL (c := 5) (s := 30) (nj := 5) (j := 414) (t := []) (as := [(.inr (.inr (some 0))), (.inl (σ SCR ((x4 + 1)).toNat)), (.inl (σ SCR ((x4 + 2)).toNat)), (.inl (σ SCR ((x4 + 3)).toNat)), (.inr (.inr (some 726)))]) (by decide +kernel) rfl (by decide +kernel) g10 rfl rfl rfl rfl rfl) hD9 rfl ?_
  refine g_istore 2104 [(some (.inr (.inr (some SCR)))), (some (.inr (.inr (some 0)))), (some (.inr (.inr (some 682)))), (some (.inr (.inr (some 726)))), (some (.inl x4)), (some (.inl v8)), d6] (opc_6 (by decide) (by decide +kernel) : op 0 2102 = some (.istore 5, 2)) rfl rfl rfl ?_
  refine g_aload_n 2105 (opc_6 (by decide) (by decide +kernel) : op 0 2104 = some (.aload_n 2, 1)) rfl rfl ?_
  refine g_aload_n 2106 (opc_6 (by decide) (by decide +kernel) : op 0 2105 = some (.aload_n 0, 1)) rfl rfl ?_
  refine g_iload 2108 (opc_6 (by decide) (by decide +kernel) : op 0 2106 = some (.iload 4, 2)) rfl rfl ?_
  refine g_iconst 2109 (opc_6 (by decide) (by decide +kernel) : op 0 2108 = some (.iconst 1, 1)) rfl rfl ?_
  obtain ⟨g11, h⟩ := h
  refine g_iadd 2110 (opc_6 (by decide) (by decide +kernel) : op 0 2109 = some (.iadd, 1)) rfl g11 ?_
  obtain ⟨g12, h⟩ := h
  refine g_scr 2111 (opc_6 (by decide) (by decide +kernel) : op 0 2110 = some (.iaload, 1)) rfl g12 ?_
  refine g_aload_n 2112 (opc_6 (by decide) (by decide +kernel) : op 0 2111 = some (.aload_n 0, 1)) rfl rfl ?_
  refine g_iload 2114 (opc_6 (by decide) (by decide +kernel) : op 0 2112 = some (.iload 4, 2)) rfl rfl ?_
  refine g_iconst 2115 (opc_6 (by decide) (by decide +kernel) : op 0 2114 = some (.iconst 2, 1)) rfl rfl ?_
  obtain ⟨g13, h⟩ := h
  refine g_iadd 2116 (opc_6 (by decide) (by decide +kernel) : op 0 2115 = some (.iadd, 1)) rfl g13 ?_
  obtain ⟨g14, h⟩ := h
  refine g_scr 2117 (opc_6 (by decide) (by decide +kernel) : op 0 2116 = some (.iaload, 1)) rfl g14 ?_
  refine g_aload_n 2118 (opc_6 (by decide) (by decide +kernel) : op 0 2117 = some (.aload_n 0, 1)) rfl rfl ?_
  refine g_iload 2120 (opc_6 (by decide) (by decide +kernel) : op 0 2118 = some (.iload 4, 2)) rfl rfl ?_
  refine g_iconst 2121 (opc_6 (by decide) (by decide +kernel) : op 0 2120 = some (.iconst 3, 1)) rfl rfl ?_
  obtain ⟨g15, h⟩ := h
  refine g_iadd 2122 (opc_6 (by decide) (by decide +kernel) : op 0 2121 = some (.iadd, 1)) rfl g15 ?_
  obtain ⟨g16, h⟩ := h
  refine g_scr 2123 (opc_6 (by decide) (by decide +kernel) : op 0 2122 = some (.iaload, 1)) rfl g16 ?_
  obtain ⟨g20, h⟩ := h
  obtain ⟨v18, s17, hD19, h⟩ := h
  refine g_call 2126 [(.inl v18)] (opc_6 (by decide) (by decide +kernel) : op 0 2123 = some (.invokevirtual 278, 3)) (call_viL (c := 0) (s := 0) (nj := 4) (j := 333) (k9 := 21) (t := []) (as := [(.inr (.inr (some 682))), (.inl (s7 SCR ((x4 + 1)).toNat)), (.inl (s7 SCR ((x4 + 2)).toNat)), (.inl (s7 SCR ((x4 + 3)).toNat))]) (by decide +kernel) rfl (by decide +kernel) g20 rfl rfl rfl rfl rfl rfl (by decide +kernel) (by decide +kernel)) hD19 rfl ?_
  refine g_istore 2128 [(some (.inr (.inr (some SCR)))), (some (.inr (.inr (some 0)))), (some (.inr (.inr (some 682)))), (some (.inr (.inr (some 726)))), (some (.inl x4)), (some (.inl v8)), (some (.inl v18))] (opc_6 (by decide) (by decide +kernel) : op 0 2126 = some (.istore 6, 2)) rfl rfl rfl ?_
  refine g_aload_n 2129 (opc_6 (by decide) (by decide +kernel) : op 0 2128 = some (.aload_n 2, 1)) rfl rfl ?_
  obtain ⟨g24, h⟩ := h
  obtain ⟨v22, s21, hD23, h⟩ := h
  refine g_call 2132 [(.inl v22)] (opc_6 (by decide) (by decide +kernel) : op 0 2129 = some (.invokevirtual 194, 3)) (call_viL (c := 0) (s := 0) (nj := 1) (j := 244) (k9 := 21) (t := []) (as := [(.inr (.inr (some 682)))]) (by decide +kernel) rfl (by decide +kernel) g24 rfl rfl rfl rfl rfl rfl (by decide +kernel) (by decide +kernel)) hD23 rfl ?_
  refine g_iload 2134 (opc_6 (by decide) (by decide +kernel) : op 0 2132 = some (.iload 5, 2)) rfl rfl ?_
  by_cases hc25 : v22 = v8
  · rw [if_pos hc25] at h
    refine g_icmpT 2139 (opc_6 (by decide) (by decide +kernel) : op 0 2134 = some (.if_icmp .eq 5, 3)) rfl (decide_eq_true hc25) ?_
    refine g_iload 2141 (opc_6 (by decide) (by decide +kernel) : op 0 2139 = some (.iload 5, 2)) rfl rfl ?_
    by_cases hc26 : v8 = 0
    · rw [if_pos hc26] at h
      refine g_ifF 2144 2156 (opc_6 (by decide) (by decide +kernel) : op 0 2141 = some (.ifCond .ne 15, 3)) rfl rfl (decide_eq_false (fun h9 => h9 hc26)) ?_
      refine g_aload_n 2145 (opc_6 (by decide) (by decide +kernel) : op 0 2144 = some (.aload_n 3, 1)) rfl rfl ?_
      refine g_iconst 2146 (opc_6 (by decide) (by decide +kernel) : op 0 2145 = some (.iconst 0, 1)) rfl rfl ?_
      refine g_laload 2147 1 (opc_6 (by decide) (by decide +kernel) : op 0 2146 = some (.laload, 1)) rfl (by decide +kernel) (by decide) ?_
      refine g_iload 2149 (opc_6 (by decide) (by decide +kernel) : op 0 2147 = some (.iload 6, 2)) rfl rfl ?_
      refine g_i2l 2150 (opc_6 (by decide) (by decide +kernel) : op 0 2149 = some (.i2l, 1)) rfl ?_
      refine g_lcmp 2151 (opc_6 (by decide) (by decide +kernel) : op 0 2150 = some (.lcmp, 1)) rfl ?_
      by_cases hc27 : (if v18 < (s21 726 (0 : Int).toNat) then 1 else if (s21 726 (0 : Int).toNat) = v18 then 0 else -1) = 0
      · rw [if_pos hc27] at h
        refine g_ifT 2156 (opc_6 (by decide) (by decide +kernel) : op 0 2151 = some (.ifCond .eq 5, 3)) rfl (decide_eq_true hc27) ?_
        exact h
      · rw [if_neg hc27] at h
        refine g_ifF 2154 2156 (opc_6 (by decide) (by decide +kernel) : op 0 2151 = some (.ifCond .eq 5, 3)) rfl rfl (decide_eq_false hc27) ?_
        refine g_iconst 2155 (opc_6 (by decide) (by decide +kernel) : op 0 2154 = some (.iconst 0, 1)) rfl rfl ?_
        exact (g_zret (opc_6 (by decide) (by decide +kernel) : op 0 2155 = some (.ireturn, 1)) (by decide +kernel) (by decide) h)
    · rw [if_neg hc26] at h
      refine g_ifT 2156 (opc_6 (by decide) (by decide +kernel) : op 0 2141 = some (.ifCond .ne 15, 3)) rfl (decide_eq_true hc26) ?_
      exact h
  · rw [if_neg hc25] at h
    refine g_icmpF 2137 2139 (opc_6 (by decide) (by decide +kernel) : op 0 2134 = some (.if_icmp .eq 5, 3)) rfl rfl (decide_eq_false hc25) ?_
    refine g_iconst 2138 (opc_6 (by decide) (by decide +kernel) : op 0 2137 = some (.iconst 0, 1)) rfl rfl ?_
    exact (g_zret (opc_6 (by decide) (by decide +kernel) : op 0 2138 = some (.ireturn, 1)) (by decide +kernel) (by decide) h)
theorem b0_2159 {x4 : Int} {d5 : Option AV} {d6 : Option AV} {k : Nat} {n : Nat} {σ : Sg} {o : Rs} (h : (-2147483648 ≤ (x4 + 1) ∧ (x4 + 1) ≤ 2147483647) ∧ (0 ≤ (x4 + 1) ∧ (x4 + 1) < σ (SCR + 1) 0) ∧ ((k + 1) ≤ room_1.cells ∧ (n + 6) ≤ room_1.slots) ∧ (∃ (v4 : Int) (s3 : Sg), Dd 415 [(.inr (.inr (some 0))), (.inl (σ SCR ((x4 + 1)).toNat)), (.inr (.inr (some 726)))] σ (.inl (some (.inl v4)), s3) ∧ (-2147483648 ≤ (x4 + 1) ∧ (x4 + 1) ≤ 2147483647) ∧ (0 ≤ (x4 + 1) ∧ (x4 + 1) < s3 (SCR + 1) 0) ∧ ((k + 1) ≤ room_1.cells ∧ (n + 6) ≤ room_1.slots) ∧ (∃ (v10 : Int) (s9 : Sg), Dd 338 [(.inr (.inr (some 682))), (.inl (s3 SCR ((x4 + 1)).toNat))] s3 (.inl (some (.inl v10)), s9) ∧ ((k + 1) ≤ room_1.cells ∧ (n + 6) ≤ room_1.slots) ∧ (∃ (v14 : Int) (s13 : Sg), Dd 244 [(.inr (.inr (some 682)))] s9 (.inl (some (.inl v14)), s13) ∧ (if v14 = v4 then (if v4 = 0 then (if (if v10 < (s13 726 (0 : Int).toNat) then 1 else if (s13 726 (0 : Int).toNat) = v10 then 0 else -1) = 0 then C0_2212 x4 (some (.inl v4)) (some (.inl v10)) (k + 1) (n + 6) s13 o else o = (.inl (some (.inl 0)), s13)) else C0_2212 x4 (some (.inl v4)) (some (.inl v10)) (k + 1) (n + 6) s13 o) else o = (.inl (some (.inl 0)), s13)))))) : C0_2159 x4 d5 d6 k n σ o := by
  show Gd 0 2159 [(some (.inr (.inr (some SCR)))), (some (.inr (.inr (some 0)))), (some (.inr (.inr (some 682)))), (some (.inr (.inr (some 726)))), (some (.inl x4)), d5, d6] [] σ k n o
  refine g_aload_n 2160 (opc_6 (by decide) (by decide +kernel) : op 0 2159 = some (.aload_n 1, 1)) rfl rfl ?_
  refine g_aload_n 2161 (opc_6 (by decide) (by decide +kernel) : op 0 2160 = some (.aload_n 0, 1)) rfl rfl ?_
  refine g_iload 2163 (opc_6 (by decide) (by decide +kernel) : op 0 2161 = some (.iload 4, 2)) rfl rfl ?_
  refine g_iconst 2164 (opc_6 (by decide) (by decide +kernel) : op 0 2163 = some (.iconst 1, 1)) rfl rfl ?_
  obtain ⟨g1, h⟩ := h
  refine g_iadd 2165 (opc_6 (by decide) (by decide +kernel) : op 0 2164 = some (.iadd, 1)) rfl g1 ?_
  obtain ⟨g2, h⟩ := h
  refine g_scr 2166 (opc_6 (by decide) (by decide +kernel) : op 0 2165 = some (.iaload, 1)) rfl g2 ?_
  refine g_aload_n 2167 (opc_6 (by decide) (by decide +kernel) : op 0 2166 = some (.aload_n 3, 1)) rfl rfl ?_
  obtain ⟨g6, h⟩ := h
  obtain ⟨v4, s3, hD5, h⟩ := h
  refine g_call 2170 [(.inl v4)] (opc_6 (by decide) (by decide +kernel) : op 0 2167 = some (.invokestatic 279, 3)) (call_stL (c := 1) (s := 6) (nj := 3) (j := 415) (t := []) (as := [(.inr (.inr (some 0))), (.inl (σ SCR ((x4 + 1)).toNat)), (.inr (.inr (some 726)))]) (by decide +kernel) rfl (by decide +kernel) g6 rfl rfl rfl rfl rfl) hD5 rfl ?_
  refine g_istore 2172 [(some (.inr (.inr (some SCR)))), (some (.inr (.inr (some 0)))), (some (.inr (.inr (some 682)))), (some (.inr (.inr (some 726)))), (some (.inl x4)), (some (.inl v4)), d6] (opc_6 (by decide) (by decide +kernel) : op 0 2170 = some (.istore 5, 2)) rfl rfl rfl ?_
  refine g_aload_n 2173 (opc_6 (by decide) (by decide +kernel) : op 0 2172 = some (.aload_n 2, 1)) rfl rfl ?_
  refine g_aload_n 2174 (opc_6 (by decide) (by decide +kernel) : op 0 2173 = some (.aload_n 0, 1)) rfl rfl ?_
  refine g_iload 2176 (opc_6 (by decide) (by decide +kernel) : op 0 2174 = some (.iload 4, 2)) rfl rfl ?_
  refine g_iconst 2177 (opc_6 (by decide) (by decide +kernel) : op 0 2176 = some (.iconst 1, 1)) rfl rfl ?_
  obtain ⟨g7, h⟩ := h
  refine g_iadd 2178 (opc_6 (by decide) (by decide +kernel) : op 0 2177 = some (.iadd, 1)) rfl g7 ?_
  obtain ⟨g8, h⟩ := h
  refine g_scr 2179 (opc_6 (by decide) (by decide +kernel) : op 0 2178 = some (.iaload, 1)) rfl g8 ?_
  obtain ⟨g12, h⟩ := h
  obtain ⟨v10, s9, hD11, h⟩ := h
  refine g_call 2182 [(.inl v10)] (opc_6 (by decide) (by decide +kernel) : op 0 2179 = some (.invokevirtual 281, 3)) (call_viL (c := 0) (s := 0) (nj := 2) (j := 338) (k9 := 21) (t := []) (as := [(.inr (.inr (some 682))), (.inl (s3 SCR ((x4 + 1)).toNat))]) (by decide +kernel) rfl (by decide +kernel) g12 rfl rfl rfl rfl rfl rfl (by decide +kernel) (by decide +kernel)) hD11 rfl ?_
  refine g_istore 2184 [(some (.inr (.inr (some SCR)))), (some (.inr (.inr (some 0)))), (some (.inr (.inr (some 682)))), (some (.inr (.inr (some 726)))), (some (.inl x4)), (some (.inl v4)), (some (.inl v10))] (opc_6 (by decide) (by decide +kernel) : op 0 2182 = some (.istore 6, 2)) rfl rfl rfl ?_
  refine g_aload_n 2185 (opc_6 (by decide) (by decide +kernel) : op 0 2184 = some (.aload_n 2, 1)) rfl rfl ?_
  obtain ⟨g16, h⟩ := h
  obtain ⟨v14, s13, hD15, h⟩ := h
  refine g_call 2188 [(.inl v14)] (opc_6 (by decide) (by decide +kernel) : op 0 2185 = some (.invokevirtual 194, 3)) (call_viL (c := 0) (s := 0) (nj := 1) (j := 244) (k9 := 21) (t := []) (as := [(.inr (.inr (some 682)))]) (by decide +kernel) rfl (by decide +kernel) g16 rfl rfl rfl rfl rfl rfl (by decide +kernel) (by decide +kernel)) hD15 rfl ?_
  refine g_iload 2190 (opc_6 (by decide) (by decide +kernel) : op 0 2188 = some (.iload 5, 2)) rfl rfl ?_
  by_cases hc17 : v14 = v4
  · rw [if_pos hc17] at h
    refine g_icmpT 2195 (opc_6 (by decide) (by decide +kernel) : op 0 2190 = some (.if_icmp .eq 5, 3)) rfl (decide_eq_true hc17) ?_
    refine g_iload 2197 (opc_6 (by decide) (by decide +kernel) : op 0 2195 = some (.iload 5, 2)) rfl rfl ?_
    by_cases hc18 : v4 = 0
    · rw [if_pos hc18] at h
      refine g_ifF 2200 2212 (opc_6 (by decide) (by decide +kernel) : op 0 2197 = some (.ifCond .ne 15, 3)) rfl rfl (decide_eq_false (fun h9 => h9 hc18)) ?_
      refine g_aload_n 2201 (opc_6 (by decide) (by decide +kernel) : op 0 2200 = some (.aload_n 3, 1)) rfl rfl ?_
      refine g_iconst 2202 (opc_6 (by decide) (by decide +kernel) : op 0 2201 = some (.iconst 0, 1)) rfl rfl ?_
      refine g_laload 2203 1 (opc_6 (by decide) (by decide +kernel) : op 0 2202 = some (.laload, 1)) rfl (by decide +kernel) (by decide) ?_
      refine g_iload 2205 (opc_6 (by decide) (by decide +kernel) : op 0 2203 = some (.iload 6, 2)) rfl rfl ?_
      refine g_i2l 2206 (opc_6 (by decide) (by decide +kernel) : op 0 2205 = some (.i2l, 1)) rfl ?_
      refine g_lcmp 2207 (opc_6 (by decide) (by decide +kernel) : op 0 2206 = some (.lcmp, 1)) rfl ?_
      by_cases hc19 : (if v10 < (s13 726 (0 : Int).toNat) then 1 else if (s13 726 (0 : Int).toNat) = v10 then 0 else -1) = 0
      · rw [if_pos hc19] at h
        refine g_ifT 2212 (opc_6 (by decide) (by decide +kernel) : op 0 2207 = some (.ifCond .eq 5, 3)) rfl (decide_eq_true hc19) ?_
        exact h
      · rw [if_neg hc19] at h
        refine g_ifF 2210 2212 (opc_6 (by decide) (by decide +kernel) : op 0 2207 = some (.ifCond .eq 5, 3)) rfl rfl (decide_eq_false hc19) ?_
        refine g_iconst 2211 (opc_6 (by decide) (by decide +kernel) : op 0 2210 = some (.iconst 0, 1)) rfl rfl ?_
        exact (g_zret (opc_6 (by decide) (by decide +kernel) : op 0 2211 = some (.ireturn, 1)) (by decide +kernel) (by decide) h)
    · rw [if_neg hc18] at h
      refine g_ifT 2212 (opc_6 (by decide) (by decide +kernel) : op 0 2197 = some (.ifCond .ne 15, 3)) rfl (decide_eq_true hc18) ?_
      exact h
  · rw [if_neg hc17] at h
    refine g_icmpF 2193 2195 (opc_6 (by decide) (by decide +kernel) : op 0 2190 = some (.if_icmp .eq 5, 3)) rfl rfl (decide_eq_false hc17) ?_
    refine g_iconst 2194 (opc_6 (by decide) (by decide +kernel) : op 0 2193 = some (.iconst 0, 1)) rfl rfl ?_
    exact (g_zret (opc_6 (by decide) (by decide +kernel) : op 0 2194 = some (.ireturn, 1)) (by decide +kernel) (by decide) h)
theorem b0_2215 {x4 : Int} {d5 : Option AV} {d6 : Option AV} {k : Nat} {n : Nat} {σ : Sg} {o : Rs} (h : (-2147483648 ≤ (x4 + 1) ∧ (x4 + 1) ≤ 2147483647) ∧ (0 ≤ (x4 + 1) ∧ (x4 + 1) < σ (SCR + 1) 0) ∧ (-2147483648 ≤ (x4 + 2) ∧ (x4 + 2) ≤ 2147483647) ∧ (0 ≤ (x4 + 2) ∧ (x4 + 2) < σ (SCR + 1) 0) ∧ (-2147483648 ≤ (x4 + 3) ∧ (x4 + 3) ≤ 2147483647) ∧ (0 ≤ (x4 + 3) ∧ (x4 + 3) < σ (SCR + 1) 0) ∧ ((k + 3) ≤ room_1.cells ∧ (n + 18) ≤ room_1.slots) ∧ (∃ (v8 : Int) (s7 : Sg), Dd 416 [(.inr (.inr (some 0))), (.inl (σ SCR ((x4 + 1)).toNat)), (.inl (σ SCR ((x4 + 2)).toNat)), (.inl (σ SCR ((x4 + 3)).toNat)), (.inr (.inr (some 726)))] σ (.inl (some (.inl v8)), s7) ∧ (-2147483648 ≤ (x4 + 1) ∧ (x4 + 1) ≤ 2147483647) ∧ (0 ≤ (x4 + 1) ∧ (x4 + 1) < s7 (SCR + 1) 0) ∧ (-2147483648 ≤ (x4 + 2) ∧ (x4 + 2) ≤ 2147483647) ∧ (0 ≤ (x4 + 2) ∧ (x4 + 2) < s7 (SCR + 1) 0) ∧ (-2147483648 ≤ (x4 + 3) ∧ (x4 + 3) ≤ 2147483647) ∧ (0 ≤ (x4 + 3) ∧ (x4 + 3) < s7 (SCR + 1) 0) ∧ ((k + 3) ≤ room_1.cells ∧ (n + 18) ≤ room_1.slots) ∧ (∃ (v18 : Int) (s17 : Sg), Dd 339 [(.inr (.inr (some 682))), (.inl (s7 SCR ((x4 + 1)).toNat)), (.inl (s7 SCR ((x4 + 2)).toNat)), (.inl (s7 SCR ((x4 + 3)).toNat))] s7 (.inl (some (.inl v18)), s17) ∧ ((k + 3) ≤ room_1.cells ∧ (n + 18) ≤ room_1.slots) ∧ (∃ (v22 : Int) (s21 : Sg), Dd 244 [(.inr (.inr (some 682)))] s17 (.inl (some (.inl v22)), s21) ∧ (if v22 = v8 then (if v8 = 0 then (if (if v18 < (s21 726 (0 : Int).toNat) then 1 else if (s21 726 (0 : Int).toNat) = v18 then 0 else -1) = 0 then C0_2292 x4 (some (.inl v8)) (some (.inl v18)) (k + 3) (n + 18) s21 o else o = (.inl (some (.inl 0)), s21)) else C0_2292 x4 (some (.inl v8)) (some (.inl v18)) (k + 3) (n + 18) s21 o) else o = (.inl (some (.inl 0)), s21)))))) : C0_2215 x4 d5 d6 k n σ o := by
  show Gd 0 2215 [(some (.inr (.inr (some SCR)))), (some (.inr (.inr (some 0)))), (some (.inr (.inr (some 682)))), (some (.inr (.inr (some 726)))), (some (.inl x4)), d5, d6] [] σ k n o
  refine g_aload_n 2216 (opc_6 (by decide) (by decide +kernel) : op 0 2215 = some (.aload_n 1, 1)) rfl rfl ?_
  refine g_aload_n 2217 (opc_6 (by decide) (by decide +kernel) : op 0 2216 = some (.aload_n 0, 1)) rfl rfl ?_
  refine g_iload 2219 (opc_6 (by decide) (by decide +kernel) : op 0 2217 = some (.iload 4, 2)) rfl rfl ?_
  refine g_iconst 2220 (opc_6 (by decide) (by decide +kernel) : op 0 2219 = some (.iconst 1, 1)) rfl rfl ?_
  obtain ⟨g1, h⟩ := h
  refine g_iadd 2221 (opc_6 (by decide) (by decide +kernel) : op 0 2220 = some (.iadd, 1)) rfl g1 ?_
  obtain ⟨g2, h⟩ := h
  refine g_scr 2222 (opc_6 (by decide) (by decide +kernel) : op 0 2221 = some (.iaload, 1)) rfl g2 ?_
  refine g_aload_n 2223 (opc_6 (by decide) (by decide +kernel) : op 0 2222 = some (.aload_n 0, 1)) rfl rfl ?_
  refine g_iload 2225 (opc_6 (by decide) (by decide +kernel) : op 0 2223 = some (.iload 4, 2)) rfl rfl ?_
  refine g_iconst 2226 (opc_6 (by decide) (by decide +kernel) : op 0 2225 = some (.iconst 2, 1)) rfl rfl ?_
  obtain ⟨g3, h⟩ := h
  refine g_iadd 2227 (opc_6 (by decide) (by decide +kernel) : op 0 2226 = some (.iadd, 1)) rfl g3 ?_
  obtain ⟨g4, h⟩ := h
  refine g_scr 2228 (opc_6 (by decide) (by decide +kernel) : op 0 2227 = some (.iaload, 1)) rfl g4 ?_
  refine g_aload_n 2229 (opc_6 (by decide) (by decide +kernel) : op 0 2228 = some (.aload_n 0, 1)) rfl rfl ?_
  refine g_iload 2231 (opc_6 (by decide) (by decide +kernel) : op 0 2229 = some (.iload 4, 2)) rfl rfl ?_
  refine g_iconst 2232 (opc_6 (by decide) (by decide +kernel) : op 0 2231 = some (.iconst 3, 1)) rfl rfl ?_
  obtain ⟨g5, h⟩ := h
  refine g_iadd 2233 (opc_6 (by decide) (by decide +kernel) : op 0 2232 = some (.iadd, 1)) rfl g5 ?_
  obtain ⟨g6, h⟩ := h
  refine g_scr 2234 (opc_6 (by decide) (by decide +kernel) : op 0 2233 = some (.iaload, 1)) rfl g6 ?_
  refine g_aload_n 2235 (opc_6 (by decide) (by decide +kernel) : op 0 2234 = some (.aload_n 3, 1)) rfl rfl ?_
  obtain ⟨g10, h⟩ := h
  obtain ⟨v8, s7, hD9, h⟩ := h
  refine g_call 2238 [(.inl v8)] (opc_6 (by decide) (by decide +kernel) : op 0 2235 = some (.invokestatic 282, 3)) (call_stL (c := 3) (s := 18) (nj := 5) (j := 416) (t := []) (as := [(.inr (.inr (some 0))), (.inl (σ SCR ((x4 + 1)).toNat)), (.inl (σ SCR ((x4 + 2)).toNat)), (.inl (σ SCR ((x4 + 3)).toNat)), (.inr (.inr (some 726)))]) (by decide +kernel) rfl (by decide +kernel) g10 rfl rfl rfl rfl rfl) hD9 rfl ?_
  refine g_istore 2240 [(some (.inr (.inr (some SCR)))), (some (.inr (.inr (some 0)))), (some (.inr (.inr (some 682)))), (some (.inr (.inr (some 726)))), (some (.inl x4)), (some (.inl v8)), d6] (opc_6 (by decide) (by decide +kernel) : op 0 2238 = some (.istore 5, 2)) rfl rfl rfl ?_
  refine g_aload_n 2241 (opc_6 (by decide) (by decide +kernel) : op 0 2240 = some (.aload_n 2, 1)) rfl rfl ?_
  refine g_aload_n 2242 (opc_6 (by decide) (by decide +kernel) : op 0 2241 = some (.aload_n 0, 1)) rfl rfl ?_
  refine g_iload 2244 (opc_6 (by decide) (by decide +kernel) : op 0 2242 = some (.iload 4, 2)) rfl rfl ?_
  refine g_iconst 2245 (opc_6 (by decide) (by decide +kernel) : op 0 2244 = some (.iconst 1, 1)) rfl rfl ?_
  obtain ⟨g11, h⟩ := h
  refine g_iadd 2246 (opc_6 (by decide) (by decide +kernel) : op 0 2245 = some (.iadd, 1)) rfl g11 ?_
  obtain ⟨g12, h⟩ := h
  refine g_scr 2247 (opc_6 (by decide) (by decide +kernel) : op 0 2246 = some (.iaload, 1)) rfl g12 ?_
  refine g_aload_n 2248 (opc_6 (by decide) (by decide +kernel) : op 0 2247 = some (.aload_n 0, 1)) rfl rfl ?_
  refine g_iload 2250 (opc_6 (by decide) (by decide +kernel) : op 0 2248 = some (.iload 4, 2)) rfl rfl ?_
  refine g_iconst 2251 (opc_6 (by decide) (by decide +kernel) : op 0 2250 = some (.iconst 2, 1)) rfl rfl ?_
  obtain ⟨g13, h⟩ := h
  refine g_iadd 2252 (opc_6 (by decide) (by decide +kernel) : op 0 2251 = some (.iadd, 1)) rfl g13 ?_
  obtain ⟨g14, h⟩ := h
  refine g_scr 2253 (opc_6 (by decide) (by decide +kernel) : op 0 2252 = some (.iaload, 1)) rfl g14 ?_
  refine g_aload_n 2254 (opc_6 (by decide) (by decide +kernel) : op 0 2253 = some (.aload_n 0, 1)) rfl rfl ?_
  refine g_iload 2256 (opc_6 (by decide) (by decide +kernel) : op 0 2254 = some (.iload 4, 2)) rfl rfl ?_
  refine g_iconst 2257 (opc_6 (by decide) (by decide +kernel) : op 0 2256 = some (.iconst 3, 1)) rfl rfl ?_
  obtain ⟨g15, h⟩ := h
  refine g_iadd 2258 (opc_6 (by decide) (by decide +kernel) : op 0 2257 = some (.iadd, 1)) rfl g15 ?_
  obtain ⟨g16, h⟩ := h
  refine g_scr 2259 (opc_6 (by decide) (by decide +kernel) : op 0 2258 = some (.iaload, 1)) rfl g16 ?_
  obtain ⟨g20, h⟩ := h
  obtain ⟨v18, s17, hD19, h⟩ := h
  refine g_call 2262 [(.inl v18)] (opc_6 (by decide) (by decide +kernel) : op 0 2259 = some (.invokevirtual 284, 3)) (call_viL (c := 0) (s := 0) (nj := 4) (j := 339) (k9 := 21) (t := []) (as := [(.inr (.inr (some 682))), (.inl (s7 SCR ((x4 + 1)).toNat)), (.inl (s7 SCR ((x4 + 2)).toNat)), (.inl (s7 SCR ((x4 + 3)).toNat))]) (by decide +kernel) rfl (by decide +kernel) g20 rfl rfl rfl rfl rfl rfl (by decide +kernel) (by decide +kernel)) hD19 rfl ?_
  refine g_istore 2264 [(some (.inr (.inr (some SCR)))), (some (.inr (.inr (some 0)))), (some (.inr (.inr (some 682)))), (some (.inr (.inr (some 726)))), (some (.inl x4)), (some (.inl v8)), (some (.inl v18))] (opc_6 (by decide) (by decide +kernel) : op 0 2262 = some (.istore 6, 2)) rfl rfl rfl ?_
  refine g_aload_n 2265 (opc_6 (by decide) (by decide +kernel) : op 0 2264 = some (.aload_n 2, 1)) rfl rfl ?_
  obtain ⟨g24, h⟩ := h
  obtain ⟨v22, s21, hD23, h⟩ := h
  refine g_call 2268 [(.inl v22)] (opc_6 (by decide) (by decide +kernel) : op 0 2265 = some (.invokevirtual 194, 3)) (call_viL (c := 0) (s := 0) (nj := 1) (j := 244) (k9 := 21) (t := []) (as := [(.inr (.inr (some 682)))]) (by decide +kernel) rfl (by decide +kernel) g24 rfl rfl rfl rfl rfl rfl (by decide +kernel) (by decide +kernel)) hD23 rfl ?_
  refine g_iload 2270 (opc_6 (by decide) (by decide +kernel) : op 0 2268 = some (.iload 5, 2)) rfl rfl ?_
  by_cases hc25 : v22 = v8
  · rw [if_pos hc25] at h
    refine g_icmpT 2275 (opc_6 (by decide) (by decide +kernel) : op 0 2270 = some (.if_icmp .eq 5, 3)) rfl (decide_eq_true hc25) ?_
    refine g_iload 2277 (opc_6 (by decide) (by decide +kernel) : op 0 2275 = some (.iload 5, 2)) rfl rfl ?_
    by_cases hc26 : v8 = 0
    · rw [if_pos hc26] at h
      refine g_ifF 2280 2292 (opc_6 (by decide) (by decide +kernel) : op 0 2277 = some (.ifCond .ne 15, 3)) rfl rfl (decide_eq_false (fun h9 => h9 hc26)) ?_
      refine g_aload_n 2281 (opc_6 (by decide) (by decide +kernel) : op 0 2280 = some (.aload_n 3, 1)) rfl rfl ?_
      refine g_iconst 2282 (opc_6 (by decide) (by decide +kernel) : op 0 2281 = some (.iconst 0, 1)) rfl rfl ?_
      refine g_laload 2283 1 (opc_6 (by decide) (by decide +kernel) : op 0 2282 = some (.laload, 1)) rfl (by decide +kernel) (by decide) ?_
      refine g_iload 2285 (opc_6 (by decide) (by decide +kernel) : op 0 2283 = some (.iload 6, 2)) rfl rfl ?_
      refine g_i2l 2286 (opc_6 (by decide) (by decide +kernel) : op 0 2285 = some (.i2l, 1)) rfl ?_
      refine g_lcmp 2287 (opc_6 (by decide) (by decide +kernel) : op 0 2286 = some (.lcmp, 1)) rfl ?_
      by_cases hc27 : (if v18 < (s21 726 (0 : Int).toNat) then 1 else if (s21 726 (0 : Int).toNat) = v18 then 0 else -1) = 0
      · rw [if_pos hc27] at h
        refine g_ifT 2292 (opc_6 (by decide) (by decide +kernel) : op 0 2287 = some (.ifCond .eq 5, 3)) rfl (decide_eq_true hc27) ?_
        exact h
      · rw [if_neg hc27] at h
        refine g_ifF 2290 2292 (opc_6 (by decide) (by decide +kernel) : op 0 2287 = some (.ifCond .eq 5, 3)) rfl rfl (decide_eq_false hc27) ?_
        refine g_iconst 2291 (opc_6 (by decide) (by decide +kernel) : op 0 2290 = some (.iconst 0, 1)) rfl rfl ?_
        exact (g_zret (opc_6 (by decide) (by decide +kernel) : op 0 2291 = some (.ireturn, 1)) (by decide +kernel) (by decide) h)
    · rw [if_neg hc26] at h
      refine g_ifT 2292 (opc_6 (by decide) (by decide +kernel) : op 0 2277 = some (.ifCond .ne 15, 3)) rfl (decide_eq_true hc26) ?_
      exact h
  · rw [if_neg hc25] at h
    refine g_icmpF 2273 2275 (opc_6 (by decide) (by decide +kernel) : op 0 2270 = some (.if_icmp .eq 5, 3)) rfl rfl (decide_eq_false hc25) ?_
    refine g_iconst 2274 (opc_6 (by decide) (by decide +kernel) : op 0 2273 = some (.iconst 0, 1)) rfl rfl ?_
    exact (g_zret (opc_6 (by decide) (by decide +kernel) : op 0 2274 = some (.ireturn, 1)) (by decide +kernel) (by decide) h)
end
