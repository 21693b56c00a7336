noncomputable section
def K243_24 (d0 : Option AV) (d1 : Option AV) (y0 : Int) (w : WS) (r : Nat) (o : Ro) : Prop := Lg 243 24 [d0, d1] [(.inl y0)] w r o
theorem bK243_24 {d0 : Option AV} {d1 : Option AV} {y0 : Int} {w : WS} {r : Nat} {o : Ro} (h : o = (.inl (some (.inl y0)), w)) : K243_24 d0 d1 y0 w r o := by
  show Lg 243 24 [d0, d1] [(.inl y0)] w r o
  exact (zq_iret (show zop 243 24 = some (.ireturn, 1) by decide +kernel) (by decide +kernel) h)
/-- PatchBenchLaw.draw ([II)I -/
theorem lb243 {x1 : Int} {w : WS} {o : Ro} (h : ((x1 < (w.2.1 (SCR + 1) 0)) → 0 ≤ x1 ∧ x1 < w.2.1 (SCR + 1) 0) ∧ (¬ (x1 < (w.2.1 (SCR + 1) 0)) → -2147483648 ≤ (x1 + 2) ∧ (x1 + 2) ≤ 2147483647) ∧ (¬ (x1 < (w.2.1 (SCR + 1) 0)) → -2147483648 ≤ (104729 * (x1 + 2)) ∧ (104729 * (x1 + 2)) ≤ 2147483647) ∧ K243_24 (some (.inr (.inr (some SCR)))) (some (.inl x1)) (if x1 < (w.2.1 (SCR + 1) 0) then (iAnd (w.2.1 SCR (x1).toNat) 2147483647) else (Int.tmod (104729 * (x1 + 2)) 65521)) w 0 o) : Lx 243 [(.inr (.inr (some SCR))), (.inl x1)] w o := by
  refine Lx_of (l := 2) (r := 0) (by decide +kernel) (by decide +kernel) ?_
  show Lg 243 0 [(some (.inr (.inr (some SCR)))), (some (.inl x1))] [] w 0 o
  refine zq_iload_n 1 (show zop 243 0 = some (.iload_n 1, 1) by decide +kernel) rfl rfl ?_
  refine zq_aload_n 2 (show zop 243 1 = some (.aload_n 0, 1) by decide +kernel) rfl rfl ?_
  refine zq_slen 3 (show zop 243 2 = some (.arraylength, 1) by decide +kernel) rfl ?_
  obtain ⟨G5, G6, G7, h⟩ := h
  by_cases hc4 : x1 < (w.2.1 (SCR + 1) 0)
  · refine zq_icmpF 6 15 (show zop 243 3 = some (.if_icmp .ge 12, 3) by decide +kernel) rfl rfl (decide_eq_false (Int.not_le.mpr hc4)) ?_
    refine zq_aload_n 7 (show zop 243 6 = some (.aload_n 0, 1) by decide +kernel) rfl rfl ?_
    refine zq_iload_n 8 (show zop 243 7 = some (.iload_n 1, 1) by decide +kernel) rfl rfl ?_
    have g1 := G5 hc4
    refine zq_scr 9 (show zop 243 8 = some (.iaload, 1) by decide +kernel) rfl g1 ?_
    refine zq_ldc (v := 2147483647) 11 (show zop 243 9 = some (.ldc 7, 2) by decide +kernel) rfl (by decide +kernel) rfl ?_
    refine zq_iand 12 (show zop 243 11 = some (.iand, 1) by decide +kernel) rfl ?_
    refine zq_goto 24 (show zop 243 12 = some (.goto 12, 3) by decide +kernel) rfl ?_
    have h9 := h; simp only [if_pos hc4] at h9; exact h9
  · refine zq_icmpT 15 (show zop 243 3 = some (.if_icmp .ge 12, 3) by decide +kernel) rfl (decide_eq_true (Int.not_lt.mp hc4)) ?_
    refine zq_ldc (v := 104729) 17 (show zop 243 15 = some (.ldc 8, 2) by decide +kernel) rfl (by decide +kernel) rfl ?_
    refine zq_iload_n 18 (show zop 243 17 = some (.iload_n 1, 1) by decide +kernel) rfl rfl ?_
    refine zq_iconst 19 (show zop 243 18 = some (.iconst 2, 1) by decide +kernel) rfl rfl ?_
    have g2 := G6 hc4
    refine zq_iadd 20 (show zop 243 19 = some (.iadd, 1) by decide +kernel) rfl g2 ?_
    have g3 := G7 hc4
    refine zq_imul 21 (show zop 243 20 = some (.imul, 1) by decide +kernel) rfl g3 ?_
    refine zq_ldc (v := 65521) 23 (show zop 243 21 = some (.ldc 9, 2) by decide +kernel) rfl (by decide +kernel) rfl ?_
    refine zq_irem 24 (show zop 243 23 = some (.irem, 1) by decide +kernel) rfl (by decide) ?_
    have h9 := h; simp only [if_neg hc4] at h9; exact h9
def K244_68 (d0 : Option AV) (x1 : Int) (x2 : Int) (d3 : Option AV) (y0 : Int) (w : WS) (r : Nat) (o : Ro) : Prop := Lg 244 68 [d0, (some (.inl x1)), (some (.inl x2)), d3] [(.inl y0)] w r o
def K244_95 (d0 : Option AV) (d1 : Option AV) (d2 : Option AV) (d3 : Option AV) (y0 : Int) (w : WS) (r : Nat) (o : Ro) : Prop := Lg 244 95 [d0, d1, d2, d3] [(.inl y0)] w r o
def K244_92 (d0 : Option AV) (d1 : Option AV) (d2 : Option AV) (x3 : Int) (y0 : Int) (y1 : Int) (w : WS) (r : Nat) (o : Ro) : Prop := Lg 244 92 [d0, d1, d2, (some (.inl x3))] [(.inl y1), (.inl y0)] w r o
theorem bK244_68 {d0 : Option AV} {x1 : Int} {x2 : Int} {d3 : Option AV} {y0 : Int} {w : WS} {r : Nat} {o : Ro} (h : (if x1 = 8 then K244_95 d0 (some (.inl x1)) (some (.inl x2)) (some (.inl y0)) 0 w r o else K244_92 d0 (some (.inl x1)) (some (.inl x2)) y0 10000 (if x2 = 2 then 1 else 0) w r o)) : K244_68 d0 x1 x2 d3 y0 w r o := by
  show Lg 244 68 [d0, (some (.inl x1)), (some (.inl x2)), d3] [(.inl y0)] w r o
  refine zq_istore_n 69 [d0, (some (.inl x1)), (some (.inl x2)), (some (.inl y0))] (show zop 244 68 = some (.istore_n 3, 1) by decide +kernel) rfl rfl rfl ?_
  refine zq_iload_n 70 (show zop 244 69 = some (.iload_n 1, 1) by decide +kernel) rfl rfl ?_
  refine zq_bipush 72 (show zop 244 70 = some (.bipush 8, 2) by decide +kernel) rfl (by decide) ?_
  by_cases hc1 : x1 = 8
  · rw [if_pos hc1] at h
    refine zq_icmpF 75 79 (show zop 244 72 = some (.if_icmp .ne 7, 3) by decide +kernel) rfl rfl (decide_eq_false (fun h9 => h9 hc1)) ?_
    refine zq_iconst 76 (show zop 244 75 = some (.iconst 0, 1) by decide +kernel) rfl rfl ?_
    refine zq_goto 95 (show zop 244 76 = some (.goto 19, 3) by decide +kernel) rfl ?_
    exact h
  · rw [if_neg hc1] at h
    refine zq_icmpT 79 (show zop 244 72 = some (.if_icmp .ne 7, 3) by decide +kernel) rfl (decide_eq_true hc1) ?_
    refine zq_sipush 82 (show zop 244 79 = some (.sipush 10000, 3) by decide +kernel) rfl (by decide) ?_
    refine zq_iload_n 83 (show zop 244 82 = some (.iload_n 2, 1) by decide +kernel) rfl rfl ?_
    refine zq_iconst 84 (show zop 244 83 = some (.iconst 2, 1) by decide +kernel) rfl rfl ?_
    by_cases hc2 : x2 = 2
    · refine zq_icmpF 87 91 (show zop 244 84 = some (.if_icmp .ne 7, 3) by decide +kernel) rfl rfl (decide_eq_false (fun h9 => h9 hc2)) ?_
      refine zq_iconst 88 (show zop 244 87 = some (.iconst 1, 1) by decide +kernel) rfl rfl ?_
      refine zq_goto 92 (show zop 244 88 = some (.goto 4, 3) by decide +kernel) rfl ?_
      have h9 := h; simp only [if_pos hc2] at h9; exact h9
    · refine zq_icmpT 91 (show zop 244 84 = some (.if_icmp .ne 7, 3) by decide +kernel) rfl (decide_eq_true hc2) ?_
      refine zq_iconst 92 (show zop 244 91 = some (.iconst 0, 1) by decide +kernel) rfl rfl ?_
      have h9 := h; simp only [if_neg hc2] at h9; exact h9
theorem bK244_95 {d0 : Option AV} {d1 : Option AV} {d2 : Option AV} {d3 : Option AV} {y0 : Int} {w : WS} {r : Nat} {o : Ro} (h : o = (.inl (some (.inl y0)), w)) : K244_95 d0 d1 d2 d3 y0 w r o := by
  show Lg 244 95 [d0, d1, d2, d3] [(.inl y0)] w r o
  exact (zq_iret (show zop 244 95 = some (.ireturn, 1) by decide +kernel) (by decide +kernel) h)
theorem bK244_92 {d0 : Option AV} {d1 : Option AV} {d2 : Option AV} {x3 : Int} {y0 : Int} {y1 : Int} {w : WS} {r : Nat} {o : Ro} (h : (-2147483648 ≤ (y0 * y1) ∧ (y0 * y1) ≤ 2147483647) ∧ (-2147483648 ≤ ((y0 * y1) + x3) ∧ ((y0 * y1) + x3) ≤ 2147483647) ∧ K244_95 d0 d1 d2 (some (.inl x3)) ((y0 * y1) + x3) w r o) : K244_92 d0 d1 d2 x3 y0 y1 w r o := by
  show Lg 244 92 [d0, d1, d2, (some (.inl x3))] [(.inl y1), (.inl y0)] w r o
  obtain ⟨g1, h⟩ := h
  refine zq_imul 93 (show zop 244 92 = some (.imul, 1) by decide +kernel) rfl g1 ?_
  refine zq_iload_n 94 (show zop 244 93 = some (.iload_n 3, 1) by decide +kernel) rfl rfl ?_
  obtain ⟨g2, h⟩ := h
  refine zq_iadd 95 (show zop 244 94 = some (.iadd, 1) by decide +kernel) rfl g2 ?_
  exact h
/-- PatchBenchLaw.line (I)I -/
theorem lb244 {x0 : Int} {w : WS} {o : Ro} (h : (((Int.tmod x0 9) < 3) → -2147483648 ≤ ((Int.tmod x0 9) + 1) ∧ ((Int.tmod x0 9) + 1) ≤ 2147483647) ∧ K244_68 (some (.inl x0)) (Int.tmod x0 9) (Int.tmod (Int.tdiv x0 9) 3) none (if (Int.tmod x0 9) < 3 then ((Int.tmod x0 9) + 1) else (if (Int.tmod x0 9) = 3 then 12 else (if (Int.tmod x0 9) = 4 then 21 else (if (Int.tmod x0 9) = 5 then 123 else (if (Int.tmod x0 9) = 6 then 1234 else 312))))) w 0 o) : Lx 244 [(.inl x0)] w o := by
  refine Lx_of (l := 4) (r := 0) (by decide +kernel) (by decide +kernel) ?_
  show Lg 244 0 [(some (.inl x0)), none, none, none] [] w 0 o
  refine zq_iload_n 1 (show zop 244 0 = some (.iload_n 0, 1) by decide +kernel) rfl rfl ?_
  refine zq_bipush 3 (show zop 244 1 = some (.bipush 9, 2) by decide +kernel) rfl (by decide) ?_
  refine zq_irem 4 (show zop 244 3 = some (.irem, 1) by decide +kernel) rfl (by decide) ?_
  refine zq_istore_n 5 [(some (.inl x0)), (some (.inl (Int.tmod x0 9))), none, none] (show zop 244 4 = some (.istore_n 1, 1) by decide +kernel) rfl rfl rfl ?_
  refine zq_iload_n 6 (show zop 244 5 = some (.iload_n 0, 1) by decide +kernel) rfl rfl ?_
  refine zq_bipush 8 (show zop 244 6 = some (.bipush 9, 2) by decide +kernel) rfl (by decide) ?_
  refine zq_idiv 9 (show zop 244 8 = some (.idiv, 1) by decide +kernel) rfl (by decide) ?_
  refine zq_iconst 10 (show zop 244 9 = some (.iconst 3, 1) by decide +kernel) rfl rfl ?_
  refine zq_irem 11 (show zop 244 10 = some (.irem, 1) by decide +kernel) rfl (by decide) ?_
  refine zq_istore_n 12 [(some (.inl x0)), (some (.inl (Int.tmod x0 9))), (some (.inl (Int.tmod (Int.tdiv x0 9) 3))), none] (show zop 244 11 = some (.istore_n 2, 1) by decide +kernel) rfl rfl rfl ?_
  refine zq_iload_n 13 (show zop 244 12 = some (.iload_n 1, 1) by decide +kernel) rfl rfl ?_
  refine zq_iconst 14 (show zop 244 13 = some (.iconst 3, 1) by decide +kernel) rfl rfl ?_
  obtain ⟨G3, h⟩ := h
  by_cases hc2 : (Int.tmod x0 9) < 3
  · refine zq_icmpF 17 23 (show zop 244 14 = some (.if_icmp .ge 9, 3) by decide +kernel) rfl rfl (decide_eq_false (Int.not_le.mpr hc2)) ?_
    refine zq_iload_n 18 (show zop 244 17 = some (.iload_n 1, 1) by decide +kernel) rfl rfl ?_
    refine zq_iconst 19 (show zop 244 18 = some (.iconst 1, 1) by decide +kernel) rfl rfl ?_
    have g1 := G3 hc2
    refine zq_iadd 20 (show zop 244 19 = some (.iadd, 1) by decide +kernel) rfl g1 ?_
    refine zq_goto 68 (show zop 244 20 = some (.goto 48, 3) by decide +kernel) rfl ?_
    have h9 := h; simp only [if_pos hc2] at h9; exact h9
  · refine zq_icmpT 23 (show zop 244 14 = some (.if_icmp .ge 9, 3) by decide +kernel) rfl (decide_eq_true (Int.not_lt.mp hc2)) ?_
    refine zq_iload_n 24 (show zop 244 23 = some (.iload_n 1, 1) by decide +kernel) rfl rfl ?_
    refine zq_iconst 25 (show zop 244 24 = some (.iconst 3, 1) by decide +kernel) rfl rfl ?_
    by_cases hc4 : (Int.tmod x0 9) = 3
    · refine zq_icmpF 28 33 (show zop 244 25 = some (.if_icmp .ne 8, 3) by decide +kernel) rfl rfl (decide_eq_false (fun h9 => h9 hc4)) ?_
      refine zq_bipush 30 (show zop 244 28 = some (.bipush 12, 2) by decide +kernel) rfl (by decide) ?_
      refine zq_goto 68 (show zop 244 30 = some (.goto 38, 3) by decide +kernel) rfl ?_
      have h9 := h; simp only [if_neg hc2, if_pos hc4] at h9; exact h9
    · refine zq_icmpT 33 (show zop 244 25 = some (.if_icmp .ne 8, 3) by decide +kernel) rfl (decide_eq_true hc4) ?_
      refine zq_iload_n 34 (show zop 244 33 = some (.iload_n 1, 1) by decide +kernel) rfl rfl ?_
      refine zq_iconst 35 (show zop 244 34 = some (.iconst 4, 1) by decide +kernel) rfl rfl ?_
      by_cases hc5 : (Int.tmod x0 9) = 4
      · refine zq_icmpF 38 43 (show zop 244 35 = some (.if_icmp .ne 8, 3) by decide +kernel) rfl rfl (decide_eq_false (fun h9 => h9 hc5)) ?_
        refine zq_bipush 40 (show zop 244 38 = some (.bipush 21, 2) by decide +kernel) rfl (by decide) ?_
        refine zq_goto 68 (show zop 244 40 = some (.goto 28, 3) by decide +kernel) rfl ?_
        have h9 := h; simp only [if_neg hc2, if_neg hc4, if_pos hc5] at h9; exact h9
      · refine zq_icmpT 43 (show zop 244 35 = some (.if_icmp .ne 8, 3) by decide +kernel) rfl (decide_eq_true hc5) ?_
        refine zq_iload_n 44 (show zop 244 43 = some (.iload_n 1, 1) by decide +kernel) rfl rfl ?_
        refine zq_iconst 45 (show zop 244 44 = some (.iconst 5, 1) by decide +kernel) rfl rfl ?_
        by_cases hc6 : (Int.tmod x0 9) = 5
        · refine zq_icmpF 48 53 (show zop 244 45 = some (.if_icmp .ne 8, 3) by decide +kernel) rfl rfl (decide_eq_false (fun h9 => h9 hc6)) ?_
          refine zq_bipush 50 (show zop 244 48 = some (.bipush 123, 2) by decide +kernel) rfl (by decide) ?_
          refine zq_goto 68 (show zop 244 50 = some (.goto 18, 3) by decide +kernel) rfl ?_
          have h9 := h; simp only [if_neg hc2, if_neg hc4, if_neg hc5, if_pos hc6] at h9; exact h9
        · refine zq_icmpT 53 (show zop 244 45 = some (.if_icmp .ne 8, 3) by decide +kernel) rfl (decide_eq_true hc6) ?_
          refine zq_iload_n 54 (show zop 244 53 = some (.iload_n 1, 1) by decide +kernel) rfl rfl ?_
          refine zq_bipush 56 (show zop 244 54 = some (.bipush 6, 2) by decide +kernel) rfl (by decide) ?_
          by_cases hc7 : (Int.tmod x0 9) = 6
          · refine zq_icmpF 59 65 (show zop 244 56 = some (.if_icmp .ne 9, 3) by decide +kernel) rfl rfl (decide_eq_false (fun h9 => h9 hc7)) ?_
            refine zq_sipush 62 (show zop 244 59 = some (.sipush 1234, 3) by decide +kernel) rfl (by decide) ?_
            refine zq_goto 68 (show zop 244 62 = some (.goto 6, 3) by decide +kernel) rfl ?_
            have h9 := h; simp only [if_neg hc2, if_neg hc4, if_neg hc5, if_neg hc6, if_pos hc7] at h9; exact h9
          · refine zq_icmpT 65 (show zop 244 56 = some (.if_icmp .ne 9, 3) by decide +kernel) rfl (decide_eq_true hc7) ?_
            refine zq_sipush 68 (show zop 244 65 = some (.sipush 312, 3) by decide +kernel) rfl (by decide) ?_
            have h9 := h; simp only [if_neg hc2, if_neg hc4, if_neg hc5, if_neg hc6, if_neg hc7] at h9; exact h9
def K245_28 (x2 : Int) (x3 : Int) (x4 : Int) (x5 : Int) (x6 : Int) (d7 : Option AV) (d8 : Option AV) (d9 : Option AV) (y0 : Int) (w : WS) (r : Nat) (o : Ro) : Prop := Lg 245 28 [(some (.inr (.inr (some 0)))), (some (.inr (.inr (some 682)))), (some (.inl x2)), (some (.inl x3)), (some (.inl x4)), (some (.inl x5)), (some (.inl x6)), d7, d8, d9] [(.inl y0)] w r o
def K245_46 (x2 : Int) (x3 : Int) (x4 : Int) (x5 : Int) (x6 : Int) (x7 : Int) (d8 : Option AV) (d9 : Option AV) (y0 : Int) (w : WS) (r : Nat) (o : Ro) : Prop := Lg 245 46 [(some (.inr (.inr (some 0)))), (some (.inr (.inr (some 682)))), (some (.inl x2)), (some (.inl x3)), (some (.inl x4)), (some (.inl x5)), (some (.inl x6)), (some (.inl x7)), d8, d9] [(.inl y0)] w r o
def K245_156 (d2 : Option AV) (x3 : Int) (x4 : Int) (x5 : Int) (x6 : Int) (d7 : Option AV) (d8 : Option AV) (d9 : Option AV) (w : WS) (r : Nat) (o : Ro) : Prop := Lg 245 156 [(some (.inr (.inr (some 0)))), (some (.inr (.inr (some 682)))), d2, (some (.inl x3)), (some (.inl x4)), (some (.inl x5)), (some (.inl x6)), d7, d8, d9] [] w r o
def K245_248 (d2 : Option AV) (d3 : Option AV) (x4 : Int) (x5 : Int) (x6 : Int) (d7 : Option AV) (d8 : Option AV) (d9 : Option AV) (w : WS) (r : Nat) (o : Ro) : Prop := Lg 245 248 [(some (.inr (.inr (some 0)))), (some (.inr (.inr (some 682)))), d2, d3, (some (.inl x4)), (some (.inl x5)), (some (.inl x6)), d7, d8, d9] [] w r o
def K245_274 (d2 : Option AV) (d3 : Option AV) (x4 : Int) (x5 : Int) (x6 : Int) (d7 : Option AV) (d8 : Option AV) (d9 : Option AV) (w : WS) (r : Nat) (o : Ro) : Prop := Lg 245 274 [(some (.inr (.inr (some 0)))), (some (.inr (.inr (some 682)))), d2, d3, (some (.inl x4)), (some (.inl x5)), (some (.inl x6)), d7, d8, d9] [] w r o
def K245_343 (d1 : Option AV) (d2 : Option AV) (x3 : Int) (x4 : Int) (x5 : Int) (d6 : Option AV) (d7 : Option AV) (d8 : Option AV) (d9 : Option AV) (w : WS) (r : Nat) (o : Ro) : Prop := Lg 245 343 [(some (.inr (.inr (some 0)))), d1, d2, (some (.inl x3)), (some (.inl x4)), (some (.inl x5)), d6, d7, d8, d9] [] w r o
def K245_359 (d2 : Option AV) (x3 : Int) (x4 : Int) (x5 : Int) (d6 : Option AV) (d7 : Option AV) (d8 : Option AV) (d9 : Option AV) (w : WS) (r : Nat) (o : Ro) : Prop := Lg 245 359 [(some (.inr (.inr (some 0)))), (some (.inr (.inr (some 682)))), d2, (some (.inl x3)), (some (.inl x4)), (some (.inl x5)), d6, d7, d8, d9] [] w r o
def K245_398 (d2 : Option AV) (d3 : Option AV) (d4 : Option AV) (d5 : Option AV) (d6 : Option AV) (x7 : Int) (x8 : Int) (d9 : Option AV) (w : WS) (r : Nat) (o : Ro) : Prop := Lg 245 398 [(some (.inr (.inr (some 0)))), (some (.inr (.inr (some 682)))), d2, d3, d4, d5, d6, (some (.inl x7)), (some (.inl x8)), d9] [] w r o
def K245_421 (d2 : Option AV) (x3 : Int) (x4 : Int) (d5 : Option AV) (d6 : Option AV) (x7 : Int) (x8 : Int) (d9 : Option AV) (w : WS) (r : Nat) (o : Ro) : Prop := Lg 245 421 [(some (.inr (.inr (some 0)))), (some (.inr (.inr (some 682)))), d2, (some (.inl x3)), (some (.inl x4)), d5, d6, (some (.inl x7)), (some (.inl x8)), d9] [] w r o
def K245_462 (d2 : Option AV) (x3 : Int) (x4 : Int) (d5 : Option AV) (d6 : Option AV) (x7 : Int) (x8 : Int) (d9 : Option AV) (w : WS) (r : Nat) (o : Ro) : Prop := Lg 245 462 [(some (.inr (.inr (some 0)))), (some (.inr (.inr (some 682)))), d2, (some (.inl x3)), (some (.inl x4)), d5, d6, (some (.inl x7)), (some (.inl x8)), d9] [] w r o
def K245_497 (d2 : Option AV) (x3 : Int) (x4 : Int) (d5 : Option AV) (d6 : Option AV) (d7 : Option AV) (d8 : Option AV) (d9 : Option AV) (w : WS) (r : Nat) (o : Ro) : Prop := Lg 245 497 [(some (.inr (.inr (some 0)))), (some (.inr (.inr (some 682)))), d2, (some (.inl x3)), (some (.inl x4)), d5, d6, d7, d8, d9] [] w r o
def K245_526 (d2 : Option AV) (x3 : Int) (x4 : Int) (d5 : Option AV) (d6 : Option AV) (d7 : Option AV) (d8 : Option AV) (d9 : Option AV) (w : WS) (r : Nat) (o : Ro) : Prop := Lg 245 526 [(some (.inr (.inr (some 0)))), (some (.inr (.inr (some 682)))), d2, (some (.inl x3)), (some (.inl x4)), d5, d6, d7, d8, d9] [] w r o
def K245_535 (d2 : Option AV) (x3 : Int) (x4 : Int) (d5 : Option AV) (d6 : Option AV) (d7 : Option AV) (d8 : Option AV) (d9 : Option AV) (w : WS) (r : Nat) (o : Ro) : Prop := Lg 245 535 [(some (.inr (.inr (some 0)))), (some (.inr (.inr (some 682)))), d2, (some (.inl x3)), (some (.inl x4)), d5, d6, d7, d8, d9] [] w r o
def K245_195 (d1 : Option AV) (d2 : Option AV) (x3 : Int) (x4 : Int) (x5 : Int) (x6 : Int) (d7 : Option AV) (d8 : Option AV) (d9 : Option AV) (y1 : Int) (y2 : Int) (w : WS) (r : Nat) (o : Ro) : Prop := Lg 245 195 [(some (.inr (.inr (some 0)))), d1, d2, (some (.inl x3)), (some (.inl x4)), (some (.inl x5)), (some (.inl x6)), d7, d8, d9] [(.inl y2), (.inl y1), (.inr (.inr (some 682)))] w r o
def K245_268 (d0 : Option AV) (d1 : Option AV) (d2 : Option AV) (d3 : Option AV) (d4 : Option AV) (d5 : Option AV) (d6 : Option AV) (d7 : Option AV) (d8 : Option AV) (d9 : Option AV) (w : WS) (r : Nat) (o : Ro) : Prop := Lg 245 268 [d0, d1, d2, d3, d4, d5, d6, d7, d8, d9] [] w r o
def K245_273 (d0 : Option AV) (d1 : Option AV) (d2 : Option AV) (d3 : Option AV) (d4 : Option AV) (d5 : Option AV) (d6 : Option AV) (d7 : Option AV) (d8 : Option AV) (d9 : Option AV) (y0 : Int) (w : WS) (r : Nat) (o : Ro) : Prop := Lg 245 273 [d0, d1, d2, d3, d4, d5, d6, d7, d8, d9] [(.inl y0)] w r o
def K245_295 (d1 : Option AV) (d2 : Option AV) (d3 : Option AV) (x4 : Int) (x5 : Int) (x6 : Int) (d7 : Option AV) (d8 : Option AV) (d9 : Option AV) (y1 : Int) (y2 : Int) (w : WS) (r : Nat) (o : Ro) : Prop := Lg 245 295 [(some (.inr (.inr (some 0)))), d1, d2, d3, (some (.inl x4)), (some (.inl x5)), (some (.inl x6)), d7, d8, d9] [(.inl y2), (.inl y1), (.inr (.inr (some 682)))] w r o
def K245_397 (d0 : Option AV) (d1 : Option AV) (d2 : Option AV) (d3 : Option AV) (d4 : Option AV) (d5 : Option AV) (d6 : Option AV) (d7 : Option AV) (d8 : Option AV) (d9 : Option AV) (y0 : Int) (w : WS) (r : Nat) (o : Ro) : Prop := Lg 245 397 [d0, d1, d2, d3, d4, d5, d6, d7, d8, d9] [(.inl y0)] w r o
def K245_392 (d0 : Option AV) (d1 : Option AV) (d2 : Option AV) (d3 : Option AV) (d4 : Option AV) (d5 : Option AV) (d6 : Option AV) (d7 : Option AV) (d8 : Option AV) (d9 : Option AV) (w : WS) (r : Nat) (o : Ro) : Prop := Lg 245 392 [d0, d1, d2, d3, d4, d5, d6, d7, d8, d9] [] w r o
def K245_415 (d0 : Option AV) (d1 : Option AV) (d2 : Option AV) (d3 : Option AV) (d4 : Option AV) (d5 : Option AV) (d6 : Option AV) (d7 : Option AV) (d8 : Option AV) (d9 : Option AV) (w : WS) (r : Nat) (o : Ro) : Prop := Lg 245 415 [d0, d1, d2, d3, d4, d5, d6, d7, d8, d9] [] w r o
def K245_420 (d0 : Option AV) (d1 : Option AV) (d2 : Option AV) (d3 : Option AV) (d4 : Option AV) (d5 : Option AV) (d6 : Option AV) (d7 : Option AV) (d8 : Option AV) (d9 : Option AV) (y0 : Int) (w : WS) (r : Nat) (o : Ro) : Prop := Lg 245 420 [d0, d1, d2, d3, d4, d5, d6, d7, d8, d9] [(.inl y0)] w r o
def K245_456 (d0 : Option AV) (d1 : Option AV) (d2 : Option AV) (d3 : Option AV) (d4 : Option AV) (d5 : Option AV) (d6 : Option AV) (d7 : Option AV) (d8 : Option AV) (d9 : Option AV) (w : WS) (r : Nat) (o : Ro) : Prop := Lg 245 456 [d0, d1, d2, d3, d4, d5, d6, d7, d8, d9] [] w r o
def K245_461 (d0 : Option AV) (d1 : Option AV) (d2 : Option AV) (d3 : Option AV) (d4 : Option AV) (d5 : Option AV) (d6 : Option AV) (d7 : Option AV) (d8 : Option AV) (d9 : Option AV) (y0 : Int) (w : WS) (r : Nat) (o : Ro) : Prop := Lg 245 461 [d0, d1, d2, d3, d4, d5, d6, d7, d8, d9] [(.inl y0)] w r o
def K245_491 (d0 : Option AV) (d1 : Option AV) (d2 : Option AV) (d3 : Option AV) (d4 : Option AV) (d5 : Option AV) (d6 : Option AV) (d7 : Option AV) (d8 : Option AV) (d9 : Option AV) (w : WS) (r : Nat) (o : Ro) : Prop := Lg 245 491 [d0, d1, d2, d3, d4, d5, d6, d7, d8, d9] [] w r o
def K245_496 (d0 : Option AV) (d1 : Option AV) (d2 : Option AV) (d3 : Option AV) (d4 : Option AV) (d5 : Option AV) (d6 : Option AV) (d7 : Option AV) (d8 : Option AV) (d9 : Option AV) (y0 : Int) (w : WS) (r : Nat) (o : Ro) : Prop := Lg 245 496 [d0, d1, d2, d3, d4, d5, d6, d7, d8, d9] [(.inl y0)] w r o
def K245_524 (d0 : Option AV) (d1 : Option AV) (d2 : Option AV) (d3 : Option AV) (d4 : Option AV) (d5 : Option AV) (d6 : Option AV) (d7 : Option AV) (d8 : Option AV) (d9 : Option AV) (w : WS) (r : Nat) (o : Ro) : Prop := Lg 245 524 [d0, d1, d2, d3, d4, d5, d6, d7, d8, d9] [] w r o
def K245_525 (d0 : Option AV) (d1 : Option AV) (d2 : Option AV) (d3 : Option AV) (d4 : Option AV) (d5 : Option AV) (d6 : Option AV) (d7 : Option AV) (d8 : Option AV) (d9 : Option AV) (y0 : Int) (w : WS) (r : Nat) (o : Ro) : Prop := Lg 245 525 [d0, d1, d2, d3, d4, d5, d6, d7, d8, d9] [(.inl y0)] w r o
def K245_247 (d0 : Option AV) (d1 : Option AV) (d2 : Option AV) (d3 : Option AV) (d4 : Option AV) (d5 : Option AV) (d6 : Option AV) (d7 : Option AV) (d8 : Option AV) (d9 : Option AV) (y0 : Int) (w : WS) (r : Nat) (o : Ro) : Prop := Lg 245 247 [d0, d1, d2, d3, d4, d5, d6, d7, d8, d9] [(.inl y0)] w r o
def K245_246 (d0 : Option AV) (d1 : Option AV) (d2 : Option AV) (d3 : Option AV) (d4 : Option AV) (d5 : Option AV) (d6 : Option AV) (d7 : Option AV) (d8 : Option AV) (d9 : Option AV) (w : WS) (r : Nat) (o : Ro) : Prop := Lg 245 246 [d0, d1, d2, d3, d4, d5, d6, d7, d8, d9] [] w r o
def K245_341 (d0 : Option AV) (d1 : Option AV) (d2 : Option AV) (d3 : Option AV) (d4 : Option AV) (d5 : Option AV) (d6 : Option AV) (d7 : Option AV) (d8 : Option AV) (d9 : Option AV) (w : WS) (r : Nat) (o : Ro) : Prop := Lg 245 341 [d0, d1, d2, d3, d4, d5, d6, d7, d8, d9] [] w r o
def K245_342 (d0 : Option AV) (d1 : Option AV) (d2 : Option AV) (d3 : Option AV) (d4 : Option AV) (d5 : Option AV) (d6 : Option AV) (d7 : Option AV) (d8 : Option AV) (d9 : Option AV) (y0 : Int) (w : WS) (r : Nat) (o : Ro) : Prop := Lg 245 342 [d0, d1, d2, d3, d4, d5, d6, d7, d8, d9] [(.inl y0)] w r o
theorem bK245_28 {x2 : Int} {x3 : Int} {x4 : Int} {x5 : Int} {x6 : Int} {d7 : Option AV} {d8 : Option AV} {d9 : Option AV} {y0 : Int} {w : WS} {r : Nat} {o : Ro} (h : (w.1[0]? = some (0, 12, [])) ∧ (0 ≤ (0 : Int) ∧ (0 : Int) < 12) ∧ (¬ ((w.2.1 682 ((0 : Int)).toNat) = 0) → w.1[0]? = some (0, 12, [])) ∧ (¬ ((w.2.1 682 ((0 : Int)).toNat) = 0) → 0 ≤ (0 : Int) ∧ (0 : Int) < 12) ∧ (¬ ((w.2.1 682 ((0 : Int)).toNat) = 0) → 0 < (w.2.1 682 ((0 : Int)).toNat)) ∧ K245_46 x2 x3 x4 x5 x6 y0 d8 d9 (if (w.2.1 682 ((0 : Int)).toNat) = 0 then 0 else (Int.tmod x4 (w.2.1 682 ((0 : Int)).toNat))) w r o) : K245_28 x2 x3 x4 x5 x6 d7 d8 d9 y0 w r o := by
  show Lg 245 28 [(some (.inr (.inr (some 0)))), (some (.inr (.inr (some 682)))), (some (.inl x2)), (some (.inl x3)), (some (.inl x4)), (some (.inl x5)), (some (.inl x6)), d7, d8, d9] [(.inl y0)] w r o
  refine zq_istore 30 [(some (.inr (.inr (some 0)))), (some (.inr (.inr (some 682)))), (some (.inl x2)), (some (.inl x3)), (some (.inl x4)), (some (.inl x5)), (some (.inl x6)), (some (.inl y0)), d8, d9] (show zop 245 28 = some (.istore 7, 2) by decide +kernel) rfl rfl rfl ?_
  refine zq_aload_n 31 (show zop 245 30 = some (.aload_n 1, 1) by decide +kernel) rfl rfl ?_
  refine zq_iconst 32 (show zop 245 31 = some (.iconst 0, 1) by decide +kernel) rfl rfl ?_
  obtain ⟨g3, h⟩ := h
  obtain ⟨g1, h⟩ := h
  refine zq_iaload 33 12 (show zop 245 32 = some (.iaload, 1) by decide +kernel) rfl (by decide) g3 g1 ?_
  obtain ⟨G9, G10, G11, h⟩ := h
  by_cases hc8 : (w.2.1 682 ((0 : Int)).toNat) = 0
  · refine zq_ifF 36 40 (show zop 245 33 = some (.ifCond .ne 7, 3) by decide +kernel) rfl rfl (decide_eq_false (fun h9 => h9 hc8)) ?_
    refine zq_iconst 37 (show zop 245 36 = some (.iconst 0, 1) by decide +kernel) rfl rfl ?_
    refine zq_goto 46 (show zop 245 37 = some (.goto 9, 3) by decide +kernel) rfl ?_
    have h9 := h; simp only [if_pos hc8] at h9; exact h9
  · refine zq_ifT 40 (show zop 245 33 = some (.ifCond .ne 7, 3) by decide +kernel) rfl (decide_eq_true hc8) ?_
    refine zq_iload 42 (show zop 245 40 = some (.iload 4, 2) by decide +kernel) rfl rfl ?_
    refine zq_aload_n 43 (show zop 245 42 = some (.aload_n 1, 1) by decide +kernel) rfl rfl ?_
    refine zq_iconst 44 (show zop 245 43 = some (.iconst 0, 1) by decide +kernel) rfl rfl ?_
    have g6 := G9 hc8
    have g4 := G10 hc8
    refine zq_iaload 45 12 (show zop 245 44 = some (.iaload, 1) by decide +kernel) rfl (by decide) g6 g4 ?_
    have g7 := G11 hc8
    refine zq_irem 46 (show zop 245 45 = some (.irem, 1) by decide +kernel) rfl g7 ?_
    have h9 := h; simp only [if_neg hc8] at h9; exact h9
theorem bK245_46 {x2 : Int} {x3 : Int} {x4 : Int} {x5 : Int} {x6 : Int} {x7 : Int} {d8 : Option AV} {d9 : Option AV} {y0 : Int} {w : WS} {r : Nat} {o : Ro} (h : ((Int.tmod x2 24) = 0 → K245_156 (some (.inl x2)) x3 x4 x5 x6 (some (.inl x7)) (some (.inl y0)) d9 w r o) ∧ ((Int.tmod x2 24) = 1 → K245_156 (some (.inl x2)) x3 x4 x5 x6 (some (.inl x7)) (some (.inl y0)) d9 w r o) ∧ ((Int.tmod x2 24) = 2 → K245_156 (some (.inl x2)) x3 x4 x5 x6 (some (.inl x7)) (some (.inl y0)) d9 w r o) ∧ ((Int.tmod x2 24) = 3 → K245_156 (some (.inl x2)) x3 x4 x5 x6 (some (.inl x7)) (some (.inl y0)) d9 w r o) ∧ ((Int.tmod x2 24) = 4 → K245_156 (some (.inl x2)) x3 x4 x5 x6 (some (.inl x7)) (some (.inl y0)) d9 w r o) ∧ ((Int.tmod x2 24) = 5 → K245_156 (some (.inl x2)) x3 x4 x5 x6 (some (.inl x7)) (some (.inl y0)) d9 w r o) ∧ ((Int.tmod x2 24) = 6 → K245_248 (some (.inl x2)) (some (.inl x3)) x4 x5 x6 (some (.inl x7)) (some (.inl y0)) d9 w r o) ∧ ((Int.tmod x2 24) = 7 → K245_274 (some (.inl x2)) (some (.inl x3)) x4 x5 x6 (some (.inl x7)) (some (.inl y0)) d9 w r o) ∧ ((Int.tmod x2 24) = 8 → K245_343 (some (.inr (.inr (some 682)))) (some (.inl x2)) x3 x4 x5 (some (.inl x6)) (some (.inl x7)) (some (.inl y0)) d9 w r o) ∧ ((Int.tmod x2 24) = 9 → K245_343 (some (.inr (.inr (some 682)))) (some (.inl x2)) x3 x4 x5 (some (.inl x6)) (some (.inl x7)) (some (.inl y0)) d9 w r o) ∧ ((Int.tmod x2 24) = 10 → K245_359 (some (.inl x2)) x3 x4 x5 (some (.inl x6)) (some (.inl x7)) (some (.inl y0)) d9 w r o) ∧ ((Int.tmod x2 24) = 11 → K245_359 (some (.inl x2)) x3 x4 x5 (some (.inl x6)) (some (.inl x7)) (some (.inl y0)) d9 w r o) ∧ ((Int.tmod x2 24) = 12 → K245_359 (some (.inl x2)) x3 x4 x5 (some (.inl x6)) (some (.inl x7)) (some (.inl y0)) d9 w r o) ∧ ((Int.tmod x2 24) = 13 → K245_398 (some (.inl x2)) (some (.inl x3)) (some (.inl x4)) (some (.inl x5)) (some (.inl x6)) x7 y0 d9 w r o) ∧ ((Int.tmod x2 24) = 14 → K245_421 (some (.inl x2)) x3 x4 (some (.inl x5)) (some (.inl x6)) x7 y0 d9 w r o) ∧ ((Int.tmod x2 24) = 15 → K245_462 (some (.inl x2)) x3 x4 (some (.inl x5)) (some (.inl x6)) x7 y0 d9 w r o) ∧ ((Int.tmod x2 24) = 16 → K245_497 (some (.inl x2)) x3 x4 (some (.inl x5)) (some (.inl x6)) (some (.inl x7)) (some (.inl y0)) d9 w r o) ∧ ((Int.tmod x2 24) = 17 → K245_497 (some (.inl x2)) x3 x4 (some (.inl x5)) (some (.inl x6)) (some (.inl x7)) (some (.inl y0)) d9 w r o) ∧ ((Int.tmod x2 24) = 18 → K245_497 (some (.inl x2)) x3 x4 (some (.inl x5)) (some (.inl x6)) (some (.inl x7)) (some (.inl y0)) d9 w r o) ∧ ((Int.tmod x2 24) = 19 → K245_497 (some (.inl x2)) x3 x4 (some (.inl x5)) (some (.inl x6)) (some (.inl x7)) (some (.inl y0)) d9 w r o) ∧ ((Int.tmod x2 24) = 20 → K245_526 (some (.inl x2)) x3 x4 (some (.inl x5)) (some (.inl x6)) (some (.inl x7)) (some (.inl y0)) d9 w r o) ∧ ((Int.tmod x2 24) = 21 → K245_526 (some (.inl x2)) x3 x4 (some (.inl x5)) (some (.inl x6)) (some (.inl x7)) (some (.inl y0)) d9 w r o) ∧ ((Int.tmod x2 24) < 0 ∨ 21 < (Int.tmod x2 24) → K245_535 (some (.inl x2)) x3 x4 (some (.inl x5)) (some (.inl x6)) (some (.inl x7)) (some (.inl y0)) d9 w r o)) : K245_46 x2 x3 x4 x5 x6 x7 d8 d9 y0 w r o := by
  show Lg 245 46 [(some (.inr (.inr (some 0)))), (some (.inr (.inr (some 682)))), (some (.inl x2)), (some (.inl x3)), (some (.inl x4)), (some (.inl x5)), (some (.inl x6)), (some (.inl x7)), d8, d9] [(.inl y0)] w r o
  refine zq_istore 48 [(some (.inr (.inr (some 0)))), (some (.inr (.inr (some 682)))), (some (.inl x2)), (some (.inl x3)), (some (.inl x4)), (some (.inl x5)), (some (.inl x6)), (some (.inl x7)), (some (.inl y0)), d9] (show zop 245 46 = some (.istore 8, 2) by decide +kernel) rfl rfl rfl ?_
  refine zq_iload_n 49 (show zop 245 48 = some (.iload_n 2, 1) by decide +kernel) rfl rfl ?_
  refine zq_bipush 51 (show zop 245 49 = some (.bipush 24, 2) by decide +kernel) rfl (by decide) ?_
  refine zq_irem 52 (show zop 245 51 = some (.irem, 1) by decide +kernel) rfl (by decide) ?_
  obtain ⟨c0, c1, c2, c3, c4, c5, c6, c7, c8, c9, c10, c11, c12, c13, c14, c15, c16, c17, c18, c19, c20, c21, cD⟩ := h
  have hsw : (Int.tmod x2 24) = 0 ∨ (Int.tmod x2 24) = 1 ∨ (Int.tmod x2 24) = 2 ∨ (Int.tmod x2 24) = 3 ∨ (Int.tmod x2 24) = 4 ∨ (Int.tmod x2 24) = 5 ∨ (Int.tmod x2 24) = 6 ∨ (Int.tmod x2 24) = 7 ∨ (Int.tmod x2 24) = 8 ∨ (Int.tmod x2 24) = 9 ∨ (Int.tmod x2 24) = 10 ∨ (Int.tmod x2 24) = 11 ∨ (Int.tmod x2 24) = 12 ∨ (Int.tmod x2 24) = 13 ∨ (Int.tmod x2 24) = 14 ∨ (Int.tmod x2 24) = 15 ∨ (Int.tmod x2 24) = 16 ∨ (Int.tmod x2 24) = 17 ∨ (Int.tmod x2 24) = 18 ∨ (Int.tmod x2 24) = 19 ∨ (Int.tmod x2 24) = 20 ∨ (Int.tmod x2 24) = 21 ∨ ((Int.tmod x2 24) < 0 ∨ 21 < (Int.tmod x2 24)) := by omega
  rcases hsw with h8 | h8 | h8 | h8 | h8 | h8 | h8 | h8 | h8 | h8 | h8 | h8 | h8 | h8 | h8 | h8 | h8 | h8 | h8 | h8 | h8 | h8 | h8
  · exact zq_swI 0 156 (show zop 245 52 = some (.tableswitch 483 0 21 #[104, 104, 104, 104, 104, 104, 196, 222, 291, 291, 307, 307, 307, 346, 369, 410, 445, 445, 445, 445, 474, 474], 104) by decide +kernel) (by decide +kernel) h8 (c0 h8)
  · exact zq_swI 1 156 (show zop 245 52 = some (.tableswitch 483 0 21 #[104, 104, 104, 104, 104, 104, 196, 222, 291, 291, 307, 307, 307, 346, 369, 410, 445, 445, 445, 445, 474, 474], 104) by decide +kernel) (by decide +kernel) h8 (c1 h8)
  · exact zq_swI 2 156 (show zop 245 52 = some (.tableswitch 483 0 21 #[104, 104, 104, 104, 104, 104, 196, 222, 291, 291, 307, 307, 307, 346, 369, 410, 445, 445, 445, 445, 474, 474], 104) by decide +kernel) (by decide +kernel) h8 (c2 h8)
  · exact zq_swI 3 156 (show zop 245 52 = some (.tableswitch 483 0 21 #[104, 104, 104, 104, 104, 104, 196, 222, 291, 291, 307, 307, 307, 346, 369, 410, 445, 445, 445, 445, 474, 474], 104) by decide +kernel) (by decide +kernel) h8 (c3 h8)
  · exact zq_swI 4 156 (show zop 245 52 = some (.tableswitch 483 0 21 #[104, 104, 104, 104, 104, 104, 196, 222, 291, 291, 307, 307, 307, 346, 369, 410, 445, 445, 445, 445, 474, 474], 104) by decide +kernel) (by decide +kernel) h8 (c4 h8)
  · exact zq_swI 5 156 (show zop 245 52 = some (.tableswitch 483 0 21 #[104, 104, 104, 104, 104, 104, 196, 222, 291, 291, 307, 307, 307, 346, 369, 410, 445, 445, 445, 445, 474, 474], 104) by decide +kernel) (by decide +kernel) h8 (c5 h8)
  · exact zq_swI 6 248 (show zop 245 52 = some (.tableswitch 483 0 21 #[104, 104, 104, 104, 104, 104, 196, 222, 291, 291, 307, 307, 307, 346, 369, 410, 445, 445, 445, 445, 474, 474], 104) by decide +kernel) (by decide +kernel) h8 (c6 h8)
  · exact zq_swI 7 274 (show zop 245 52 = some (.tableswitch 483 0 21 #[104, 104, 104, 104, 104, 104, 196, 222, 291, 291, 307, 307, 307, 346, 369, 410, 445, 445, 445, 445, 474, 474], 104) by decide +kernel) (by decide +kernel) h8 (c7 h8)
  · exact zq_swI 8 343 (show zop 245 52 = some (.tableswitch 483 0 21 #[104, 104, 104, 104, 104, 104, 196, 222, 291, 291, 307, 307, 307, 346, 369, 410, 445, 445, 445, 445, 474, 474], 104) by decide +kernel) (by decide +kernel) h8 (c8 h8)
  · exact zq_swI 9 343 (show zop 245 52 = some (.tableswitch 483 0 21 #[104, 104, 104, 104, 104, 104, 196, 222, 291, 291, 307, 307, 307, 346, 369, 410, 445, 445, 445, 445, 474, 474], 104) by decide +kernel) (by decide +kernel) h8 (c9 h8)
  · exact zq_swI 10 359 (show zop 245 52 = some (.tableswitch 483 0 21 #[104, 104, 104, 104, 104, 104, 196, 222, 291, 291, 307, 307, 307, 346, 369, 410, 445, 445, 445, 445, 474, 474], 104) by decide +kernel) (by decide +kernel) h8 (c10 h8)
  · exact zq_swI 11 359 (show zop 245 52 = some (.tableswitch 483 0 21 #[104, 104, 104, 104, 104, 104, 196, 222, 291, 291, 307, 307, 307, 346, 369, 410, 445, 445, 445, 445, 474, 474], 104) by decide +kernel) (by decide +kernel) h8 (c11 h8)
  · exact zq_swI 12 359 (show zop 245 52 = some (.tableswitch 483 0 21 #[104, 104, 104, 104, 104, 104, 196, 222, 291, 291, 307, 307, 307, 346, 369, 410, 445, 445, 445, 445, 474, 474], 104) by decide +kernel) (by decide +kernel) h8 (c12 h8)
  · exact zq_swI 13 398 (show zop 245 52 = some (.tableswitch 483 0 21 #[104, 104, 104, 104, 104, 104, 196, 222, 291, 291, 307, 307, 307, 346, 369, 410, 445, 445, 445, 445, 474, 474], 104) by decide +kernel) (by decide +kernel) h8 (c13 h8)
  · exact zq_swI 14 421 (show zop 245 52 = some (.tableswitch 483 0 21 #[104, 104, 104, 104, 104, 104, 196, 222, 291, 291, 307, 307, 307, 346, 369, 410, 445, 445, 445, 445, 474, 474], 104) by decide +kernel) (by decide +kernel) h8 (c14 h8)
  · exact zq_swI 15 462 (show zop 245 52 = some (.tableswitch 483 0 21 #[104, 104, 104, 104, 104, 104, 196, 222, 291, 291, 307, 307, 307, 346, 369, 410, 445, 445, 445, 445, 474, 474], 104) by decide +kernel) (by decide +kernel) h8 (c15 h8)
  · exact zq_swI 16 497 (show zop 245 52 = some (.tableswitch 483 0 21 #[104, 104, 104, 104, 104, 104, 196, 222, 291, 291, 307, 307, 307, 346, 369, 410, 445, 445, 445, 445, 474, 474], 104) by decide +kernel) (by decide +kernel) h8 (c16 h8)
  · exact zq_swI 17 497 (show zop 245 52 = some (.tableswitch 483 0 21 #[104, 104, 104, 104, 104, 104, 196, 222, 291, 291, 307, 307, 307, 346, 369, 410, 445, 445, 445, 445, 474, 474], 104) by decide +kernel) (by decide +kernel) h8 (c17 h8)
  · exact zq_swI 18 497 (show zop 245 52 = some (.tableswitch 483 0 21 #[104, 104, 104, 104, 104, 104, 196, 222, 291, 291, 307, 307, 307, 346, 369, 410, 445, 445, 445, 445, 474, 474], 104) by decide +kernel) (by decide +kernel) h8 (c18 h8)
  · exact zq_swI 19 497 (show zop 245 52 = some (.tableswitch 483 0 21 #[104, 104, 104, 104, 104, 104, 196, 222, 291, 291, 307, 307, 307, 346, 369, 410, 445, 445, 445, 445, 474, 474], 104) by decide +kernel) (by decide +kernel) h8 (c19 h8)
  · exact zq_swI 20 526 (show zop 245 52 = some (.tableswitch 483 0 21 #[104, 104, 104, 104, 104, 104, 196, 222, 291, 291, 307, 307, 307, 346, 369, 410, 445, 445, 445, 445, 474, 474], 104) by decide +kernel) (by decide +kernel) h8 (c20 h8)
  · exact zq_swI 21 526 (show zop 245 52 = some (.tableswitch 483 0 21 #[104, 104, 104, 104, 104, 104, 196, 222, 291, 291, 307, 307, 307, 346, 369, 410, 445, 445, 445, 445, 474, 474], 104) by decide +kernel) (by decide +kernel) h8 (c21 h8)
  · exact zq_swD 535 (show zop 245 52 = some (.tableswitch 483 0 21 #[104, 104, 104, 104, 104, 104, 196, 222, 291, 291, 307, 307, 307, 346, 369, 410, 445, 445, 445, 445, 474, 474], 104) by decide +kernel) rfl h8 (cD h8)
theorem bK245_156 {d2 : Option AV} {x3 : Int} {x4 : Int} {x5 : Int} {x6 : Int} {d7 : Option AV} {d8 : Option AV} {d9 : Option AV} {w : WS} {r : Nat} {o : Ro} (h : (if 14 ≤ x6 then (0 < x6) ∧ (10 ≤ r) ∧ (∃ (v3 : Int) (w2 : WS), Lx 246 [(.inr (.inr (some 0))), (.inr (.inr (some 682))), (.inl x5), (.inl (Int.tmod x4 x6))] w (.inl (some (.inl v3)), w2) ∧ (v3 = 0 ∨ v3 = 1) ∧ o = (.inl (some (.inl v3)), w2)) else (w.1[0]? = some (0, 12, [])) ∧ (0 ≤ (5 : Int) ∧ (5 : Int) < 12) ∧ (-2147483648 ≤ (x5 + 1) ∧ (x5 + 1) ≤ 2147483647) ∧ (¬ ((w.2.1 682 ((5 : Int)).toNat) = (x5 + 1)) → w.1[0]? = some (0, 12, [])) ∧ (¬ ((w.2.1 682 ((5 : Int)).toNat) = (x5 + 1)) → 0 ≤ (5 : Int) ∧ (5 : Int) < 12) ∧ K245_195 (some (.inr (.inr (some 682)))) d2 x3 x4 x5 x6 d7 d8 d9 5 (if (w.2.1 682 ((5 : Int)).toNat) = (x5 + 1) then 0 else (w.2.1 682 ((5 : Int)).toNat)) w r o)) : K245_156 d2 x3 x4 x5 x6 d7 d8 d9 w r o := by
  show Lg 245 156 [(some (.inr (.inr (some 0)))), (some (.inr (.inr (some 682)))), d2, (some (.inl x3)), (some (.inl x4)), (some (.inl x5)), (some (.inl x6)), d7, d8, d9] [] w r o
  refine zq_iload 158 (show zop 245 156 = some (.iload 6, 2) by decide +kernel) rfl rfl ?_
  refine zq_bipush 160 (show zop 245 158 = some (.bipush 14, 2) by decide +kernel) rfl (by decide) ?_
  by_cases hc14 : 14 ≤ x6
  · rw [if_pos hc14] at h
    refine zq_icmpF 163 176 (show zop 245 160 = some (.if_icmp .lt 16, 3) by decide +kernel) rfl rfl (decide_eq_false (Int.not_lt.mpr hc14)) ?_
    refine zq_aload_n 164 (show zop 245 163 = some (.aload_n 0, 1) by decide +kernel) rfl rfl ?_
    refine zq_aload_n 165 (show zop 245 164 = some (.aload_n 1, 1) by decide +kernel) rfl rfl ?_
    refine zq_iload 167 (show zop 245 165 = some (.iload 5, 2) by decide +kernel) rfl rfl ?_
    refine zq_iload 169 (show zop 245 167 = some (.iload 4, 2) by decide +kernel) rfl rfl ?_
    refine zq_iload 171 (show zop 245 169 = some (.iload 6, 2) by decide +kernel) rfl rfl ?_
    obtain ⟨g1, h⟩ := h
    refine zq_irem 172 (show zop 245 171 = some (.irem, 1) by decide +kernel) rfl g1 ?_
    obtain ⟨g5, h⟩ := h
    obtain ⟨v3, w2, hD4, h⟩ := h
    refine zq_lx (v := some (.inl v3)) (w' := w2) (nj := 4) (j := 246) (c := 10) (t := []) (as := [(.inr (.inr (some 0))), (.inr (.inr (some 682))), (.inl x5), (.inl (Int.tmod x4 x6))]) 175 [(.inl v3)] (show zop 245 172 = some (.invokestatic 16, 3) by decide +kernel) (by decide +kernel) rfl (by decide +kernel) (by decide +kernel) rfl rfl rfl rfl rfl hD4 rfl g5 ?_
    obtain ⟨g6, h⟩ := h
    exact (zq_zret (show zop 245 175 = some (.ireturn, 1) by decide +kernel) (by decide +kernel) g6 h)
  · rw [if_neg hc14] at h
    refine zq_icmpT 176 (show zop 245 160 = some (.if_icmp .lt 16, 3) by decide +kernel) rfl (decide_eq_true (Int.not_le.mp hc14)) ?_
    refine zq_aload_n 177 (show zop 245 176 = some (.aload_n 1, 1) by decide +kernel) rfl rfl ?_
    refine zq_iconst 178 (show zop 245 177 = some (.iconst 5, 1) by decide +kernel) rfl rfl ?_
    refine zq_aload_n 179 (show zop 245 178 = some (.aload_n 1, 1) by decide +kernel) rfl rfl ?_
    refine zq_iconst 180 (show zop 245 179 = some (.iconst 5, 1) by decide +kernel) rfl rfl ?_
    obtain ⟨g9, h⟩ := h
    obtain ⟨g7, h⟩ := h
    refine zq_iaload 181 12 (show zop 245 180 = some (.iaload, 1) by decide +kernel) rfl (by decide) g9 g7 ?_
    refine zq_iload 183 (show zop 245 181 = some (.iload 5, 2) by decide +kernel) rfl rfl ?_
    refine zq_iconst 184 (show zop 245 183 = some (.iconst 1, 1) by decide +kernel) rfl rfl ?_
    obtain ⟨g10, h⟩ := h
    refine zq_iadd 185 (show zop 245 184 = some (.iadd, 1) by decide +kernel) rfl g10 ?_
    obtain ⟨G16, G17, h⟩ := h
    by_cases hc15 : (w.2.1 682 ((5 : Int)).toNat) = (x5 + 1)
    · refine zq_icmpF 188 192 (show zop 245 185 = some (.if_icmp .ne 7, 3) by decide +kernel) rfl rfl (decide_eq_false (fun h9 => h9 hc15)) ?_
      refine zq_iconst 189 (show zop 245 188 = some (.iconst 0, 1) by decide +kernel) rfl rfl ?_
      refine zq_goto 195 (show zop 245 189 = some (.goto 6, 3) by decide +kernel) rfl ?_
      have h9 := h; simp only [if_pos hc15] at h9; exact h9
    · refine zq_icmpT 192 (show zop 245 185 = some (.if_icmp .ne 7, 3) by decide +kernel) rfl (decide_eq_true hc15) ?_
      refine zq_aload_n 193 (show zop 245 192 = some (.aload_n 1, 1) by decide +kernel) rfl rfl ?_
      refine zq_iconst 194 (show zop 245 193 = some (.iconst 5, 1) by decide +kernel) rfl rfl ?_
      have g13 := G16 hc15
      have g11 := G17 hc15
      refine zq_iaload 195 12 (show zop 245 194 = some (.iaload, 1) by decide +kernel) rfl (by decide) g13 g11 ?_
      have h9 := h; simp only [if_neg hc15] at h9; exact h9
theorem bK245_248 {d2 : Option AV} {d3 : Option AV} {x4 : Int} {x5 : Int} {x6 : Int} {d7 : Option AV} {d8 : Option AV} {d9 : Option AV} {w : WS} {r : Nat} {o : Ro} (h : (if x6 = 0 then K245_268 (some (.inr (.inr (some 0)))) (some (.inr (.inr (some 682)))) d2 d3 (some (.inl x4)) (some (.inl x5)) (some (.inl x6)) d7 d8 d9 w r o else (0 < x6) ∧ (10 ≤ r) ∧ (∃ (v3 : Int) (w2 : WS), Lx 246 [(.inr (.inr (some 0))), (.inr (.inr (some 682))), (.inl x5), (.inl (Int.tmod x4 x6))] w (.inl (some (.inl v3)), w2) ∧ (if v3 = 0 then K245_273 (some (.inr (.inr (some 0)))) (some (.inr (.inr (some 682)))) d2 d3 (some (.inl x4)) (some (.inl x5)) (some (.inl x6)) d7 d8 d9 0 w2 (r - 10) o else K245_268 (some (.inr (.inr (some 0)))) (some (.inr (.inr (some 682)))) d2 d3 (some (.inl x4)) (some (.inl x5)) (some (.inl x6)) d7 d8 d9 w2 (r - 10) o)))) : K245_248 d2 d3 x4 x5 x6 d7 d8 d9 w r o := by
  show Lg 245 248 [(some (.inr (.inr (some 0)))), (some (.inr (.inr (some 682)))), d2, d3, (some (.inl x4)), (some (.inl x5)), (some (.inl x6)), d7, d8, d9] [] w r o
  refine zq_iload 250 (show zop 245 248 = some (.iload 6, 2) by decide +kernel) rfl rfl ?_
  by_cases hc6 : x6 = 0
  · rw [if_pos hc6] at h
    refine zq_ifT 268 (show zop 245 250 = some (.ifCond .eq 18, 3) by decide +kernel) rfl (decide_eq_true hc6) ?_
    exact h
  · rw [if_neg hc6] at h
    refine zq_ifF 253 268 (show zop 245 250 = some (.ifCond .eq 18, 3) by decide +kernel) rfl rfl (decide_eq_false hc6) ?_
    refine zq_aload_n 254 (show zop 245 253 = some (.aload_n 0, 1) by decide +kernel) rfl rfl ?_
    refine zq_aload_n 255 (show zop 245 254 = some (.aload_n 1, 1) by decide +kernel) rfl rfl ?_
    refine zq_iload 257 (show zop 245 255 = some (.iload 5, 2) by decide +kernel) rfl rfl ?_
    refine zq_iload 259 (show zop 245 257 = some (.iload 4, 2) by decide +kernel) rfl rfl ?_
    refine zq_iload 261 (show zop 245 259 = some (.iload 6, 2) by decide +kernel) rfl rfl ?_
    obtain ⟨g1, h⟩ := h
    refine zq_irem 262 (show zop 245 261 = some (.irem, 1) by decide +kernel) rfl g1 ?_
    obtain ⟨g5, h⟩ := h
    obtain ⟨v3, w2, hD4, h⟩ := h
    refine zq_lx (v := some (.inl v3)) (w' := w2) (nj := 4) (j := 246) (c := 10) (t := []) (as := [(.inr (.inr (some 0))), (.inr (.inr (some 682))), (.inl x5), (.inl (Int.tmod x4 x6))]) 265 [(.inl v3)] (show zop 245 262 = some (.invokestatic 16, 3) by decide +kernel) (by decide +kernel) rfl (by decide +kernel) (by decide +kernel) rfl rfl rfl rfl rfl hD4 rfl g5 ?_
    by_cases hc7 : v3 = 0
    · rw [if_pos hc7] at h
      refine zq_ifT 272 (show zop 245 265 = some (.ifCond .eq 7, 3) by decide +kernel) rfl (decide_eq_true hc7) ?_
      refine zq_iconst 273 (show zop 245 272 = some (.iconst 0, 1) by decide +kernel) rfl rfl ?_
      exact h
    · rw [if_neg hc7] at h
      refine zq_ifF 268 272 (show zop 245 265 = some (.ifCond .eq 7, 3) by decide +kernel) rfl rfl (decide_eq_false hc7) ?_
      exact h
theorem bK245_274 {d2 : Option AV} {d3 : Option AV} {x4 : Int} {x5 : Int} {x6 : Int} {d7 : Option AV} {d8 : Option AV} {d9 : Option AV} {w : WS} {r : Nat} {o : Ro} (h : (w.1[0]? = some (0, 12, [])) ∧ (0 ≤ (5 : Int) ∧ (5 : Int) < 12) ∧ (-2147483648 ≤ ((Int.tmod x4 4) + 1) ∧ ((Int.tmod x4 4) + 1) ≤ 2147483647) ∧ (¬ ((w.2.1 682 ((5 : Int)).toNat) = ((Int.tmod x4 4) + 1)) → w.1[0]? = some (0, 12, [])) ∧ (¬ ((w.2.1 682 ((5 : Int)).toNat) = ((Int.tmod x4 4) + 1)) → 0 ≤ (5 : Int) ∧ (5 : Int) < 12) ∧ K245_295 (some (.inr (.inr (some 682)))) d2 d3 x4 x5 x6 d7 d8 d9 5 (if (w.2.1 682 ((5 : Int)).toNat) = ((Int.tmod x4 4) + 1) then 0 else (w.2.1 682 ((5 : Int)).toNat)) w r o) : K245_274 d2 d3 x4 x5 x6 d7 d8 d9 w r o := by
  show Lg 245 274 [(some (.inr (.inr (some 0)))), (some (.inr (.inr (some 682)))), d2, d3, (some (.inl x4)), (some (.inl x5)), (some (.inl x6)), d7, d8, d9] [] w r o
  refine zq_aload_n 275 (show zop 245 274 = some (.aload_n 1, 1) by decide +kernel) rfl rfl ?_
  refine zq_iconst 276 (show zop 245 275 = some (.iconst 5, 1) by decide +kernel) rfl rfl ?_
  refine zq_aload_n 277 (show zop 245 276 = some (.aload_n 1, 1) by decide +kernel) rfl rfl ?_
  refine zq_iconst 278 (show zop 245 277 = some (.iconst 5, 1) by decide +kernel) rfl rfl ?_
  obtain ⟨g3, h⟩ := h
  obtain ⟨g1, h⟩ := h
  refine zq_iaload 279 12 (show zop 245 278 = some (.iaload, 1) by decide +kernel) rfl (by decide) g3 g1 ?_
  refine zq_iload 281 (show zop 245 279 = some (.iload 4, 2) by decide +kernel) rfl rfl ?_
  refine zq_iconst 282 (show zop 245 281 = some (.iconst 4, 1) by decide +kernel) rfl rfl ?_
  refine zq_irem 283 (show zop 245 282 = some (.irem, 1) by decide +kernel) rfl (by decide) ?_
  refine zq_iconst 284 (show zop 245 283 = some (.iconst 1, 1) by decide +kernel) rfl rfl ?_
  obtain ⟨g4, h⟩ := h
  refine zq_iadd 285 (show zop 245 284 = some (.iadd, 1) by decide +kernel) rfl g4 ?_
  obtain ⟨G9, G10, h⟩ := h
  by_cases hc8 : (w.2.1 682 ((5 : Int)).toNat) = ((Int.tmod x4 4) + 1)
  · refine zq_icmpF 288 292 (show zop 245 285 = some (.if_icmp .ne 7, 3) by decide +kernel) rfl rfl (decide_eq_false (fun h9 => h9 hc8)) ?_
    refine zq_iconst 289 (show zop 245 288 = some (.iconst 0, 1) by decide +kernel) rfl rfl ?_
    refine zq_goto 295 (show zop 245 289 = some (.goto 6, 3) by decide +kernel) rfl ?_
    have h9 := h; simp only [if_pos hc8] at h9; exact h9
  · refine zq_icmpT 292 (show zop 245 285 = some (.if_icmp .ne 7, 3) by decide +kernel) rfl (decide_eq_true hc8) ?_
    refine zq_aload_n 293 (show zop 245 292 = some (.aload_n 1, 1) by decide +kernel) rfl rfl ?_
    refine zq_iconst 294 (show zop 245 293 = some (.iconst 5, 1) by decide +kernel) rfl rfl ?_
    have g7 := G9 hc8
    have g5 := G10 hc8
    refine zq_iaload 295 12 (show zop 245 294 = some (.iaload, 1) by decide +kernel) rfl (by decide) g7 g5 ?_
    have h9 := h; simp only [if_neg hc8] at h9; exact h9
theorem bK245_343 {d1 : Option AV} {d2 : Option AV} {x3 : Int} {x4 : Int} {x5 : Int} {d6 : Option AV} {d7 : Option AV} {d8 : Option AV} {d9 : Option AV} {w : WS} {r : Nat} {o : Ro} (h : (1800 ≤ r) ∧ (∃ (v2 : Int) (w1 : WS), Lx 249 [(.inr (.inr (some 0))), (.inl x5), (.inl (Int.tmod x4 4)), (.inl (Int.tmod (Int.tdiv x3 4) 3))] w (.inl (some (.inl v2)), w1) ∧ (v2 = 0 ∨ v2 = 1) ∧ o = (.inl (some (.inl v2)), w1))) : K245_343 d1 d2 x3 x4 x5 d6 d7 d8 d9 w r o := by
  show Lg 245 343 [(some (.inr (.inr (some 0)))), d1, d2, (some (.inl x3)), (some (.inl x4)), (some (.inl x5)), d6, d7, d8, d9] [] w r o
  refine zq_aload_n 344 (show zop 245 343 = some (.aload_n 0, 1) by decide +kernel) rfl rfl ?_
  refine zq_iload 346 (show zop 245 344 = some (.iload 5, 2) by decide +kernel) rfl rfl ?_
  refine zq_iload 348 (show zop 245 346 = some (.iload 4, 2) by decide +kernel) rfl rfl ?_
  refine zq_iconst 349 (show zop 245 348 = some (.iconst 4, 1) by decide +kernel) rfl rfl ?_
  refine zq_irem 350 (show zop 245 349 = some (.irem, 1) by decide +kernel) rfl (by decide) ?_
  refine zq_iload_n 351 (show zop 245 350 = some (.iload_n 3, 1) by decide +kernel) rfl rfl ?_
  refine zq_iconst 352 (show zop 245 351 = some (.iconst 4, 1) by decide +kernel) rfl rfl ?_
  refine zq_idiv 353 (show zop 245 352 = some (.idiv, 1) by decide +kernel) rfl (by decide) ?_
  refine zq_iconst 354 (show zop 245 353 = some (.iconst 3, 1) by decide +kernel) rfl rfl ?_
  refine zq_irem 355 (show zop 245 354 = some (.irem, 1) by decide +kernel) rfl (by decide) ?_
  obtain ⟨g4, h⟩ := h
  obtain ⟨v2, w1, hD3, h⟩ := h
  refine zq_lx (v := some (.inl v2)) (w' := w1) (nj := 4) (j := 249) (c := 1800) (t := []) (as := [(.inr (.inr (some 0))), (.inl x5), (.inl (Int.tmod x4 4)), (.inl (Int.tmod (Int.tdiv x3 4) 3))]) 358 [(.inl v2)] (show zop 245 355 = some (.invokestatic 40, 3) by decide +kernel) (by decide +kernel) rfl (by decide +kernel) (by decide +kernel) rfl rfl rfl rfl rfl hD3 rfl g4 ?_
  obtain ⟨g5, h⟩ := h
  exact (zq_zret (show zop 245 358 = some (.ireturn, 1) by decide +kernel) (by decide +kernel) g5 h)
theorem bK245_359 {d2 : Option AV} {x3 : Int} {x4 : Int} {x5 : Int} {d6 : Option AV} {d7 : Option AV} {d8 : Option AV} {d9 : Option AV} {w : WS} {r : Nat} {o : Ro} (h : (w.1[0]? = some (0, 12, [])) ∧ (0 ≤ (0 : Int) ∧ (0 : Int) < 12) ∧ (if (w.2.1 682 ((0 : Int)).toNat) ≤ 19 then (1400 ≤ r) ∧ (∃ (v5 : Int) (w4 : WS), Lx 254 [(.inr (.inr (some 0))), (.inr (.inr (some 682))), (.inl x5), (.inl (Int.tmod x4 4)), (.inl (Int.tmod (Int.tdiv x3 4) 3)), (.inl (Int.tmod (Int.tdiv x4 4) 3))] w (.inl (some (.inl v5)), w4) ∧ (if v5 = 0 then K245_397 (some (.inr (.inr (some 0)))) (some (.inr (.inr (some 682)))) d2 (some (.inl x3)) (some (.inl x4)) (some (.inl x5)) d6 d7 d8 d9 0 w4 (r - 1400) o else K245_392 (some (.inr (.inr (some 0)))) (some (.inr (.inr (some 682)))) d2 (some (.inl x3)) (some (.inl x4)) (some (.inl x5)) d6 d7 d8 d9 w4 (r - 1400) o)) else K245_392 (some (.inr (.inr (some 0)))) (some (.inr (.inr (some 682)))) d2 (some (.inl x3)) (some (.inl x4)) (some (.inl x5)) d6 d7 d8 d9 w r o)) : K245_359 d2 x3 x4 x5 d6 d7 d8 d9 w r o := by
  show Lg 245 359 [(some (.inr (.inr (some 0)))), (some (.inr (.inr (some 682)))), d2, (some (.inl x3)), (some (.inl x4)), (some (.inl x5)), d6, d7, d8, d9] [] w r o
  refine zq_aload_n 360 (show zop 245 359 = some (.aload_n 1, 1) by decide +kernel) rfl rfl ?_
  refine zq_iconst 361 (show zop 245 360 = some (.iconst 0, 1) by decide +kernel) rfl rfl ?_
  obtain ⟨g3, h⟩ := h
  obtain ⟨g1, h⟩ := h
  refine zq_iaload 362 12 (show zop 245 361 = some (.iaload, 1) by decide +kernel) rfl (by decide) g3 g1 ?_
  refine zq_bipush 364 (show zop 245 362 = some (.bipush 19, 2) by decide +kernel) rfl (by decide) ?_
  by_cases hc8 : (w.2.1 682 ((0 : Int)).toNat) ≤ 19
  · rw [if_pos hc8] at h
    refine zq_icmpF 367 392 (show zop 245 364 = some (.if_icmp .gt 28, 3) by decide +kernel) rfl rfl (decide_eq_false (Int.not_lt.mpr hc8)) ?_
    refine zq_aload_n 368 (show zop 245 367 = some (.aload_n 0, 1) by decide +kernel) rfl rfl ?_
    refine zq_aload_n 369 (show zop 245 368 = some (.aload_n 1, 1) by decide +kernel) rfl rfl ?_
    refine zq_iload 371 (show zop 245 369 = some (.iload 5, 2) by decide +kernel) rfl rfl ?_
    refine zq_iload 373 (show zop 245 371 = some (.iload 4, 2) by decide +kernel) rfl rfl ?_
    refine zq_iconst 374 (show zop 245 373 = some (.iconst 4, 1) by decide +kernel) rfl rfl ?_
    refine zq_irem 375 (show zop 245 374 = some (.irem, 1) by decide +kernel) rfl (by decide) ?_
    refine zq_iload_n 376 (show zop 245 375 = some (.iload_n 3, 1) by decide +kernel) rfl rfl ?_
    refine zq_iconst 377 (show zop 245 376 = some (.iconst 4, 1) by decide +kernel) rfl rfl ?_
    refine zq_idiv 378 (show zop 245 377 = some (.idiv, 1) by decide +kernel) rfl (by decide) ?_
    refine zq_iconst 379 (show zop 245 378 = some (.iconst 3, 1) by decide +kernel) rfl rfl ?_
    refine zq_irem 380 (show zop 245 379 = some (.irem, 1) by decide +kernel) rfl (by decide) ?_
    refine zq_iload 382 (show zop 245 380 = some (.iload 4, 2) by decide +kernel) rfl rfl ?_
    refine zq_iconst 383 (show zop 245 382 = some (.iconst 4, 1) by decide +kernel) rfl rfl ?_
    refine zq_idiv 384 (show zop 245 383 = some (.idiv, 1) by decide +kernel) rfl (by decide) ?_
    refine zq_iconst 385 (show zop 245 384 = some (.iconst 3, 1) by decide +kernel) rfl rfl ?_
    refine zq_irem 386 (show zop 245 385 = some (.irem, 1) by decide +kernel) rfl (by decide) ?_
    obtain ⟨g7, h⟩ := h
    obtain ⟨v5, w4, hD6, h⟩ := h
    refine zq_lx (v := some (.inl v5)) (w' := w4) (nj := 6) (j := 254) (c := 1400) (t := []) (as := [(.inr (.inr (some 0))), (.inr (.inr (some 682))), (.inl x5), (.inl (Int.tmod x4 4)), (.inl (Int.tmod (Int.tdiv x3 4) 3)), (.inl (Int.tmod (Int.tdiv x4 4) 3))]) 389 [(.inl v5)] (show zop 245 386 = some (.invokestatic 44, 3) by decide +kernel) (by decide +kernel) rfl (by decide +kernel) (by decide +kernel) rfl rfl rfl rfl rfl hD6 rfl g7 ?_
    by_cases hc9 : v5 = 0
    · rw [if_pos hc9] at h
      refine zq_ifT 396 (show zop 245 389 = some (.ifCond .eq 7, 3) by decide +kernel) rfl (decide_eq_true hc9) ?_
      refine zq_iconst 397 (show zop 245 396 = some (.iconst 0, 1) by decide +kernel) rfl rfl ?_
      exact h
    · rw [if_neg hc9] at h
      refine zq_ifF 392 396 (show zop 245 389 = some (.ifCond .eq 7, 3) by decide +kernel) rfl rfl (decide_eq_false hc9) ?_
      exact h
  · rw [if_neg hc8] at h
    refine zq_icmpT 392 (show zop 245 364 = some (.if_icmp .gt 28, 3) by decide +kernel) rfl (decide_eq_true (Int.not_le.mp hc8)) ?_
    exact h
theorem bK245_398 {d2 : Option AV} {d3 : Option AV} {d4 : Option AV} {d5 : Option AV} {d6 : Option AV} {x7 : Int} {x8 : Int} {d9 : Option AV} {w : WS} {r : Nat} {o : Ro} (h : (w.1[0]? = some (0, 12, [])) ∧ (0 ≤ (0 : Int) ∧ (0 : Int) < 12) ∧ (if (w.2.1 682 ((0 : Int)).toNat) = 0 then K245_415 (some (.inr (.inr (some 0)))) (some (.inr (.inr (some 682)))) d2 d3 d4 d5 d6 (some (.inl x7)) (some (.inl x8)) d9 w r o else (1500 ≤ r) ∧ (∃ (v5 : Int) (w4 : WS), Lx 255 [(.inr (.inr (some 0))), (.inl x7), (.inl x8)] w (.inl (some (.inl v5)), w4) ∧ (if v5 = 0 then K245_420 (some (.inr (.inr (some 0)))) (some (.inr (.inr (some 682)))) d2 d3 d4 d5 d6 (some (.inl x7)) (some (.inl x8)) d9 0 w4 (r - 1500) o else K245_415 (some (.inr (.inr (some 0)))) (some (.inr (.inr (some 682)))) d2 d3 d4 d5 d6 (some (.inl x7)) (some (.inl x8)) d9 w4 (r - 1500) o)))) : K245_398 d2 d3 d4 d5 d6 x7 x8 d9 w r o := by
  show Lg 245 398 [(some (.inr (.inr (some 0)))), (some (.inr (.inr (some 682)))), d2, d3, d4, d5, d6, (some (.inl x7)), (some (.inl x8)), d9] [] w r o
  refine zq_aload_n 399 (show zop 245 398 = some (.aload_n 1, 1) by decide +kernel) rfl rfl ?_
  refine zq_iconst 400 (show zop 245 399 = some (.iconst 0, 1) by decide +kernel) rfl rfl ?_
  obtain ⟨g3, h⟩ := h
  obtain ⟨g1, h⟩ := h
  refine zq_iaload 401 12 (show zop 245 400 = some (.iaload, 1) by decide +kernel) rfl (by decide) g3 g1 ?_
  by_cases hc8 : (w.2.1 682 ((0 : Int)).toNat) = 0
  · rw [if_pos hc8] at h
    refine zq_ifT 415 (show zop 245 401 = some (.ifCond .eq 14, 3) by decide +kernel) rfl (decide_eq_true hc8) ?_
    exact h
  · rw [if_neg hc8] at h
    refine zq_ifF 404 415 (show zop 245 401 = some (.ifCond .eq 14, 3) by decide +kernel) rfl rfl (decide_eq_false hc8) ?_
    refine zq_aload_n 405 (show zop 245 404 = some (.aload_n 0, 1) by decide +kernel) rfl rfl ?_
    refine zq_iload 407 (show zop 245 405 = some (.iload 7, 2) by decide +kernel) rfl rfl ?_
    refine zq_iload 409 (show zop 245 407 = some (.iload 8, 2) by decide +kernel) rfl rfl ?_
    obtain ⟨g7, h⟩ := h
    obtain ⟨v5, w4, hD6, h⟩ := h
    refine zq_lx (v := some (.inl v5)) (w' := w4) (nj := 3) (j := 255) (c := 1500) (t := []) (as := [(.inr (.inr (some 0))), (.inl x7), (.inl x8)]) 412 [(.inl v5)] (show zop 245 409 = some (.invokestatic 48, 3) by decide +kernel) (by decide +kernel) rfl (by decide +kernel) (by decide +kernel) rfl rfl rfl rfl rfl hD6 rfl g7 ?_
    by_cases hc9 : v5 = 0
    · rw [if_pos hc9] at h
      refine zq_ifT 419 (show zop 245 412 = some (.ifCond .eq 7, 3) by decide +kernel) rfl (decide_eq_true hc9) ?_
      refine zq_iconst 420 (show zop 245 419 = some (.iconst 0, 1) by decide +kernel) rfl rfl ?_
      exact h
    · rw [if_neg hc9] at h
      refine zq_ifF 415 419 (show zop 245 412 = some (.ifCond .eq 7, 3) by decide +kernel) rfl rfl (decide_eq_false hc9) ?_
      exact h
theorem bK245_421 {d2 : Option AV} {x3 : Int} {x4 : Int} {d5 : Option AV} {d6 : Option AV} {x7 : Int} {x8 : Int} {d9 : Option AV} {w : WS} {r : Nat} {o : Ro} (h : (w.1[0]? = some (0, 12, [])) ∧ (0 ≤ (0 : Int) ∧ (0 : Int) < 12) ∧ (if (w.2.1 682 ((0 : Int)).toNat) = 0 then K245_456 (some (.inr (.inr (some 0)))) (some (.inr (.inr (some 682)))) d2 (some (.inl x3)) (some (.inl x4)) d5 d6 (some (.inl x7)) (some (.inl x8)) d9 w r o else (w.1[0]? = some (0, 12, [])) ∧ (0 ≤ (0 : Int) ∧ (0 : Int) < 12) ∧ (if (w.2.1 682 ((0 : Int)).toNat) ≤ 20 then (3000 ≤ r) ∧ (∃ (v8 : Int) (w7 : WS), Lx 263 [(.inr (.inr (some 0))), (.inr (.inr (some 682))), (.inl x7), (.inl x8), (.inl (Int.tdiv x3 24)), (.inl (Int.tdiv x4 24))] w (.inl (some (.inl v8)), w7) ∧ (if v8 = 0 then K245_461 (some (.inr (.inr (some 0)))) (some (.inr (.inr (some 682)))) d2 (some (.inl x3)) (some (.inl x4)) d5 d6 (some (.inl x7)) (some (.inl x8)) d9 0 w7 (r - 3000) o else K245_456 (some (.inr (.inr (some 0)))) (some (.inr (.inr (some 682)))) d2 (some (.inl x3)) (some (.inl x4)) d5 d6 (some (.inl x7)) (some (.inl x8)) d9 w7 (r - 3000) o)) else K245_456 (some (.inr (.inr (some 0)))) (some (.inr (.inr (some 682)))) d2 (some (.inl x3)) (some (.inl x4)) d5 d6 (some (.inl x7)) (some (.inl x8)) d9 w r o))) : K245_421 d2 x3 x4 d5 d6 x7 x8 d9 w r o := by
  show Lg 245 421 [(some (.inr (.inr (some 0)))), (some (.inr (.inr (some 682)))), d2, (some (.inl x3)), (some (.inl x4)), d5, d6, (some (.inl x7)), (some (.inl x8)), d9] [] w r o
  refine zq_aload_n 422 (show zop 245 421 = some (.aload_n 1, 1) by decide +kernel) rfl rfl ?_
  refine zq_iconst 423 (show zop 245 422 = some (.iconst 0, 1) by decide +kernel) rfl rfl ?_
  obtain ⟨g3, h⟩ := h
  obtain ⟨g1, h⟩ := h
  refine zq_iaload 424 12 (show zop 245 423 = some (.iaload, 1) by decide +kernel) rfl (by decide) g3 g1 ?_
  by_cases hc11 : (w.2.1 682 ((0 : Int)).toNat) = 0
  · rw [if_pos hc11] at h
    refine zq_ifT 456 (show zop 245 424 = some (.ifCond .eq 32, 3) by decide +kernel) rfl (decide_eq_true hc11) ?_
    exact h
  · rw [if_neg hc11] at h
    refine zq_ifF 427 456 (show zop 245 424 = some (.ifCond .eq 32, 3) by decide +kernel) rfl rfl (decide_eq_false hc11) ?_
    refine zq_aload_n 428 (show zop 245 427 = some (.aload_n 1, 1) by decide +kernel) rfl rfl ?_
    refine zq_iconst 429 (show zop 245 428 = some (.iconst 0, 1) by decide +kernel) rfl rfl ?_
    obtain ⟨g6, h⟩ := h
    obtain ⟨g4, h⟩ := h
    refine zq_iaload 430 12 (show zop 245 429 = some (.iaload, 1) by decide +kernel) rfl (by decide) g6 g4 ?_
    refine zq_bipush 432 (show zop 245 430 = some (.bipush 20, 2) by decide +kernel) rfl (by decide) ?_
    by_cases hc12 : (w.2.1 682 ((0 : Int)).toNat) ≤ 20
    · rw [if_pos hc12] at h
      refine zq_icmpF 435 456 (show zop 245 432 = some (.if_icmp .gt 24, 3) by decide +kernel) rfl rfl (decide_eq_false (Int.not_lt.mpr hc12)) ?_
      refine zq_aload_n 436 (show zop 245 435 = some (.aload_n 0, 1) by decide +kernel) rfl rfl ?_
      refine zq_aload_n 437 (show zop 245 436 = some (.aload_n 1, 1) by decide +kernel) rfl rfl ?_
      refine zq_iload 439 (show zop 245 437 = some (.iload 7, 2) by decide +kernel) rfl rfl ?_
      refine zq_iload 441 (show zop 245 439 = some (.iload 8, 2) by decide +kernel) rfl rfl ?_
      refine zq_iload_n 442 (show zop 245 441 = some (.iload_n 3, 1) by decide +kernel) rfl rfl ?_
      refine zq_bipush 444 (show zop 245 442 = some (.bipush 24, 2) by decide +kernel) rfl (by decide) ?_
      refine zq_idiv 445 (show zop 245 444 = some (.idiv, 1) by decide +kernel) rfl (by decide) ?_
      refine zq_iload 447 (show zop 245 445 = some (.iload 4, 2) by decide +kernel) rfl rfl ?_
      refine zq_bipush 449 (show zop 245 447 = some (.bipush 24, 2) by decide +kernel) rfl (by decide) ?_
      refine zq_idiv 450 (show zop 245 449 = some (.idiv, 1) by decide +kernel) rfl (by decide) ?_
      obtain ⟨g10, h⟩ := h
      obtain ⟨v8, w7, hD9, h⟩ := h
      refine zq_lx (v := some (.inl v8)) (w' := w7) (nj := 6) (j := 263) (c := 3000) (t := []) (as := [(.inr (.inr (some 0))), (.inr (.inr (some 682))), (.inl x7), (.inl x8), (.inl (Int.tdiv x3 24)), (.inl (Int.tdiv x4 24))]) 453 [(.inl v8)] (show zop 245 450 = some (.invokestatic 51, 3) by decide +kernel) (by decide +kernel) rfl (by decide +kernel) (by decide +kernel) rfl rfl rfl rfl rfl hD9 rfl g10 ?_
      by_cases hc13 : v8 = 0
      · rw [if_pos hc13] at h
        refine zq_ifT 460 (show zop 245 453 = some (.ifCond .eq 7, 3) by decide +kernel) rfl (decide_eq_true hc13) ?_
        refine zq_iconst 461 (show zop 245 460 = some (.iconst 0, 1) by decide +kernel) rfl rfl ?_
        exact h
      · rw [if_neg hc13] at h
        refine zq_ifF 456 460 (show zop 245 453 = some (.ifCond .eq 7, 3) by decide +kernel) rfl rfl (decide_eq_false hc13) ?_
        exact h
    · rw [if_neg hc12] at h
      refine zq_icmpT 456 (show zop 245 432 = some (.if_icmp .gt 24, 3) by decide +kernel) rfl (decide_eq_true (Int.not_le.mp hc12)) ?_
      exact h
theorem bK245_462 {d2 : Option AV} {x3 : Int} {x4 : Int} {d5 : Option AV} {d6 : Option AV} {x7 : Int} {x8 : Int} {d9 : Option AV} {w : WS} {r : Nat} {o : Ro} (h : (w.1[0]? = some (0, 12, [])) ∧ (0 ≤ (0 : Int) ∧ (0 : Int) < 12) ∧ (if (w.2.1 682 ((0 : Int)).toNat) = 0 then K245_491 (some (.inr (.inr (some 0)))) (some (.inr (.inr (some 682)))) d2 (some (.inl x3)) (some (.inl x4)) d5 d6 (some (.inl x7)) (some (.inl x8)) d9 w r o else (2900 ≤ r) ∧ (∃ (v5 : Int) (w4 : WS), Lx 266 [(.inr (.inr (some 0))), (.inr (.inr (some 682))), (.inl x7), (.inl x8), (.inl (Int.tmod (Int.tdiv x3 24) 4)), (.inl (Int.tdiv x4 24))] w (.inl (some (.inl v5)), w4) ∧ (if v5 = 0 then K245_496 (some (.inr (.inr (some 0)))) (some (.inr (.inr (some 682)))) d2 (some (.inl x3)) (some (.inl x4)) d5 d6 (some (.inl x7)) (some (.inl x8)) d9 0 w4 (r - 2900) o else K245_491 (some (.inr (.inr (some 0)))) (some (.inr (.inr (some 682)))) d2 (some (.inl x3)) (some (.inl x4)) d5 d6 (some (.inl x7)) (some (.inl x8)) d9 w4 (r - 2900) o)))) : K245_462 d2 x3 x4 d5 d6 x7 x8 d9 w r o := by
  show Lg 245 462 [(some (.inr (.inr (some 0)))), (some (.inr (.inr (some 682)))), d2, (some (.inl x3)), (some (.inl x4)), d5, d6, (some (.inl x7)), (some (.inl x8)), d9] [] w r o
  refine zq_aload_n 463 (show zop 245 462 = some (.aload_n 1, 1) by decide +kernel) rfl rfl ?_
  refine zq_iconst 464 (show zop 245 463 = some (.iconst 0, 1) by decide +kernel) rfl rfl ?_
  obtain ⟨g3, h⟩ := h
  obtain ⟨g1, h⟩ := h
  refine zq_iaload 465 12 (show zop 245 464 = some (.iaload, 1) by decide +kernel) rfl (by decide) g3 g1 ?_
  by_cases hc8 : (w.2.1 682 ((0 : Int)).toNat) = 0
  · rw [if_pos hc8] at h
    refine zq_ifT 491 (show zop 245 465 = some (.ifCond .eq 26, 3) by decide +kernel) rfl (decide_eq_true hc8) ?_
    exact h
  · rw [if_neg hc8] at h
    refine zq_ifF 468 491 (show zop 245 465 = some (.ifCond .eq 26, 3) by decide +kernel) rfl rfl (decide_eq_false hc8) ?_
    refine zq_aload_n 469 (show zop 245 468 = some (.aload_n 0, 1) by decide +kernel) rfl rfl ?_
    refine zq_aload_n 470 (show zop 245 469 = some (.aload_n 1, 1) by decide +kernel) rfl rfl ?_
    refine zq_iload 472 (show zop 245 470 = some (.iload 7, 2) by decide +kernel) rfl rfl ?_
    refine zq_iload 474 (show zop 245 472 = some (.iload 8, 2) by decide +kernel) rfl rfl ?_
    refine zq_iload_n 475 (show zop 245 474 = some (.iload_n 3, 1) by decide +kernel) rfl rfl ?_
    refine zq_bipush 477 (show zop 245 475 = some (.bipush 24, 2) by decide +kernel) rfl (by decide) ?_
    refine zq_idiv 478 (show zop 245 477 = some (.idiv, 1) by decide +kernel) rfl (by decide) ?_
    refine zq_iconst 479 (show zop 245 478 = some (.iconst 4, 1) by decide +kernel) rfl rfl ?_
    refine zq_irem 480 (show zop 245 479 = some (.irem, 1) by decide +kernel) rfl (by decide) ?_
    refine zq_iload 482 (show zop 245 480 = some (.iload 4, 2) by decide +kernel) rfl rfl ?_
    refine zq_bipush 484 (show zop 245 482 = some (.bipush 24, 2) by decide +kernel) rfl (by decide) ?_
    refine zq_idiv 485 (show zop 245 484 = some (.idiv, 1) by decide +kernel) rfl (by decide) ?_
    obtain ⟨g7, h⟩ := h
    obtain ⟨v5, w4, hD6, h⟩ := h
    refine zq_lx (v := some (.inl v5)) (w' := w4) (nj := 6) (j := 266) (c := 2900) (t := []) (as := [(.inr (.inr (some 0))), (.inr (.inr (some 682))), (.inl x7), (.inl x8), (.inl (Int.tmod (Int.tdiv x3 24) 4)), (.inl (Int.tdiv x4 24))]) 488 [(.inl v5)] (show zop 245 485 = some (.invokestatic 54, 3) by decide +kernel) (by decide +kernel) rfl (by decide +kernel) (by decide +kernel) rfl rfl rfl rfl rfl hD6 rfl g7 ?_
    by_cases hc9 : v5 = 0
    · rw [if_pos hc9] at h
      refine zq_ifT 495 (show zop 245 488 = some (.ifCond .eq 7, 3) by decide +kernel) rfl (decide_eq_true hc9) ?_
      refine zq_iconst 496 (show zop 245 495 = some (.iconst 0, 1) by decide +kernel) rfl rfl ?_
      exact h
    · rw [if_neg hc9] at h
      refine zq_ifF 491 495 (show zop 245 488 = some (.ifCond .eq 7, 3) by decide +kernel) rfl rfl (decide_eq_false hc9) ?_
      exact h
theorem bK245_497 {d2 : Option AV} {x3 : Int} {x4 : Int} {d5 : Option AV} {d6 : Option AV} {d7 : Option AV} {d8 : Option AV} {d9 : Option AV} {w : WS} {r : Nat} {o : Ro} (h : (1200 ≤ r) ∧ (∃ (v2 : Int) (w1 : WS), Lx 267 [(.inr (.inr (some 0))), (.inr (.inr (some 682))), (.inl x3), (.inl x4)] w (.inl (some (.inl v2)), w1) ∧ (if v2 = 0 then K245_524 (some (.inr (.inr (some 0)))) (some (.inr (.inr (some 682)))) d2 (some (.inl x3)) (some (.inl x4)) d5 d6 d7 d8 d9 w1 (r - 1200) o else (100 ≤ (r - 1200)) ∧ (∃ (v6 : Int) (w5 : WS), Lx 272 [(.inr (.inr (some 0))), (.inr (.inr (some 682))), (.inl (Int.tdiv x3 7))] w1 (.inl (some (.inl v6)), w5) ∧ (if v6 = 0 then K245_524 (some (.inr (.inr (some 0)))) (some (.inr (.inr (some 682)))) d2 (some (.inl x3)) (some (.inl x4)) d5 d6 d7 d8 d9 w5 ((r - 1200) - 100) o else K245_525 (some (.inr (.inr (some 0)))) (some (.inr (.inr (some 682)))) d2 (some (.inl x3)) (some (.inl x4)) d5 d6 d7 d8 d9 1 w5 ((r - 1200) - 100) o))))) : K245_497 d2 x3 x4 d5 d6 d7 d8 d9 w r o := by
  show Lg 245 497 [(some (.inr (.inr (some 0)))), (some (.inr (.inr (some 682)))), d2, (some (.inl x3)), (some (.inl x4)), d5, d6, d7, d8, d9] [] w r o
  refine zq_aload_n 498 (show zop 245 497 = some (.aload_n 0, 1) by decide +kernel) rfl rfl ?_
  refine zq_aload_n 499 (show zop 245 498 = some (.aload_n 1, 1) by decide +kernel) rfl rfl ?_
  refine zq_iload_n 500 (show zop 245 499 = some (.iload_n 3, 1) by decide +kernel) rfl rfl ?_
  refine zq_iload 502 (show zop 245 500 = some (.iload 4, 2) by decide +kernel) rfl rfl ?_
  obtain ⟨g4, h⟩ := h
  obtain ⟨v2, w1, hD3, h⟩ := h
  refine zq_lx (v := some (.inl v2)) (w' := w1) (nj := 4) (j := 267) (c := 1200) (t := []) (as := [(.inr (.inr (some 0))), (.inr (.inr (some 682))), (.inl x3), (.inl x4)]) 505 [(.inl v2)] (show zop 245 502 = some (.invokestatic 57, 3) by decide +kernel) (by decide +kernel) rfl (by decide +kernel) (by decide +kernel) rfl rfl rfl rfl rfl hD3 rfl g4 ?_
  by_cases hc9 : v2 = 0
  · rw [if_pos hc9] at h
    refine zq_ifT 524 (show zop 245 505 = some (.ifCond .eq 19, 3) by decide +kernel) rfl (decide_eq_true hc9) ?_
    exact h
  · rw [if_neg hc9] at h
    refine zq_ifF 508 524 (show zop 245 505 = some (.ifCond .eq 19, 3) by decide +kernel) rfl rfl (decide_eq_false hc9) ?_
    refine zq_aload_n 509 (show zop 245 508 = some (.aload_n 0, 1) by decide +kernel) rfl rfl ?_
    refine zq_aload_n 510 (show zop 245 509 = some (.aload_n 1, 1) by decide +kernel) rfl rfl ?_
    refine zq_iload_n 511 (show zop 245 510 = some (.iload_n 3, 1) by decide +kernel) rfl rfl ?_
    refine zq_bipush 513 (show zop 245 511 = some (.bipush 7, 2) by decide +kernel) rfl (by decide) ?_
    refine zq_idiv 514 (show zop 245 513 = some (.idiv, 1) by decide +kernel) rfl (by decide) ?_
    obtain ⟨g8, h⟩ := h
    obtain ⟨v6, w5, hD7, h⟩ := h
    refine zq_lx (v := some (.inl v6)) (w' := w5) (nj := 3) (j := 272) (c := 100) (t := []) (as := [(.inr (.inr (some 0))), (.inr (.inr (some 682))), (.inl (Int.tdiv x3 7))]) 517 [(.inl v6)] (show zop 245 514 = some (.invokestatic 60, 3) by decide +kernel) (by decide +kernel) rfl (by decide +kernel) (by decide +kernel) rfl rfl rfl rfl rfl hD7 rfl g8 ?_
    by_cases hc10 : v6 = 0
    · rw [if_pos hc10] at h
      refine zq_ifT 524 (show zop 245 517 = some (.ifCond .eq 7, 3) by decide +kernel) rfl (decide_eq_true hc10) ?_
      exact h
    · rw [if_neg hc10] at h
      refine zq_ifF 520 524 (show zop 245 517 = some (.ifCond .eq 7, 3) by decide +kernel) rfl rfl (decide_eq_false hc10) ?_
      refine zq_iconst 521 (show zop 245 520 = some (.iconst 1, 1) by decide +kernel) rfl rfl ?_
      refine zq_goto 525 (show zop 245 521 = some (.goto 4, 3) by decide +kernel) rfl ?_
      exact h
theorem bK245_526 {d2 : Option AV} {x3 : Int} {x4 : Int} {d5 : Option AV} {d6 : Option AV} {d7 : Option AV} {d8 : Option AV} {d9 : Option AV} {w : WS} {r : Nat} {o : Ro} (h : (100 ≤ r) ∧ (∃ (v2 : Int) (w1 : WS), Lx 273 [(.inr (.inr (some 0))), (.inr (.inr (some 682))), (.inl x3), (.inl x4)] w (.inl (some (.inl v2)), w1) ∧ (v2 = 0 ∨ v2 = 1) ∧ o = (.inl (some (.inl v2)), w1))) : K245_526 d2 x3 x4 d5 d6 d7 d8 d9 w r o := by
  show Lg 245 526 [(some (.inr (.inr (some 0)))), (some (.inr (.inr (some 682)))), d2, (some (.inl x3)), (some (.inl x4)), d5, d6, d7, d8, d9] [] w r o
  refine zq_aload_n 527 (show zop 245 526 = some (.aload_n 0, 1) by decide +kernel) rfl rfl ?_
  refine zq_aload_n 528 (show zop 245 527 = some (.aload_n 1, 1) by decide +kernel) rfl rfl ?_
  refine zq_iload_n 529 (show zop 245 528 = some (.iload_n 3, 1) by decide +kernel) rfl rfl ?_
  refine zq_iload 531 (show zop 245 529 = some (.iload 4, 2) by decide +kernel) rfl rfl ?_
  obtain ⟨g4, h⟩ := h
  obtain ⟨v2, w1, hD3, h⟩ := h
  refine zq_lx (v := some (.inl v2)) (w' := w1) (nj := 4) (j := 273) (c := 100) (t := []) (as := [(.inr (.inr (some 0))), (.inr (.inr (some 682))), (.inl x3), (.inl x4)]) 534 [(.inl v2)] (show zop 245 531 = some (.invokestatic 64, 3) by decide +kernel) (by decide +kernel) rfl (by decide +kernel) (by decide +kernel) rfl rfl rfl rfl rfl hD3 rfl g4 ?_
  obtain ⟨g5, h⟩ := h
  exact (zq_zret (show zop 245 534 = some (.ireturn, 1) by decide +kernel) (by decide +kernel) g5 h)
theorem bK245_535 {d2 : Option AV} {x3 : Int} {x4 : Int} {d5 : Option AV} {d6 : Option AV} {d7 : Option AV} {d8 : Option AV} {d9 : Option AV} {w : WS} {r : Nat} {o : Ro} (h : (1400 ≤ r) ∧ (∃ (v2 : Int) (w1 : WS), Lx 275 [(.inr (.inr (some 0))), (.inr (.inr (some 682))), (.inl x3), (.inl x4)] w (.inl (some (.inl v2)), w1) ∧ (v2 = 0 ∨ v2 = 1) ∧ o = (.inl (some (.inl v2)), w1))) : K245_535 d2 x3 x4 d5 d6 d7 d8 d9 w r o := by
  show Lg 245 535 [(some (.inr (.inr (some 0)))), (some (.inr (.inr (some 682)))), d2, (some (.inl x3)), (some (.inl x4)), d5, d6, d7, d8, d9] [] w r o
  refine zq_aload_n 536 (show zop 245 535 = some (.aload_n 0, 1) by decide +kernel) rfl rfl ?_
  refine zq_aload_n 537 (show zop 245 536 = some (.aload_n 1, 1) by decide +kernel) rfl rfl ?_
  refine zq_iload_n 538 (show zop 245 537 = some (.iload_n 3, 1) by decide +kernel) rfl rfl ?_
  refine zq_iload 540 (show zop 245 538 = some (.iload 4, 2) by decide +kernel) rfl rfl ?_
  obtain ⟨g4, h⟩ := h
  obtain ⟨v2, w1, hD3, h⟩ := h
  refine zq_lx (v := some (.inl v2)) (w' := w1) (nj := 4) (j := 275) (c := 1400) (t := []) (as := [(.inr (.inr (some 0))), (.inr (.inr (some 682))), (.inl x3), (.inl x4)]) 543 [(.inl v2)] (show zop 245 540 = some (.invokestatic 67, 3) by decide +kernel) (by decide +kernel) rfl (by decide +kernel) (by decide +kernel) rfl rfl rfl rfl rfl hD3 rfl g4 ?_
  obtain ⟨g5, h⟩ := h
  exact (zq_zret (show zop 245 543 = some (.ireturn, 1) by decide +kernel) (by decide +kernel) g5 h)
theorem bK245_195 {d1 : Option AV} {d2 : Option AV} {x3 : Int} {x4 : Int} {x5 : Int} {x6 : Int} {d7 : Option AV} {d8 : Option AV} {d9 : Option AV} {y1 : Int} {y2 : Int} {w : WS} {r : Nat} {o : Ro} (h : (w.1[0]? = some (0, 12, [])) ∧ (0 ≤ y1 ∧ y1 < 12) ∧ (-2147483648 ≤ (x6 + 1) ∧ (x6 + 1) ≤ 2147483647) ∧ (0 < (x6 + 1)) ∧ (0 ≤ r) ∧ (∃ (v7 : Int) (w6 : WS), Lx 244 [(.inl x4)] (wU w 682 (y1).toNat y2) (.inl (some (.inl v7)), w6) ∧ (4 ≤ r) ∧ (∃ (v11 : Int) (s10 : Sg), Dc 172 [(.inr (.inr (some 0))), (.inl x5), (.inl (Int.tmod (Int.tdiv x3 4) (x6 + 1))), (.inl v7)] w6.2.2 (.inl (some (.inl v11))) s10 ∧ (-2147483648 ≤ (x6 + 1) ∧ (x6 + 1) ≤ 2147483647) ∧ (if v11 = (x6 + 1) then (2 ≤ (r - 4)) ∧ (∃ (v16 : Int) (s15 : Sg), Dc 176 [(.inr (.inr (some 0))), (.inl x5), (.inl (Int.tmod (Int.tdiv x3 4) (x6 + 1)))] (wS w6 s10).2.2 (.inl (some (.inl v16))) s15 ∧ (0 ≤ ((r - 4) - 2)) ∧ (∃ (v20 : Int) (w19 : WS), Lx 244 [(.inl x4)] (wS (wS w6 s10) s15) (.inl (some (.inl v20)), w19) ∧ (if v16 = v20 then K245_247 (some (.inr (.inr (some 0)))) d1 d2 (some (.inl x3)) (some (.inl x4)) (some (.inl x5)) (some (.inl x6)) d7 d8 (some (.inl (Int.tmod (Int.tdiv x3 4) (x6 + 1)))) 1 w19 ((r - 4) - 2) o else K245_246 (some (.inr (.inr (some 0)))) d1 d2 (some (.inl x3)) (some (.inl x4)) (some (.inl x5)) (some (.inl x6)) d7 d8 (some (.inl (Int.tmod (Int.tdiv x3 4) (x6 + 1)))) w19 ((r - 4) - 2) o))) else K245_246 (some (.inr (.inr (some 0)))) d1 d2 (some (.inl x3)) (some (.inl x4)) (some (.inl x5)) (some (.inl x6)) d7 d8 (some (.inl (Int.tmod (Int.tdiv x3 4) (x6 + 1)))) (wS w6 s10) (r - 4) o)))) : K245_195 d1 d2 x3 x4 x5 x6 d7 d8 d9 y1 y2 w r o := by
  show Lg 245 195 [(some (.inr (.inr (some 0)))), d1, d2, (some (.inl x3)), (some (.inl x4)), (some (.inl x5)), (some (.inl x6)), d7, d8, d9] [(.inl y2), (.inl y1), (.inr (.inr (some 682)))] w r o
  obtain ⟨g3, h⟩ := h
  obtain ⟨g1, h⟩ := h
  refine zq_iastore 196 12 (show zop 245 195 = some (.iastore, 1) by decide +kernel) rfl (by decide) g3 g1 ?_
  refine zq_iload_n 197 (show zop 245 196 = some (.iload_n 3, 1) by decide +kernel) rfl rfl ?_
  refine zq_iconst 198 (show zop 245 197 = some (.iconst 4, 1) by decide +kernel) rfl rfl ?_
  refine zq_idiv 199 (show zop 245 198 = some (.idiv, 1) by decide +kernel) rfl (by decide) ?_
  refine zq_iload 201 (show zop 245 199 = some (.iload 6, 2) by decide +kernel) rfl rfl ?_
  refine zq_iconst 202 (show zop 245 201 = some (.iconst 1, 1) by decide +kernel) rfl rfl ?_
  obtain ⟨g4, h⟩ := h
  refine zq_iadd 203 (show zop 245 202 = some (.iadd, 1) by decide +kernel) rfl g4 ?_
  obtain ⟨g5, h⟩ := h
  refine zq_irem 204 (show zop 245 203 = some (.irem, 1) by decide +kernel) rfl g5 ?_
  refine zq_istore 206 [(some (.inr (.inr (some 0)))), d1, d2, (some (.inl x3)), (some (.inl x4)), (some (.inl x5)), (some (.inl x6)), d7, d8, (some (.inl (Int.tmod (Int.tdiv x3 4) (x6 + 1))))] (show zop 245 204 = some (.istore 9, 2) by decide +kernel) rfl rfl rfl ?_
  refine zq_aload_n 207 (show zop 245 206 = some (.aload_n 0, 1) by decide +kernel) rfl rfl ?_
  refine zq_iload 209 (show zop 245 207 = some (.iload 5, 2) by decide +kernel) rfl rfl ?_
  refine zq_iload 211 (show zop 245 209 = some (.iload 9, 2) by decide +kernel) rfl rfl ?_
  refine zq_iload 213 (show zop 245 211 = some (.iload 4, 2) by decide +kernel) rfl rfl ?_
  obtain ⟨g9, h⟩ := h
  obtain ⟨v7, w6, hD8, h⟩ := h
  refine zq_lx (v := some (.inl v7)) (w' := w6) (nj := 1) (j := 244) (c := 0) (t := [(.inl (Int.tmod (Int.tdiv x3 4) (x6 + 1))), (.inl x5), (.inr (.inr (some 0)))]) (as := [(.inl x4)]) 216 [(.inl v7), (.inl (Int.tmod (Int.tdiv x3 4) (x6 + 1))), (.inl x5), (.inr (.inr (some 0)))] (show zop 245 213 = some (.invokestatic 22, 3) by decide +kernel) (by decide +kernel) rfl (by decide +kernel) (by decide +kernel) rfl rfl rfl rfl rfl hD8 rfl g9 ?_
  obtain ⟨g13, h⟩ := h
  obtain ⟨v11, s10, hD12, h⟩ := h
  refine zq_vi (v := some (.inl v11)) (σ' := s10) (nj := 4) (j := 172) (c := 4) (t := []) (as := [(.inr (.inr (some 0))), (.inl x5), (.inl (Int.tmod (Int.tdiv x3 4) (x6 + 1))), (.inl v7)]) 219 [(.inl v11)] (show zop 245 216 = some (.invokevirtual 25, 3) by decide +kernel) (by decide +kernel) rfl (by decide +kernel) rfl rfl rfl rfl rfl rfl (by decide +kernel) (by decide +kernel) (clS_0 rfl) hD12 rfl g13 ?_
  refine zq_iload 221 (show zop 245 219 = some (.iload 6, 2) by decide +kernel) rfl rfl ?_
  refine zq_iconst 222 (show zop 245 221 = some (.iconst 1, 1) by decide +kernel) rfl rfl ?_
  obtain ⟨g14, h⟩ := h
  refine zq_iadd 223 (show zop 245 222 = some (.iadd, 1) by decide +kernel) rfl g14 ?_
  by_cases hc23 : v11 = (x6 + 1)
  · rw [if_pos hc23] at h
    refine zq_icmpF 226 246 (show zop 245 223 = some (.if_icmp .ne 23, 3) by decide +kernel) rfl rfl (decide_eq_false (fun h9 => h9 hc23)) ?_
    refine zq_aload_n 227 (show zop 245 226 = some (.aload_n 0, 1) by decide +kernel) rfl rfl ?_
    refine zq_iload 229 (show zop 245 227 = some (.iload 5, 2) by decide +kernel) rfl rfl ?_
    refine zq_iload 231 (show zop 245 229 = some (.iload 9, 2) by decide +kernel) rfl rfl ?_
    obtain ⟨g18, h⟩ := h
    obtain ⟨v16, s15, hD17, h⟩ := h
    refine zq_vi (v := some (.inl v16)) (σ' := s15) (nj := 3) (j := 176) (c := 2) (t := []) (as := [(.inr (.inr (some 0))), (.inl x5), (.inl (Int.tmod (Int.tdiv x3 4) (x6 + 1)))]) 234 [(.inl v16)] (show zop 245 231 = some (.invokevirtual 29, 3) by decide +kernel) (by decide +kernel) rfl (by decide +kernel) rfl rfl rfl rfl rfl rfl (by decide +kernel) (by decide +kernel) (clS_0 rfl) hD17 rfl g18 ?_
    refine zq_iload 236 (show zop 245 234 = some (.iload 4, 2) by decide +kernel) rfl rfl ?_
    obtain ⟨g22, h⟩ := h
    obtain ⟨v20, w19, hD21, h⟩ := h
    refine zq_lx (v := some (.inl v20)) (w' := w19) (nj := 1) (j := 244) (c := 0) (t := [(.inl v16)]) (as := [(.inl x4)]) 239 [(.inl v20), (.inl v16)] (show zop 245 236 = some (.invokestatic 22, 3) by decide +kernel) (by decide +kernel) rfl (by decide +kernel) (by decide +kernel) rfl rfl rfl rfl rfl hD21 rfl g22 ?_
    by_cases hc24 : v16 = v20
    · rw [if_pos hc24] at h
      refine zq_icmpF 242 246 (show zop 245 239 = some (.if_icmp .ne 7, 3) by decide +kernel) rfl rfl (decide_eq_false (fun h9 => h9 hc24)) ?_
      refine zq_iconst 243 (show zop 245 242 = some (.iconst 1, 1) by decide +kernel) rfl rfl ?_
      refine zq_goto 247 (show zop 245 243 = some (.goto 4, 3) by decide +kernel) rfl ?_
      exact h
    · rw [if_neg hc24] at h
      refine zq_icmpT 246 (show zop 245 239 = some (.if_icmp .ne 7, 3) by decide +kernel) rfl (decide_eq_true hc24) ?_
      exact h
  · rw [if_neg hc23] at h
    refine zq_icmpT 246 (show zop 245 223 = some (.if_icmp .ne 23, 3) by decide +kernel) rfl (decide_eq_true hc23) ?_
    exact h
theorem bK245_268 {d0 : Option AV} {d1 : Option AV} {d2 : Option AV} {d3 : Option AV} {d4 : Option AV} {d5 : Option AV} {d6 : Option AV} {d7 : Option AV} {d8 : Option AV} {d9 : Option AV} {w : WS} {r : Nat} {o : Ro} (h : K245_273 d0 d1 d2 d3 d4 d5 d6 d7 d8 d9 1 w r o) : K245_268 d0 d1 d2 d3 d4 d5 d6 d7 d8 d9 w r o := by
  show Lg 245 268 [d0, d1, d2, d3, d4, d5, d6, d7, d8, d9] [] w r o
  refine zq_iconst 269 (show zop 245 268 = some (.iconst 1, 1) by decide +kernel) rfl rfl ?_
  refine zq_goto 273 (show zop 245 269 = some (.goto 4, 3) by decide +kernel) rfl ?_
  exact h
theorem bK245_273 {d0 : Option AV} {d1 : Option AV} {d2 : Option AV} {d3 : Option AV} {d4 : Option AV} {d5 : Option AV} {d6 : Option AV} {d7 : Option AV} {d8 : Option AV} {d9 : Option AV} {y0 : Int} {w : WS} {r : Nat} {o : Ro} (h : (y0 = 0 ∨ y0 = 1) ∧ o = (.inl (some (.inl y0)), w)) : K245_273 d0 d1 d2 d3 d4 d5 d6 d7 d8 d9 y0 w r o := by
  show Lg 245 273 [d0, d1, d2, d3, d4, d5, d6, d7, d8, d9] [(.inl y0)] w r o
  obtain ⟨g1, h⟩ := h
  exact (zq_zret (show zop 245 273 = some (.ireturn, 1) by decide +kernel) (by decide +kernel) g1 h)
theorem bK245_295 {d1 : Option AV} {d2 : Option AV} {d3 : Option AV} {x4 : Int} {x5 : Int} {x6 : Int} {d7 : Option AV} {d8 : Option AV} {d9 : Option AV} {y1 : Int} {y2 : Int} {w : WS} {r : Nat} {o : Ro} (h : (w.1[0]? = some (0, 12, [])) ∧ (0 ≤ y1 ∧ y1 < 12) ∧ (2 ≤ r) ∧ (∃ (v5 : Int) (s4 : Sg), Dc 174 [(.inr (.inr (some 0))), (.inl x5), (.inl (Int.tmod x4 4))] (wU w 682 (y1).toNat y2).2.2 (.inl (some (.inl v5))) s4 ∧ (if v5 = x6 then (1 ≤ (r - 2)) ∧ (∃ (v9 : Int) (s8 : Sg), Dc 175 [(.inr (.inr (some 0))), (.inl (Int.tmod x4 4))] (wS (wU w 682 (y1).toNat y2) s4).2.2 (.inl (some (.inl v9))) s8 ∧ (if v9 = x6 then (100 ≤ ((r - 2) - 1)) ∧ (∃ (v13 : Int) (w12 : WS), Lx 247 [(.inr (.inr (some 0))), (.inl x5), (.inl (Int.tmod x4 4))] (wS (wS (wU w 682 (y1).toNat y2) s4) s8) (.inl (some (.inl v13)), w12) ∧ (if v13 = 0 then K245_341 (some (.inr (.inr (some 0)))) d1 d2 d3 (some (.inl x4)) (some (.inl x5)) (some (.inl x6)) d7 d8 d9 w12 (((r - 2) - 1) - 100) o else K245_342 (some (.inr (.inr (some 0)))) d1 d2 d3 (some (.inl x4)) (some (.inl x5)) (some (.inl x6)) d7 d8 d9 1 w12 (((r - 2) - 1) - 100) o)) else K245_341 (some (.inr (.inr (some 0)))) d1 d2 d3 (some (.inl x4)) (some (.inl x5)) (some (.inl x6)) d7 d8 d9 (wS (wS (wU w 682 (y1).toNat y2) s4) s8) ((r - 2) - 1) o)) else K245_341 (some (.inr (.inr (some 0)))) d1 d2 d3 (some (.inl x4)) (some (.inl x5)) (some (.inl x6)) d7 d8 d9 (wS (wU w 682 (y1).toNat y2) s4) (r - 2) o))) : K245_295 d1 d2 d3 x4 x5 x6 d7 d8 d9 y1 y2 w r o := by
  show Lg 245 295 [(some (.inr (.inr (some 0)))), d1, d2, d3, (some (.inl x4)), (some (.inl x5)), (some (.inl x6)), d7, d8, d9] [(.inl y2), (.inl y1), (.inr (.inr (some 682)))] w r o
  obtain ⟨g3, h⟩ := h
  obtain ⟨g1, h⟩ := h
  refine zq_iastore 296 12 (show zop 245 295 = some (.iastore, 1) by decide +kernel) rfl (by decide) g3 g1 ?_
  refine zq_aload_n 297 (show zop 245 296 = some (.aload_n 0, 1) by decide +kernel) rfl rfl ?_
  refine zq_iload 299 (show zop 245 297 = some (.iload 5, 2) by decide +kernel) rfl rfl ?_
  refine zq_iload 301 (show zop 245 299 = some (.iload 4, 2) by decide +kernel) rfl rfl ?_
  refine zq_iconst 302 (show zop 245 301 = some (.iconst 4, 1) by decide +kernel) rfl rfl ?_
  refine zq_irem 303 (show zop 245 302 = some (.irem, 1) by decide +kernel) rfl (by decide) ?_
  obtain ⟨g7, h⟩ := h
  obtain ⟨v5, s4, hD6, h⟩ := h
  refine zq_vi (v := some (.inl v5)) (σ' := s4) (nj := 3) (j := 174) (c := 2) (t := []) (as := [(.inr (.inr (some 0))), (.inl x5), (.inl (Int.tmod x4 4))]) 306 [(.inl v5)] (show zop 245 303 = some (.invokevirtual 33, 3) by decide +kernel) (by decide +kernel) rfl (by decide +kernel) rfl rfl rfl rfl rfl rfl (by decide +kernel) (by decide +kernel) (clS_0 rfl) hD6 rfl g7 ?_
  refine zq_iload 308 (show zop 245 306 = some (.iload 6, 2) by decide +kernel) rfl rfl ?_
  by_cases hc16 : v5 = x6
  · rw [if_pos hc16] at h
    refine zq_icmpF 311 341 (show zop 245 308 = some (.if_icmp .ne 33, 3) by decide +kernel) rfl rfl (decide_eq_false (fun h9 => h9 hc16)) ?_
    refine zq_aload_n 312 (show zop 245 311 = some (.aload_n 0, 1) by decide +kernel) rfl rfl ?_
    refine zq_iload 314 (show zop 245 312 = some (.iload 4, 2) by decide +kernel) rfl rfl ?_
    refine zq_iconst 315 (show zop 245 314 = some (.iconst 4, 1) by decide +kernel) rfl rfl ?_
    refine zq_irem 316 (show zop 245 315 = some (.irem, 1) by decide +kernel) rfl (by decide) ?_
    obtain ⟨g11, h⟩ := h
    obtain ⟨v9, s8, hD10, h⟩ := h
    refine zq_vi (v := some (.inl v9)) (σ' := s8) (nj := 2) (j := 175) (c := 1) (t := []) (as := [(.inr (.inr (some 0))), (.inl (Int.tmod x4 4))]) 319 [(.inl v9)] (show zop 245 316 = some (.invokevirtual 10, 3) by decide +kernel) (by decide +kernel) rfl (by decide +kernel) rfl rfl rfl rfl rfl rfl (by decide +kernel) (by decide +kernel) (clS_0 rfl) hD10 rfl g11 ?_
    refine zq_iload 321 (show zop 245 319 = some (.iload 6, 2) by decide +kernel) rfl rfl ?_
    by_cases hc17 : v9 = x6
    · rw [if_pos hc17] at h
      refine zq_icmpF 324 341 (show zop 245 321 = some (.if_icmp .ne 20, 3) by decide +kernel) rfl rfl (decide_eq_false (fun h9 => h9 hc17)) ?_
      refine zq_aload_n 325 (show zop 245 324 = some (.aload_n 0, 1) by decide +kernel) rfl rfl ?_
      refine zq_iload 327 (show zop 245 325 = some (.iload 5, 2) by decide +kernel) rfl rfl ?_
      refine zq_iload 329 (show zop 245 327 = some (.iload 4, 2) by decide +kernel) rfl rfl ?_
      refine zq_iconst 330 (show zop 245 329 = some (.iconst 4, 1) by decide +kernel) rfl rfl ?_
      refine zq_irem 331 (show zop 245 330 = some (.irem, 1) by decide +kernel) rfl (by decide) ?_
      obtain ⟨g15, h⟩ := h
      obtain ⟨v13, w12, hD14, h⟩ := h
      refine zq_lx (v := some (.inl v13)) (w' := w12) (nj := 3) (j := 247) (c := 100) (t := []) (as := [(.inr (.inr (some 0))), (.inl x5), (.inl (Int.tmod x4 4))]) 334 [(.inl v13)] (show zop 245 331 = some (.invokestatic 36, 3) by decide +kernel) (by decide +kernel) rfl (by decide +kernel) (by decide +kernel) rfl rfl rfl rfl rfl hD14 rfl g15 ?_
      by_cases hc18 : v13 = 0
      · rw [if_pos hc18] at h
        refine zq_ifT 341 (show zop 245 334 = some (.ifCond .eq 7, 3) by decide +kernel) rfl (decide_eq_true hc18) ?_
        exact h
      · rw [if_neg hc18] at h
        refine zq_ifF 337 341 (show zop 245 334 = some (.ifCond .eq 7, 3) by decide +kernel) rfl rfl (decide_eq_false hc18) ?_
        refine zq_iconst 338 (show zop 245 337 = some (.iconst 1, 1) by decide +kernel) rfl rfl ?_
        refine zq_goto 342 (show zop 245 338 = some (.goto 4, 3) by decide +kernel) rfl ?_
        exact h
    · rw [if_neg hc17] at h
      refine zq_icmpT 341 (show zop 245 321 = some (.if_icmp .ne 20, 3) by decide +kernel) rfl (decide_eq_true hc17) ?_
      exact h
  · rw [if_neg hc16] at h
    refine zq_icmpT 341 (show zop 245 308 = some (.if_icmp .ne 33, 3) by decide +kernel) rfl (decide_eq_true hc16) ?_
    exact h
theorem bK245_397 {d0 : Option AV} {d1 : Option AV} {d2 : Option AV} {d3 : Option AV} {d4 : Option AV} {d5 : Option AV} {d6 : Option AV} {d7 : Option AV} {d8 : Option AV} {d9 : Option AV} {y0 : Int} {w : WS} {r : Nat} {o : Ro} (h : (y0 = 0 ∨ y0 = 1) ∧ o = (.inl (some (.inl y0)), w)) : K245_397 d0 d1 d2 d3 d4 d5 d6 d7 d8 d9 y0 w r o := by
  show Lg 245 397 [d0, d1, d2, d3, d4, d5, d6, d7, d8, d9] [(.inl y0)] w r o
  obtain ⟨g1, h⟩ := h
  exact (zq_zret (show zop 245 397 = some (.ireturn, 1) by decide +kernel) (by decide +kernel) g1 h)
theorem bK245_392 {d0 : Option AV} {d1 : Option AV} {d2 : Option AV} {d3 : Option AV} {d4 : Option AV} {d5 : Option AV} {d6 : Option AV} {d7 : Option AV} {d8 : Option AV} {d9 : Option AV} {w : WS} {r : Nat} {o : Ro} (h : K245_397 d0 d1 d2 d3 d4 d5 d6 d7 d8 d9 1 w r o) : K245_392 d0 d1 d2 d3 d4 d5 d6 d7 d8 d9 w r o := by
  show Lg 245 392 [d0, d1, d2, d3, d4, d5, d6, d7, d8, d9] [] w r o
  refine zq_iconst 393 (show zop 245 392 = some (.iconst 1, 1) by decide +kernel) rfl rfl ?_
  refine zq_goto 397 (show zop 245 393 = some (.goto 4, 3) by decide +kernel) rfl ?_
  exact h
theorem bK245_415 {d0 : Option AV} {d1 : Option AV} {d2 : Option AV} {d3 : Option AV} {d4 : Option AV} {d5 : Option AV} {d6 : Option AV} {d7 : Option AV} {d8 : Option AV} {d9 : Option AV} {w : WS} {r : Nat} {o : Ro} (h : K245_420 d0 d1 d2 d3 d4 d5 d6 d7 d8 d9 1 w r o) : K245_415 d0 d1 d2 d3 d4 d5 d6 d7 d8 d9 w r o := by
  show Lg 245 415 [d0, d1, d2, d3, d4, d5, d6, d7, d8, d9] [] w r o
  refine zq_iconst 416 (show zop 245 415 = some (.iconst 1, 1) by decide +kernel) rfl rfl ?_
  refine zq_goto 420 (show zop 245 416 = some (.goto 4, 3) by decide +kernel) rfl ?_
  exact h
theorem bK245_420 {d0 : Option AV} {d1 : Option AV} {d2 : Option AV} {d3 : Option AV} {d4 : Option AV} {d5 : Option AV} {d6 : Option AV} {d7 : Option AV} {d8 : Option AV} {d9 : Option AV} {y0 : Int} {w : WS} {r : Nat} {o : Ro} (h : (y0 = 0 ∨ y0 = 1) ∧ o = (.inl (some (.inl y0)), w)) : K245_420 d0 d1 d2 d3 d4 d5 d6 d7 d8 d9 y0 w r o := by
  show Lg 245 420 [d0, d1, d2, d3, d4, d5, d6, d7, d8, d9] [(.inl y0)] w r o
  obtain ⟨g1, h⟩ := h
  exact (zq_zret (show zop 245 420 = some (.ireturn, 1) by decide +kernel) (by decide +kernel) g1 h)
theorem bK245_456 {d0 : Option AV} {d1 : Option AV} {d2 : Option AV} {d3 : Option AV} {d4 : Option AV} {d5 : Option AV} {d6 : Option AV} {d7 : Option AV} {d8 : Option AV} {d9 : Option AV} {w : WS} {r : Nat} {o : Ro} (h : K245_461 d0 d1 d2 d3 d4 d5 d6 d7 d8 d9 1 w r o) : K245_456 d0 d1 d2 d3 d4 d5 d6 d7 d8 d9 w r o := by
  show Lg 245 456 [d0, d1, d2, d3, d4, d5, d6, d7, d8, d9] [] w r o
  refine zq_iconst 457 (show zop 245 456 = some (.iconst 1, 1) by decide +kernel) rfl rfl ?_
  refine zq_goto 461 (show zop 245 457 = some (.goto 4, 3) by decide +kernel) rfl ?_
  exact h
theorem bK245_461 {d0 : Option AV} {d1 : Option AV} {d2 : Option AV} {d3 : Option AV} {d4 : Option AV} {d5 : Option AV} {d6 : Option AV} {d7 : Option AV} {d8 : Option AV} {d9 : Option AV} {y0 : Int} {w : WS} {r : Nat} {o : Ro} (h : (y0 = 0 ∨ y0 = 1) ∧ o = (.inl (some (.inl y0)), w)) : K245_461 d0 d1 d2 d3 d4 d5 d6 d7 d8 d9 y0 w r o := by
  show Lg 245 461 [d0, d1, d2, d3, d4, d5, d6, d7, d8, d9] [(.inl y0)] w r o
  obtain ⟨g1, h⟩ := h
  exact (zq_zret (show zop 245 461 = some (.ireturn, 1) by decide +kernel) (by decide +kernel) g1 h)
theorem bK245_491 {d0 : Option AV} {d1 : Option AV} {d2 : Option AV} {d3 : Option AV} {d4 : Option AV} {d5 : Option AV} {d6 : Option AV} {d7 : Option AV} {d8 : Option AV} {d9 : Option AV} {w : WS} {r : Nat} {o : Ro} (h : K245_496 d0 d1 d2 d3 d4 d5 d6 d7 d8 d9 1 w r o) : K245_491 d0 d1 d2 d3 d4 d5 d6 d7 d8 d9 w r o := by
  show Lg 245 491 [d0, d1, d2, d3, d4, d5, d6, d7, d8, d9] [] w r o
  refine zq_iconst 492 (show zop 245 491 = some (.iconst 1, 1) by decide +kernel) rfl rfl ?_
  refine zq_goto 496 (show zop 245 492 = some (.goto 4, 3) by decide +kernel) rfl ?_
  exact h
theorem bK245_496 {d0 : Option AV} {d1 : Option AV} {d2 : Option AV} {d3 : Option AV} {d4 : Option AV} {d5 : Option AV} {d6 : Option AV} {d7 : Option AV} {d8 : Option AV} {d9 : Option AV} {y0 : Int} {w : WS} {r : Nat} {o : Ro} (h : (y0 = 0 ∨ y0 = 1) ∧ o = (.inl (some (.inl y0)), w)) : K245_496 d0 d1 d2 d3 d4 d5 d6 d7 d8 d9 y0 w r o := by
  show Lg 245 496 [d0, d1, d2, d3, d4, d5, d6, d7, d8, d9] [(.inl y0)] w r o
  obtain ⟨g1, h⟩ := h
  exact (zq_zret (show zop 245 496 = some (.ireturn, 1) by decide +kernel) (by decide +kernel) g1 h)
theorem bK245_524 {d0 : Option AV} {d1 : Option AV} {d2 : Option AV} {d3 : Option AV} {d4 : Option AV} {d5 : Option AV} {d6 : Option AV} {d7 : Option AV} {d8 : Option AV} {d9 : Option AV} {w : WS} {r : Nat} {o : Ro} (h : K245_525 d0 d1 d2 d3 d4 d5 d6 d7 d8 d9 0 w r o) : K245_524 d0 d1 d2 d3 d4 d5 d6 d7 d8 d9 w r o := by
  show Lg 245 524 [d0, d1, d2, d3, d4, d5, d6, d7, d8, d9] [] w r o
  refine zq_iconst 525 (show zop 245 524 = some (.iconst 0, 1) by decide +kernel) rfl rfl ?_
  exact h
theorem bK245_525 {d0 : Option AV} {d1 : Option AV} {d2 : Option AV} {d3 : Option AV} {d4 : Option AV} {d5 : Option AV} {d6 : Option AV} {d7 : Option AV} {d8 : Option AV} {d9 : Option AV} {y0 : Int} {w : WS} {r : Nat} {o : Ro} (h : (y0 = 0 ∨ y0 = 1) ∧ o = (.inl (some (.inl y0)), w)) : K245_525 d0 d1 d2 d3 d4 d5 d6 d7 d8 d9 y0 w r o := by
  show Lg 245 525 [d0, d1, d2, d3, d4, d5, d6, d7, d8, d9] [(.inl y0)] w r o
  obtain ⟨g1, h⟩ := h
  exact (zq_zret (show zop 245 525 = some (.ireturn, 1) by decide +kernel) (by decide +kernel) g1 h)
theorem bK245_247 {d0 : Option AV} {d1 : Option AV} {d2 : Option AV} {d3 : Option AV} {d4 : Option AV} {d5 : Option AV} {d6 : Option AV} {d7 : Option AV} {d8 : Option AV} {d9 : Option AV} {y0 : Int} {w : WS} {r : Nat} {o : Ro} (h : (y0 = 0 ∨ y0 = 1) ∧ o = (.inl (some (.inl y0)), w)) : K245_247 d0 d1 d2 d3 d4 d5 d6 d7 d8 d9 y0 w r o := by
  show Lg 245 247 [d0, d1, d2, d3, d4, d5, d6, d7, d8, d9] [(.inl y0)] w r o
  obtain ⟨g1, h⟩ := h
  exact (zq_zret (show zop 245 247 = some (.ireturn, 1) by decide +kernel) (by decide +kernel) g1 h)
theorem bK245_246 {d0 : Option AV} {d1 : Option AV} {d2 : Option AV} {d3 : Option AV} {d4 : Option AV} {d5 : Option AV} {d6 : Option AV} {d7 : Option AV} {d8 : Option AV} {d9 : Option AV} {w : WS} {r : Nat} {o : Ro} (h : K245_247 d0 d1 d2 d3 d4 d5 d6 d7 d8 d9 0 w r o) : K245_246 d0 d1 d2 d3 d4 d5 d6 d7 d8 d9 w r o := by
  show Lg 245 246 [d0, d1, d2, d3, d4, d5, d6, d7, d8, d9] [] w r o
  refine zq_iconst 247 (show zop 245 246 = some (.iconst 0, 1) by decide +kernel) rfl rfl ?_
  exact h
theorem bK245_341 {d0 : Option AV} {d1 : Option AV} {d2 : Option AV} {d3 : Option AV} {d4 : Option AV} {d5 : Option AV} {d6 : Option AV} {d7 : Option AV} {d8 : Option AV} {d9 : Option AV} {w : WS} {r : Nat} {o : Ro} (h : K245_342 d0 d1 d2 d3 d4 d5 d6 d7 d8 d9 0 w r o) : K245_341 d0 d1 d2 d3 d4 d5 d6 d7 d8 d9 w r o := by
  show Lg 245 341 [d0, d1, d2, d3, d4, d5, d6, d7, d8, d9] [] w r o
  refine zq_iconst 342 (show zop 245 341 = some (.iconst 0, 1) by decide +kernel) rfl rfl ?_
  exact h
theorem bK245_342 {d0 : Option AV} {d1 : Option AV} {d2 : Option AV} {d3 : Option AV} {d4 : Option AV} {d5 : Option AV} {d6 : Option AV} {d7 : Option AV} {d8 : Option AV} {d9 : Option AV} {y0 : Int} {w : WS} {r : Nat} {o : Ro} (h : (y0 = 0 ∨ y0 = 1) ∧ o = (.inl (some (.inl y0)), w)) : K245_342 d0 d1 d2 d3 d4 d5 d6 d7 d8 d9 y0 w r o := by
  show Lg 245 342 [d0, d1, d2, d3, d4, d5, d6, d7, d8, d9] [(.inl y0)] w r o
  obtain ⟨g1, h⟩ := h
  exact (zq_zret (show zop 245 342 = some (.ireturn, 1) by decide +kernel) (by decide +kernel) g1 h)
/-- PatchBenchLaw.step (LPatchBench;[IIII)Z -/
theorem lb245 {x2 : Int} {x3 : Int} {x4 : Int} {w : WS} {o : Ro} (h : (1 ≤ 3100) ∧ (∃ (v2 : Int) (s1 : Sg), Dc 175 [(.inr (.inr (some 0))), (.inl (Int.tmod x3 4))] w.2.2 (.inl (some (.inl v2))) s1 ∧ ((wS w s1).1[0]? = some (0, 12, [])) ∧ (0 ≤ (0 : Int) ∧ (0 : Int) < 12) ∧ (¬ (((wS w s1).2.1 682 ((0 : Int)).toNat) = 0) → (wS w s1).1[0]? = some (0, 12, [])) ∧ (¬ (((wS w s1).2.1 682 ((0 : Int)).toNat) = 0) → 0 ≤ (0 : Int) ∧ (0 : Int) < 12) ∧ (¬ (((wS w s1).2.1 682 ((0 : Int)).toNat) = 0) → 0 < ((wS w s1).2.1 682 ((0 : Int)).toNat)) ∧ K245_28 x2 x3 x4 (Int.tmod x3 4) v2 none none none (if ((wS w s1).2.1 682 ((0 : Int)).toNat) = 0 then 0 else (Int.tmod x3 ((wS w s1).2.1 682 ((0 : Int)).toNat))) (wS w s1) (3100 - 1) o)) : Lx 245 [(.inr (.inr (some 0))), (.inr (.inr (some 682))), (.inl x2), (.inl x3), (.inl x4)] w o := by
  refine Lx_of (l := 10) (r := 3100) (by decide +kernel) (by decide +kernel) ?_
  show Lg 245 0 [(some (.inr (.inr (some 0)))), (some (.inr (.inr (some 682)))), (some (.inl x2)), (some (.inl x3)), (some (.inl x4)), none, none, none, none, none] [] w 3100 o
  refine zq_iload_n 1 (show zop 245 0 = some (.iload_n 3, 1) by decide +kernel) rfl rfl ?_
  refine zq_iconst 2 (show zop 245 1 = some (.iconst 4, 1) by decide +kernel) rfl rfl ?_
  refine zq_irem 3 (show zop 245 2 = some (.irem, 1) by decide +kernel) rfl (by decide) ?_
  refine zq_istore 5 [(some (.inr (.inr (some 0)))), (some (.inr (.inr (some 682)))), (some (.inl x2)), (some (.inl x3)), (some (.inl x4)), (some (.inl (Int.tmod x3 4))), none, none, none, none] (show zop 245 3 = some (.istore 5, 2) by decide +kernel) rfl rfl rfl ?_
  refine zq_aload_n 6 (show zop 245 5 = some (.aload_n 0, 1) by decide +kernel) rfl rfl ?_
  refine zq_iload 8 (show zop 245 6 = some (.iload 5, 2) by decide +kernel) rfl rfl ?_
  obtain ⟨g4, h⟩ := h
  obtain ⟨v2, s1, hD3, h⟩ := h
  refine zq_vi (v := some (.inl v2)) (σ' := s1) (nj := 2) (j := 175) (c := 1) (t := []) (as := [(.inr (.inr (some 0))), (.inl (Int.tmod x3 4))]) 11 [(.inl v2)] (show zop 245 8 = some (.invokevirtual 10, 3) by decide +kernel) (by decide +kernel) rfl (by decide +kernel) rfl rfl rfl rfl rfl rfl (by decide +kernel) (by decide +kernel) (clS_0 rfl) hD3 rfl g4 ?_
  refine zq_istore 13 [(some (.inr (.inr (some 0)))), (some (.inr (.inr (some 682)))), (some (.inl x2)), (some (.inl x3)), (some (.inl x4)), (some (.inl (Int.tmod x3 4))), (some (.inl v2)), none, none, none] (show zop 245 11 = some (.istore 6, 2) by decide +kernel) rfl rfl rfl ?_
  refine zq_aload_n 14 (show zop 245 13 = some (.aload_n 1, 1) by decide +kernel) rfl rfl ?_
  refine zq_iconst 15 (show zop 245 14 = some (.iconst 0, 1) by decide +kernel) rfl rfl ?_
  obtain ⟨g7, h⟩ := h
  obtain ⟨g5, h⟩ := h
  refine zq_iaload 16 12 (show zop 245 15 = some (.iaload, 1) by decide +kernel) rfl (by decide) g7 g5 ?_
  obtain ⟨G13, G14, G15, h⟩ := h
  by_cases hc12 : ((wS w s1).2.1 682 ((0 : Int)).toNat) = 0
  · refine zq_ifF 19 23 (show zop 245 16 = some (.ifCond .ne 7, 3) by decide +kernel) rfl rfl (decide_eq_false (fun h9 => h9 hc12)) ?_
    refine zq_iconst 20 (show zop 245 19 = some (.iconst 0, 1) by decide +kernel) rfl rfl ?_
    refine zq_goto 28 (show zop 245 20 = some (.goto 8, 3) by decide +kernel) rfl ?_
    have h9 := h; simp only [if_pos hc12] at h9; exact h9
  · refine zq_ifT 23 (show zop 245 16 = some (.ifCond .ne 7, 3) by decide +kernel) rfl (decide_eq_true hc12) ?_
    refine zq_iload_n 24 (show zop 245 23 = some (.iload_n 3, 1) by decide +kernel) rfl rfl ?_
    refine zq_aload_n 25 (show zop 245 24 = some (.aload_n 1, 1) by decide +kernel) rfl rfl ?_
    refine zq_iconst 26 (show zop 245 25 = some (.iconst 0, 1) by decide +kernel) rfl rfl ?_
    have g10 := G13 hc12
    have g8 := G14 hc12
    refine zq_iaload 27 12 (show zop 245 26 = some (.iaload, 1) by decide +kernel) rfl (by decide) g10 g8 ?_
    have g11 := G15 hc12
    refine zq_irem 28 (show zop 245 27 = some (.irem, 1) by decide +kernel) rfl g11 ?_
    have h9 := h; simp only [if_neg hc12] at h9; exact h9
def K246_33 (d1 : Option AV) (x2 : Int) (x3 : Int) (x4 : Int) (x5 : Int) (y1 : Int) (y2 : Int) (w : WS) (r : Nat) (o : Ro) : Prop := Lg 246 33 [(some (.inr (.inr (some 0)))), d1, (some (.inl x2)), (some (.inl x3)), (some (.inl x4)), (some (.inl x5))] [(.inl y2), (.inl y1), (.inr (.inr (some 682)))] w r o
def K246_62 (d0 : Option AV) (d1 : Option AV) (d2 : Option AV) (d3 : Option AV) (d4 : Option AV) (d5 : Option AV) (y0 : Int) (w : WS) (r : Nat) (o : Ro) : Prop := Lg 246 62 [d0, d1, d2, d3, d4, d5] [(.inl y0)] w r o
def K246_61 (d0 : Option AV) (d1 : Option AV) (d2 : Option AV) (d3 : Option AV) (d4 : Option AV) (d5 : Option AV) (w : WS) (r : Nat) (o : Ro) : Prop := Lg 246 61 [d0, d1, d2, d3, d4, d5] [] w r o
theorem bK246_33 {d1 : Option AV} {x2 : Int} {x3 : Int} {x4 : Int} {x5 : Int} {y1 : Int} {y2 : Int} {w : WS} {r : Nat} {o : Ro} (h : (w.1[0]? = some (0, 12, [])) ∧ (0 ≤ y1 ∧ y1 < 12) ∧ (2 ≤ r) ∧ (∃ (v5 : Int) (s4 : Sg), Dc 173 [(.inr (.inr (some 0))), (.inl x2), (.inl x3)] (wU w 682 (y1).toNat y2).2.2 (.inl (some (.inl v5))) s4 ∧ (if v5 = x5 then (1 ≤ (r - 2)) ∧ (∃ (v9 : Int) (s8 : Sg), Dc 175 [(.inr (.inr (some 0))), (.inl x2)] (wS (wU w 682 (y1).toNat y2) s4).2.2 (.inl (some (.inl v9))) s8 ∧ (-2147483648 ≤ (x4 - 1) ∧ (x4 - 1) ≤ 2147483647) ∧ (if v9 = (x4 - 1) then K246_62 (some (.inr (.inr (some 0)))) d1 (some (.inl x2)) (some (.inl x3)) (some (.inl x4)) (some (.inl x5)) 1 (wS (wS (wU w 682 (y1).toNat y2) s4) s8) ((r - 2) - 1) o else K246_61 (some (.inr (.inr (some 0)))) d1 (some (.inl x2)) (some (.inl x3)) (some (.inl x4)) (some (.inl x5)) (wS (wS (wU w 682 (y1).toNat y2) s4) s8) ((r - 2) - 1) o)) else K246_61 (some (.inr (.inr (some 0)))) d1 (some (.inl x2)) (some (.inl x3)) (some (.inl x4)) (some (.inl x5)) (wS (wU w 682 (y1).toNat y2) s4) (r - 2) o))) : K246_33 d1 x2 x3 x4 x5 y1 y2 w r o := by
  show Lg 246 33 [(some (.inr (.inr (some 0)))), d1, (some (.inl x2)), (some (.inl x3)), (some (.inl x4)), (some (.inl x5))] [(.inl y2), (.inl y1), (.inr (.inr (some 682)))] w r o
  obtain ⟨g3, h⟩ := h
  obtain ⟨g1, h⟩ := h
  refine zq_iastore 34 12 (show zop 246 33 = some (.iastore, 1) by decide +kernel) rfl (by decide) g3 g1 ?_
  refine zq_aload_n 35 (show zop 246 34 = some (.aload_n 0, 1) by decide +kernel) rfl rfl ?_
  refine zq_iload_n 36 (show zop 246 35 = some (.iload_n 2, 1) by decide +kernel) rfl rfl ?_
  refine zq_iload_n 37 (show zop 246 36 = some (.iload_n 3, 1) by decide +kernel) rfl rfl ?_
  obtain ⟨g7, h⟩ := h
  obtain ⟨v5, s4, hD6, h⟩ := h
  refine zq_vi (v := some (.inl v5)) (σ' := s4) (nj := 3) (j := 173) (c := 2) (t := []) (as := [(.inr (.inr (some 0))), (.inl x2), (.inl x3)]) 40 [(.inl v5)] (show zop 246 37 = some (.invokevirtual 70, 3) by decide +kernel) (by decide +kernel) rfl (by decide +kernel) rfl rfl rfl rfl rfl rfl (by decide +kernel) (by decide +kernel) (clS_0 rfl) hD6 rfl g7 ?_
  refine zq_iload 42 (show zop 246 40 = some (.iload 5, 2) by decide +kernel) rfl rfl ?_
  by_cases hc13 : v5 = x5
  · rw [if_pos hc13] at h
    refine zq_icmpF 45 61 (show zop 246 42 = some (.if_icmp .ne 19, 3) by decide +kernel) rfl rfl (decide_eq_false (fun h9 => h9 hc13)) ?_
    refine zq_aload_n 46 (show zop 246 45 = some (.aload_n 0, 1) by decide +kernel) rfl rfl ?_
    refine zq_iload_n 47 (show zop 246 46 = some (.iload_n 2, 1) by decide +kernel) rfl rfl ?_
    obtain ⟨g11, h⟩ := h
    obtain ⟨v9, s8, hD10, h⟩ := h
    refine zq_vi (v := some (.inl v9)) (σ' := s8) (nj := 2) (j := 175) (c := 1) (t := []) (as := [(.inr (.inr (some 0))), (.inl x2)]) 50 [(.inl v9)] (show zop 246 47 = some (.invokevirtual 10, 3) by decide +kernel) (by decide +kernel) rfl (by decide +kernel) rfl rfl rfl rfl rfl rfl (by decide +kernel) (by decide +kernel) (clS_0 rfl) hD10 rfl g11 ?_
    refine zq_iload 52 (show zop 246 50 = some (.iload 4, 2) by decide +kernel) rfl rfl ?_
    refine zq_iconst 53 (show zop 246 52 = some (.iconst 1, 1) by decide +kernel) rfl rfl ?_
    obtain ⟨g12, h⟩ := h
    refine zq_isub 54 (show zop 246 53 = some (.isub, 1) by decide +kernel) rfl g12 ?_
    by_cases hc14 : v9 = (x4 - 1)
    · rw [if_pos hc14] at h
      refine zq_icmpF 57 61 (show zop 246 54 = some (.if_icmp .ne 7, 3) by decide +kernel) rfl rfl (decide_eq_false (fun h9 => h9 hc14)) ?_
      refine zq_iconst 58 (show zop 246 57 = some (.iconst 1, 1) by decide +kernel) rfl rfl ?_
      refine zq_goto 62 (show zop 246 58 = some (.goto 4, 3) by decide +kernel) rfl ?_
      exact h
    · rw [if_neg hc14] at h
      refine zq_icmpT 61 (show zop 246 54 = some (.if_icmp .ne 7, 3) by decide +kernel) rfl (decide_eq_true hc14) ?_
      exact h
  · rw [if_neg hc13] at h
    refine zq_icmpT 61 (show zop 246 42 = some (.if_icmp .ne 19, 3) by decide +kernel) rfl (decide_eq_true hc13) ?_
    exact h
theorem bK246_62 {d0 : Option AV} {d1 : Option AV} {d2 : Option AV} {d3 : Option AV} {d4 : Option AV} {d5 : Option AV} {y0 : Int} {w : WS} {r : Nat} {o : Ro} (h : (y0 = 0 ∨ y0 = 1) ∧ o = (.inl (some (.inl y0)), w)) : K246_62 d0 d1 d2 d3 d4 d5 y0 w r o := by
  show Lg 246 62 [d0, d1, d2, d3, d4, d5] [(.inl y0)] w r o
  obtain ⟨g1, h⟩ := h
  exact (zq_zret (show zop 246 62 = some (.ireturn, 1) by decide +kernel) (by decide +kernel) g1 h)
theorem bK246_61 {d0 : Option AV} {d1 : Option AV} {d2 : Option AV} {d3 : Option AV} {d4 : Option AV} {d5 : Option AV} {w : WS} {r : Nat} {o : Ro} (h : K246_62 d0 d1 d2 d3 d4 d5 0 w r o) : K246_61 d0 d1 d2 d3 d4 d5 w r o := by
  show Lg 246 61 [d0, d1, d2, d3, d4, d5] [] w r o
  refine zq_iconst 62 (show zop 246 61 = some (.iconst 0, 1) by decide +kernel) rfl rfl ?_
  exact h
/-- PatchBenchLaw.cuts (LPatchBench;[III)Z -/
theorem lb246 {x2 : Int} {x3 : Int} {w : WS} {o : Ro} (h : (1 ≤ 10) ∧ (∃ (v2 : Int) (s1 : Sg), Dc 175 [(.inr (.inr (some 0))), (.inl x2)] w.2.2 (.inl (some (.inl v2))) s1 ∧ (2 ≤ (10 - 1)) ∧ (∃ (v6 : Int) (s5 : Sg), Dc 176 [(.inr (.inr (some 0))), (.inl x2), (.inl x3)] (wS w s1).2.2 (.inl (some (.inl v6))) s5 ∧ ((wS (wS w s1) s5).1[0]? = some (0, 12, [])) ∧ (0 ≤ (5 : Int) ∧ (5 : Int) < 12) ∧ (-2147483648 ≤ (x2 + 1) ∧ (x2 + 1) ≤ 2147483647) ∧ (¬ (((wS (wS w s1) s5).2.1 682 ((5 : Int)).toNat) = (x2 + 1)) → (wS (wS w s1) s5).1[0]? = some (0, 12, [])) ∧ (¬ (((wS (wS w s1) s5).2.1 682 ((5 : Int)).toNat) = (x2 + 1)) → 0 ≤ (5 : Int) ∧ (5 : Int) < 12) ∧ K246_33 (some (.inr (.inr (some 682)))) x2 x3 v2 v6 5 (if ((wS (wS w s1) s5).2.1 682 ((5 : Int)).toNat) = (x2 + 1) then 0 else ((wS (wS w s1) s5).2.1 682 ((5 : Int)).toNat)) (wS (wS w s1) s5) ((10 - 1) - 2) o))) : Lx 246 [(.inr (.inr (some 0))), (.inr (.inr (some 682))), (.inl x2), (.inl x3)] w o := by
  refine Lx_of (l := 6) (r := 10) (by decide +kernel) (by decide +kernel) ?_
  show Lg 246 0 [(some (.inr (.inr (some 0)))), (some (.inr (.inr (some 682)))), (some (.inl x2)), (some (.inl x3)), none, none] [] w 10 o
  refine zq_aload_n 1 (show zop 246 0 = some (.aload_n 0, 1) by decide +kernel) rfl rfl ?_
  refine zq_iload_n 2 (show zop 246 1 = some (.iload_n 2, 1) by decide +kernel) rfl rfl ?_
  obtain ⟨g4, h⟩ := h
  obtain ⟨v2, s1, hD3, h⟩ := h
  refine zq_vi (v := some (.inl v2)) (σ' := s1) (nj := 2) (j := 175) (c := 1) (t := []) (as := [(.inr (.inr (some 0))), (.inl x2)]) 5 [(.inl v2)] (show zop 246 2 = some (.invokevirtual 10, 3) by decide +kernel) (by decide +kernel) rfl (by decide +kernel) rfl rfl rfl rfl rfl rfl (by decide +kernel) (by decide +kernel) (clS_0 rfl) hD3 rfl g4 ?_
  refine zq_istore 7 [(some (.inr (.inr (some 0)))), (some (.inr (.inr (some 682)))), (some (.inl x2)), (some (.inl x3)), (some (.inl v2)), none] (show zop 246 5 = some (.istore 4, 2) by decide +kernel) rfl rfl rfl ?_
  refine zq_aload_n 8 (show zop 246 7 = some (.aload_n 0, 1) by decide +kernel) rfl rfl ?_
  refine zq_iload_n 9 (show zop 246 8 = some (.iload_n 2, 1) by decide +kernel) rfl rfl ?_
  refine zq_iload_n 10 (show zop 246 9 = some (.iload_n 3, 1) by decide +kernel) rfl rfl ?_
  obtain ⟨g8, h⟩ := h
  obtain ⟨v6, s5, hD7, h⟩ := h
  refine zq_vi (v := some (.inl v6)) (σ' := s5) (nj := 3) (j := 176) (c := 2) (t := []) (as := [(.inr (.inr (some 0))), (.inl x2), (.inl x3)]) 13 [(.inl v6)] (show zop 246 10 = some (.invokevirtual 29, 3) by decide +kernel) (by decide +kernel) rfl (by decide +kernel) rfl rfl rfl rfl rfl rfl (by decide +kernel) (by decide +kernel) (clS_0 rfl) hD7 rfl g8 ?_
  refine zq_istore 15 [(some (.inr (.inr (some 0)))), (some (.inr (.inr (some 682)))), (some (.inl x2)), (some (.inl x3)), (some (.inl v2)), (some (.inl v6))] (show zop 246 13 = some (.istore 5, 2) by decide +kernel) rfl rfl rfl ?_
  refine zq_aload_n 16 (show zop 246 15 = some (.aload_n 1, 1) by decide +kernel) rfl rfl ?_
  refine zq_iconst 17 (show zop 246 16 = some (.iconst 5, 1) by decide +kernel) rfl rfl ?_
  refine zq_aload_n 18 (show zop 246 17 = some (.aload_n 1, 1) by decide +kernel) rfl rfl ?_
  refine zq_iconst 19 (show zop 246 18 = some (.iconst 5, 1) by decide +kernel) rfl rfl ?_
  obtain ⟨g11, h⟩ := h
  obtain ⟨g9, h⟩ := h
  refine zq_iaload 20 12 (show zop 246 19 = some (.iaload, 1) by decide +kernel) rfl (by decide) g11 g9 ?_
  refine zq_iload_n 21 (show zop 246 20 = some (.iload_n 2, 1) by decide +kernel) rfl rfl ?_
  refine zq_iconst 22 (show zop 246 21 = some (.iconst 1, 1) by decide +kernel) rfl rfl ?_
  obtain ⟨g12, h⟩ := h
  refine zq_iadd 23 (show zop 246 22 = some (.iadd, 1) by decide +kernel) rfl g12 ?_
  obtain ⟨G17, G18, h⟩ := h
  by_cases hc16 : ((wS (wS w s1) s5).2.1 682 ((5 : Int)).toNat) = (x2 + 1)
  · refine zq_icmpF 26 30 (show zop 246 23 = some (.if_icmp .ne 7, 3) by decide +kernel) rfl rfl (decide_eq_false (fun h9 => h9 hc16)) ?_
    refine zq_iconst 27 (show zop 246 26 = some (.iconst 0, 1) by decide +kernel) rfl rfl ?_
    refine zq_goto 33 (show zop 246 27 = some (.goto 6, 3) by decide +kernel) rfl ?_
    have h9 := h; simp only [if_pos hc16] at h9; exact h9
  · refine zq_icmpT 30 (show zop 246 23 = some (.if_icmp .ne 7, 3) by decide +kernel) rfl (decide_eq_true hc16) ?_
    refine zq_aload_n 31 (show zop 246 30 = some (.aload_n 1, 1) by decide +kernel) rfl rfl ?_
    refine zq_iconst 32 (show zop 246 31 = some (.iconst 5, 1) by decide +kernel) rfl rfl ?_
    have g15 := G17 hc16
    have g13 := G18 hc16
    refine zq_iaload 33 12 (show zop 246 32 = some (.iaload, 1) by decide +kernel) rfl (by decide) g15 g13 ?_
    have h9 := h; simp only [if_neg hc16] at h9; exact h9
def K247_18 (x1 : Int) (x2 : Int) (d3 : Option AV) (d4 : Option AV) (y0 : Int) (w : WS) (r : Nat) (o : Ro) : Prop := Lg 247 18 [(some (.inr (.inr (some 0)))), (some (.inl x1)), (some (.inl x2)), d3, d4] [(.inl y0)] w r o
def K247_22 (x1 : Int) (x2 : Int) (x3 : Int) (x4 : Int) (w : WS) (r : Nat) (o : Ro) : Prop := Lg 247 22 [(some (.inr (.inr (some 0)))), (some (.inl x1)), (some (.inl x2)), (some (.inl x3)), (some (.inl x4))] [] w r o
def K247_65 (d0 : Option AV) (d1 : Option AV) (d2 : Option AV) (x3 : Int) (d4 : Option AV) (w : WS) (r : Nat) (o : Ro) : Prop := Lg 247 65 [d0, d1, d2, (some (.inl x3)), d4] [] w r o
def K247_58 (x1 : Int) (x2 : Int) (d3 : Option AV) (x4 : Int) (y0 : Int) (w : WS) (r : Nat) (o : Ro) : Prop := Lg 247 58 [(some (.inr (.inr (some 0)))), (some (.inl x1)), (some (.inl x2)), d3, (some (.inl x4))] [(.inl y0)] w r o
theorem bK247_18 {x1 : Int} {x2 : Int} {d3 : Option AV} {d4 : Option AV} {y0 : Int} {w : WS} {r : Nat} {o : Ro} (h : K247_22 x1 x2 y0 0 w r o) : K247_18 x1 x2 d3 d4 y0 w r o := by
  show Lg 247 18 [(some (.inr (.inr (some 0)))), (some (.inl x1)), (some (.inl x2)), d3, d4] [(.inl y0)] w r o
  refine zq_istore_n 19 [(some (.inr (.inr (some 0)))), (some (.inl x1)), (some (.inl x2)), (some (.inl y0)), d4] (show zop 247 18 = some (.istore_n 3, 1) by decide +kernel) rfl rfl rfl ?_
  refine zq_iconst 20 (show zop 247 19 = some (.iconst 0, 1) by decide +kernel) rfl rfl ?_
  refine zq_istore 22 [(some (.inr (.inr (some 0)))), (some (.inl x1)), (some (.inl x2)), (some (.inl y0)), (some (.inl 0))] (show zop 247 20 = some (.istore 4, 2) by decide +kernel) rfl rfl rfl ?_
  exact h
theorem bK247_22 {x1 : Int} {x2 : Int} {x3 : Int} {x4 : Int} {w : WS} {r : Nat} {o : Ro} (h : (1 ≤ r) ∧ (∃ (v2 : Int) (s1 : Sg), Dc 175 [(.inr (.inr (some 0))), (.inl x1)] w.2.2 (.inl (some (.inl v2))) s1 ∧ (if x4 < v2 then (if x3 = 0 then K247_65 (some (.inr (.inr (some 0)))) (some (.inl x1)) (some (.inl x2)) x3 (some (.inl x4)) (wS w s1) (r - 1) o else (2 ≤ (r - 1)) ∧ (∃ (v6 : Int) (s5 : Sg), Dc 176 [(.inr (.inr (some 0))), (.inl x1), (.inl x4)] (wS w s1).2.2 (.inl (some (.inl v6))) s5 ∧ (2 ≤ ((r - 1) - 2)) ∧ (∃ (v10 : Int) (s9 : Sg), Dc 176 [(.inr (.inr (some 0))), (.inl x2), (.inl x4)] (wS (wS w s1) s5).2.2 (.inl (some (.inl v10))) s9 ∧ K247_58 x1 x2 (some (.inl x3)) x4 (if v6 = v10 then 1 else 0) (wS (wS (wS w s1) s5) s9) (((r - 1) - 2) - 2) o))) else K247_65 (some (.inr (.inr (some 0)))) (some (.inl x1)) (some (.inl x2)) x3 (some (.inl x4)) (wS w s1) (r - 1) o))) : K247_22 x1 x2 x3 x4 w r o := by
  show Lg 247 22 [(some (.inr (.inr (some 0)))), (some (.inl x1)), (some (.inl x2)), (some (.inl x3)), (some (.inl x4))] [] w r o
  refine zq_iload 24 (show zop 247 22 = some (.iload 4, 2) by decide +kernel) rfl rfl ?_
  refine zq_aload_n 25 (show zop 247 24 = some (.aload_n 0, 1) by decide +kernel) rfl rfl ?_
  refine zq_iload_n 26 (show zop 247 25 = some (.iload_n 1, 1) by decide +kernel) rfl rfl ?_
  obtain ⟨g4, h⟩ := h
  obtain ⟨v2, s1, hD3, h⟩ := h
  refine zq_vi (v := some (.inl v2)) (σ' := s1) (nj := 2) (j := 175) (c := 1) (t := [(.inl x4)]) (as := [(.inr (.inr (some 0))), (.inl x1)]) 29 [(.inl v2), (.inl x4)] (show zop 247 26 = some (.invokevirtual 10, 3) by decide +kernel) (by decide +kernel) rfl (by decide +kernel) rfl rfl rfl rfl rfl rfl (by decide +kernel) (by decide +kernel) (clS_0 rfl) hD3 rfl g4 ?_
  by_cases hc13 : x4 < v2
  · rw [if_pos hc13] at h
    refine zq_icmpF 32 65 (show zop 247 29 = some (.if_icmp .ge 36, 3) by decide +kernel) rfl rfl (decide_eq_false (Int.not_le.mpr hc13)) ?_
    refine zq_iload_n 33 (show zop 247 32 = some (.iload_n 3, 1) by decide +kernel) rfl rfl ?_
    by_cases hc14 : x3 = 0
    · rw [if_pos hc14] at h
      refine zq_ifT 65 (show zop 247 33 = some (.ifCond .eq 32, 3) by decide +kernel) rfl (decide_eq_true hc14) ?_
      exact h
    · rw [if_neg hc14] at h
      refine zq_ifF 36 65 (show zop 247 33 = some (.ifCond .eq 32, 3) by decide +kernel) rfl rfl (decide_eq_false hc14) ?_
      refine zq_aload_n 37 (show zop 247 36 = some (.aload_n 0, 1) by decide +kernel) rfl rfl ?_
      refine zq_iload_n 38 (show zop 247 37 = some (.iload_n 1, 1) by decide +kernel) rfl rfl ?_
      refine zq_iload 40 (show zop 247 38 = some (.iload 4, 2) by decide +kernel) rfl rfl ?_
      obtain ⟨g8, h⟩ := h
      obtain ⟨v6, s5, hD7, h⟩ := h
      refine zq_vi (v := some (.inl v6)) (σ' := s5) (nj := 3) (j := 176) (c := 2) (t := []) (as := [(.inr (.inr (some 0))), (.inl x1), (.inl x4)]) 43 [(.inl v6)] (show zop 247 40 = some (.invokevirtual 29, 3) by decide +kernel) (by decide +kernel) rfl (by decide +kernel) rfl rfl rfl rfl rfl rfl (by decide +kernel) (by decide +kernel) (clS_0 rfl) hD7 rfl g8 ?_
      refine zq_aload_n 44 (show zop 247 43 = some (.aload_n 0, 1) by decide +kernel) rfl rfl ?_
      refine zq_iload_n 45 (show zop 247 44 = some (.iload_n 2, 1) by decide +kernel) rfl rfl ?_
      refine zq_iload 47 (show zop 247 45 = some (.iload 4, 2) by decide +kernel) rfl rfl ?_
      obtain ⟨g12, h⟩ := h
      obtain ⟨v10, s9, hD11, h⟩ := h
      refine zq_vi (v := some (.inl v10)) (σ' := s9) (nj := 3) (j := 176) (c := 2) (t := [(.inl v6)]) (as := [(.inr (.inr (some 0))), (.inl x2), (.inl x4)]) 50 [(.inl v10), (.inl v6)] (show zop 247 47 = some (.invokevirtual 29, 3) by decide +kernel) (by decide +kernel) rfl (by decide +kernel) rfl rfl rfl rfl rfl rfl (by decide +kernel) (by decide +kernel) (clS_0 rfl) hD11 rfl g12 ?_
      by_cases hc15 : v6 = v10
      · refine zq_icmpF 53 57 (show zop 247 50 = some (.if_icmp .ne 7, 3) by decide +kernel) rfl rfl (decide_eq_false (fun h9 => h9 hc15)) ?_
        refine zq_iconst 54 (show zop 247 53 = some (.iconst 1, 1) by decide +kernel) rfl rfl ?_
        refine zq_goto 58 (show zop 247 54 = some (.goto 4, 3) by decide +kernel) rfl ?_
        have h9 := h; simp only [if_pos hc15] at h9; exact h9
      · refine zq_icmpT 57 (show zop 247 50 = some (.if_icmp .ne 7, 3) by decide +kernel) rfl (decide_eq_true hc15) ?_
        refine zq_iconst 58 (show zop 247 57 = some (.iconst 0, 1) by decide +kernel) rfl rfl ?_
        have h9 := h; simp only [if_neg hc15] at h9; exact h9
  · rw [if_neg hc13] at h
    refine zq_icmpT 65 (show zop 247 29 = some (.if_icmp .ge 36, 3) by decide +kernel) rfl (decide_eq_true (Int.not_lt.mp hc13)) ?_
    exact h
theorem bK247_65 {d0 : Option AV} {d1 : Option AV} {d2 : Option AV} {x3 : Int} {d4 : Option AV} {w : WS} {r : Nat} {o : Ro} (h : (x3 = 0 ∨ x3 = 1) ∧ o = (.inl (some (.inl x3)), w)) : K247_65 d0 d1 d2 x3 d4 w r o := by
  show Lg 247 65 [d0, d1, d2, (some (.inl x3)), d4] [] w r o
  refine zq_iload_n 66 (show zop 247 65 = some (.iload_n 3, 1) by decide +kernel) rfl rfl ?_
  obtain ⟨g1, h⟩ := h
  exact (zq_zret (show zop 247 66 = some (.ireturn, 1) by decide +kernel) (by decide +kernel) g1 h)
theorem bK247_58 {x1 : Int} {x2 : Int} {d3 : Option AV} {x4 : Int} {y0 : Int} {w : WS} {r : Nat} {o : Ro} (h : (-2147483648 ≤ (x4 + 1) ∧ (x4 + 1) ≤ 2147483647) ∧ K247_22 x1 x2 y0 (x4 + 1) w r o) : K247_58 x1 x2 d3 x4 y0 w r o := by
  show Lg 247 58 [(some (.inr (.inr (some 0)))), (some (.inl x1)), (some (.inl x2)), d3, (some (.inl x4))] [(.inl y0)] w r o
  refine zq_istore_n 59 [(some (.inr (.inr (some 0)))), (some (.inl x1)), (some (.inl x2)), (some (.inl y0)), (some (.inl x4))] (show zop 247 58 = some (.istore_n 3, 1) by decide +kernel) rfl rfl rfl ?_
  obtain ⟨g1, h⟩ := h
  refine zq_iinc 62 [(some (.inr (.inr (some 0)))), (some (.inl x1)), (some (.inl x2)), (some (.inl y0)), (some (.inl (x4 + 1)))] (show zop 247 59 = some (.iinc 4 1, 3) by decide +kernel) rfl rfl g1 rfl ?_
  refine zq_goto 22 (show zop 247 62 = some (.goto (-40), 3) by decide +kernel) rfl ?_
  exact h
/-- PatchBenchLaw.areSame (LPatchBench;II)Z -/
theorem lb247 {x1 : Int} {x2 : Int} {w : WS} {o : Ro} (h : (1 ≤ 100) ∧ (∃ (v2 : Int) (s1 : Sg), Dc 175 [(.inr (.inr (some 0))), (.inl x1)] w.2.2 (.inl (some (.inl v2))) s1 ∧ (1 ≤ (100 - 1)) ∧ (∃ (v6 : Int) (s5 : Sg), Dc 175 [(.inr (.inr (some 0))), (.inl x2)] (wS w s1).2.2 (.inl (some (.inl v6))) s5 ∧ K247_18 x1 x2 none none (if v2 = v6 then 1 else 0) (wS (wS w s1) s5) ((100 - 1) - 1) o))) : Lx 247 [(.inr (.inr (some 0))), (.inl x1), (.inl x2)] w o := by
  refine Lx_of (l := 5) (r := 100) (by decide +kernel) (by decide +kernel) ?_
  show Lg 247 0 [(some (.inr (.inr (some 0)))), (some (.inl x1)), (some (.inl x2)), none, none] [] w 100 o
  refine zq_aload_n 1 (show zop 247 0 = some (.aload_n 0, 1) by decide +kernel) rfl rfl ?_
  refine zq_iload_n 2 (show zop 247 1 = some (.iload_n 1, 1) by decide +kernel) rfl rfl ?_
  obtain ⟨g4, h⟩ := h
  obtain ⟨v2, s1, hD3, h⟩ := h
  refine zq_vi (v := some (.inl v2)) (σ' := s1) (nj := 2) (j := 175) (c := 1) (t := []) (as := [(.inr (.inr (some 0))), (.inl x1)]) 5 [(.inl v2)] (show zop 247 2 = some (.invokevirtual 10, 3) by decide +kernel) (by decide +kernel) rfl (by decide +kernel) rfl rfl rfl rfl rfl rfl (by decide +kernel) (by decide +kernel) (clS_0 rfl) hD3 rfl g4 ?_
  refine zq_aload_n 6 (show zop 247 5 = some (.aload_n 0, 1) by decide +kernel) rfl rfl ?_
  refine zq_iload_n 7 (show zop 247 6 = some (.iload_n 2, 1) by decide +kernel) rfl rfl ?_
  obtain ⟨g8, h⟩ := h
  obtain ⟨v6, s5, hD7, h⟩ := h
  refine zq_vi (v := some (.inl v6)) (σ' := s5) (nj := 2) (j := 175) (c := 1) (t := [(.inl v2)]) (as := [(.inr (.inr (some 0))), (.inl x2)]) 10 [(.inl v6), (.inl v2)] (show zop 247 7 = some (.invokevirtual 10, 3) by decide +kernel) (by decide +kernel) rfl (by decide +kernel) rfl rfl rfl rfl rfl rfl (by decide +kernel) (by decide +kernel) (clS_0 rfl) hD7 rfl g8 ?_
  by_cases hc9 : v2 = v6
  · refine zq_icmpF 13 17 (show zop 247 10 = some (.if_icmp .ne 7, 3) by decide +kernel) rfl rfl (decide_eq_false (fun h9 => h9 hc9)) ?_
    refine zq_iconst 14 (show zop 247 13 = some (.iconst 1, 1) by decide +kernel) rfl rfl ?_
    refine zq_goto 18 (show zop 247 14 = some (.goto 4, 3) by decide +kernel) rfl ?_
    have h9 := h; simp only [if_pos hc9] at h9; exact h9
  · refine zq_icmpT 17 (show zop 247 10 = some (.if_icmp .ne 7, 3) by decide +kernel) rfl (decide_eq_true hc9) ?_
    refine zq_iconst 18 (show zop 247 17 = some (.iconst 0, 1) by decide +kernel) rfl rfl ?_
    have h9 := h; simp only [if_neg hc9] at h9; exact h9
def K248_8 (x1 : Int) (x2 : Int) (x3 : Nat) (x4 : Int) (d5 : Option AV) (d6 : Option AV) (d7 : Option AV) (d8 : Option AV) (w : WS) (r : Nat) (o : Ro) : Prop := Lg 248 8 [(some (.inr (.inr (some 0)))), (some (.inl x1)), (some (.inl x2)), (some (.inr (.inr (some x3)))), (some (.inl x4)), d5, d6, d7, d8] [] w r o
def K248_24 (x1 : Int) (x2 : Int) (x3 : Nat) (x4 : Int) (x5 : Int) (x6 : Int) (d7 : Option AV) (d8 : Option AV) (w : WS) (r : Nat) (o : Ro) : Prop := Lg 248 24 [(some (.inr (.inr (some 0)))), (some (.inl x1)), (some (.inl x2)), (some (.inr (.inr (some x3)))), (some (.inl x4)), (some (.inl x5)), (some (.inl x6)), d7, d8] [] w r o
def K248_60 (x1 : Int) (x2 : Int) (x3 : Nat) (x4 : Int) (x5 : Int) (x6 : Int) (x7 : Int) (d8 : Option AV) (y0 : Int) (w : WS) (r : Nat) (o : Ro) : Prop := Lg 248 60 [(some (.inr (.inr (some 0)))), (some (.inl x1)), (some (.inl x2)), (some (.inr (.inr (some x3)))), (some (.inl x4)), (some (.inl x5)), (some (.inl x6)), (some (.inl x7)), d8] [(.inl y0)] w r o
def K248_93 (x1 : Int) (x2 : Int) (x3 : Nat) (x4 : Int) (d5 : Option AV) (x6 : Int) (x7 : Int) (d8 : Option AV) (y0 : Nat) (y1 : Int) (y2 : Int) (w : WS) (r : Nat) (o : Ro) : Prop := Lg 248 93 [(some (.inr (.inr (some 0)))), (some (.inl x1)), (some (.inl x2)), (some (.inr (.inr (some x3)))), (some (.inl x4)), d5, (some (.inl x6)), (some (.inl x7)), d8] [(.inl y2), (.inl y1), (.inr (.inr (some y0)))] w r o
theorem bK248_8 {x1 : Int} {x2 : Int} {x3 : Nat} {x4 : Int} {d5 : Option AV} {d6 : Option AV} {d7 : Option AV} {d8 : Option AV} {w : WS} {r : Nat} {o : Ro} (h : (1 ≤ r) ∧ (∃ (v2 : Int) (s1 : Sg), Dc 175 [(.inr (.inr (some 0))), (.inl x1)] w.2.2 (.inl (some (.inl v2))) s1 ∧ (if x4 < v2 then K248_24 x1 x2 x3 x4 0 0 d7 d8 (wS w s1) (r - 1) o else (1 ≤ (r - 1)) ∧ (∃ (v6 : Int) (s5 : Sg), Dc 175 [(.inr (.inr (some 0))), (.inl x2)] (wS w s1).2.2 (.inl (some (.inl v6))) s5 ∧ (682 ≤ x3 ∧ ¬ x3 = SCR) ∧ ((wS (wS w s1) s5).1[x3 - 682]? = some (0, 18, [])) ∧ (0 ≤ v6 ∧ v6 < 18) ∧ o = (.inl (some (.inl ((wS (wS w s1) s5).2.1 x3 (v6).toNat))), (wS (wS w s1) s5)))))) : K248_8 x1 x2 x3 x4 d5 d6 d7 d8 w r o := by
  show Lg 248 8 [(some (.inr (.inr (some 0)))), (some (.inl x1)), (some (.inl x2)), (some (.inr (.inr (some x3)))), (some (.inl x4)), d5, d6, d7, d8] [] w r o
  refine zq_iload 10 (show zop 248 8 = some (.iload 4, 2) by decide +kernel) rfl rfl ?_
  refine zq_aload_n 11 (show zop 248 10 = some (.aload_n 0, 1) by decide +kernel) rfl rfl ?_
  refine zq_iload_n 12 (show zop 248 11 = some (.iload_n 1, 1) by decide +kernel) rfl rfl ?_
  obtain ⟨g4, h⟩ := h
  obtain ⟨v2, s1, hD3, h⟩ := h
  refine zq_vi (v := some (.inl v2)) (σ' := s1) (nj := 2) (j := 175) (c := 1) (t := [(.inl x4)]) (as := [(.inr (.inr (some 0))), (.inl x1)]) 15 [(.inl v2), (.inl x4)] (show zop 248 12 = some (.invokevirtual 10, 3) by decide +kernel) (by decide +kernel) rfl (by decide +kernel) rfl rfl rfl rfl rfl rfl (by decide +kernel) (by decide +kernel) (clS_0 rfl) hD3 rfl g4 ?_
  by_cases hc13 : x4 < v2
  · rw [if_pos hc13] at h
    refine zq_icmpF 18 110 (show zop 248 15 = some (.if_icmp .ge 95, 3) by decide +kernel) rfl rfl (decide_eq_false (Int.not_le.mpr hc13)) ?_
    refine zq_iconst 19 (show zop 248 18 = some (.iconst 0, 1) by decide +kernel) rfl rfl ?_
    refine zq_istore 21 [(some (.inr (.inr (some 0)))), (some (.inl x1)), (some (.inl x2)), (some (.inr (.inr (some x3)))), (some (.inl x4)), (some (.inl 0)), d6, d7, d8] (show zop 248 19 = some (.istore 5, 2) by decide +kernel) rfl rfl rfl ?_
    refine zq_iconst 22 (show zop 248 21 = some (.iconst 0, 1) by decide +kernel) rfl rfl ?_
    refine zq_istore 24 [(some (.inr (.inr (some 0)))), (some (.inl x1)), (some (.inl x2)), (some (.inr (.inr (some x3)))), (some (.inl x4)), (some (.inl 0)), (some (.inl 0)), d7, d8] (show zop 248 22 = some (.istore 6, 2) by decide +kernel) rfl rfl rfl ?_
    exact h
  · rw [if_neg hc13] at h
    refine zq_icmpT 110 (show zop 248 15 = some (.if_icmp .ge 95, 3) by decide +kernel) rfl (decide_eq_true (Int.not_lt.mp hc13)) ?_
    refine zq_aload_n 111 (show zop 248 110 = some (.aload_n 3, 1) by decide +kernel) rfl rfl ?_
    refine zq_aload_n 112 (show zop 248 111 = some (.aload_n 0, 1) by decide +kernel) rfl rfl ?_
    refine zq_iload_n 113 (show zop 248 112 = some (.iload_n 2, 1) by decide +kernel) rfl rfl ?_
    obtain ⟨g8, h⟩ := h
    obtain ⟨v6, s5, hD7, h⟩ := h
    refine zq_vi (v := some (.inl v6)) (σ' := s5) (nj := 2) (j := 175) (c := 1) (t := [(.inr (.inr (some x3)))]) (as := [(.inr (.inr (some 0))), (.inl x2)]) 116 [(.inl v6), (.inr (.inr (some x3)))] (show zop 248 113 = some (.invokevirtual 10, 3) by decide +kernel) (by decide +kernel) rfl (by decide +kernel) rfl rfl rfl rfl rfl rfl (by decide +kernel) (by decide +kernel) (clS_0 rfl) hD7 rfl g8 ?_
    obtain ⟨g10, h⟩ := h
    obtain ⟨g11, h⟩ := h
    obtain ⟨g9, h⟩ := h
    refine zq_iaload 117 18 (show zop 248 116 = some (.iaload, 1) by decide +kernel) rfl g10 g11 g9 ?_
    exact (zq_iret (show zop 248 117 = some (.ireturn, 1) by decide +kernel) (by decide +kernel) h)
theorem bK248_24 {x1 : Int} {x2 : Int} {x3 : Nat} {x4 : Int} {x5 : Int} {x6 : Int} {d7 : Option AV} {d8 : Option AV} {w : WS} {r : Nat} {o : Ro} (h : (1 ≤ r) ∧ (∃ (v2 : Int) (s1 : Sg), Dc 175 [(.inr (.inr (some 0))), (.inl x2)] w.2.2 (.inl (some (.inl v2))) s1 ∧ (if x6 < v2 then (-2147483648 ≤ (x6 + 1) ∧ (x6 + 1) ≤ 2147483647) ∧ (682 ≤ x3 ∧ ¬ x3 = SCR) ∧ ((wS w s1).1[x3 - 682]? = some (0, 18, [])) ∧ (0 ≤ (x6 + 1) ∧ (x6 + 1) < 18) ∧ (682 ≤ x3 ∧ ¬ x3 = SCR) ∧ ((wS w s1).1[x3 - 682]? = some (0, 18, [])) ∧ (0 ≤ x6 ∧ x6 < 18) ∧ (¬ (((wS w s1).2.1 x3 (x6).toNat) < ((wS w s1).2.1 x3 ((x6 + 1)).toNat)) → 682 ≤ x3 ∧ ¬ x3 = SCR) ∧ (¬ (((wS w s1).2.1 x3 (x6).toNat) < ((wS w s1).2.1 x3 ((x6 + 1)).toNat)) → (wS w s1).1[x3 - 682]? = some (0, 18, [])) ∧ (¬ (((wS w s1).2.1 x3 (x6).toNat) < ((wS w s1).2.1 x3 ((x6 + 1)).toNat)) → 0 ≤ x6 ∧ x6 < 18) ∧ K248_60 x1 x2 x3 x4 x5 x6 ((wS w s1).2.1 x3 ((x6 + 1)).toNat) d8 (if ((wS w s1).2.1 x3 (x6).toNat) < ((wS w s1).2.1 x3 ((x6 + 1)).toNat) then ((wS w s1).2.1 x3 ((x6 + 1)).toNat) else ((wS w s1).2.1 x3 (x6).toNat)) (wS w s1) (r - 1) o else (-2147483648 ≤ (x4 + 1) ∧ (x4 + 1) ≤ 2147483647) ∧ K248_8 x1 x2 x3 (x4 + 1) (some (.inl x5)) (some (.inl x6)) d7 d8 (wS w s1) (r - 1) o))) : K248_24 x1 x2 x3 x4 x5 x6 d7 d8 w r o := by
  show Lg 248 24 [(some (.inr (.inr (some 0)))), (some (.inl x1)), (some (.inl x2)), (some (.inr (.inr (some x3)))), (some (.inl x4)), (some (.inl x5)), (some (.inl x6)), d7, d8] [] w r o
  refine zq_iload 26 (show zop 248 24 = some (.iload 6, 2) by decide +kernel) rfl rfl ?_
  refine zq_aload_n 27 (show zop 248 26 = some (.aload_n 0, 1) by decide +kernel) rfl rfl ?_
  refine zq_iload_n 28 (show zop 248 27 = some (.iload_n 2, 1) by decide +kernel) rfl rfl ?_
  obtain ⟨g4, h⟩ := h
  obtain ⟨v2, s1, hD3, h⟩ := h
  refine zq_vi (v := some (.inl v2)) (σ' := s1) (nj := 2) (j := 175) (c := 1) (t := [(.inl x6)]) (as := [(.inr (.inr (some 0))), (.inl x2)]) 31 [(.inl v2), (.inl x6)] (show zop 248 28 = some (.invokevirtual 10, 3) by decide +kernel) (by decide +kernel) rfl (by decide +kernel) rfl rfl rfl rfl rfl rfl (by decide +kernel) (by decide +kernel) (clS_0 rfl) hD3 rfl g4 ?_
  by_cases hc19 : x6 < v2
  · rw [if_pos hc19] at h
    refine zq_icmpF 34 104 (show zop 248 31 = some (.if_icmp .ge 73, 3) by decide +kernel) rfl rfl (decide_eq_false (Int.not_le.mpr hc19)) ?_
    refine zq_aload_n 35 (show zop 248 34 = some (.aload_n 3, 1) by decide +kernel) rfl rfl ?_
    refine zq_iload 37 (show zop 248 35 = some (.iload 6, 2) by decide +kernel) rfl rfl ?_
    refine zq_iconst 38 (show zop 248 37 = some (.iconst 1, 1) by decide +kernel) rfl rfl ?_
    obtain ⟨g5, h⟩ := h
    refine zq_iadd 39 (show zop 248 38 = some (.iadd, 1) by decide +kernel) rfl g5 ?_
    obtain ⟨g7, h⟩ := h
    obtain ⟨g8, h⟩ := h
    obtain ⟨g6, h⟩ := h
    refine zq_iaload 40 18 (show zop 248 39 = some (.iaload, 1) by decide +kernel) rfl g7 g8 g6 ?_
    refine zq_istore 42 [(some (.inr (.inr (some 0)))), (some (.inl x1)), (some (.inl x2)), (some (.inr (.inr (some x3)))), (some (.inl x4)), (some (.inl x5)), (some (.inl x6)), (some (.inl ((wS w s1).2.1 x3 ((x6 + 1)).toNat))), d8] (show zop 248 40 = some (.istore 7, 2) by decide +kernel) rfl rfl rfl ?_
    refine zq_iload 44 (show zop 248 42 = some (.iload 7, 2) by decide +kernel) rfl rfl ?_
    refine zq_aload_n 45 (show zop 248 44 = some (.aload_n 3, 1) by decide +kernel) rfl rfl ?_
    refine zq_iload 47 (show zop 248 45 = some (.iload 6, 2) by decide +kernel) rfl rfl ?_
    obtain ⟨g11, h⟩ := h
    obtain ⟨g12, h⟩ := h
    obtain ⟨g10, h⟩ := h
    refine zq_iaload 48 18 (show zop 248 47 = some (.iaload, 1) by decide +kernel) rfl g11 g12 g10 ?_
    obtain ⟨G21, G22, G23, h⟩ := h
    by_cases hc20 : ((wS w s1).2.1 x3 (x6).toNat) < ((wS w s1).2.1 x3 ((x6 + 1)).toNat)
    · refine zq_icmpF 51 56 (show zop 248 48 = some (.if_icmp .le 8, 3) by decide +kernel) rfl rfl (decide_eq_false (Int.not_le.mpr hc20)) ?_
      refine zq_iload 53 (show zop 248 51 = some (.iload 7, 2) by decide +kernel) rfl rfl ?_
      refine zq_goto 60 (show zop 248 53 = some (.goto 7, 3) by decide +kernel) rfl ?_
      have h9 := h; simp only [if_pos hc20] at h9; exact h9
    · refine zq_icmpT 56 (show zop 248 48 = some (.if_icmp .le 8, 3) by decide +kernel) rfl (decide_eq_true (Int.not_lt.mp hc20)) ?_
      refine zq_aload_n 57 (show zop 248 56 = some (.aload_n 3, 1) by decide +kernel) rfl rfl ?_
      refine zq_iload 59 (show zop 248 57 = some (.iload 6, 2) by decide +kernel) rfl rfl ?_
      have g15 := G21 hc20
      have g16 := G22 hc20
      have g14 := G23 hc20
      refine zq_iaload 60 18 (show zop 248 59 = some (.iaload, 1) by decide +kernel) rfl g15 g16 g14 ?_
      have h9 := h; simp only [if_neg hc20] at h9; exact h9
  · rw [if_neg hc19] at h
    refine zq_icmpT 104 (show zop 248 31 = some (.if_icmp .ge 73, 3) by decide +kernel) rfl (decide_eq_true (Int.not_lt.mp hc19)) ?_
    obtain ⟨g18, h⟩ := h
    refine zq_iinc 107 [(some (.inr (.inr (some 0)))), (some (.inl x1)), (some (.inl x2)), (some (.inr (.inr (some x3)))), (some (.inl (x4 + 1))), (some (.inl x5)), (some (.inl x6)), d7, d8] (show zop 248 104 = some (.iinc 4 1, 3) by decide +kernel) rfl rfl g18 rfl ?_
    refine zq_goto 8 (show zop 248 107 = some (.goto (-99), 3) by decide +kernel) rfl ?_
    exact h
theorem bK248_60 {x1 : Int} {x2 : Int} {x3 : Nat} {x4 : Int} {x5 : Int} {x6 : Int} {x7 : Int} {d8 : Option AV} {y0 : Int} {w : WS} {r : Nat} {o : Ro} (h : (-2147483648 ≤ (x6 + 1) ∧ (x6 + 1) ≤ 2147483647) ∧ (2 ≤ r) ∧ (∃ (v3 : Int) (s2 : Sg), Dc 176 [(.inr (.inr (some 0))), (.inl x1), (.inl x4)] w.2.2 (.inl (some (.inl v3))) s2 ∧ (2 ≤ (r - 2)) ∧ (∃ (v7 : Int) (s6 : Sg), Dc 176 [(.inr (.inr (some 0))), (.inl x2), (.inl x6)] (wS w s2).2.2 (.inl (some (.inl v7))) s6 ∧ ((v3 = v7) → -2147483648 ≤ (x5 + 1) ∧ (x5 + 1) ≤ 2147483647) ∧ K248_93 x1 x2 x3 x4 (some (.inl x5)) x6 x7 (some (.inl y0)) x3 (x6 + 1) (if v3 = v7 then (x5 + 1) else y0) (wS (wS w s2) s6) ((r - 2) - 2) o))) : K248_60 x1 x2 x3 x4 x5 x6 x7 d8 y0 w r o := by
  show Lg 248 60 [(some (.inr (.inr (some 0)))), (some (.inl x1)), (some (.inl x2)), (some (.inr (.inr (some x3)))), (some (.inl x4)), (some (.inl x5)), (some (.inl x6)), (some (.inl x7)), d8] [(.inl y0)] w r o
  refine zq_istore 62 [(some (.inr (.inr (some 0)))), (some (.inl x1)), (some (.inl x2)), (some (.inr (.inr (some x3)))), (some (.inl x4)), (some (.inl x5)), (some (.inl x6)), (some (.inl x7)), (some (.inl y0))] (show zop 248 60 = some (.istore 8, 2) by decide +kernel) rfl rfl rfl ?_
  refine zq_aload_n 63 (show zop 248 62 = some (.aload_n 3, 1) by decide +kernel) rfl rfl ?_
  refine zq_iload 65 (show zop 248 63 = some (.iload 6, 2) by decide +kernel) rfl rfl ?_
  refine zq_iconst 66 (show zop 248 65 = some (.iconst 1, 1) by decide +kernel) rfl rfl ?_
  obtain ⟨g1, h⟩ := h
  refine zq_iadd 67 (show zop 248 66 = some (.iadd, 1) by decide +kernel) rfl g1 ?_
  refine zq_aload_n 68 (show zop 248 67 = some (.aload_n 0, 1) by decide +kernel) rfl rfl ?_
  refine zq_iload_n 69 (show zop 248 68 = some (.iload_n 1, 1) by decide +kernel) rfl rfl ?_
  refine zq_iload 71 (show zop 248 69 = some (.iload 4, 2) by decide +kernel) rfl rfl ?_
  obtain ⟨g5, h⟩ := h
  obtain ⟨v3, s2, hD4, h⟩ := h
  refine zq_vi (v := some (.inl v3)) (σ' := s2) (nj := 3) (j := 176) (c := 2) (t := [(.inl (x6 + 1)), (.inr (.inr (some x3)))]) (as := [(.inr (.inr (some 0))), (.inl x1), (.inl x4)]) 74 [(.inl v3), (.inl (x6 + 1)), (.inr (.inr (some x3)))] (show zop 248 71 = some (.invokevirtual 29, 3) by decide +kernel) (by decide +kernel) rfl (by decide +kernel) rfl rfl rfl rfl rfl rfl (by decide +kernel) (by decide +kernel) (clS_0 rfl) hD4 rfl g5 ?_
  refine zq_aload_n 75 (show zop 248 74 = some (.aload_n 0, 1) by decide +kernel) rfl rfl ?_
  refine zq_iload_n 76 (show zop 248 75 = some (.iload_n 2, 1) by decide +kernel) rfl rfl ?_
  refine zq_iload 78 (show zop 248 76 = some (.iload 6, 2) by decide +kernel) rfl rfl ?_
  obtain ⟨g9, h⟩ := h
  obtain ⟨v7, s6, hD8, h⟩ := h
  refine zq_vi (v := some (.inl v7)) (σ' := s6) (nj := 3) (j := 176) (c := 2) (t := [(.inl v3), (.inl (x6 + 1)), (.inr (.inr (some x3)))]) (as := [(.inr (.inr (some 0))), (.inl x2), (.inl x6)]) 81 [(.inl v7), (.inl v3), (.inl (x6 + 1)), (.inr (.inr (some x3)))] (show zop 248 78 = some (.invokevirtual 29, 3) by decide +kernel) (by decide +kernel) rfl (by decide +kernel) rfl rfl rfl rfl rfl rfl (by decide +kernel) (by decide +kernel) (clS_0 rfl) hD8 rfl g9 ?_
  obtain ⟨G12, h⟩ := h
  by_cases hc11 : v3 = v7
  · refine zq_icmpF 84 91 (show zop 248 81 = some (.if_icmp .ne 10, 3) by decide +kernel) rfl rfl (decide_eq_false (fun h9 => h9 hc11)) ?_
    refine zq_iload 86 (show zop 248 84 = some (.iload 5, 2) by decide +kernel) rfl rfl ?_
    refine zq_iconst 87 (show zop 248 86 = some (.iconst 1, 1) by decide +kernel) rfl rfl ?_
    have g10 := G12 hc11
    refine zq_iadd 88 (show zop 248 87 = some (.iadd, 1) by decide +kernel) rfl g10 ?_
    refine zq_goto 93 (show zop 248 88 = some (.goto 5, 3) by decide +kernel) rfl ?_
    have h9 := h; simp only [if_pos hc11] at h9; exact h9
  · refine zq_icmpT 91 (show zop 248 81 = some (.if_icmp .ne 10, 3) by decide +kernel) rfl (decide_eq_true hc11) ?_
    refine zq_iload 93 (show zop 248 91 = some (.iload 8, 2) by decide +kernel) rfl rfl ?_
    have h9 := h; simp only [if_neg hc11] at h9; exact h9
theorem bK248_93 {x1 : Int} {x2 : Int} {x3 : Nat} {x4 : Int} {d5 : Option AV} {x6 : Int} {x7 : Int} {d8 : Option AV} {y0 : Nat} {y1 : Int} {y2 : Int} {w : WS} {r : Nat} {o : Ro} (h : (682 ≤ y0) ∧ (w.1[y0 - 682]? = some (0, 18, [])) ∧ (0 ≤ y1 ∧ y1 < 18) ∧ (-2147483648 ≤ (x6 + 1) ∧ (x6 + 1) ≤ 2147483647) ∧ K248_24 x1 x2 x3 x4 x7 (x6 + 1) (some (.inl x7)) d8 (wU w y0 (y1).toNat y2) r o) : K248_93 x1 x2 x3 x4 d5 x6 x7 d8 y0 y1 y2 w r o := by
  show Lg 248 93 [(some (.inr (.inr (some 0)))), (some (.inl x1)), (some (.inl x2)), (some (.inr (.inr (some x3)))), (some (.inl x4)), d5, (some (.inl x6)), (some (.inl x7)), d8] [(.inl y2), (.inl y1), (.inr (.inr (some y0)))] w r o
  obtain ⟨g2, h⟩ := h
  obtain ⟨g3, h⟩ := h
  obtain ⟨g1, h⟩ := h
  refine zq_iastore 94 18 (show zop 248 93 = some (.iastore, 1) by decide +kernel) rfl g2 g3 g1 ?_
  refine zq_iload 96 (show zop 248 94 = some (.iload 7, 2) by decide +kernel) rfl rfl ?_
  refine zq_istore 98 [(some (.inr (.inr (some 0)))), (some (.inl x1)), (some (.inl x2)), (some (.inr (.inr (some x3)))), (some (.inl x4)), (some (.inl x7)), (some (.inl x6)), (some (.inl x7)), d8] (show zop 248 96 = some (.istore 5, 2) by decide +kernel) rfl rfl rfl ?_
  obtain ⟨g4, h⟩ := h
  refine zq_iinc 101 [(some (.inr (.inr (some 0)))), (some (.inl x1)), (some (.inl x2)), (some (.inr (.inr (some x3)))), (some (.inl x4)), (some (.inl x7)), (some (.inl (x6 + 1))), (some (.inl x7)), d8] (show zop 248 98 = some (.iinc 6 1, 3) by decide +kernel) rfl rfl g4 rfl ?_
  refine zq_goto 24 (show zop 248 101 = some (.goto (-77), 3) by decide +kernel) rfl ?_
  exact h
/-- PatchBenchLaw.most (LPatchBench;II)I -/
theorem lb248 {x1 : Int} {x2 : Int} {w : WS} {o : Ro} (h : (682 + w.1.length < SCR) ∧ (1 ≤ 1600) ∧ K248_8 x1 x2 (682 + w.1.length) 0 none none none none (wN w 18) (1600 - 1) o) : Lx 248 [(.inr (.inr (some 0))), (.inl x1), (.inl x2)] w o := by
  refine Lx_of (l := 9) (r := 1600) (by decide +kernel) (by decide +kernel) ?_
  show Lg 248 0 [(some (.inr (.inr (some 0)))), (some (.inl x1)), (some (.inl x2)), none, none, none, none, none, none] [] w 1600 o
  refine zq_bipush 2 (show zop 248 0 = some (.bipush 18, 2) by decide +kernel) rfl (by decide) ?_
  obtain ⟨g2, h⟩ := h
  obtain ⟨g1, h⟩ := h
  refine zq_newarray 4 (l9 := 18) (show zop 248 2 = some (.newarray .int, 2) by decide +kernel) rfl (by decide) g2 g1 ?_
  refine zq_astore_n 5 [(some (.inr (.inr (some 0)))), (some (.inl x1)), (some (.inl x2)), (some (.inr (.inr (some (682 + w.1.length))))), none, none, none, none, none] (show zop 248 4 = some (.astore_n 3, 1) by decide +kernel) rfl rfl rfl ?_
  refine zq_iconst 6 (show zop 248 5 = some (.iconst 0, 1) by decide +kernel) rfl rfl ?_
  refine zq_istore 8 [(some (.inr (.inr (some 0)))), (some (.inl x1)), (some (.inl x2)), (some (.inr (.inr (some (682 + w.1.length))))), (some (.inl 0)), none, none, none, none] (show zop 248 6 = some (.istore 4, 2) by decide +kernel) rfl rfl rfl ?_
  exact h
def K249_20 (x1 : Int) (x2 : Int) (x3 : Int) (x4 : Int) (x5 : Int) (x6 : Int) (x7 : Int) (x8 : Int) (d9 : Option AV) (w : WS) (r : Nat) (o : Ro) : Prop := Lg 249 20 [(some (.inr (.inr (some 0)))), (some (.inl x1)), (some (.inl x2)), (some (.inl x3)), (some (.inl x4)), (some (.inl x5)), (some (.inl x6)), (some (.inl x7)), (some (.inl x8)), d9] [] w r o
def K249_130 (x1 : Int) (x2 : Int) (x3 : Int) (x4 : Int) (d5 : Option AV) (x6 : Int) (x7 : Int) (d8 : Option AV) (d9 : Option AV) (w : WS) (r : Nat) (o : Ro) : Prop := Lg 249 130 [(some (.inr (.inr (some 0)))), (some (.inl x1)), (some (.inl x2)), (some (.inl x3)), (some (.inl x4)), d5, (some (.inl x6)), (some (.inl x7)), d8, d9] [] w r o
def K249_86 (x1 : Int) (x2 : Int) (x3 : Int) (x4 : Int) (x5 : Int) (x6 : Int) (d7 : Option AV) (x8 : Int) (x9 : Int) (w : WS) (r : Nat) (o : Ro) : Prop := Lg 249 86 [(some (.inr (.inr (some 0)))), (some (.inl x1)), (some (.inl x2)), (some (.inl x3)), (some (.inl x4)), (some (.inl x5)), (some (.inl x6)), d7, (some (.inl x8)), (some (.inl x9))] [] w r o
def K249_90 (x1 : Int) (x2 : Int) (x3 : Int) (x4 : Int) (x5 : Int) (x6 : Int) (d7 : Option AV) (x8 : Int) (x9 : Int) (w : WS) (r : Nat) (o : Ro) : Prop := Lg 249 90 [(some (.inr (.inr (some 0)))), (some (.inl x1)), (some (.inl x2)), (some (.inl x3)), (some (.inl x4)), (some (.inl x5)), (some (.inl x6)), d7, (some (.inl x8)), (some (.inl x9))] [] w r o
def K249_205 (d0 : Option AV) (d1 : Option AV) (d2 : Option AV) (d3 : Option AV) (d4 : Option AV) (d5 : Option AV) (d6 : Option AV) (d7 : Option AV) (d8 : Option AV) (d9 : Option AV) (w : WS) (r : Nat) (o : Ro) : Prop := Lg 249 205 [d0, d1, d2, d3, d4, d5, d6, d7, d8, d9] [] w r o
def K249_165 (x1 : Int) (x2 : Int) (x3 : Int) (x4 : Int) (d5 : Option AV) (x6 : Int) (d7 : Option AV) (d8 : Option AV) (d9 : Option AV) (w : WS) (r : Nat) (o : Ro) : Prop := Lg 249 165 [(some (.inr (.inr (some 0)))), (some (.inl x1)), (some (.inl x2)), (some (.inl x3)), (some (.inl x4)), d5, (some (.inl x6)), d7, d8, d9] [] w r o
def K249_91 (x1 : Int) (x2 : Int) (x3 : Int) (x4 : Int) (x5 : Int) (x6 : Int) (d7 : Option AV) (x8 : Int) (x9 : Int) (y0 : Int) (w : WS) (r : Nat) (o : Ro) : Prop := Lg 249 91 [(some (.inr (.inr (some 0)))), (some (.inl x1)), (some (.inl x2)), (some (.inl x3)), (some (.inl x4)), (some (.inl x5)), (some (.inl x6)), d7, (some (.inl x8)), (some (.inl x9))] [(.inl y0)] w r o
def K249_206 (d0 : Option AV) (d1 : Option AV) (d2 : Option AV) (d3 : Option AV) (d4 : Option AV) (d5 : Option AV) (d6 : Option AV) (d7 : Option AV) (d8 : Option AV) (d9 : Option AV) (y0 : Int) (w : WS) (r : Nat) (o : Ro) : Prop := Lg 249 206 [d0, d1, d2, d3, d4, d5, d6, d7, d8, d9] [(.inl y0)] w r o
def K249_201 (d0 : Option AV) (d1 : Option AV) (d2 : Option AV) (d3 : Option AV) (d4 : Option AV) (d5 : Option AV) (d6 : Option AV) (d7 : Option AV) (d8 : Option AV) (d9 : Option AV) (w : WS) (r : Nat) (o : Ro) : Prop := Lg 249 201 [d0, d1, d2, d3, d4, d5, d6, d7, d8, d9] [] w r o
def K249_106 (x1 : Int) (x2 : Int) (x3 : Int) (d4 : Option AV) (x5 : Int) (x6 : Int) (x7 : Int) (x8 : Int) (x9 : Int) (y0 : Int) (y1 : Int) (w : WS) (r : Nat) (o : Ro) : Prop := Lg 249 106 [(some (.inr (.inr (some 0)))), (some (.inl x1)), (some (.inl x2)), (some (.inl x3)), d4, (some (.inl x5)), (some (.inl x6)), (some (.inl x7)), (some (.inl x8)), (some (.inl x9))] [(.inl y1), (.inl y0)] w r o
def K249_122 (x1 : Int) (x2 : Int) (x3 : Int) (x4 : Int) (d5 : Option AV) (x6 : Int) (x7 : Int) (x8 : Int) (d9 : Option AV) (y0 : Int) (w : WS) (r : Nat) (o : Ro) : Prop := Lg 249 122 [(some (.inr (.inr (some 0)))), (some (.inl x1)), (some (.inl x2)), (some (.inl x3)), (some (.inl x4)), d5, (some (.inl x6)), (some (.inl x7)), (some (.inl x8)), d9] [(.inl y0)] w r o
theorem bK249_20 {x1 : Int} {x2 : Int} {x3 : Int} {x4 : Int} {x5 : Int} {x6 : Int} {x7 : Int} {x8 : Int} {d9 : Option AV} {w : WS} {r : Nat} {o : Ro} (h : (1 ≤ r) ∧ (∃ (v2 : Int) (s1 : Sg), Dc 175 [(.inr (.inr (some 0))), (.inl x1)] w.2.2 (.inl (some (.inl v2))) s1 ∧ (if x8 < v2 then (if x7 = 0 then K249_130 x1 x2 x3 x4 (some (.inl x5)) x6 x7 (some (.inl x8)) d9 (wS w s1) (r - 1) o else (4 ≤ (r - 1)) ∧ (∃ (v6 : Int) (s5 : Sg), Dc 178 [(.inr (.inr (some 0))), (.inl x1), (.inl x2), (.inl x3), (.inl x8)] (wS w s1).2.2 (.inl (some (.inl v6))) s5 ∧ (if v6 = (-1) then K249_86 x1 x2 x3 x4 x5 x6 (some (.inl x7)) x8 v6 (wS (wS w s1) s5) ((r - 1) - 4) o else (if x5 < v6 then (1 ≤ ((r - 1) - 4)) ∧ (∃ (v10 : Int) (s9 : Sg), Dc 175 [(.inr (.inr (some 0))), (.inl x2)] (wS (wS w s1) s5).2.2 (.inl (some (.inl v10))) s9 ∧ (if v6 < v10 then (2 ≤ (((r - 1) - 4) - 1)) ∧ (∃ (v14 : Int) (s13 : Sg), Dc 176 [(.inr (.inr (some 0))), (.inl x1), (.inl x8)] (wS (wS (wS w s1) s5) s9).2.2 (.inl (some (.inl v14))) s13 ∧ (2 ≤ ((((r - 1) - 4) - 1) - 2)) ∧ (∃ (v18 : Int) (s17 : Sg), Dc 176 [(.inr (.inr (some 0))), (.inl x2), (.inl v6)] (wS (wS (wS (wS w s1) s5) s9) s13).2.2 (.inl (some (.inl v18))) s17 ∧ (if v14 = v18 then K249_86 x1 x2 x3 x4 x5 x6 (some (.inl x7)) x8 v6 (wS (wS (wS (wS (wS w s1) s5) s9) s13) s17) (((((r - 1) - 4) - 1) - 2) - 2) o else K249_90 x1 x2 x3 x4 x5 x6 (some (.inl x7)) x8 v6 (wS (wS (wS (wS (wS w s1) s5) s9) s13) s17) (((((r - 1) - 4) - 1) - 2) - 2) o))) else K249_90 x1 x2 x3 x4 x5 x6 (some (.inl x7)) x8 v6 (wS (wS (wS w s1) s5) s9) (((r - 1) - 4) - 1) o)) else K249_90 x1 x2 x3 x4 x5 x6 (some (.inl x7)) x8 v6 (wS (wS w s1) s5) ((r - 1) - 4) o)))) else K249_130 x1 x2 x3 x4 (some (.inl x5)) x6 x7 (some (.inl x8)) d9 (wS w s1) (r - 1) o))) : K249_20 x1 x2 x3 x4 x5 x6 x7 x8 d9 w r o := by
  show Lg 249 20 [(some (.inr (.inr (some 0)))), (some (.inl x1)), (some (.inl x2)), (some (.inl x3)), (some (.inl x4)), (some (.inl x5)), (some (.inl x6)), (some (.inl x7)), (some (.inl x8)), d9] [] w r o
  refine zq_iload 22 (show zop 249 20 = some (.iload 8, 2) by decide +kernel) rfl rfl ?_
  refine zq_aload_n 23 (show zop 249 22 = some (.aload_n 0, 1) by decide +kernel) rfl rfl ?_
  refine zq_iload_n 24 (show zop 249 23 = some (.iload_n 1, 1) by decide +kernel) rfl rfl ?_
  obtain ⟨g4, h⟩ := h
  obtain ⟨v2, s1, hD3, h⟩ := h
  refine zq_vi (v := some (.inl v2)) (σ' := s1) (nj := 2) (j := 175) (c := 1) (t := [(.inl x8)]) (as := [(.inr (.inr (some 0))), (.inl x1)]) 27 [(.inl v2), (.inl x8)] (show zop 249 24 = some (.invokevirtual 10, 3) by decide +kernel) (by decide +kernel) rfl (by decide +kernel) rfl rfl rfl rfl rfl rfl (by decide +kernel) (by decide +kernel) (clS_0 rfl) hD3 rfl g4 ?_
  by_cases hc21 : x8 < v2
  · rw [if_pos hc21] at h
    refine zq_icmpF 30 130 (show zop 249 27 = some (.if_icmp .ge 103, 3) by decide +kernel) rfl rfl (decide_eq_false (Int.not_le.mpr hc21)) ?_
    refine zq_iload 32 (show zop 249 30 = some (.iload 7, 2) by decide +kernel) rfl rfl ?_
    by_cases hc22 : x7 = 0
    · rw [if_pos hc22] at h
      refine zq_ifT 130 (show zop 249 32 = some (.ifCond .eq 98, 3) by decide +kernel) rfl (decide_eq_true hc22) ?_
      exact h
    · rw [if_neg hc22] at h
      refine zq_ifF 35 130 (show zop 249 32 = some (.ifCond .eq 98, 3) by decide +kernel) rfl rfl (decide_eq_false hc22) ?_
      refine zq_aload_n 36 (show zop 249 35 = some (.aload_n 0, 1) by decide +kernel) rfl rfl ?_
      refine zq_iload_n 37 (show zop 249 36 = some (.iload_n 1, 1) by decide +kernel) rfl rfl ?_
      refine zq_iload_n 38 (show zop 249 37 = some (.iload_n 2, 1) by decide +kernel) rfl rfl ?_
      refine zq_iload_n 39 (show zop 249 38 = some (.iload_n 3, 1) by decide +kernel) rfl rfl ?_
      refine zq_iload 41 (show zop 249 39 = some (.iload 8, 2) by decide +kernel) rfl rfl ?_
      obtain ⟨g8, h⟩ := h
      obtain ⟨v6, s5, hD7, h⟩ := h
      refine zq_vi (v := some (.inl v6)) (σ' := s5) (nj := 5) (j := 178) (c := 4) (t := []) (as := [(.inr (.inr (some 0))), (.inl x1), (.inl x2), (.inl x3), (.inl x8)]) 44 [(.inl v6)] (show zop 249 41 = some (.invokevirtual 77, 3) by decide +kernel) (by decide +kernel) rfl (by decide +kernel) rfl rfl rfl rfl rfl rfl (by decide +kernel) (by decide +kernel) (clS_0 rfl) hD7 rfl g8 ?_
      refine zq_istore 46 [(some (.inr (.inr (some 0)))), (some (.inl x1)), (some (.inl x2)), (some (.inl x3)), (some (.inl x4)), (some (.inl x5)), (some (.inl x6)), (some (.inl x7)), (some (.inl x8)), (some (.inl v6))] (show zop 249 44 = some (.istore 9, 2) by decide +kernel) rfl rfl rfl ?_
      refine zq_iload 48 (show zop 249 46 = some (.iload 9, 2) by decide +kernel) rfl rfl ?_
      refine zq_iconst 49 (show zop 249 48 = some (.iconst (-1), 1) by decide +kernel) rfl rfl ?_
      by_cases hc23 : v6 = (-1)
      · rw [if_pos hc23] at h
        refine zq_icmpT 86 (show zop 249 49 = some (.if_icmp .eq 37, 3) by decide +kernel) rfl (decide_eq_true hc23) ?_
        exact h
      · rw [if_neg hc23] at h
        refine zq_icmpF 52 86 (show zop 249 49 = some (.if_icmp .eq 37, 3) by decide +kernel) rfl rfl (decide_eq_false hc23) ?_
        refine zq_iload 54 (show zop 249 52 = some (.iload 9, 2) by decide +kernel) rfl rfl ?_
        refine zq_iload 56 (show zop 249 54 = some (.iload 5, 2) by decide +kernel) rfl rfl ?_
        by_cases hc24 : x5 < v6
        · rw [if_pos hc24] at h
          refine zq_icmpF 59 90 (show zop 249 56 = some (.if_icmp .le 34, 3) by decide +kernel) rfl rfl (decide_eq_false (Int.not_le.mpr hc24)) ?_
          refine zq_iload 61 (show zop 249 59 = some (.iload 9, 2) by decide +kernel) rfl rfl ?_
          refine zq_aload_n 62 (show zop 249 61 = some (.aload_n 0, 1) by decide +kernel) rfl rfl ?_
          refine zq_iload_n 63 (show zop 249 62 = some (.iload_n 2, 1) by decide +kernel) rfl rfl ?_
          obtain ⟨g12, h⟩ := h
          obtain ⟨v10, s9, hD11, h⟩ := h
          refine zq_vi (v := some (.inl v10)) (σ' := s9) (nj := 2) (j := 175) (c := 1) (t := [(.inl v6)]) (as := [(.inr (.inr (some 0))), (.inl x2)]) 66 [(.inl v10), (.inl v6)] (show zop 249 63 = some (.invokevirtual 10, 3) by decide +kernel) (by decide +kernel) rfl (by decide +kernel) rfl rfl rfl rfl rfl rfl (by decide +kernel) (by decide +kernel) (clS_0 rfl) hD11 rfl g12 ?_
          by_cases hc25 : v6 < v10
          · rw [if_pos hc25] at h
            refine zq_icmpF 69 90 (show zop 249 66 = some (.if_icmp .ge 24, 3) by decide +kernel) rfl rfl (decide_eq_false (Int.not_le.mpr hc25)) ?_
            refine zq_aload_n 70 (show zop 249 69 = some (.aload_n 0, 1) by decide +kernel) rfl rfl ?_
            refine zq_iload_n 71 (show zop 249 70 = some (.iload_n 1, 1) by decide +kernel) rfl rfl ?_
            refine zq_iload 73 (show zop 249 71 = some (.iload 8, 2) by decide +kernel) rfl rfl ?_
            obtain ⟨g16, h⟩ := h
            obtain ⟨v14, s13, hD15, h⟩ := h
            refine zq_vi (v := some (.inl v14)) (σ' := s13) (nj := 3) (j := 176) (c := 2) (t := []) (as := [(.inr (.inr (some 0))), (.inl x1), (.inl x8)]) 76 [(.inl v14)] (show zop 249 73 = some (.invokevirtual 29, 3) by decide +kernel) (by decide +kernel) rfl (by decide +kernel) rfl rfl rfl rfl rfl rfl (by decide +kernel) (by decide +kernel) (clS_0 rfl) hD15 rfl g16 ?_
            refine zq_aload_n 77 (show zop 249 76 = some (.aload_n 0, 1) by decide +kernel) rfl rfl ?_
            refine zq_iload_n 78 (show zop 249 77 = some (.iload_n 2, 1) by decide +kernel) rfl rfl ?_
            refine zq_iload 80 (show zop 249 78 = some (.iload 9, 2) by decide +kernel) rfl rfl ?_
            obtain ⟨g20, h⟩ := h
            obtain ⟨v18, s17, hD19, h⟩ := h
            refine zq_vi (v := some (.inl v18)) (σ' := s17) (nj := 3) (j := 176) (c := 2) (t := [(.inl v14)]) (as := [(.inr (.inr (some 0))), (.inl x2), (.inl v6)]) 83 [(.inl v18), (.inl v14)] (show zop 249 80 = some (.invokevirtual 29, 3) by decide +kernel) (by decide +kernel) rfl (by decide +kernel) rfl rfl rfl rfl rfl rfl (by decide +kernel) (by decide +kernel) (clS_0 rfl) hD19 rfl g20 ?_
            by_cases hc26 : v14 = v18
            · rw [if_pos hc26] at h
              refine zq_icmpF 86 90 (show zop 249 83 = some (.if_icmp .ne 7, 3) by decide +kernel) rfl rfl (decide_eq_false (fun h9 => h9 hc26)) ?_
              exact h
            · rw [if_neg hc26] at h
              refine zq_icmpT 90 (show zop 249 83 = some (.if_icmp .ne 7, 3) by decide +kernel) rfl (decide_eq_true hc26) ?_
              exact h
          · rw [if_neg hc25] at h
            refine zq_icmpT 90 (show zop 249 66 = some (.if_icmp .ge 24, 3) by decide +kernel) rfl (decide_eq_true (Int.not_lt.mp hc25)) ?_
            exact h
        · rw [if_neg hc24] at h
          refine zq_icmpT 90 (show zop 249 56 = some (.if_icmp .le 34, 3) by decide +kernel) rfl (decide_eq_true (Int.not_lt.mp hc24)) ?_
          exact h
  · rw [if_neg hc21] at h
    refine zq_icmpT 130 (show zop 249 27 = some (.if_icmp .ge 103, 3) by decide +kernel) rfl (decide_eq_true (Int.not_lt.mp hc21)) ?_
    exact h
theorem bK249_130 {x1 : Int} {x2 : Int} {x3 : Int} {x4 : Int} {d5 : Option AV} {x6 : Int} {x7 : Int} {d8 : Option AV} {d9 : Option AV} {w : WS} {r : Nat} {o : Ro} (h : (if x7 = 0 then K249_205 (some (.inr (.inr (some 0)))) (some (.inl x1)) (some (.inl x2)) (some (.inl x3)) (some (.inl x4)) d5 (some (.inl x6)) (some (.inl x7)) d8 d9 w r o else (3 ≤ r) ∧ (∃ (v2 : Int) (s1 : Sg), Dc 179 [(.inr (.inr (some 0))), (.inl x1), (.inl x2), (.inl x3)] w.2.2 (.inl (some (.inl v2))) s1 ∧ (if v2 = x4 then (if x4 ≤ x6 then (if x3 ≤ 0 then (if x4 = x6 then K249_165 x1 x2 x3 x4 d5 x6 (some (.inl x7)) d8 d9 (wS w s1) (r - 3) o else K249_205 (some (.inr (.inr (some 0)))) (some (.inl x1)) (some (.inl x2)) (some (.inl x3)) (some (.inl x4)) d5 (some (.inl x6)) (some (.inl x7)) d8 d9 (wS w s1) (r - 3) o) else K249_165 x1 x2 x3 x4 d5 x6 (some (.inl x7)) d8 d9 (wS w s1) (r - 3) o) else K249_205 (some (.inr (.inr (some 0)))) (some (.inl x1)) (some (.inl x2)) (some (.inl x3)) (some (.inl x4)) d5 (some (.inl x6)) (some (.inl x7)) d8 d9 (wS w s1) (r - 3) o) else K249_205 (some (.inr (.inr (some 0)))) (some (.inl x1)) (some (.inl x2)) (some (.inl x3)) (some (.inl x4)) d5 (some (.inl x6)) (some (.inl x7)) d8 d9 (wS w s1) (r - 3) o)))) : K249_130 x1 x2 x3 x4 d5 x6 x7 d8 d9 w r o := by
  show Lg 249 130 [(some (.inr (.inr (some 0)))), (some (.inl x1)), (some (.inl x2)), (some (.inl x3)), (some (.inl x4)), d5, (some (.inl x6)), (some (.inl x7)), d8, d9] [] w r o
  refine zq_iload 132 (show zop 249 130 = some (.iload 7, 2) by decide +kernel) rfl rfl ?_
  by_cases hc5 : x7 = 0
  · rw [if_pos hc5] at h
    refine zq_ifT 205 (show zop 249 132 = some (.ifCond .eq 73, 3) by decide +kernel) rfl (decide_eq_true hc5) ?_
    exact h
  · rw [if_neg hc5] at h
    refine zq_ifF 135 205 (show zop 249 132 = some (.ifCond .eq 73, 3) by decide +kernel) rfl rfl (decide_eq_false hc5) ?_
    refine zq_aload_n 136 (show zop 249 135 = some (.aload_n 0, 1) by decide +kernel) rfl rfl ?_
    refine zq_iload_n 137 (show zop 249 136 = some (.iload_n 1, 1) by decide +kernel) rfl rfl ?_
    refine zq_iload_n 138 (show zop 249 137 = some (.iload_n 2, 1) by decide +kernel) rfl rfl ?_
    refine zq_iload_n 139 (show zop 249 138 = some (.iload_n 3, 1) by decide +kernel) rfl rfl ?_
    obtain ⟨g4, h⟩ := h
    obtain ⟨v2, s1, hD3, h⟩ := h
    refine zq_vi (v := some (.inl v2)) (σ' := s1) (nj := 4) (j := 179) (c := 3) (t := []) (as := [(.inr (.inr (some 0))), (.inl x1), (.inl x2), (.inl x3)]) 142 [(.inl v2)] (show zop 249 139 = some (.invokevirtual 81, 3) by decide +kernel) (by decide +kernel) rfl (by decide +kernel) rfl rfl rfl rfl rfl rfl (by decide +kernel) (by decide +kernel) (clS_0 rfl) hD3 rfl g4 ?_
    refine zq_iload 144 (show zop 249 142 = some (.iload 4, 2) by decide +kernel) rfl rfl ?_
    by_cases hc6 : v2 = x4
    · rw [if_pos hc6] at h
      refine zq_icmpF 147 205 (show zop 249 144 = some (.if_icmp .ne 61, 3) by decide +kernel) rfl rfl (decide_eq_false (fun h9 => h9 hc6)) ?_
      refine zq_iload 149 (show zop 249 147 = some (.iload 4, 2) by decide +kernel) rfl rfl ?_
      refine zq_iload 151 (show zop 249 149 = some (.iload 6, 2) by decide +kernel) rfl rfl ?_
      by_cases hc7 : x4 ≤ x6
      · rw [if_pos hc7] at h
        refine zq_icmpF 154 205 (show zop 249 151 = some (.if_icmp .gt 54, 3) by decide +kernel) rfl rfl (decide_eq_false (Int.not_lt.mpr hc7)) ?_
        refine zq_iload_n 155 (show zop 249 154 = some (.iload_n 3, 1) by decide +kernel) rfl rfl ?_
        by_cases hc8 : x3 ≤ 0
        · rw [if_pos hc8] at h
          refine zq_ifF 158 165 (show zop 249 155 = some (.ifCond .gt 10, 3) by decide +kernel) rfl rfl (decide_eq_false (Int.not_lt.mpr hc8)) ?_
          refine zq_iload 160 (show zop 249 158 = some (.iload 4, 2) by decide +kernel) rfl rfl ?_
          refine zq_iload 162 (show zop 249 160 = some (.iload 6, 2) by decide +kernel) rfl rfl ?_
          by_cases hc9 : x4 = x6
          · rw [if_pos hc9] at h
            refine zq_icmpF 165 205 (show zop 249 162 = some (.if_icmp .ne 43, 3) by decide +kernel) rfl rfl (decide_eq_false (fun h9 => h9 hc9)) ?_
            exact h
          · rw [if_neg hc9] at h
            refine zq_icmpT 205 (show zop 249 162 = some (.if_icmp .ne 43, 3) by decide +kernel) rfl (decide_eq_true hc9) ?_
            exact h
        · rw [if_neg hc8] at h
          refine zq_ifT 165 (show zop 249 155 = some (.ifCond .gt 10, 3) by decide +kernel) rfl (decide_eq_true (Int.not_le.mp hc8)) ?_
          exact h
      · rw [if_neg hc7] at h
        refine zq_icmpT 205 (show zop 249 151 = some (.if_icmp .gt 54, 3) by decide +kernel) rfl (decide_eq_true (Int.not_le.mp hc7)) ?_
        exact h
    · rw [if_neg hc6] at h
      refine zq_icmpT 205 (show zop 249 144 = some (.if_icmp .ne 61, 3) by decide +kernel) rfl (decide_eq_true hc6) ?_
      exact h
theorem bK249_86 {x1 : Int} {x2 : Int} {x3 : Int} {x4 : Int} {x5 : Int} {x6 : Int} {d7 : Option AV} {x8 : Int} {x9 : Int} {w : WS} {r : Nat} {o : Ro} (h : K249_91 x1 x2 x3 x4 x5 x6 d7 x8 x9 1 w r o) : K249_86 x1 x2 x3 x4 x5 x6 d7 x8 x9 w r o := by
  show Lg 249 86 [(some (.inr (.inr (some 0)))), (some (.inl x1)), (some (.inl x2)), (some (.inl x3)), (some (.inl x4)), (some (.inl x5)), (some (.inl x6)), d7, (some (.inl x8)), (some (.inl x9))] [] w r o
  refine zq_iconst 87 (show zop 249 86 = some (.iconst 1, 1) by decide +kernel) rfl rfl ?_
  refine zq_goto 91 (show zop 249 87 = some (.goto 4, 3) by decide +kernel) rfl ?_
  exact h
theorem bK249_90 {x1 : Int} {x2 : Int} {x3 : Int} {x4 : Int} {x5 : Int} {x6 : Int} {d7 : Option AV} {x8 : Int} {x9 : Int} {w : WS} {r : Nat} {o : Ro} (h : K249_91 x1 x2 x3 x4 x5 x6 d7 x8 x9 0 w r o) : K249_90 x1 x2 x3 x4 x5 x6 d7 x8 x9 w r o := by
  show Lg 249 90 [(some (.inr (.inr (some 0)))), (some (.inl x1)), (some (.inl x2)), (some (.inl x3)), (some (.inl x4)), (some (.inl x5)), (some (.inl x6)), d7, (some (.inl x8)), (some (.inl x9))] [] w r o
  refine zq_iconst 91 (show zop 249 90 = some (.iconst 0, 1) by decide +kernel) rfl rfl ?_
  exact h
theorem bK249_205 {d0 : Option AV} {d1 : Option AV} {d2 : Option AV} {d3 : Option AV} {d4 : Option AV} {d5 : Option AV} {d6 : Option AV} {d7 : Option AV} {d8 : Option AV} {d9 : Option AV} {w : WS} {r : Nat} {o : Ro} (h : K249_206 d0 d1 d2 d3 d4 d5 d6 d7 d8 d9 0 w r o) : K249_205 d0 d1 d2 d3 d4 d5 d6 d7 d8 d9 w r o := by
  show Lg 249 205 [d0, d1, d2, d3, d4, d5, d6, d7, d8, d9] [] w r o
  refine zq_iconst 206 (show zop 249 205 = some (.iconst 0, 1) by decide +kernel) rfl rfl ?_
  exact h
theorem bK249_165 {x1 : Int} {x2 : Int} {x3 : Int} {x4 : Int} {d5 : Option AV} {x6 : Int} {d7 : Option AV} {d8 : Option AV} {d9 : Option AV} {w : WS} {r : Nat} {o : Ro} (h : (2 ≤ r) ∧ (∃ (v2 : Int) (s1 : Sg), Dc 180 [(.inr (.inr (some 0))), (.inl x1), (.inl x2)] w.2.2 (.inl (some (.inl v2))) s1 ∧ (if v2 = x6 then (2 ≤ (r - 2)) ∧ (∃ (v6 : Int) (s5 : Sg), Dc 180 [(.inr (.inr (some 0))), (.inl x2), (.inl x1)] (wS w s1).2.2 (.inl (some (.inl v6))) s5 ∧ (if v6 = x6 then (if x4 ≤ 0 then (if x3 ≤ 0 then (if x6 = 0 then K249_201 (some (.inr (.inr (some 0)))) (some (.inl x1)) (some (.inl x2)) (some (.inl x3)) (some (.inl x4)) d5 (some (.inl x6)) d7 d8 d9 (wS (wS w s1) s5) ((r - 2) - 2) o else K249_205 (some (.inr (.inr (some 0)))) (some (.inl x1)) (some (.inl x2)) (some (.inl x3)) (some (.inl x4)) d5 (some (.inl x6)) d7 d8 d9 (wS (wS w s1) s5) ((r - 2) - 2) o) else K249_201 (some (.inr (.inr (some 0)))) (some (.inl x1)) (some (.inl x2)) (some (.inl x3)) (some (.inl x4)) d5 (some (.inl x6)) d7 d8 d9 (wS (wS w s1) s5) ((r - 2) - 2) o) else K249_201 (some (.inr (.inr (some 0)))) (some (.inl x1)) (some (.inl x2)) (some (.inl x3)) (some (.inl x4)) d5 (some (.inl x6)) d7 d8 d9 (wS (wS w s1) s5) ((r - 2) - 2) o) else K249_205 (some (.inr (.inr (some 0)))) (some (.inl x1)) (some (.inl x2)) (some (.inl x3)) (some (.inl x4)) d5 (some (.inl x6)) d7 d8 d9 (wS (wS w s1) s5) ((r - 2) - 2) o)) else K249_205 (some (.inr (.inr (some 0)))) (some (.inl x1)) (some (.inl x2)) (some (.inl x3)) (some (.inl x4)) d5 (some (.inl x6)) d7 d8 d9 (wS w s1) (r - 2) o))) : K249_165 x1 x2 x3 x4 d5 x6 d7 d8 d9 w r o := by
  show Lg 249 165 [(some (.inr (.inr (some 0)))), (some (.inl x1)), (some (.inl x2)), (some (.inl x3)), (some (.inl x4)), d5, (some (.inl x6)), d7, d8, d9] [] w r o
  refine zq_aload_n 166 (show zop 249 165 = some (.aload_n 0, 1) by decide +kernel) rfl rfl ?_
  refine zq_iload_n 167 (show zop 249 166 = some (.iload_n 1, 1) by decide +kernel) rfl rfl ?_
  refine zq_iload_n 168 (show zop 249 167 = some (.iload_n 2, 1) by decide +kernel) rfl rfl ?_
  obtain ⟨g4, h⟩ := h
  obtain ⟨v2, s1, hD3, h⟩ := h
  refine zq_vi (v := some (.inl v2)) (σ' := s1) (nj := 3) (j := 180) (c := 2) (t := []) (as := [(.inr (.inr (some 0))), (.inl x1), (.inl x2)]) 171 [(.inl v2)] (show zop 249 168 = some (.invokevirtual 84, 3) by decide +kernel) (by decide +kernel) rfl (by decide +kernel) rfl rfl rfl rfl rfl rfl (by decide +kernel) (by decide +kernel) (clS_0 rfl) hD3 rfl g4 ?_
  refine zq_iload 173 (show zop 249 171 = some (.iload 6, 2) by decide +kernel) rfl rfl ?_
  by_cases hc9 : v2 = x6
  · rw [if_pos hc9] at h
    refine zq_icmpF 176 205 (show zop 249 173 = some (.if_icmp .ne 32, 3) by decide +kernel) rfl rfl (decide_eq_false (fun h9 => h9 hc9)) ?_
    refine zq_aload_n 177 (show zop 249 176 = some (.aload_n 0, 1) by decide +kernel) rfl rfl ?_
    refine zq_iload_n 178 (show zop 249 177 = some (.iload_n 2, 1) by decide +kernel) rfl rfl ?_
    refine zq_iload_n 179 (show zop 249 178 = some (.iload_n 1, 1) by decide +kernel) rfl rfl ?_
    obtain ⟨g8, h⟩ := h
    obtain ⟨v6, s5, hD7, h⟩ := h
    refine zq_vi (v := some (.inl v6)) (σ' := s5) (nj := 3) (j := 180) (c := 2) (t := []) (as := [(.inr (.inr (some 0))), (.inl x2), (.inl x1)]) 182 [(.inl v6)] (show zop 249 179 = some (.invokevirtual 84, 3) by decide +kernel) (by decide +kernel) rfl (by decide +kernel) rfl rfl rfl rfl rfl rfl (by decide +kernel) (by decide +kernel) (clS_0 rfl) hD7 rfl g8 ?_
    refine zq_iload 184 (show zop 249 182 = some (.iload 6, 2) by decide +kernel) rfl rfl ?_
    by_cases hc10 : v6 = x6
    · rw [if_pos hc10] at h
      refine zq_icmpF 187 205 (show zop 249 184 = some (.if_icmp .ne 21, 3) by decide +kernel) rfl rfl (decide_eq_false (fun h9 => h9 hc10)) ?_
      refine zq_iload 189 (show zop 249 187 = some (.iload 4, 2) by decide +kernel) rfl rfl ?_
      by_cases hc11 : x4 ≤ 0
      · rw [if_pos hc11] at h
        refine zq_ifF 192 201 (show zop 249 189 = some (.ifCond .gt 12, 3) by decide +kernel) rfl rfl (decide_eq_false (Int.not_lt.mpr hc11)) ?_
        refine zq_iload_n 193 (show zop 249 192 = some (.iload_n 3, 1) by decide +kernel) rfl rfl ?_
        by_cases hc12 : x3 ≤ 0
        · rw [if_pos hc12] at h
          refine zq_ifF 196 201 (show zop 249 193 = some (.ifCond .gt 8, 3) by decide +kernel) rfl rfl (decide_eq_false (Int.not_lt.mpr hc12)) ?_
          refine zq_iload 198 (show zop 249 196 = some (.iload 6, 2) by decide +kernel) rfl rfl ?_
          by_cases hc13 : x6 = 0
          · rw [if_pos hc13] at h
            refine zq_ifF 201 205 (show zop 249 198 = some (.ifCond .ne 7, 3) by decide +kernel) rfl rfl (decide_eq_false (fun h9 => h9 hc13)) ?_
            exact h
          · rw [if_neg hc13] at h
            refine zq_ifT 205 (show zop 249 198 = some (.ifCond .ne 7, 3) by decide +kernel) rfl (decide_eq_true hc13) ?_
            exact h
        · rw [if_neg hc12] at h
          refine zq_ifT 201 (show zop 249 193 = some (.ifCond .gt 8, 3) by decide +kernel) rfl (decide_eq_true (Int.not_le.mp hc12)) ?_
          exact h
      · rw [if_neg hc11] at h
        refine zq_ifT 201 (show zop 249 189 = some (.ifCond .gt 12, 3) by decide +kernel) rfl (decide_eq_true (Int.not_le.mp hc11)) ?_
        exact h
    · rw [if_neg hc10] at h
      refine zq_icmpT 205 (show zop 249 184 = some (.if_icmp .ne 21, 3) by decide +kernel) rfl (decide_eq_true hc10) ?_
      exact h
  · rw [if_neg hc9] at h
    refine zq_icmpT 205 (show zop 249 173 = some (.if_icmp .ne 32, 3) by decide +kernel) rfl (decide_eq_true hc9) ?_
    exact h
theorem bK249_91 {x1 : Int} {x2 : Int} {x3 : Int} {x4 : Int} {x5 : Int} {x6 : Int} {d7 : Option AV} {x8 : Int} {x9 : Int} {y0 : Int} {w : WS} {r : Nat} {o : Ro} (h : K249_106 x1 x2 x3 (some (.inl x4)) x5 x6 y0 x8 x9 x4 (if x9 = (-1) then 0 else 1) w r o) : K249_91 x1 x2 x3 x4 x5 x6 d7 x8 x9 y0 w r o := by
  show Lg 249 91 [(some (.inr (.inr (some 0)))), (some (.inl x1)), (some (.inl x2)), (some (.inl x3)), (some (.inl x4)), (some (.inl x5)), (some (.inl x6)), d7, (some (.inl x8)), (some (.inl x9))] [(.inl y0)] w r o
  refine zq_istore 93 [(some (.inr (.inr (some 0)))), (some (.inl x1)), (some (.inl x2)), (some (.inl x3)), (some (.inl x4)), (some (.inl x5)), (some (.inl x6)), (some (.inl y0)), (some (.inl x8)), (some (.inl x9))] (show zop 249 91 = some (.istore 7, 2) by decide +kernel) rfl rfl rfl ?_
  refine zq_iload 95 (show zop 249 93 = some (.iload 4, 2) by decide +kernel) rfl rfl ?_
  refine zq_iload 97 (show zop 249 95 = some (.iload 9, 2) by decide +kernel) rfl rfl ?_
  refine zq_iconst 98 (show zop 249 97 = some (.iconst (-1), 1) by decide +kernel) rfl rfl ?_
  by_cases hc1 : x9 = (-1)
  · refine zq_icmpF 101 105 (show zop 249 98 = some (.if_icmp .ne 7, 3) by decide +kernel) rfl rfl (decide_eq_false (fun h9 => h9 hc1)) ?_
    refine zq_iconst 102 (show zop 249 101 = some (.iconst 0, 1) by decide +kernel) rfl rfl ?_
    refine zq_goto 106 (show zop 249 102 = some (.goto 4, 3) by decide +kernel) rfl ?_
    have h9 := h; simp only [if_pos hc1] at h9; exact h9
  · refine zq_icmpT 105 (show zop 249 98 = some (.if_icmp .ne 7, 3) by decide +kernel) rfl (decide_eq_true hc1) ?_
    refine zq_iconst 106 (show zop 249 105 = some (.iconst 1, 1) by decide +kernel) rfl rfl ?_
    have h9 := h; simp only [if_neg hc1] at h9; exact h9
theorem bK249_206 {d0 : Option AV} {d1 : Option AV} {d2 : Option AV} {d3 : Option AV} {d4 : Option AV} {d5 : Option AV} {d6 : Option AV} {d7 : Option AV} {d8 : Option AV} {d9 : Option AV} {y0 : Int} {w : WS} {r : Nat} {o : Ro} (h : (y0 = 0 ∨ y0 = 1) ∧ o = (.inl (some (.inl y0)), w)) : K249_206 d0 d1 d2 d3 d4 d5 d6 d7 d8 d9 y0 w r o := by
  show Lg 249 206 [d0, d1, d2, d3, d4, d5, d6, d7, d8, d9] [(.inl y0)] w r o
  obtain ⟨g1, h⟩ := h
  exact (zq_zret (show zop 249 206 = some (.ireturn, 1) by decide +kernel) (by decide +kernel) g1 h)
theorem bK249_201 {d0 : Option AV} {d1 : Option AV} {d2 : Option AV} {d3 : Option AV} {d4 : Option AV} {d5 : Option AV} {d6 : Option AV} {d7 : Option AV} {d8 : Option AV} {d9 : Option AV} {w : WS} {r : Nat} {o : Ro} (h : K249_206 d0 d1 d2 d3 d4 d5 d6 d7 d8 d9 1 w r o) : K249_201 d0 d1 d2 d3 d4 d5 d6 d7 d8 d9 w r o := by
  show Lg 249 201 [d0, d1, d2, d3, d4, d5, d6, d7, d8, d9] [] w r o
  refine zq_iconst 202 (show zop 249 201 = some (.iconst 1, 1) by decide +kernel) rfl rfl ?_
  refine zq_goto 206 (show zop 249 202 = some (.goto 4, 3) by decide +kernel) rfl ?_
  exact h
theorem bK249_106 {x1 : Int} {x2 : Int} {x3 : Int} {d4 : Option AV} {x5 : Int} {x6 : Int} {x7 : Int} {x8 : Int} {x9 : Int} {y0 : Int} {y1 : Int} {w : WS} {r : Nat} {o : Ro} (h : (-2147483648 ≤ (y0 + y1) ∧ (y0 + y1) ≤ 2147483647) ∧ K249_122 x1 x2 x3 (y0 + y1) (some (.inl x5)) x6 x7 x8 (some (.inl x9)) (if x9 = (-1) then x5 else x9) w r o) : K249_106 x1 x2 x3 d4 x5 x6 x7 x8 x9 y0 y1 w r o := by
  show Lg 249 106 [(some (.inr (.inr (some 0)))), (some (.inl x1)), (some (.inl x2)), (some (.inl x3)), d4, (some (.inl x5)), (some (.inl x6)), (some (.inl x7)), (some (.inl x8)), (some (.inl x9))] [(.inl y1), (.inl y0)] w r o
  obtain ⟨g1, h⟩ := h
  refine zq_iadd 107 (show zop 249 106 = some (.iadd, 1) by decide +kernel) rfl g1 ?_
  refine zq_istore 109 [(some (.inr (.inr (some 0)))), (some (.inl x1)), (some (.inl x2)), (some (.inl x3)), (some (.inl (y0 + y1))), (some (.inl x5)), (some (.inl x6)), (some (.inl x7)), (some (.inl x8)), (some (.inl x9))] (show zop 249 107 = some (.istore 4, 2) by decide +kernel) rfl rfl rfl ?_
  refine zq_iload 111 (show zop 249 109 = some (.iload 9, 2) by decide +kernel) rfl rfl ?_
  refine zq_iconst 112 (show zop 249 111 = some (.iconst (-1), 1) by decide +kernel) rfl rfl ?_
  by_cases hc2 : x9 = (-1)
  · refine zq_icmpF 115 120 (show zop 249 112 = some (.if_icmp .ne 8, 3) by decide +kernel) rfl rfl (decide_eq_false (fun h9 => h9 hc2)) ?_
    refine zq_iload 117 (show zop 249 115 = some (.iload 5, 2) by decide +kernel) rfl rfl ?_
    refine zq_goto 122 (show zop 249 117 = some (.goto 5, 3) by decide +kernel) rfl ?_
    have h9 := h; simp only [if_pos hc2] at h9; exact h9
  · refine zq_icmpT 120 (show zop 249 112 = some (.if_icmp .ne 8, 3) by decide +kernel) rfl (decide_eq_true hc2) ?_
    refine zq_iload 122 (show zop 249 120 = some (.iload 9, 2) by decide +kernel) rfl rfl ?_
    have h9 := h; simp only [if_neg hc2] at h9; exact h9
theorem bK249_122 {x1 : Int} {x2 : Int} {x3 : Int} {x4 : Int} {d5 : Option AV} {x6 : Int} {x7 : Int} {x8 : Int} {d9 : Option AV} {y0 : Int} {w : WS} {r : Nat} {o : Ro} (h : (-2147483648 ≤ (x8 + 1) ∧ (x8 + 1) ≤ 2147483647) ∧ K249_20 x1 x2 x3 x4 y0 x6 x7 (x8 + 1) d9 w r o) : K249_122 x1 x2 x3 x4 d5 x6 x7 x8 d9 y0 w r o := by
  show Lg 249 122 [(some (.inr (.inr (some 0)))), (some (.inl x1)), (some (.inl x2)), (some (.inl x3)), (some (.inl x4)), d5, (some (.inl x6)), (some (.inl x7)), (some (.inl x8)), d9] [(.inl y0)] w r o
  refine zq_istore 124 [(some (.inr (.inr (some 0)))), (some (.inl x1)), (some (.inl x2)), (some (.inl x3)), (some (.inl x4)), (some (.inl y0)), (some (.inl x6)), (some (.inl x7)), (some (.inl x8)), d9] (show zop 249 122 = some (.istore 5, 2) by decide +kernel) rfl rfl rfl ?_
  obtain ⟨g1, h⟩ := h
  refine zq_iinc 127 [(some (.inr (.inr (some 0)))), (some (.inl x1)), (some (.inl x2)), (some (.inl x3)), (some (.inl x4)), (some (.inl y0)), (some (.inl x6)), (some (.inl x7)), (some (.inl (x8 + 1))), d9] (show zop 249 124 = some (.iinc 8 1, 3) by decide +kernel) rfl rfl g1 rfl ?_
  refine zq_goto 20 (show zop 249 127 = some (.goto (-107), 3) by decide +kernel) rfl ?_
  exact h
/-- PatchBenchLaw.isCompared (LPatchBench;III)Z -/
theorem lb249 {x1 : Int} {x2 : Int} {x3 : Int} {w : WS} {o : Ro} (h : (1600 ≤ 1800) ∧ (∃ (v2 : Int) (w1 : WS), Lx 248 [(.inr (.inr (some 0))), (.inl x1), (.inl x2)] w (.inl (some (.inl v2)), w1) ∧ K249_20 x1 x2 x3 0 (-1) v2 1 0 none w1 (1800 - 1600) o)) : Lx 249 [(.inr (.inr (some 0))), (.inl x1), (.inl x2), (.inl x3)] w o := by
  refine Lx_of (l := 10) (r := 1800) (by decide +kernel) (by decide +kernel) ?_
  show Lg 249 0 [(some (.inr (.inr (some 0)))), (some (.inl x1)), (some (.inl x2)), (some (.inl x3)), none, none, none, none, none, none] [] w 1800 o
  refine zq_iconst 1 (show zop 249 0 = some (.iconst 0, 1) by decide +kernel) rfl rfl ?_
  refine zq_istore 3 [(some (.inr (.inr (some 0)))), (some (.inl x1)), (some (.inl x2)), (some (.inl x3)), (some (.inl 0)), none, none, none, none, none] (show zop 249 1 = some (.istore 4, 2) by decide +kernel) rfl rfl rfl ?_
  refine zq_iconst 4 (show zop 249 3 = some (.iconst (-1), 1) by decide +kernel) rfl rfl ?_
  refine zq_istore 6 [(some (.inr (.inr (some 0)))), (some (.inl x1)), (some (.inl x2)), (some (.inl x3)), (some (.inl 0)), (some (.inl (-1))), none, none, none, none] (show zop 249 4 = some (.istore 5, 2) by decide +kernel) rfl rfl rfl ?_
  refine zq_aload_n 7 (show zop 249 6 = some (.aload_n 0, 1) by decide +kernel) rfl rfl ?_
  refine zq_iload_n 8 (show zop 249 7 = some (.iload_n 1, 1) by decide +kernel) rfl rfl ?_
  refine zq_iload_n 9 (show zop 249 8 = some (.iload_n 2, 1) by decide +kernel) rfl rfl ?_
  obtain ⟨g4, h⟩ := h
  obtain ⟨v2, w1, hD3, h⟩ := h
  refine zq_lx (v := some (.inl v2)) (w' := w1) (nj := 3) (j := 248) (c := 1600) (t := []) (as := [(.inr (.inr (some 0))), (.inl x1), (.inl x2)]) 12 [(.inl v2)] (show zop 249 9 = some (.invokestatic 73, 3) by decide +kernel) (by decide +kernel) rfl (by decide +kernel) (by decide +kernel) rfl rfl rfl rfl rfl hD3 rfl g4 ?_
  refine zq_istore 14 [(some (.inr (.inr (some 0)))), (some (.inl x1)), (some (.inl x2)), (some (.inl x3)), (some (.inl 0)), (some (.inl (-1))), (some (.inl v2)), none, none, none] (show zop 249 12 = some (.istore 6, 2) by decide +kernel) rfl rfl rfl ?_
  refine zq_iconst 15 (show zop 249 14 = some (.iconst 1, 1) by decide +kernel) rfl rfl ?_
  refine zq_istore 17 [(some (.inr (.inr (some 0)))), (some (.inl x1)), (some (.inl x2)), (some (.inl x3)), (some (.inl 0)), (some (.inl (-1))), (some (.inl v2)), (some (.inl 1)), none, none] (show zop 249 15 = some (.istore 7, 2) by decide +kernel) rfl rfl rfl ?_
  refine zq_iconst 18 (show zop 249 17 = some (.iconst 0, 1) by decide +kernel) rfl rfl ?_
  refine zq_istore 20 [(some (.inr (.inr (some 0)))), (some (.inl x1)), (some (.inl x2)), (some (.inl x3)), (some (.inl 0)), (some (.inl (-1))), (some (.inl v2)), (some (.inl 1)), (some (.inl 0)), none] (show zop 249 18 = some (.istore 8, 2) by decide +kernel) rfl rfl rfl ?_
  exact h
def K250_2 (x1 : Int) (x2 : Int) (x3 : Int) (w : WS) (r : Nat) (o : Ro) : Prop := Lg 250 2 [(some (.inr (.inr (some 0)))), (some (.inl x1)), (some (.inl x2)), (some (.inl x3))] [] w r o
theorem bK250_2 {x1 : Int} {x2 : Int} {x3 : Int} {w : WS} {r : Nat} {o : Ro} (h : (2 ≤ r) ∧ (∃ (v2 : Int) (s1 : Sg), Dc 188 [(.inr (.inr (some 0))), (.inl x1), (.inl x2), (.inl x3)] w.2.2 (.inl (some (.inl v2))) s1 ∧ (if v2 = (-1) then o = (.inl (some (.inl x3)), (wS w s1)) else (-2147483648 ≤ (x3 + 1) ∧ (x3 + 1) ≤ 2147483647) ∧ K250_2 x1 x2 (x3 + 1) (wS w s1) (r - 2) o))) : K250_2 x1 x2 x3 w r o := by
  show Lg 250 2 [(some (.inr (.inr (some 0)))), (some (.inl x1)), (some (.inl x2)), (some (.inl x3))] [] w r o
  refine zq_aload_n 3 (show zop 250 2 = some (.aload_n 0, 1) by decide +kernel) rfl rfl ?_
  refine zq_iload_n 4 (show zop 250 3 = some (.iload_n 1, 1) by decide +kernel) rfl rfl ?_
  refine zq_iload_n 5 (show zop 250 4 = some (.iload_n 2, 1) by decide +kernel) rfl rfl ?_
  refine zq_iload_n 6 (show zop 250 5 = some (.iload_n 3, 1) by decide +kernel) rfl rfl ?_
  obtain ⟨g4, h⟩ := h
  obtain ⟨v2, s1, hD3, h⟩ := h
  refine zq_vi (v := some (.inl v2)) (σ' := s1) (nj := 4) (j := 188) (c := 2) (t := []) (as := [(.inr (.inr (some 0))), (.inl x1), (.inl x2), (.inl x3)]) 9 [(.inl v2)] (show zop 250 6 = some (.invokevirtual 87, 3) by decide +kernel) (by decide +kernel) rfl (by decide +kernel) rfl rfl rfl rfl rfl rfl (by decide +kernel) (by decide +kernel) (clS_0 rfl) hD3 rfl g4 ?_
  refine zq_iconst 10 (show zop 250 9 = some (.iconst (-1), 1) by decide +kernel) rfl rfl ?_
  by_cases hc6 : v2 = (-1)
  · rw [if_pos hc6] at h
    refine zq_icmpT 19 (show zop 250 10 = some (.if_icmp .eq 9, 3) by decide +kernel) rfl (decide_eq_true hc6) ?_
    refine zq_iload_n 20 (show zop 250 19 = some (.iload_n 3, 1) by decide +kernel) rfl rfl ?_
    exact (zq_iret (show zop 250 20 = some (.ireturn, 1) by decide +kernel) (by decide +kernel) h)
  · rw [if_neg hc6] at h
    refine zq_icmpF 13 19 (show zop 250 10 = some (.if_icmp .eq 9, 3) by decide +kernel) rfl rfl (decide_eq_false hc6) ?_
    obtain ⟨g5, h⟩ := h
    refine zq_iinc 16 [(some (.inr (.inr (some 0)))), (some (.inl x1)), (some (.inl x2)), (some (.inl (x3 + 1)))] (show zop 250 13 = some (.iinc 3 1, 3) by decide +kernel) rfl rfl g5 rfl ?_
    refine zq_goto 2 (show zop 250 16 = some (.goto (-14), 3) by decide +kernel) rfl ?_
    exact h
/-- PatchBenchLaw.sizeOf (LPatchBench;IZ)I -/
theorem lb250 {x1 : Int} {x2 : Int} {w : WS} {o : Ro} (h : K250_2 x1 x2 0 w 40 o) : Lx 250 [(.inr (.inr (some 0))), (.inl x1), (.inl x2)] w o := by
  refine Lx_of (l := 4) (r := 40) (by decide +kernel) (by decide +kernel) ?_
  show Lg 250 0 [(some (.inr (.inr (some 0)))), (some (.inl x1)), (some (.inl x2)), none] [] w 40 o
  refine zq_iconst 1 (show zop 250 0 = some (.iconst 0, 1) by decide +kernel) rfl rfl ?_
  refine zq_istore_n 2 [(some (.inr (.inr (some 0)))), (some (.inl x1)), (some (.inl x2)), (some (.inl 0))] (show zop 250 1 = some (.istore_n 3, 1) by decide +kernel) rfl rfl rfl ?_
  exact h
def K251_19 (x1 : Int) (x2 : Int) (x3 : Int) (d4 : Option AV) (d5 : Option AV) (y0 : Int) (w : WS) (r : Nat) (o : Ro) : Prop := Lg 251 19 [(some (.inr (.inr (some 0)))), (some (.inl x1)), (some (.inl x2)), (some (.inl x3)), d4, d5] [(.inl y0)] w r o
def K251_24 (x1 : Int) (x2 : Int) (x3 : Int) (x4 : Int) (x5 : Int) (w : WS) (r : Nat) (o : Ro) : Prop := Lg 251 24 [(some (.inr (.inr (some 0)))), (some (.inl x1)), (some (.inl x2)), (some (.inl x3)), (some (.inl x4)), (some (.inl x5))] [] w r o
def K251_70 (d0 : Option AV) (d1 : Option AV) (d2 : Option AV) (d3 : Option AV) (x4 : Int) (d5 : Option AV) (w : WS) (r : Nat) (o : Ro) : Prop := Lg 251 70 [d0, d1, d2, d3, (some (.inl x4)), d5] [] w r o
def K251_62 (x1 : Int) (x2 : Int) (x3 : Int) (d4 : Option AV) (x5 : Int) (y0 : Int) (w : WS) (r : Nat) (o : Ro) : Prop := Lg 251 62 [(some (.inr (.inr (some 0)))), (some (.inl x1)), (some (.inl x2)), (some (.inl x3)), d4, (some (.inl x5))] [(.inl y0)] w r o
theorem bK251_19 {x1 : Int} {x2 : Int} {x3 : Int} {d4 : Option AV} {d5 : Option AV} {y0 : Int} {w : WS} {r : Nat} {o : Ro} (h : K251_24 x1 x2 x3 y0 0 w r o) : K251_19 x1 x2 x3 d4 d5 y0 w r o := by
  show Lg 251 19 [(some (.inr (.inr (some 0)))), (some (.inl x1)), (some (.inl x2)), (some (.inl x3)), d4, d5] [(.inl y0)] w r o
  refine zq_istore 21 [(some (.inr (.inr (some 0)))), (some (.inl x1)), (some (.inl x2)), (some (.inl x3)), (some (.inl y0)), d5] (show zop 251 19 = some (.istore 4, 2) by decide +kernel) rfl rfl rfl ?_
  refine zq_iconst 22 (show zop 251 21 = some (.iconst 0, 1) by decide +kernel) rfl rfl ?_
  refine zq_istore 24 [(some (.inr (.inr (some 0)))), (some (.inl x1)), (some (.inl x2)), (some (.inl x3)), (some (.inl y0)), (some (.inl 0))] (show zop 251 22 = some (.istore 5, 2) by decide +kernel) rfl rfl rfl ?_
  exact h
theorem bK251_24 {x1 : Int} {x2 : Int} {x3 : Int} {x4 : Int} {x5 : Int} {w : WS} {r : Nat} {o : Ro} (h : (1 ≤ r) ∧ (∃ (v2 : Int) (s1 : Sg), Dc 175 [(.inr (.inr (some 0))), (.inl x3)] w.2.2 (.inl (some (.inl v2))) s1 ∧ (if x5 < v2 then (if x4 = 0 then K251_70 (some (.inr (.inr (some 0)))) (some (.inl x1)) (some (.inl x2)) (some (.inl x3)) x4 (some (.inl x5)) (wS w s1) (r - 1) o else (2 ≤ (r - 1)) ∧ (∃ (v6 : Int) (s5 : Sg), Dc 188 [(.inr (.inr (some 0))), (.inl x1), (.inl x2), (.inl x5)] (wS w s1).2.2 (.inl (some (.inl v6))) s5 ∧ (2 ≤ ((r - 1) - 2)) ∧ (∃ (v10 : Int) (s9 : Sg), Dc 176 [(.inr (.inr (some 0))), (.inl x3), (.inl x5)] (wS (wS w s1) s5).2.2 (.inl (some (.inl v10))) s9 ∧ K251_62 x1 x2 x3 (some (.inl x4)) x5 (if v6 = v10 then 1 else 0) (wS (wS (wS w s1) s5) s9) (((r - 1) - 2) - 2) o))) else K251_70 (some (.inr (.inr (some 0)))) (some (.inl x1)) (some (.inl x2)) (some (.inl x3)) x4 (some (.inl x5)) (wS w s1) (r - 1) o))) : K251_24 x1 x2 x3 x4 x5 w r o := by
  show Lg 251 24 [(some (.inr (.inr (some 0)))), (some (.inl x1)), (some (.inl x2)), (some (.inl x3)), (some (.inl x4)), (some (.inl x5))] [] w r o
  refine zq_iload 26 (show zop 251 24 = some (.iload 5, 2) by decide +kernel) rfl rfl ?_
  refine zq_aload_n 27 (show zop 251 26 = some (.aload_n 0, 1) by decide +kernel) rfl rfl ?_
  refine zq_iload_n 28 (show zop 251 27 = some (.iload_n 3, 1) by decide +kernel) rfl rfl ?_
  obtain ⟨g4, h⟩ := h
  obtain ⟨v2, s1, hD3, h⟩ := h
  refine zq_vi (v := some (.inl v2)) (σ' := s1) (nj := 2) (j := 175) (c := 1) (t := [(.inl x5)]) (as := [(.inr (.inr (some 0))), (.inl x3)]) 31 [(.inl v2), (.inl x5)] (show zop 251 28 = some (.invokevirtual 10, 3) by decide +kernel) (by decide +kernel) rfl (by decide +kernel) rfl rfl rfl rfl rfl rfl (by decide +kernel) (by decide +kernel) (clS_0 rfl) hD3 rfl g4 ?_
  by_cases hc13 : x5 < v2
  · rw [if_pos hc13] at h
    refine zq_icmpF 34 70 (show zop 251 31 = some (.if_icmp .ge 39, 3) by decide +kernel) rfl rfl (decide_eq_false (Int.not_le.mpr hc13)) ?_
    refine zq_iload 36 (show zop 251 34 = some (.iload 4, 2) by decide +kernel) rfl rfl ?_
    by_cases hc14 : x4 = 0
    · rw [if_pos hc14] at h
      refine zq_ifT 70 (show zop 251 36 = some (.ifCond .eq 34, 3) by decide +kernel) rfl (decide_eq_true hc14) ?_
      exact h
    · rw [if_neg hc14] at h
      refine zq_ifF 39 70 (show zop 251 36 = some (.ifCond .eq 34, 3) by decide +kernel) rfl rfl (decide_eq_false hc14) ?_
      refine zq_aload_n 40 (show zop 251 39 = some (.aload_n 0, 1) by decide +kernel) rfl rfl ?_
      refine zq_iload_n 41 (show zop 251 40 = some (.iload_n 1, 1) by decide +kernel) rfl rfl ?_
      refine zq_iload_n 42 (show zop 251 41 = some (.iload_n 2, 1) by decide +kernel) rfl rfl ?_
      refine zq_iload 44 (show zop 251 42 = some (.iload 5, 2) by decide +kernel) rfl rfl ?_
      obtain ⟨g8, h⟩ := h
      obtain ⟨v6, s5, hD7, h⟩ := h
      refine zq_vi (v := some (.inl v6)) (σ' := s5) (nj := 4) (j := 188) (c := 2) (t := []) (as := [(.inr (.inr (some 0))), (.inl x1), (.inl x2), (.inl x5)]) 47 [(.inl v6)] (show zop 251 44 = some (.invokevirtual 87, 3) by decide +kernel) (by decide +kernel) rfl (by decide +kernel) rfl rfl rfl rfl rfl rfl (by decide +kernel) (by decide +kernel) (clS_0 rfl) hD7 rfl g8 ?_
      refine zq_aload_n 48 (show zop 251 47 = some (.aload_n 0, 1) by decide +kernel) rfl rfl ?_
      refine zq_iload_n 49 (show zop 251 48 = some (.iload_n 3, 1) by decide +kernel) rfl rfl ?_
      refine zq_iload 51 (show zop 251 49 = some (.iload 5, 2) by decide +kernel) rfl rfl ?_
      obtain ⟨g12, h⟩ := h
      obtain ⟨v10, s9, hD11, h⟩ := h
      refine zq_vi (v := some (.inl v10)) (σ' := s9) (nj := 3) (j := 176) (c := 2) (t := [(.inl v6)]) (as := [(.inr (.inr (some 0))), (.inl x3), (.inl x5)]) 54 [(.inl v10), (.inl v6)] (show zop 251 51 = some (.invokevirtual 29, 3) by decide +kernel) (by decide +kernel) rfl (by decide +kernel) rfl rfl rfl rfl rfl rfl (by decide +kernel) (by decide +kernel) (clS_0 rfl) hD11 rfl g12 ?_
      by_cases hc15 : v6 = v10
      · refine zq_icmpF 57 61 (show zop 251 54 = some (.if_icmp .ne 7, 3) by decide +kernel) rfl rfl (decide_eq_false (fun h9 => h9 hc15)) ?_
        refine zq_iconst 58 (show zop 251 57 = some (.iconst 1, 1) by decide +kernel) rfl rfl ?_
        refine zq_goto 62 (show zop 251 58 = some (.goto 4, 3) by decide +kernel) rfl ?_
        have h9 := h; simp only [if_pos hc15] at h9; exact h9
      · refine zq_icmpT 61 (show zop 251 54 = some (.if_icmp .ne 7, 3) by decide +kernel) rfl (decide_eq_true hc15) ?_
        refine zq_iconst 62 (show zop 251 61 = some (.iconst 0, 1) by decide +kernel) rfl rfl ?_
        have h9 := h; simp only [if_neg hc15] at h9; exact h9
  · rw [if_neg hc13] at h
    refine zq_icmpT 70 (show zop 251 31 = some (.if_icmp .ge 39, 3) by decide +kernel) rfl (decide_eq_true (Int.not_lt.mp hc13)) ?_
    exact h
theorem bK251_70 {d0 : Option AV} {d1 : Option AV} {d2 : Option AV} {d3 : Option AV} {x4 : Int} {d5 : Option AV} {w : WS} {r : Nat} {o : Ro} (h : (x4 = 0 ∨ x4 = 1) ∧ o = (.inl (some (.inl x4)), w)) : K251_70 d0 d1 d2 d3 x4 d5 w r o := by
  show Lg 251 70 [d0, d1, d2, d3, (some (.inl x4)), d5] [] w r o
  refine zq_iload 72 (show zop 251 70 = some (.iload 4, 2) by decide +kernel) rfl rfl ?_
  obtain ⟨g1, h⟩ := h
  exact (zq_zret (show zop 251 72 = some (.ireturn, 1) by decide +kernel) (by decide +kernel) g1 h)
theorem bK251_62 {x1 : Int} {x2 : Int} {x3 : Int} {d4 : Option AV} {x5 : Int} {y0 : Int} {w : WS} {r : Nat} {o : Ro} (h : (-2147483648 ≤ (x5 + 1) ∧ (x5 + 1) ≤ 2147483647) ∧ K251_24 x1 x2 x3 y0 (x5 + 1) w r o) : K251_62 x1 x2 x3 d4 x5 y0 w r o := by
  show Lg 251 62 [(some (.inr (.inr (some 0)))), (some (.inl x1)), (some (.inl x2)), (some (.inl x3)), d4, (some (.inl x5))] [(.inl y0)] w r o
  refine zq_istore 64 [(some (.inr (.inr (some 0)))), (some (.inl x1)), (some (.inl x2)), (some (.inl x3)), (some (.inl y0)), (some (.inl x5))] (show zop 251 62 = some (.istore 4, 2) by decide +kernel) rfl rfl rfl ?_
  obtain ⟨g1, h⟩ := h
  refine zq_iinc 67 [(some (.inr (.inr (some 0)))), (some (.inl x1)), (some (.inl x2)), (some (.inl x3)), (some (.inl y0)), (some (.inl (x5 + 1)))] (show zop 251 64 = some (.iinc 5 1, 3) by decide +kernel) rfl rfl g1 rfl ?_
  refine zq_goto 24 (show zop 251 67 = some (.goto (-43), 3) by decide +kernel) rfl ?_
  exact h
/-- PatchBenchLaw.isTextOf (LPatchBench;IZI)Z -/
theorem lb251 {x1 : Int} {x2 : Int} {x3 : Int} {w : WS} {o : Ro} (h : (40 ≤ 150) ∧ (∃ (v2 : Int) (w1 : WS), Lx 250 [(.inr (.inr (some 0))), (.inl x1), (.inl x2)] w (.inl (some (.inl v2)), w1) ∧ (1 ≤ (150 - 40)) ∧ (∃ (v6 : Int) (s5 : Sg), Dc 175 [(.inr (.inr (some 0))), (.inl x3)] w1.2.2 (.inl (some (.inl v6))) s5 ∧ K251_19 x1 x2 x3 none none (if v2 = v6 then 1 else 0) (wS w1 s5) ((150 - 40) - 1) o))) : Lx 251 [(.inr (.inr (some 0))), (.inl x1), (.inl x2), (.inl x3)] w o := by
  refine Lx_of (l := 6) (r := 150) (by decide +kernel) (by decide +kernel) ?_
  show Lg 251 0 [(some (.inr (.inr (some 0)))), (some (.inl x1)), (some (.inl x2)), (some (.inl x3)), none, none] [] w 150 o
  refine zq_aload_n 1 (show zop 251 0 = some (.aload_n 0, 1) by decide +kernel) rfl rfl ?_
  refine zq_iload_n 2 (show zop 251 1 = some (.iload_n 1, 1) by decide +kernel) rfl rfl ?_
  refine zq_iload_n 3 (show zop 251 2 = some (.iload_n 2, 1) by decide +kernel) rfl rfl ?_
  obtain ⟨g4, h⟩ := h
  obtain ⟨v2, w1, hD3, h⟩ := h
  refine zq_lx (v := some (.inl v2)) (w' := w1) (nj := 3) (j := 250) (c := 40) (t := []) (as := [(.inr (.inr (some 0))), (.inl x1), (.inl x2)]) 6 [(.inl v2)] (show zop 251 3 = some (.invokestatic 91, 3) by decide +kernel) (by decide +kernel) rfl (by decide +kernel) (by decide +kernel) rfl rfl rfl rfl rfl hD3 rfl g4 ?_
  refine zq_aload_n 7 (show zop 251 6 = some (.aload_n 0, 1) by decide +kernel) rfl rfl ?_
  refine zq_iload_n 8 (show zop 251 7 = some (.iload_n 3, 1) by decide +kernel) rfl rfl ?_
  obtain ⟨g8, h⟩ := h
  obtain ⟨v6, s5, hD7, h⟩ := h
  refine zq_vi (v := some (.inl v6)) (σ' := s5) (nj := 2) (j := 175) (c := 1) (t := [(.inl v2)]) (as := [(.inr (.inr (some 0))), (.inl x3)]) 11 [(.inl v6), (.inl v2)] (show zop 251 8 = some (.invokevirtual 10, 3) by decide +kernel) (by decide +kernel) rfl (by decide +kernel) rfl rfl rfl rfl rfl rfl (by decide +kernel) (by decide +kernel) (clS_0 rfl) hD7 rfl g8 ?_
  by_cases hc9 : v2 = v6
  · refine zq_icmpF 14 18 (show zop 251 11 = some (.if_icmp .ne 7, 3) by decide +kernel) rfl rfl (decide_eq_false (fun h9 => h9 hc9)) ?_
    refine zq_iconst 15 (show zop 251 14 = some (.iconst 1, 1) by decide +kernel) rfl rfl ?_
    refine zq_goto 19 (show zop 251 15 = some (.goto 4, 3) by decide +kernel) rfl ?_
    have h9 := h; simp only [if_pos hc9] at h9; exact h9
  · refine zq_icmpT 18 (show zop 251 11 = some (.if_icmp .ne 7, 3) by decide +kernel) rfl (decide_eq_true hc9) ?_
    refine zq_iconst 19 (show zop 251 18 = some (.iconst 0, 1) by decide +kernel) rfl rfl ?_
    have h9 := h; simp only [if_neg hc9] at h9; exact h9
def K252_21 (x1 : Int) (x2 : Int) (x3 : Int) (x4 : Int) (d5 : Option AV) (d6 : Option AV) (y0 : Int) (w : WS) (r : Nat) (o : Ro) : Prop := Lg 252 21 [(some (.inr (.inr (some 0)))), (some (.inl x1)), (some (.inl x2)), (some (.inl x3)), (some (.inl x4)), d5, d6] [(.inl y0)] w r o
def K252_26 (x1 : Int) (x2 : Int) (x3 : Int) (x4 : Int) (x5 : Int) (x6 : Int) (w : WS) (r : Nat) (o : Ro) : Prop := Lg 252 26 [(some (.inr (.inr (some 0)))), (some (.inl x1)), (some (.inl x2)), (some (.inl x3)), (some (.inl x4)), (some (.inl x5)), (some (.inl x6))] [] w r o
def K252_76 (d0 : Option AV) (d1 : Option AV) (d2 : Option AV) (d3 : Option AV) (d4 : Option AV) (x5 : Int) (d6 : Option AV) (w : WS) (r : Nat) (o : Ro) : Prop := Lg 252 76 [d0, d1, d2, d3, d4, (some (.inl x5)), d6] [] w r o
def K252_68 (x1 : Int) (x2 : Int) (x3 : Int) (x4 : Int) (d5 : Option AV) (x6 : Int) (y0 : Int) (w : WS) (r : Nat) (o : Ro) : Prop := Lg 252 68 [(some (.inr (.inr (some 0)))), (some (.inl x1)), (some (.inl x2)), (some (.inl x3)), (some (.inl x4)), d5, (some (.inl x6))] [(.inl y0)] w r o
theorem bK252_21 {x1 : Int} {x2 : Int} {x3 : Int} {x4 : Int} {d5 : Option AV} {d6 : Option AV} {y0 : Int} {w : WS} {r : Nat} {o : Ro} (h : K252_26 x1 x2 x3 x4 y0 0 w r o) : K252_21 x1 x2 x3 x4 d5 d6 y0 w r o := by
  show Lg 252 21 [(some (.inr (.inr (some 0)))), (some (.inl x1)), (some (.inl x2)), (some (.inl x3)), (some (.inl x4)), d5, d6] [(.inl y0)] w r o
  refine zq_istore 23 [(some (.inr (.inr (some 0)))), (some (.inl x1)), (some (.inl x2)), (some (.inl x3)), (some (.inl x4)), (some (.inl y0)), d6] (show zop 252 21 = some (.istore 5, 2) by decide +kernel) rfl rfl rfl ?_
  refine zq_iconst 24 (show zop 252 23 = some (.iconst 0, 1) by decide +kernel) rfl rfl ?_
  refine zq_istore 26 [(some (.inr (.inr (some 0)))), (some (.inl x1)), (some (.inl x2)), (some (.inl x3)), (some (.inl x4)), (some (.inl y0)), (some (.inl 0))] (show zop 252 24 = some (.istore 6, 2) by decide +kernel) rfl rfl rfl ?_
  exact h
theorem bK252_26 {x1 : Int} {x2 : Int} {x3 : Int} {x4 : Int} {x5 : Int} {x6 : Int} {w : WS} {r : Nat} {o : Ro} (h : (if x5 = 0 then K252_76 (some (.inr (.inr (some 0)))) (some (.inl x1)) (some (.inl x2)) (some (.inl x3)) (some (.inl x4)) x5 (some (.inl x6)) w r o else (2 ≤ r) ∧ (∃ (v2 : Int) (s1 : Sg), Dc 188 [(.inr (.inr (some 0))), (.inl x1), (.inl x2), (.inl x6)] w.2.2 (.inl (some (.inl v2))) s1 ∧ (if v2 = (-1) then K252_76 (some (.inr (.inr (some 0)))) (some (.inl x1)) (some (.inl x2)) (some (.inl x3)) (some (.inl x4)) x5 (some (.inl x6)) (wS w s1) (r - 2) o else (2 ≤ (r - 2)) ∧ (∃ (v6 : Int) (s5 : Sg), Dc 188 [(.inr (.inr (some 0))), (.inl x1), (.inl x2), (.inl x6)] (wS w s1).2.2 (.inl (some (.inl v6))) s5 ∧ (2 ≤ ((r - 2) - 2)) ∧ (∃ (v10 : Int) (s9 : Sg), Dc 188 [(.inr (.inr (some 0))), (.inl x3), (.inl x4), (.inl x6)] (wS (wS w s1) s5).2.2 (.inl (some (.inl v10))) s9 ∧ K252_68 x1 x2 x3 x4 (some (.inl x5)) x6 (if v6 = v10 then 1 else 0) (wS (wS (wS w s1) s5) s9) (((r - 2) - 2) - 2) o)))))) : K252_26 x1 x2 x3 x4 x5 x6 w r o := by
  show Lg 252 26 [(some (.inr (.inr (some 0)))), (some (.inl x1)), (some (.inl x2)), (some (.inl x3)), (some (.inl x4)), (some (.inl x5)), (some (.inl x6))] [] w r o
  refine zq_iload 28 (show zop 252 26 = some (.iload 5, 2) by decide +kernel) rfl rfl ?_
  by_cases hc13 : x5 = 0
  · rw [if_pos hc13] at h
    refine zq_ifT 76 (show zop 252 28 = some (.ifCond .eq 48, 3) by decide +kernel) rfl (decide_eq_true hc13) ?_
    exact h
  · rw [if_neg hc13] at h
    refine zq_ifF 31 76 (show zop 252 28 = some (.ifCond .eq 48, 3) by decide +kernel) rfl rfl (decide_eq_false hc13) ?_
    refine zq_aload_n 32 (show zop 252 31 = some (.aload_n 0, 1) by decide +kernel) rfl rfl ?_
    refine zq_iload_n 33 (show zop 252 32 = some (.iload_n 1, 1) by decide +kernel) rfl rfl ?_
    refine zq_iload_n 34 (show zop 252 33 = some (.iload_n 2, 1) by decide +kernel) rfl rfl ?_
    refine zq_iload 36 (show zop 252 34 = some (.iload 6, 2) by decide +kernel) rfl rfl ?_
    obtain ⟨g4, h⟩ := h
    obtain ⟨v2, s1, hD3, h⟩ := h
    refine zq_vi (v := some (.inl v2)) (σ' := s1) (nj := 4) (j := 188) (c := 2) (t := []) (as := [(.inr (.inr (some 0))), (.inl x1), (.inl x2), (.inl x6)]) 39 [(.inl v2)] (show zop 252 36 = some (.invokevirtual 87, 3) by decide +kernel) (by decide +kernel) rfl (by decide +kernel) rfl rfl rfl rfl rfl rfl (by decide +kernel) (by decide +kernel) (clS_0 rfl) hD3 rfl g4 ?_
    refine zq_iconst 40 (show zop 252 39 = some (.iconst (-1), 1) by decide +kernel) rfl rfl ?_
    by_cases hc14 : v2 = (-1)
    · rw [if_pos hc14] at h
      refine zq_icmpT 76 (show zop 252 40 = some (.if_icmp .eq 36, 3) by decide +kernel) rfl (decide_eq_true hc14) ?_
      exact h
    · rw [if_neg hc14] at h
      refine zq_icmpF 43 76 (show zop 252 40 = some (.if_icmp .eq 36, 3) by decide +kernel) rfl rfl (decide_eq_false hc14) ?_
      refine zq_aload_n 44 (show zop 252 43 = some (.aload_n 0, 1) by decide +kernel) rfl rfl ?_
      refine zq_iload_n 45 (show zop 252 44 = some (.iload_n 1, 1) by decide +kernel) rfl rfl ?_
      refine zq_iload_n 46 (show zop 252 45 = some (.iload_n 2, 1) by decide +kernel) rfl rfl ?_
      refine zq_iload 48 (show zop 252 46 = some (.iload 6, 2) by decide +kernel) rfl rfl ?_
      obtain ⟨g8, h⟩ := h
      obtain ⟨v6, s5, hD7, h⟩ := h
      refine zq_vi (v := some (.inl v6)) (σ' := s5) (nj := 4) (j := 188) (c := 2) (t := []) (as := [(.inr (.inr (some 0))), (.inl x1), (.inl x2), (.inl x6)]) 51 [(.inl v6)] (show zop 252 48 = some (.invokevirtual 87, 3) by decide +kernel) (by decide +kernel) rfl (by decide +kernel) rfl rfl rfl rfl rfl rfl (by decide +kernel) (by decide +kernel) (clS_0 rfl) hD7 rfl g8 ?_
      refine zq_aload_n 52 (show zop 252 51 = some (.aload_n 0, 1) by decide +kernel) rfl rfl ?_
      refine zq_iload_n 53 (show zop 252 52 = some (.iload_n 3, 1) by decide +kernel) rfl rfl ?_
      refine zq_iload 55 (show zop 252 53 = some (.iload 4, 2) by decide +kernel) rfl rfl ?_
      refine zq_iload 57 (show zop 252 55 = some (.iload 6, 2) by decide +kernel) rfl rfl ?_
      obtain ⟨g12, h⟩ := h
      obtain ⟨v10, s9, hD11, h⟩ := h
      refine zq_vi (v := some (.inl v10)) (σ' := s9) (nj := 4) (j := 188) (c := 2) (t := [(.inl v6)]) (as := [(.inr (.inr (some 0))), (.inl x3), (.inl x4), (.inl x6)]) 60 [(.inl v10), (.inl v6)] (show zop 252 57 = some (.invokevirtual 87, 3) by decide +kernel) (by decide +kernel) rfl (by decide +kernel) rfl rfl rfl rfl rfl rfl (by decide +kernel) (by decide +kernel) (clS_0 rfl) hD11 rfl g12 ?_
      by_cases hc15 : v6 = v10
      · refine zq_icmpF 63 67 (show zop 252 60 = some (.if_icmp .ne 7, 3) by decide +kernel) rfl rfl (decide_eq_false (fun h9 => h9 hc15)) ?_
        refine zq_iconst 64 (show zop 252 63 = some (.iconst 1, 1) by decide +kernel) rfl rfl ?_
        refine zq_goto 68 (show zop 252 64 = some (.goto 4, 3) by decide +kernel) rfl ?_
        have h9 := h; simp only [if_pos hc15] at h9; exact h9
      · refine zq_icmpT 67 (show zop 252 60 = some (.if_icmp .ne 7, 3) by decide +kernel) rfl (decide_eq_true hc15) ?_
        refine zq_iconst 68 (show zop 252 67 = some (.iconst 0, 1) by decide +kernel) rfl rfl ?_
        have h9 := h; simp only [if_neg hc15] at h9; exact h9
theorem bK252_76 {d0 : Option AV} {d1 : Option AV} {d2 : Option AV} {d3 : Option AV} {d4 : Option AV} {x5 : Int} {d6 : Option AV} {w : WS} {r : Nat} {o : Ro} (h : (x5 = 0 ∨ x5 = 1) ∧ o = (.inl (some (.inl x5)), w)) : K252_76 d0 d1 d2 d3 d4 x5 d6 w r o := by
  show Lg 252 76 [d0, d1, d2, d3, d4, (some (.inl x5)), d6] [] w r o
  refine zq_iload 78 (show zop 252 76 = some (.iload 5, 2) by decide +kernel) rfl rfl ?_
  obtain ⟨g1, h⟩ := h
  exact (zq_zret (show zop 252 78 = some (.ireturn, 1) by decide +kernel) (by decide +kernel) g1 h)
theorem bK252_68 {x1 : Int} {x2 : Int} {x3 : Int} {x4 : Int} {d5 : Option AV} {x6 : Int} {y0 : Int} {w : WS} {r : Nat} {o : Ro} (h : (-2147483648 ≤ (x6 + 1) ∧ (x6 + 1) ≤ 2147483647) ∧ K252_26 x1 x2 x3 x4 y0 (x6 + 1) w r o) : K252_68 x1 x2 x3 x4 d5 x6 y0 w r o := by
  show Lg 252 68 [(some (.inr (.inr (some 0)))), (some (.inl x1)), (some (.inl x2)), (some (.inl x3)), (some (.inl x4)), d5, (some (.inl x6))] [(.inl y0)] w r o
  refine zq_istore 70 [(some (.inr (.inr (some 0)))), (some (.inl x1)), (some (.inl x2)), (some (.inl x3)), (some (.inl x4)), (some (.inl y0)), (some (.inl x6))] (show zop 252 68 = some (.istore 5, 2) by decide +kernel) rfl rfl rfl ?_
  obtain ⟨g1, h⟩ := h
  refine zq_iinc 73 [(some (.inr (.inr (some 0)))), (some (.inl x1)), (some (.inl x2)), (some (.inl x3)), (some (.inl x4)), (some (.inl y0)), (some (.inl (x6 + 1)))] (show zop 252 70 = some (.iinc 6 1, 3) by decide +kernel) rfl rfl g1 rfl ?_
  refine zq_goto 26 (show zop 252 73 = some (.goto (-47), 3) by decide +kernel) rfl ?_
  exact h
/-- PatchBenchLaw.haveSame (LPatchBench;IZIZ)Z -/
theorem lb252 {x1 : Int} {x2 : Int} {x3 : Int} {x4 : Int} {w : WS} {o : Ro} (h : (40 ≤ 200) ∧ (∃ (v2 : Int) (w1 : WS), Lx 250 [(.inr (.inr (some 0))), (.inl x1), (.inl x2)] w (.inl (some (.inl v2)), w1) ∧ (40 ≤ (200 - 40)) ∧ (∃ (v6 : Int) (w5 : WS), Lx 250 [(.inr (.inr (some 0))), (.inl x3), (.inl x4)] w1 (.inl (some (.inl v6)), w5) ∧ K252_21 x1 x2 x3 x4 none none (if v2 = v6 then 1 else 0) w5 ((200 - 40) - 40) o))) : Lx 252 [(.inr (.inr (some 0))), (.inl x1), (.inl x2), (.inl x3), (.inl x4)] w o := by
  refine Lx_of (l := 7) (r := 200) (by decide +kernel) (by decide +kernel) ?_
  show Lg 252 0 [(some (.inr (.inr (some 0)))), (some (.inl x1)), (some (.inl x2)), (some (.inl x3)), (some (.inl x4)), none, none] [] w 200 o
  refine zq_aload_n 1 (show zop 252 0 = some (.aload_n 0, 1) by decide +kernel) rfl rfl ?_
  refine zq_iload_n 2 (show zop 252 1 = some (.iload_n 1, 1) by decide +kernel) rfl rfl ?_
  refine zq_iload_n 3 (show zop 252 2 = some (.iload_n 2, 1) by decide +kernel) rfl rfl ?_
  obtain ⟨g4, h⟩ := h
  obtain ⟨v2, w1, hD3, h⟩ := h
  refine zq_lx (v := some (.inl v2)) (w' := w1) (nj := 3) (j := 250) (c := 40) (t := []) (as := [(.inr (.inr (some 0))), (.inl x1), (.inl x2)]) 6 [(.inl v2)] (show zop 252 3 = some (.invokestatic 91, 3) by decide +kernel) (by decide +kernel) rfl (by decide +kernel) (by decide +kernel) rfl rfl rfl rfl rfl hD3 rfl g4 ?_
  refine zq_aload_n 7 (show zop 252 6 = some (.aload_n 0, 1) by decide +kernel) rfl rfl ?_
  refine zq_iload_n 8 (show zop 252 7 = some (.iload_n 3, 1) by decide +kernel) rfl rfl ?_
  refine zq_iload 10 (show zop 252 8 = some (.iload 4, 2) by decide +kernel) rfl rfl ?_
  obtain ⟨g8, h⟩ := h
  obtain ⟨v6, w5, hD7, h⟩ := h
  refine zq_lx (v := some (.inl v6)) (w' := w5) (nj := 3) (j := 250) (c := 40) (t := [(.inl v2)]) (as := [(.inr (.inr (some 0))), (.inl x3), (.inl x4)]) 13 [(.inl v6), (.inl v2)] (show zop 252 10 = some (.invokestatic 91, 3) by decide +kernel) (by decide +kernel) rfl (by decide +kernel) (by decide +kernel) rfl rfl rfl rfl rfl hD7 rfl g8 ?_
  by_cases hc9 : v2 = v6
  · refine zq_icmpF 16 20 (show zop 252 13 = some (.if_icmp .ne 7, 3) by decide +kernel) rfl rfl (decide_eq_false (fun h9 => h9 hc9)) ?_
    refine zq_iconst 17 (show zop 252 16 = some (.iconst 1, 1) by decide +kernel) rfl rfl ?_
    refine zq_goto 21 (show zop 252 17 = some (.goto 4, 3) by decide +kernel) rfl ?_
    have h9 := h; simp only [if_pos hc9] at h9; exact h9
  · refine zq_icmpT 20 (show zop 252 13 = some (.if_icmp .ne 7, 3) by decide +kernel) rfl (decide_eq_true hc9) ?_
    refine zq_iconst 21 (show zop 252 20 = some (.iconst 0, 1) by decide +kernel) rfl rfl ?_
    have h9 := h; simp only [if_neg hc9] at h9; exact h9
def K253_33 (x1 : Int) (x2 : Int) (x3 : Int) (x4 : Int) (x5 : Int) (x6 : Int) (x7 : Int) (x8 : Int) (d9 : Option AV) (d10 : Option AV) (d11 : Option AV) (d12 : Option AV) (d13 : Option AV) (w : WS) (r : Nat) (o : Ro) : Prop := Lg 253 33 [(some (.inr (.inr (some 0)))), (some (.inl x1)), (some (.inl x2)), (some (.inl x3)), (some (.inl x4)), (some (.inl x5)), (some (.inl x6)), (some (.inl x7)), (some (.inl x8)), d9, d10, d11, d12, d13] [] w r o
def K253_345 (d0 : Option AV) (d1 : Option AV) (x2 : Int) (x3 : Int) (d4 : Option AV) (x5 : Int) (x6 : Int) (x7 : Int) (d8 : Option AV) (d9 : Option AV) (d10 : Option AV) (d11 : Option AV) (d12 : Option AV) (d13 : Option AV) (w : WS) (r : Nat) (o : Ro) : Prop := Lg 253 345 [d0, d1, (some (.inl x2)), (some (.inl x3)), d4, (some (.inl x5)), (some (.inl x6)), (some (.inl x7)), d8, d9, d10, d11, d12, d13] [] w r o
def K253_65 (x1 : Int) (x2 : Int) (x3 : Int) (x4 : Int) (x5 : Int) (x6 : Int) (d7 : Option AV) (x8 : Int) (d9 : Option AV) (d10 : Option AV) (d11 : Option AV) (d12 : Option AV) (d13 : Option AV) (y0 : Int) (w : WS) (r : Nat) (o : Ro) : Prop := Lg 253 65 [(some (.inr (.inr (some 0)))), (some (.inl x1)), (some (.inl x2)), (some (.inl x3)), (some (.inl x4)), (some (.inl x5)), (some (.inl x6)), d7, (some (.inl x8)), d9, d10, d11, d12, d13] [(.inl y0)] w r o
def K253_366 (d0 : Option AV) (d1 : Option AV) (d2 : Option AV) (d3 : Option AV) (d4 : Option AV) (d5 : Option AV) (d6 : Option AV) (d7 : Option AV) (d8 : Option AV) (d9 : Option AV) (d10 : Option AV) (d11 : Option AV) (d12 : Option AV) (d13 : Option AV) (w : WS) (r : Nat) (o : Ro) : Prop := Lg 253 366 [d0, d1, d2, d3, d4, d5, d6, d7, d8, d9, d10, d11, d12, d13] [] w r o
def K253_367 (d0 : Option AV) (d1 : Option AV) (d2 : Option AV) (d3 : Option AV) (d4 : Option AV) (d5 : Option AV) (d6 : Option AV) (d7 : Option AV) (d8 : Option AV) (d9 : Option AV) (d10 : Option AV) (d11 : Option AV) (d12 : Option AV) (d13 : Option AV) (y0 : Int) (w : WS) (r : Nat) (o : Ro) : Prop := Lg 253 367 [d0, d1, d2, d3, d4, d5, d6, d7, d8, d9, d10, d11, d12, d13] [(.inl y0)] w r o
def K253_87 (x1 : Int) (x2 : Int) (x3 : Int) (x4 : Int) (x5 : Int) (x6 : Int) (d7 : Option AV) (x8 : Int) (x9 : Int) (d10 : Option AV) (d11 : Option AV) (d12 : Option AV) (d13 : Option AV) (y0 : Int) (w : WS) (r : Nat) (o : Ro) : Prop := Lg 253 87 [(some (.inr (.inr (some 0)))), (some (.inl x1)), (some (.inl x2)), (some (.inl x3)), (some (.inl x4)), (some (.inl x5)), (some (.inl x6)), d7, (some (.inl x8)), (some (.inl x9)), d10, d11, d12, d13] [(.inl y0)] w r o
def K253_108 (x1 : Int) (x2 : Int) (x3 : Int) (x4 : Int) (x5 : Int) (x6 : Int) (d7 : Option AV) (x8 : Int) (x9 : Int) (x10 : Int) (d11 : Option AV) (d12 : Option AV) (d13 : Option AV) (y0 : Int) (w : WS) (r : Nat) (o : Ro) : Prop := Lg 253 108 [(some (.inr (.inr (some 0)))), (some (.inl x1)), (some (.inl x2)), (some (.inl x3)), (some (.inl x4)), (some (.inl x5)), (some (.inl x6)), d7, (some (.inl x8)), (some (.inl x9)), (some (.inl x10)), d11, d12, d13] [(.inl y0)] w r o
def K253_129 (x1 : Int) (x2 : Int) (x3 : Int) (x4 : Int) (x5 : Int) (x6 : Int) (d7 : Option AV) (x8 : Int) (x9 : Int) (x10 : Int) (x11 : Int) (d12 : Option AV) (d13 : Option AV) (y0 : Int) (w : WS) (r : Nat) (o : Ro) : Prop := Lg 253 129 [(some (.inr (.inr (some 0)))), (some (.inl x1)), (some (.inl x2)), (some (.inl x3)), (some (.inl x4)), (some (.inl x5)), (some (.inl x6)), d7, (some (.inl x8)), (some (.inl x9)), (some (.inl x10)), (some (.inl x11)), d12, d13] [(.inl y0)] w r o
def K253_166 (x1 : Int) (x2 : Int) (x3 : Int) (x4 : Int) (x5 : Int) (x6 : Int) (d7 : Option AV) (x8 : Int) (x9 : Int) (d10 : Option AV) (x11 : Int) (x12 : Int) (d13 : Option AV) (w : WS) (r : Nat) (o : Ro) : Prop := Lg 253 166 [(some (.inr (.inr (some 0)))), (some (.inl x1)), (some (.inl x2)), (some (.inl x3)), (some (.inl x4)), (some (.inl x5)), (some (.inl x6)), d7, (some (.inl x8)), (some (.inl x9)), d10, (some (.inl x11)), (some (.inl x12)), d13] [] w r o
def K253_185 (x1 : Int) (x2 : Int) (x3 : Int) (x4 : Int) (x5 : Int) (x6 : Int) (d7 : Option AV) (x8 : Int) (x9 : Int) (d10 : Option AV) (x11 : Int) (x12 : Int) (d13 : Option AV) (w : WS) (r : Nat) (o : Ro) : Prop := Lg 253 185 [(some (.inr (.inr (some 0)))), (some (.inl x1)), (some (.inl x2)), (some (.inl x3)), (some (.inl x4)), (some (.inl x5)), (some (.inl x6)), d7, (some (.inl x8)), (some (.inl x9)), d10, (some (.inl x11)), (some (.inl x12)), d13] [] w r o
def K253_181 (x1 : Int) (x2 : Int) (x3 : Int) (x4 : Int) (x5 : Int) (x6 : Int) (d7 : Option AV) (x8 : Int) (x9 : Int) (d10 : Option AV) (x11 : Int) (x12 : Int) (d13 : Option AV) (w : WS) (r : Nat) (o : Ro) : Prop := Lg 253 181 [(some (.inr (.inr (some 0)))), (some (.inl x1)), (some (.inl x2)), (some (.inl x3)), (some (.inl x4)), (some (.inl x5)), (some (.inl x6)), d7, (some (.inl x8)), (some (.inl x9)), d10, (some (.inl x11)), (some (.inl x12)), d13] [] w r o
def K253_186 (x1 : Int) (x2 : Int) (x3 : Int) (x4 : Int) (x5 : Int) (x6 : Int) (d7 : Option AV) (x8 : Int) (x9 : Int) (d10 : Option AV) (x11 : Int) (x12 : Int) (d13 : Option AV) (y0 : Int) (w : WS) (r : Nat) (o : Ro) : Prop := Lg 253 186 [(some (.inr (.inr (some 0)))), (some (.inl x1)), (some (.inl x2)), (some (.inl x3)), (some (.inl x4)), (some (.inl x5)), (some (.inl x6)), d7, (some (.inl x8)), (some (.inl x9)), d10, (some (.inl x11)), (some (.inl x12)), d13] [(.inl y0)] w r o
def K253_188 (x1 : Int) (x2 : Int) (x3 : Int) (x4 : Int) (x5 : Int) (x6 : Int) (x7 : Int) (x8 : Int) (x9 : Int) (d10 : Option AV) (x11 : Int) (x12 : Int) (d13 : Option AV) (w : WS) (r : Nat) (o : Ro) : Prop := Lg 253 188 [(some (.inr (.inr (some 0)))), (some (.inl x1)), (some (.inl x2)), (some (.inl x3)), (some (.inl x4)), (some (.inl x5)), (some (.inl x6)), (some (.inl x7)), (some (.inl x8)), (some (.inl x9)), d10, (some (.inl x11)), (some (.inl x12)), d13] [] w r o
def K253_252 (x1 : Int) (x2 : Int) (x3 : Int) (x4 : Int) (x5 : Int) (x6 : Int) (x7 : Int) (x8 : Int) (x9 : Int) (d10 : Option AV) (x11 : Int) (x12 : Int) (d13 : Option AV) (w : WS) (r : Nat) (o : Ro) : Prop := Lg 253 252 [(some (.inr (.inr (some 0)))), (some (.inl x1)), (some (.inl x2)), (some (.inl x3)), (some (.inl x4)), (some (.inl x5)), (some (.inl x6)), (some (.inl x7)), (some (.inl x8)), (some (.inl x9)), d10, (some (.inl x11)), (some (.inl x12)), d13] [] w r o
def K253_241 (x1 : Int) (x2 : Int) (x3 : Int) (x4 : Int) (x5 : Int) (x6 : Int) (d7 : Option AV) (x8 : Int) (x9 : Int) (d10 : Option AV) (x11 : Int) (x12 : Int) (d13 : Option AV) (y0 : Int) (w : WS) (r : Nat) (o : Ro) : Prop := Lg 253 241 [(some (.inr (.inr (some 0)))), (some (.inl x1)), (some (.inl x2)), (some (.inl x3)), (some (.inl x4)), (some (.inl x5)), (some (.inl x6)), d7, (some (.inl x8)), (some (.inl x9)), d10, (some (.inl x11)), (some (.inl x12)), d13] [(.inl y0)] w r o
def K253_240 (x1 : Int) (x2 : Int) (x3 : Int) (x4 : Int) (x5 : Int) (x6 : Int) (d7 : Option AV) (x8 : Int) (x9 : Int) (d10 : Option AV) (x11 : Int) (x12 : Int) (d13 : Option AV) (w : WS) (r : Nat) (o : Ro) : Prop := Lg 253 240 [(some (.inr (.inr (some 0)))), (some (.inl x1)), (some (.inl x2)), (some (.inl x3)), (some (.inl x4)), (some (.inl x5)), (some (.inl x6)), d7, (some (.inl x8)), (some (.inl x9)), d10, (some (.inl x11)), (some (.inl x12)), d13] [] w r o
def K253_334 (x1 : Int) (x2 : Int) (x3 : Int) (x4 : Int) (x5 : Int) (x6 : Int) (x7 : Int) (x8 : Int) (d9 : Option AV) (d10 : Option AV) (d11 : Option AV) (x12 : Int) (d13 : Option AV) (w : WS) (r : Nat) (o : Ro) : Prop := Lg 253 334 [(some (.inr (.inr (some 0)))), (some (.inl x1)), (some (.inl x2)), (some (.inl x3)), (some (.inl x4)), (some (.inl x5)), (some (.inl x6)), (some (.inl x7)), (some (.inl x8)), d9, d10, d11, (some (.inl x12)), d13] [] w r o
def K253_321 (x1 : Int) (x2 : Int) (x3 : Int) (x4 : Int) (x5 : Int) (x6 : Int) (d7 : Option AV) (x8 : Int) (x9 : Int) (d10 : Option AV) (x11 : Int) (x12 : Int) (d13 : Option AV) (w : WS) (r : Nat) (o : Ro) : Prop := Lg 253 321 [(some (.inr (.inr (some 0)))), (some (.inl x1)), (some (.inl x2)), (some (.inl x3)), (some (.inl x4)), (some (.inl x5)), (some (.inl x6)), d7, (some (.inl x8)), (some (.inl x9)), d10, (some (.inl x11)), (some (.inl x12)), d13] [] w r o
def K253_325 (x1 : Int) (x2 : Int) (x3 : Int) (x4 : Int) (x5 : Int) (x6 : Int) (d7 : Option AV) (x8 : Int) (x9 : Int) (d10 : Option AV) (x11 : Int) (x12 : Int) (d13 : Option AV) (w : WS) (r : Nat) (o : Ro) : Prop := Lg 253 325 [(some (.inr (.inr (some 0)))), (some (.inl x1)), (some (.inl x2)), (some (.inl x3)), (some (.inl x4)), (some (.inl x5)), (some (.inl x6)), d7, (some (.inl x8)), (some (.inl x9)), d10, (some (.inl x11)), (some (.inl x12)), d13] [] w r o
def K253_326 (x1 : Int) (x2 : Int) (x3 : Int) (x4 : Int) (x5 : Int) (x6 : Int) (d7 : Option AV) (x8 : Int) (x9 : Int) (d10 : Option AV) (x11 : Int) (x12 : Int) (d13 : Option AV) (y0 : Int) (w : WS) (r : Nat) (o : Ro) : Prop := Lg 253 326 [(some (.inr (.inr (some 0)))), (some (.inl x1)), (some (.inl x2)), (some (.inl x3)), (some (.inl x4)), (some (.inl x5)), (some (.inl x6)), d7, (some (.inl x8)), (some (.inl x9)), d10, (some (.inl x11)), (some (.inl x12)), d13] [(.inl y0)] w r o
theorem bK253_33 {x1 : Int} {x2 : Int} {x3 : Int} {x4 : Int} {x5 : Int} {x6 : Int} {x7 : Int} {x8 : Int} {d9 : Option AV} {d10 : Option AV} {d11 : Option AV} {d12 : Option AV} {d13 : Option AV} {w : WS} {r : Nat} {o : Ro} (h : (if x8 ≤ x4 then (if x7 = 0 then K253_345 (some (.inr (.inr (some 0)))) (some (.inl x1)) x2 x3 (some (.inl x4)) x5 x6 x7 (some (.inl x8)) d9 d10 d11 d12 d13 w r o else (if x8 < x4 then (3 ≤ r) ∧ (∃ (v2 : Int) (s1 : Sg), Dc 191 [(.inr (.inr (some 0))), (.inl x1), (.inl x8), (.inl 0)] w.2.2 (.inl (some (.inl v2))) s1 ∧ K253_65 x1 x2 x3 x4 x5 x6 (some (.inl x7)) x8 d9 d10 d11 d12 d13 v2 (wS w s1) (r - 3) o) else K253_65 x1 x2 x3 x4 x5 x6 (some (.inl x7)) x8 d9 d10 d11 d12 d13 x5 w r o)) else K253_345 (some (.inr (.inr (some 0)))) (some (.inl x1)) x2 x3 (some (.inl x4)) x5 x6 x7 (some (.inl x8)) d9 d10 d11 d12 d13 w r o)) : K253_33 x1 x2 x3 x4 x5 x6 x7 x8 d9 d10 d11 d12 d13 w r o := by
  show Lg 253 33 [(some (.inr (.inr (some 0)))), (some (.inl x1)), (some (.inl x2)), (some (.inl x3)), (some (.inl x4)), (some (.inl x5)), (some (.inl x6)), (some (.inl x7)), (some (.inl x8)), d9, d10, d11, d12, d13] [] w r o
  refine zq_iload 35 (show zop 253 33 = some (.iload 8, 2) by decide +kernel) rfl rfl ?_
  refine zq_iload 37 (show zop 253 35 = some (.iload 4, 2) by decide +kernel) rfl rfl ?_
  by_cases hc5 : x8 ≤ x4
  · rw [if_pos hc5] at h
    refine zq_icmpF 40 345 (show zop 253 37 = some (.if_icmp .gt 308, 3) by decide +kernel) rfl rfl (decide_eq_false (Int.not_lt.mpr hc5)) ?_
    refine zq_iload 42 (show zop 253 40 = some (.iload 7, 2) by decide +kernel) rfl rfl ?_
    by_cases hc6 : x7 = 0
    · rw [if_pos hc6] at h
      refine zq_ifT 345 (show zop 253 42 = some (.ifCond .eq 303, 3) by decide +kernel) rfl (decide_eq_true hc6) ?_
      exact h
    · rw [if_neg hc6] at h
      refine zq_ifF 45 345 (show zop 253 42 = some (.ifCond .eq 303, 3) by decide +kernel) rfl rfl (decide_eq_false hc6) ?_
      refine zq_iload 47 (show zop 253 45 = some (.iload 8, 2) by decide +kernel) rfl rfl ?_
      refine zq_iload 49 (show zop 253 47 = some (.iload 4, 2) by decide +kernel) rfl rfl ?_
      by_cases hc7 : x8 < x4
      · rw [if_pos hc7] at h
        refine zq_icmpF 52 63 (show zop 253 49 = some (.if_icmp .ge 14, 3) by decide +kernel) rfl rfl (decide_eq_false (Int.not_le.mpr hc7)) ?_
        refine zq_aload_n 53 (show zop 253 52 = some (.aload_n 0, 1) by decide +kernel) rfl rfl ?_
        refine zq_iload_n 54 (show zop 253 53 = some (.iload_n 1, 1) by decide +kernel) rfl rfl ?_
        refine zq_iload 56 (show zop 253 54 = some (.iload 8, 2) by decide +kernel) rfl rfl ?_
        refine zq_iconst 57 (show zop 253 56 = some (.iconst 0, 1) by decide +kernel) rfl rfl ?_
        obtain ⟨g4, h⟩ := h
        obtain ⟨v2, s1, hD3, h⟩ := h
        refine zq_vi (v := some (.inl v2)) (σ' := s1) (nj := 4) (j := 191) (c := 3) (t := []) (as := [(.inr (.inr (some 0))), (.inl x1), (.inl x8), (.inl 0)]) 60 [(.inl v2)] (show zop 253 57 = some (.invokevirtual 98, 3) by decide +kernel) (by decide +kernel) rfl (by decide +kernel) rfl rfl rfl rfl rfl rfl (by decide +kernel) (by decide +kernel) (clS_0 rfl) hD3 rfl g4 ?_
        refine zq_goto 65 (show zop 253 60 = some (.goto 5, 3) by decide +kernel) rfl ?_
        exact h
      · rw [if_neg hc7] at h
        refine zq_icmpT 63 (show zop 253 49 = some (.if_icmp .ge 14, 3) by decide +kernel) rfl (decide_eq_true (Int.not_lt.mp hc7)) ?_
        refine zq_iload 65 (show zop 253 63 = some (.iload 5, 2) by decide +kernel) rfl rfl ?_
        exact h
  · rw [if_neg hc5] at h
    refine zq_icmpT 345 (show zop 253 37 = some (.if_icmp .gt 308, 3) by decide +kernel) rfl (decide_eq_true (Int.not_le.mp hc5)) ?_
    exact h
theorem bK253_345 {d0 : Option AV} {d1 : Option AV} {x2 : Int} {x3 : Int} {d4 : Option AV} {x5 : Int} {x6 : Int} {x7 : Int} {d8 : Option AV} {d9 : Option AV} {d10 : Option AV} {d11 : Option AV} {d12 : Option AV} {d13 : Option AV} {w : WS} {r : Nat} {o : Ro} (h : (if x7 = 0 then K253_366 d0 d1 (some (.inl x2)) (some (.inl x3)) d4 (some (.inl x5)) (some (.inl x6)) (some (.inl x7)) d8 d9 d10 d11 d12 d13 w r o else (if x2 = x5 then (if x3 = x6 then K253_367 d0 d1 (some (.inl x2)) (some (.inl x3)) d4 (some (.inl x5)) (some (.inl x6)) (some (.inl x7)) d8 d9 d10 d11 d12 d13 1 w r o else K253_366 d0 d1 (some (.inl x2)) (some (.inl x3)) d4 (some (.inl x5)) (some (.inl x6)) (some (.inl x7)) d8 d9 d10 d11 d12 d13 w r o) else K253_366 d0 d1 (some (.inl x2)) (some (.inl x3)) d4 (some (.inl x5)) (some (.inl x6)) (some (.inl x7)) d8 d9 d10 d11 d12 d13 w r o))) : K253_345 d0 d1 x2 x3 d4 x5 x6 x7 d8 d9 d10 d11 d12 d13 w r o := by
  show Lg 253 345 [d0, d1, (some (.inl x2)), (some (.inl x3)), d4, (some (.inl x5)), (some (.inl x6)), (some (.inl x7)), d8, d9, d10, d11, d12, d13] [] w r o
  refine zq_iload 347 (show zop 253 345 = some (.iload 7, 2) by decide +kernel) rfl rfl ?_
  by_cases hc1 : x7 = 0
  · rw [if_pos hc1] at h
    refine zq_ifT 366 (show zop 253 347 = some (.ifCond .eq 19, 3) by decide +kernel) rfl (decide_eq_true hc1) ?_
    exact h
  · rw [if_neg hc1] at h
    refine zq_ifF 350 366 (show zop 253 347 = some (.ifCond .eq 19, 3) by decide +kernel) rfl rfl (decide_eq_false hc1) ?_
    refine zq_iload_n 351 (show zop 253 350 = some (.iload_n 2, 1) by decide +kernel) rfl rfl ?_
    refine zq_iload 353 (show zop 253 351 = some (.iload 5, 2) by decide +kernel) rfl rfl ?_
    by_cases hc2 : x2 = x5
    · rw [if_pos hc2] at h
      refine zq_icmpF 356 366 (show zop 253 353 = some (.if_icmp .ne 13, 3) by decide +kernel) rfl rfl (decide_eq_false (fun h9 => h9 hc2)) ?_
      refine zq_iload_n 357 (show zop 253 356 = some (.iload_n 3, 1) by decide +kernel) rfl rfl ?_
      refine zq_iload 359 (show zop 253 357 = some (.iload 6, 2) by decide +kernel) rfl rfl ?_
      by_cases hc3 : x3 = x6
      · rw [if_pos hc3] at h
        refine zq_icmpF 362 366 (show zop 253 359 = some (.if_icmp .ne 7, 3) by decide +kernel) rfl rfl (decide_eq_false (fun h9 => h9 hc3)) ?_
        refine zq_iconst 363 (show zop 253 362 = some (.iconst 1, 1) by decide +kernel) rfl rfl ?_
        refine zq_goto 367 (show zop 253 363 = some (.goto 4, 3) by decide +kernel) rfl ?_
        exact h
      · rw [if_neg hc3] at h
        refine zq_icmpT 366 (show zop 253 359 = some (.if_icmp .ne 7, 3) by decide +kernel) rfl (decide_eq_true hc3) ?_
        exact h
    · rw [if_neg hc2] at h
      refine zq_icmpT 366 (show zop 253 353 = some (.if_icmp .ne 13, 3) by decide +kernel) rfl (decide_eq_true hc2) ?_
      exact h
theorem bK253_65 {x1 : Int} {x2 : Int} {x3 : Int} {x4 : Int} {x5 : Int} {x6 : Int} {d7 : Option AV} {x8 : Int} {d9 : Option AV} {d10 : Option AV} {d11 : Option AV} {d12 : Option AV} {d13 : Option AV} {y0 : Int} {w : WS} {r : Nat} {o : Ro} (h : (if x8 < x4 then (3 ≤ r) ∧ (∃ (v2 : Int) (s1 : Sg), Dc 191 [(.inr (.inr (some 0))), (.inl x1), (.inl x8), (.inl 2)] w.2.2 (.inl (some (.inl v2))) s1 ∧ K253_87 x1 x2 x3 x4 x5 x6 d7 x8 y0 d10 d11 d12 d13 v2 (wS w s1) (r - 3) o) else K253_87 x1 x2 x3 x4 x5 x6 d7 x8 y0 d10 d11 d12 d13 x6 w r o)) : K253_65 x1 x2 x3 x4 x5 x6 d7 x8 d9 d10 d11 d12 d13 y0 w r o := by
  show Lg 253 65 [(some (.inr (.inr (some 0)))), (some (.inl x1)), (some (.inl x2)), (some (.inl x3)), (some (.inl x4)), (some (.inl x5)), (some (.inl x6)), d7, (some (.inl x8)), d9, d10, d11, d12, d13] [(.inl y0)] w r o
  refine zq_istore 67 [(some (.inr (.inr (some 0)))), (some (.inl x1)), (some (.inl x2)), (some (.inl x3)), (some (.inl x4)), (some (.inl x5)), (some (.inl x6)), d7, (some (.inl x8)), (some (.inl y0)), d10, d11, d12, d13] (show zop 253 65 = some (.istore 9, 2) by decide +kernel) rfl rfl rfl ?_
  refine zq_iload 69 (show zop 253 67 = some (.iload 8, 2) by decide +kernel) rfl rfl ?_
  refine zq_iload 71 (show zop 253 69 = some (.iload 4, 2) by decide +kernel) rfl rfl ?_
  by_cases hc5 : x8 < x4
  · rw [if_pos hc5] at h
    refine zq_icmpF 74 85 (show zop 253 71 = some (.if_icmp .ge 14, 3) by decide +kernel) rfl rfl (decide_eq_false (Int.not_le.mpr hc5)) ?_
    refine zq_aload_n 75 (show zop 253 74 = some (.aload_n 0, 1) by decide +kernel) rfl rfl ?_
    refine zq_iload_n 76 (show zop 253 75 = some (.iload_n 1, 1) by decide +kernel) rfl rfl ?_
    refine zq_iload 78 (show zop 253 76 = some (.iload 8, 2) by decide +kernel) rfl rfl ?_
    refine zq_iconst 79 (show zop 253 78 = some (.iconst 2, 1) by decide +kernel) rfl rfl ?_
    obtain ⟨g4, h⟩ := h
    obtain ⟨v2, s1, hD3, h⟩ := h
    refine zq_vi (v := some (.inl v2)) (σ' := s1) (nj := 4) (j := 191) (c := 3) (t := []) (as := [(.inr (.inr (some 0))), (.inl x1), (.inl x8), (.inl 2)]) 82 [(.inl v2)] (show zop 253 79 = some (.invokevirtual 98, 3) by decide +kernel) (by decide +kernel) rfl (by decide +kernel) rfl rfl rfl rfl rfl rfl (by decide +kernel) (by decide +kernel) (clS_0 rfl) hD3 rfl g4 ?_
    refine zq_goto 87 (show zop 253 82 = some (.goto 5, 3) by decide +kernel) rfl ?_
    exact h
  · rw [if_neg hc5] at h
    refine zq_icmpT 85 (show zop 253 71 = some (.if_icmp .ge 14, 3) by decide +kernel) rfl (decide_eq_true (Int.not_lt.mp hc5)) ?_
    refine zq_iload 87 (show zop 253 85 = some (.iload 6, 2) by decide +kernel) rfl rfl ?_
    exact h
theorem bK253_366 {d0 : Option AV} {d1 : Option AV} {d2 : Option AV} {d3 : Option AV} {d4 : Option AV} {d5 : Option AV} {d6 : Option AV} {d7 : Option AV} {d8 : Option AV} {d9 : Option AV} {d10 : Option AV} {d11 : Option AV} {d12 : Option AV} {d13 : Option AV} {w : WS} {r : Nat} {o : Ro} (h : K253_367 d0 d1 d2 d3 d4 d5 d6 d7 d8 d9 d10 d11 d12 d13 0 w r o) : K253_366 d0 d1 d2 d3 d4 d5 d6 d7 d8 d9 d10 d11 d12 d13 w r o := by
  show Lg 253 366 [d0, d1, d2, d3, d4, d5, d6, d7, d8, d9, d10, d11, d12, d13] [] w r o
  refine zq_iconst 367 (show zop 253 366 = some (.iconst 0, 1) by decide +kernel) rfl rfl ?_
  exact h
theorem bK253_367 {d0 : Option AV} {d1 : Option AV} {d2 : Option AV} {d3 : Option AV} {d4 : Option AV} {d5 : Option AV} {d6 : Option AV} {d7 : Option AV} {d8 : Option AV} {d9 : Option AV} {d10 : Option AV} {d11 : Option AV} {d12 : Option AV} {d13 : Option AV} {y0 : Int} {w : WS} {r : Nat} {o : Ro} (h : (y0 = 0 ∨ y0 = 1) ∧ o = (.inl (some (.inl y0)), w)) : K253_367 d0 d1 d2 d3 d4 d5 d6 d7 d8 d9 d10 d11 d12 d13 y0 w r o := by
  show Lg 253 367 [d0, d1, d2, d3, d4, d5, d6, d7, d8, d9, d10, d11, d12, d13] [(.inl y0)] w r o
  obtain ⟨g1, h⟩ := h
  exact (zq_zret (show zop 253 367 = some (.ireturn, 1) by decide +kernel) (by decide +kernel) g1 h)
theorem bK253_87 {x1 : Int} {x2 : Int} {x3 : Int} {x4 : Int} {x5 : Int} {x6 : Int} {d7 : Option AV} {x8 : Int} {x9 : Int} {d10 : Option AV} {d11 : Option AV} {d12 : Option AV} {d13 : Option AV} {y0 : Int} {w : WS} {r : Nat} {o : Ro} (h : (if x8 < x4 then (3 ≤ r) ∧ (∃ (v2 : Int) (s1 : Sg), Dc 191 [(.inr (.inr (some 0))), (.inl x1), (.inl x8), (.inl 1)] w.2.2 (.inl (some (.inl v2))) s1 ∧ K253_108 x1 x2 x3 x4 x5 x6 d7 x8 x9 y0 d11 d12 d13 v2 (wS w s1) (r - 3) o) else K253_108 x1 x2 x3 x4 x5 x6 d7 x8 x9 y0 d11 d12 d13 0 w r o)) : K253_87 x1 x2 x3 x4 x5 x6 d7 x8 x9 d10 d11 d12 d13 y0 w r o := by
  show Lg 253 87 [(some (.inr (.inr (some 0)))), (some (.inl x1)), (some (.inl x2)), (some (.inl x3)), (some (.inl x4)), (some (.inl x5)), (some (.inl x6)), d7, (some (.inl x8)), (some (.inl x9)), d10, d11, d12, d13] [(.inl y0)] w r o
  refine zq_istore 89 [(some (.inr (.inr (some 0)))), (some (.inl x1)), (some (.inl x2)), (some (.inl x3)), (some (.inl x4)), (some (.inl x5)), (some (.inl x6)), d7, (some (.inl x8)), (some (.inl x9)), (some (.inl y0)), d11, d12, d13] (show zop 253 87 = some (.istore 10, 2) by decide +kernel) rfl rfl rfl ?_
  refine zq_iload 91 (show zop 253 89 = some (.iload 8, 2) by decide +kernel) rfl rfl ?_
  refine zq_iload 93 (show zop 253 91 = some (.iload 4, 2) by decide +kernel) rfl rfl ?_
  by_cases hc5 : x8 < x4
  · rw [if_pos hc5] at h
    refine zq_icmpF 96 107 (show zop 253 93 = some (.if_icmp .ge 14, 3) by decide +kernel) rfl rfl (decide_eq_false (Int.not_le.mpr hc5)) ?_
    refine zq_aload_n 97 (show zop 253 96 = some (.aload_n 0, 1) by decide +kernel) rfl rfl ?_
    refine zq_iload_n 98 (show zop 253 97 = some (.iload_n 1, 1) by decide +kernel) rfl rfl ?_
    refine zq_iload 100 (show zop 253 98 = some (.iload 8, 2) by decide +kernel) rfl rfl ?_
    refine zq_iconst 101 (show zop 253 100 = some (.iconst 1, 1) by decide +kernel) rfl rfl ?_
    obtain ⟨g4, h⟩ := h
    obtain ⟨v2, s1, hD3, h⟩ := h
    refine zq_vi (v := some (.inl v2)) (σ' := s1) (nj := 4) (j := 191) (c := 3) (t := []) (as := [(.inr (.inr (some 0))), (.inl x1), (.inl x8), (.inl 1)]) 104 [(.inl v2)] (show zop 253 101 = some (.invokevirtual 98, 3) by decide +kernel) (by decide +kernel) rfl (by decide +kernel) rfl rfl rfl rfl rfl rfl (by decide +kernel) (by decide +kernel) (clS_0 rfl) hD3 rfl g4 ?_
    refine zq_goto 108 (show zop 253 104 = some (.goto 4, 3) by decide +kernel) rfl ?_
    exact h
  · rw [if_neg hc5] at h
    refine zq_icmpT 107 (show zop 253 93 = some (.if_icmp .ge 14, 3) by decide +kernel) rfl (decide_eq_true (Int.not_lt.mp hc5)) ?_
    refine zq_iconst 108 (show zop 253 107 = some (.iconst 0, 1) by decide +kernel) rfl rfl ?_
    exact h
theorem bK253_108 {x1 : Int} {x2 : Int} {x3 : Int} {x4 : Int} {x5 : Int} {x6 : Int} {d7 : Option AV} {x8 : Int} {x9 : Int} {x10 : Int} {d11 : Option AV} {d12 : Option AV} {d13 : Option AV} {y0 : Int} {w : WS} {r : Nat} {o : Ro} (h : (if x8 < x4 then (3 ≤ r) ∧ (∃ (v2 : Int) (s1 : Sg), Dc 191 [(.inr (.inr (some 0))), (.inl x1), (.inl x8), (.inl 3)] w.2.2 (.inl (some (.inl v2))) s1 ∧ K253_129 x1 x2 x3 x4 x5 x6 d7 x8 x9 x10 y0 d12 d13 v2 (wS w s1) (r - 3) o) else K253_129 x1 x2 x3 x4 x5 x6 d7 x8 x9 x10 y0 d12 d13 0 w r o)) : K253_108 x1 x2 x3 x4 x5 x6 d7 x8 x9 x10 d11 d12 d13 y0 w r o := by
  show Lg 253 108 [(some (.inr (.inr (some 0)))), (some (.inl x1)), (some (.inl x2)), (some (.inl x3)), (some (.inl x4)), (some (.inl x5)), (some (.inl x6)), d7, (some (.inl x8)), (some (.inl x9)), (some (.inl x10)), d11, d12, d13] [(.inl y0)] w r o
  refine zq_istore 110 [(some (.inr (.inr (some 0)))), (some (.inl x1)), (some (.inl x2)), (some (.inl x3)), (some (.inl x4)), (some (.inl x5)), (some (.inl x6)), d7, (some (.inl x8)), (some (.inl x9)), (some (.inl x10)), (some (.inl y0)), d12, d13] (show zop 253 108 = some (.istore 11, 2) by decide +kernel) rfl rfl rfl ?_
  refine zq_iload 112 (show zop 253 110 = some (.iload 8, 2) by decide +kernel) rfl rfl ?_
  refine zq_iload 114 (show zop 253 112 = some (.iload 4, 2) by decide +kernel) rfl rfl ?_
  by_cases hc5 : x8 < x4
  · rw [if_pos hc5] at h
    refine zq_icmpF 117 128 (show zop 253 114 = some (.if_icmp .ge 14, 3) by decide +kernel) rfl rfl (decide_eq_false (Int.not_le.mpr hc5)) ?_
    refine zq_aload_n 118 (show zop 253 117 = some (.aload_n 0, 1) by decide +kernel) rfl rfl ?_
    refine zq_iload_n 119 (show zop 253 118 = some (.iload_n 1, 1) by decide +kernel) rfl rfl ?_
    refine zq_iload 121 (show zop 253 119 = some (.iload 8, 2) by decide +kernel) rfl rfl ?_
    refine zq_iconst 122 (show zop 253 121 = some (.iconst 3, 1) by decide +kernel) rfl rfl ?_
    obtain ⟨g4, h⟩ := h
    obtain ⟨v2, s1, hD3, h⟩ := h
    refine zq_vi (v := some (.inl v2)) (σ' := s1) (nj := 4) (j := 191) (c := 3) (t := []) (as := [(.inr (.inr (some 0))), (.inl x1), (.inl x8), (.inl 3)]) 125 [(.inl v2)] (show zop 253 122 = some (.invokevirtual 98, 3) by decide +kernel) (by decide +kernel) rfl (by decide +kernel) rfl rfl rfl rfl rfl rfl (by decide +kernel) (by decide +kernel) (clS_0 rfl) hD3 rfl g4 ?_
    refine zq_goto 129 (show zop 253 125 = some (.goto 4, 3) by decide +kernel) rfl ?_
    exact h
  · rw [if_neg hc5] at h
    refine zq_icmpT 128 (show zop 253 114 = some (.if_icmp .ge 14, 3) by decide +kernel) rfl (decide_eq_true (Int.not_lt.mp hc5)) ?_
    refine zq_iconst 129 (show zop 253 128 = some (.iconst 0, 1) by decide +kernel) rfl rfl ?_
    exact h
theorem bK253_129 {x1 : Int} {x2 : Int} {x3 : Int} {x4 : Int} {x5 : Int} {x6 : Int} {d7 : Option AV} {x8 : Int} {x9 : Int} {x10 : Int} {x11 : Int} {d12 : Option AV} {d13 : Option AV} {y0 : Int} {w : WS} {r : Nat} {o : Ro} (h : (-2147483648 ≤ (x9 - x2) ∧ (x9 - x2) ≤ 2147483647) ∧ (-2147483648 ≤ (x10 - x3) ∧ (x10 - x3) ≤ 2147483647) ∧ (if (x9 - x2) = (x10 - x3) then (if x2 ≤ x9 then (if x9 ≤ x2 then (if x8 = 0 then K253_166 x1 x2 x3 x4 x5 x6 d7 x8 x9 (some (.inl x10)) x11 y0 d13 w r o else (if x8 = x4 then K253_166 x1 x2 x3 x4 x5 x6 d7 x8 x9 (some (.inl x10)) x11 y0 d13 w r o else K253_185 x1 x2 x3 x4 x5 x6 d7 x8 x9 (some (.inl x10)) x11 y0 d13 w r o)) else K253_166 x1 x2 x3 x4 x5 x6 d7 x8 x9 (some (.inl x10)) x11 y0 d13 w r o) else K253_185 x1 x2 x3 x4 x5 x6 d7 x8 x9 (some (.inl x10)) x11 y0 d13 w r o) else K253_185 x1 x2 x3 x4 x5 x6 d7 x8 x9 (some (.inl x10)) x11 y0 d13 w r o)) : K253_129 x1 x2 x3 x4 x5 x6 d7 x8 x9 x10 x11 d12 d13 y0 w r o := by
  show Lg 253 129 [(some (.inr (.inr (some 0)))), (some (.inl x1)), (some (.inl x2)), (some (.inl x3)), (some (.inl x4)), (some (.inl x5)), (some (.inl x6)), d7, (some (.inl x8)), (some (.inl x9)), (some (.inl x10)), (some (.inl x11)), d12, d13] [(.inl y0)] w r o
  refine zq_istore 131 [(some (.inr (.inr (some 0)))), (some (.inl x1)), (some (.inl x2)), (some (.inl x3)), (some (.inl x4)), (some (.inl x5)), (some (.inl x6)), d7, (some (.inl x8)), (some (.inl x9)), (some (.inl x10)), (some (.inl x11)), (some (.inl y0)), d13] (show zop 253 129 = some (.istore 12, 2) by decide +kernel) rfl rfl rfl ?_
  refine zq_iload 133 (show zop 253 131 = some (.iload 9, 2) by decide +kernel) rfl rfl ?_
  refine zq_iload_n 134 (show zop 253 133 = some (.iload_n 2, 1) by decide +kernel) rfl rfl ?_
  obtain ⟨g1, h⟩ := h
  refine zq_isub 135 (show zop 253 134 = some (.isub, 1) by decide +kernel) rfl g1 ?_
  refine zq_iload 137 (show zop 253 135 = some (.iload 10, 2) by decide +kernel) rfl rfl ?_
  refine zq_iload_n 138 (show zop 253 137 = some (.iload_n 3, 1) by decide +kernel) rfl rfl ?_
  obtain ⟨g2, h⟩ := h
  refine zq_isub 139 (show zop 253 138 = some (.isub, 1) by decide +kernel) rfl g2 ?_
  by_cases hc3 : (x9 - x2) = (x10 - x3)
  · rw [if_pos hc3] at h
    refine zq_icmpF 142 185 (show zop 253 139 = some (.if_icmp .ne 46, 3) by decide +kernel) rfl rfl (decide_eq_false (fun h9 => h9 hc3)) ?_
    refine zq_iload 144 (show zop 253 142 = some (.iload 9, 2) by decide +kernel) rfl rfl ?_
    refine zq_iload_n 145 (show zop 253 144 = some (.iload_n 2, 1) by decide +kernel) rfl rfl ?_
    by_cases hc4 : x2 ≤ x9
    · rw [if_pos hc4] at h
      refine zq_icmpF 148 185 (show zop 253 145 = some (.if_icmp .lt 40, 3) by decide +kernel) rfl rfl (decide_eq_false (Int.not_lt.mpr hc4)) ?_
      refine zq_iload 150 (show zop 253 148 = some (.iload 9, 2) by decide +kernel) rfl rfl ?_
      refine zq_iload_n 151 (show zop 253 150 = some (.iload_n 2, 1) by decide +kernel) rfl rfl ?_
      by_cases hc5 : x9 ≤ x2
      · rw [if_pos hc5] at h
        refine zq_icmpF 154 166 (show zop 253 151 = some (.if_icmp .gt 15, 3) by decide +kernel) rfl rfl (decide_eq_false (Int.not_lt.mpr hc5)) ?_
        refine zq_iload 156 (show zop 253 154 = some (.iload 8, 2) by decide +kernel) rfl rfl ?_
        by_cases hc6 : x8 = 0
        · rw [if_pos hc6] at h
          refine zq_ifT 166 (show zop 253 156 = some (.ifCond .eq 10, 3) by decide +kernel) rfl (decide_eq_true hc6) ?_
          exact h
        · rw [if_neg hc6] at h
          refine zq_ifF 159 166 (show zop 253 156 = some (.ifCond .eq 10, 3) by decide +kernel) rfl rfl (decide_eq_false hc6) ?_
          refine zq_iload 161 (show zop 253 159 = some (.iload 8, 2) by decide +kernel) rfl rfl ?_
          refine zq_iload 163 (show zop 253 161 = some (.iload 4, 2) by decide +kernel) rfl rfl ?_
          by_cases hc7 : x8 = x4
          · rw [if_pos hc7] at h
            refine zq_icmpF 166 185 (show zop 253 163 = some (.if_icmp .ne 22, 3) by decide +kernel) rfl rfl (decide_eq_false (fun h9 => h9 hc7)) ?_
            exact h
          · rw [if_neg hc7] at h
            refine zq_icmpT 185 (show zop 253 163 = some (.if_icmp .ne 22, 3) by decide +kernel) rfl (decide_eq_true hc7) ?_
            exact h
      · rw [if_neg hc5] at h
        refine zq_icmpT 166 (show zop 253 151 = some (.if_icmp .gt 15, 3) by decide +kernel) rfl (decide_eq_true (Int.not_le.mp hc5)) ?_
        exact h
    · rw [if_neg hc4] at h
      refine zq_icmpT 185 (show zop 253 145 = some (.if_icmp .lt 40, 3) by decide +kernel) rfl (decide_eq_true (Int.not_le.mp hc4)) ?_
      exact h
  · rw [if_neg hc3] at h
    refine zq_icmpT 185 (show zop 253 139 = some (.if_icmp .ne 46, 3) by decide +kernel) rfl (decide_eq_true hc3) ?_
    exact h
theorem bK253_166 {x1 : Int} {x2 : Int} {x3 : Int} {x4 : Int} {x5 : Int} {x6 : Int} {d7 : Option AV} {x8 : Int} {x9 : Int} {d10 : Option AV} {x11 : Int} {x12 : Int} {d13 : Option AV} {w : WS} {r : Nat} {o : Ro} (h : (-2147483648 ≤ (x11 + x12) ∧ (x11 + x12) ≤ 2147483647) ∧ (if (x11 + x12) ≤ 0 then (if x8 = x4 then K253_181 x1 x2 x3 x4 x5 x6 d7 x8 x9 d10 x11 x12 d13 w r o else K253_185 x1 x2 x3 x4 x5 x6 d7 x8 x9 d10 x11 x12 d13 w r o) else K253_181 x1 x2 x3 x4 x5 x6 d7 x8 x9 d10 x11 x12 d13 w r o)) : K253_166 x1 x2 x3 x4 x5 x6 d7 x8 x9 d10 x11 x12 d13 w r o := by
  show Lg 253 166 [(some (.inr (.inr (some 0)))), (some (.inl x1)), (some (.inl x2)), (some (.inl x3)), (some (.inl x4)), (some (.inl x5)), (some (.inl x6)), d7, (some (.inl x8)), (some (.inl x9)), d10, (some (.inl x11)), (some (.inl x12)), d13] [] w r o
  refine zq_iload 168 (show zop 253 166 = some (.iload 11, 2) by decide +kernel) rfl rfl ?_
  refine zq_iload 170 (show zop 253 168 = some (.iload 12, 2) by decide +kernel) rfl rfl ?_
  obtain ⟨g1, h⟩ := h
  refine zq_iadd 171 (show zop 253 170 = some (.iadd, 1) by decide +kernel) rfl g1 ?_
  by_cases hc2 : (x11 + x12) ≤ 0
  · rw [if_pos hc2] at h
    refine zq_ifF 174 181 (show zop 253 171 = some (.ifCond .gt 10, 3) by decide +kernel) rfl rfl (decide_eq_false (Int.not_lt.mpr hc2)) ?_
    refine zq_iload 176 (show zop 253 174 = some (.iload 8, 2) by decide +kernel) rfl rfl ?_
    refine zq_iload 178 (show zop 253 176 = some (.iload 4, 2) by decide +kernel) rfl rfl ?_
    by_cases hc3 : x8 = x4
    · rw [if_pos hc3] at h
      refine zq_icmpF 181 185 (show zop 253 178 = some (.if_icmp .ne 7, 3) by decide +kernel) rfl rfl (decide_eq_false (fun h9 => h9 hc3)) ?_
      exact h
    · rw [if_neg hc3] at h
      refine zq_icmpT 185 (show zop 253 178 = some (.if_icmp .ne 7, 3) by decide +kernel) rfl (decide_eq_true hc3) ?_
      exact h
  · rw [if_neg hc2] at h
    refine zq_ifT 181 (show zop 253 171 = some (.ifCond .gt 10, 3) by decide +kernel) rfl (decide_eq_true (Int.not_le.mp hc2)) ?_
    exact h
theorem bK253_185 {x1 : Int} {x2 : Int} {x3 : Int} {x4 : Int} {x5 : Int} {x6 : Int} {d7 : Option AV} {x8 : Int} {x9 : Int} {d10 : Option AV} {x11 : Int} {x12 : Int} {d13 : Option AV} {w : WS} {r : Nat} {o : Ro} (h : K253_186 x1 x2 x3 x4 x5 x6 d7 x8 x9 d10 x11 x12 d13 0 w r o) : K253_185 x1 x2 x3 x4 x5 x6 d7 x8 x9 d10 x11 x12 d13 w r o := by
  show Lg 253 185 [(some (.inr (.inr (some 0)))), (some (.inl x1)), (some (.inl x2)), (some (.inl x3)), (some (.inl x4)), (some (.inl x5)), (some (.inl x6)), d7, (some (.inl x8)), (some (.inl x9)), d10, (some (.inl x11)), (some (.inl x12)), d13] [] w r o
  refine zq_iconst 186 (show zop 253 185 = some (.iconst 0, 1) by decide +kernel) rfl rfl ?_
  exact h
theorem bK253_181 {x1 : Int} {x2 : Int} {x3 : Int} {x4 : Int} {x5 : Int} {x6 : Int} {d7 : Option AV} {x8 : Int} {x9 : Int} {d10 : Option AV} {x11 : Int} {x12 : Int} {d13 : Option AV} {w : WS} {r : Nat} {o : Ro} (h : K253_186 x1 x2 x3 x4 x5 x6 d7 x8 x9 d10 x11 x12 d13 1 w r o) : K253_181 x1 x2 x3 x4 x5 x6 d7 x8 x9 d10 x11 x12 d13 w r o := by
  show Lg 253 181 [(some (.inr (.inr (some 0)))), (some (.inl x1)), (some (.inl x2)), (some (.inl x3)), (some (.inl x4)), (some (.inl x5)), (some (.inl x6)), d7, (some (.inl x8)), (some (.inl x9)), d10, (some (.inl x11)), (some (.inl x12)), d13] [] w r o
  refine zq_iconst 182 (show zop 253 181 = some (.iconst 1, 1) by decide +kernel) rfl rfl ?_
  refine zq_goto 186 (show zop 253 182 = some (.goto 4, 3) by decide +kernel) rfl ?_
  exact h
theorem bK253_186 {x1 : Int} {x2 : Int} {x3 : Int} {x4 : Int} {x5 : Int} {x6 : Int} {d7 : Option AV} {x8 : Int} {x9 : Int} {d10 : Option AV} {x11 : Int} {x12 : Int} {d13 : Option AV} {y0 : Int} {w : WS} {r : Nat} {o : Ro} (h : K253_188 x1 x2 x3 x4 x5 x6 y0 x8 x9 d10 x11 x12 d13 w r o) : K253_186 x1 x2 x3 x4 x5 x6 d7 x8 x9 d10 x11 x12 d13 y0 w r o := by
  show Lg 253 186 [(some (.inr (.inr (some 0)))), (some (.inl x1)), (some (.inl x2)), (some (.inl x3)), (some (.inl x4)), (some (.inl x5)), (some (.inl x6)), d7, (some (.inl x8)), (some (.inl x9)), d10, (some (.inl x11)), (some (.inl x12)), d13] [(.inl y0)] w r o
  refine zq_istore 188 [(some (.inr (.inr (some 0)))), (some (.inl x1)), (some (.inl x2)), (some (.inl x3)), (some (.inl x4)), (some (.inl x5)), (some (.inl x6)), (some (.inl y0)), (some (.inl x8)), (some (.inl x9)), d10, (some (.inl x11)), (some (.inl x12)), d13] (show zop 253 186 = some (.istore 7, 2) by decide +kernel) rfl rfl rfl ?_
  exact h
theorem bK253_188 {x1 : Int} {x2 : Int} {x3 : Int} {x4 : Int} {x5 : Int} {x6 : Int} {x7 : Int} {x8 : Int} {x9 : Int} {d10 : Option AV} {x11 : Int} {x12 : Int} {d13 : Option AV} {w : WS} {r : Nat} {o : Ro} (h : (if x2 < x9 then (if x7 = 0 then K253_252 x1 x2 x3 x4 x5 x6 x7 x8 x9 d10 x11 x12 d13 w r o else (2 ≤ r) ∧ (∃ (v2 : Int) (s1 : Sg), Dc 189 [(.inr (.inr (some 0))), (.inl x1), (.inl x2)] w.2.2 (.inl (some (.inl v2))) s1 ∧ (if v2 = x3 then (2 ≤ (r - 2)) ∧ (∃ (v6 : Int) (s5 : Sg), Dc 188 [(.inr (.inr (some 0))), (.inl x1), (.inl 0), (.inl x2)] (wS w s1).2.2 (.inl (some (.inl v6))) s5 ∧ (2 ≤ ((r - 2) - 2)) ∧ (∃ (v10 : Int) (s9 : Sg), Dc 188 [(.inr (.inr (some 0))), (.inl x1), (.inl 1), (.inl x3)] (wS (wS w s1) s5).2.2 (.inl (some (.inl v10))) s9 ∧ (if v6 = v10 then (2 ≤ (((r - 2) - 2) - 2)) ∧ (∃ (v14 : Int) (s13 : Sg), Dc 192 [(.inr (.inr (some 0))), (.inl x1), (.inl x2)] (wS (wS (wS w s1) s5) s9).2.2 (.inl (some (.inl v14))) s13 ∧ (if v14 = (-1) then K253_241 x1 x2 x3 x4 x5 x6 (some (.inl x7)) x8 x9 d10 x11 x12 d13 1 (wS (wS (wS (wS w s1) s5) s9) s13) ((((r - 2) - 2) - 2) - 2) o else K253_240 x1 x2 x3 x4 x5 x6 (some (.inl x7)) x8 x9 d10 x11 x12 d13 (wS (wS (wS (wS w s1) s5) s9) s13) ((((r - 2) - 2) - 2) - 2) o)) else K253_240 x1 x2 x3 x4 x5 x6 (some (.inl x7)) x8 x9 d10 x11 x12 d13 (wS (wS (wS w s1) s5) s9) (((r - 2) - 2) - 2) o))) else K253_240 x1 x2 x3 x4 x5 x6 (some (.inl x7)) x8 x9 d10 x11 x12 d13 (wS w s1) (r - 2) o))) else K253_252 x1 x2 x3 x4 x5 x6 x7 x8 x9 d10 x11 x12 d13 w r o)) : K253_188 x1 x2 x3 x4 x5 x6 x7 x8 x9 d10 x11 x12 d13 w r o := by
  show Lg 253 188 [(some (.inr (.inr (some 0)))), (some (.inl x1)), (some (.inl x2)), (some (.inl x3)), (some (.inl x4)), (some (.inl x5)), (some (.inl x6)), (some (.inl x7)), (some (.inl x8)), (some (.inl x9)), d10, (some (.inl x11)), (some (.inl x12)), d13] [] w r o
  refine zq_iload_n 189 (show zop 253 188 = some (.iload_n 2, 1) by decide +kernel) rfl rfl ?_
  refine zq_iload 191 (show zop 253 189 = some (.iload 9, 2) by decide +kernel) rfl rfl ?_
  by_cases hc17 : x2 < x9
  · rw [if_pos hc17] at h
    refine zq_icmpF 194 252 (show zop 253 191 = some (.if_icmp .ge 61, 3) by decide +kernel) rfl rfl (decide_eq_false (Int.not_le.mpr hc17)) ?_
    refine zq_iload 196 (show zop 253 194 = some (.iload 7, 2) by decide +kernel) rfl rfl ?_
    by_cases hc18 : x7 = 0
    · rw [if_pos hc18] at h
      refine zq_ifT 252 (show zop 253 196 = some (.ifCond .eq 56, 3) by decide +kernel) rfl (decide_eq_true hc18) ?_
      exact h
    · rw [if_neg hc18] at h
      refine zq_ifF 199 252 (show zop 253 196 = some (.ifCond .eq 56, 3) by decide +kernel) rfl rfl (decide_eq_false hc18) ?_
      refine zq_aload_n 200 (show zop 253 199 = some (.aload_n 0, 1) by decide +kernel) rfl rfl ?_
      refine zq_iload_n 201 (show zop 253 200 = some (.iload_n 1, 1) by decide +kernel) rfl rfl ?_
      refine zq_iload_n 202 (show zop 253 201 = some (.iload_n 2, 1) by decide +kernel) rfl rfl ?_
      obtain ⟨g4, h⟩ := h
      obtain ⟨v2, s1, hD3, h⟩ := h
      refine zq_vi (v := some (.inl v2)) (σ' := s1) (nj := 3) (j := 189) (c := 2) (t := []) (as := [(.inr (.inr (some 0))), (.inl x1), (.inl x2)]) 205 [(.inl v2)] (show zop 253 202 = some (.invokevirtual 101, 3) by decide +kernel) (by decide +kernel) rfl (by decide +kernel) rfl rfl rfl rfl rfl rfl (by decide +kernel) (by decide +kernel) (clS_0 rfl) hD3 rfl g4 ?_
      refine zq_iload_n 206 (show zop 253 205 = some (.iload_n 3, 1) by decide +kernel) rfl rfl ?_
      by_cases hc19 : v2 = x3
      · rw [if_pos hc19] at h
        refine zq_icmpF 209 240 (show zop 253 206 = some (.if_icmp .ne 34, 3) by decide +kernel) rfl rfl (decide_eq_false (fun h9 => h9 hc19)) ?_
        refine zq_aload_n 210 (show zop 253 209 = some (.aload_n 0, 1) by decide +kernel) rfl rfl ?_
        refine zq_iload_n 211 (show zop 253 210 = some (.iload_n 1, 1) by decide +kernel) rfl rfl ?_
        refine zq_iconst 212 (show zop 253 211 = some (.iconst 0, 1) by decide +kernel) rfl rfl ?_
        refine zq_iload_n 213 (show zop 253 212 = some (.iload_n 2, 1) by decide +kernel) rfl rfl ?_
        obtain ⟨g8, h⟩ := h
        obtain ⟨v6, s5, hD7, h⟩ := h
        refine zq_vi (v := some (.inl v6)) (σ' := s5) (nj := 4) (j := 188) (c := 2) (t := []) (as := [(.inr (.inr (some 0))), (.inl x1), (.inl 0), (.inl x2)]) 216 [(.inl v6)] (show zop 253 213 = some (.invokevirtual 87, 3) by decide +kernel) (by decide +kernel) rfl (by decide +kernel) rfl rfl rfl rfl rfl rfl (by decide +kernel) (by decide +kernel) (clS_0 rfl) hD7 rfl g8 ?_
        refine zq_aload_n 217 (show zop 253 216 = some (.aload_n 0, 1) by decide +kernel) rfl rfl ?_
        refine zq_iload_n 218 (show zop 253 217 = some (.iload_n 1, 1) by decide +kernel) rfl rfl ?_
        refine zq_iconst 219 (show zop 253 218 = some (.iconst 1, 1) by decide +kernel) rfl rfl ?_
        refine zq_iload_n 220 (show zop 253 219 = some (.iload_n 3, 1) by decide +kernel) rfl rfl ?_
        obtain ⟨g12, h⟩ := h
        obtain ⟨v10, s9, hD11, h⟩ := h
        refine zq_vi (v := some (.inl v10)) (σ' := s9) (nj := 4) (j := 188) (c := 2) (t := [(.inl v6)]) (as := [(.inr (.inr (some 0))), (.inl x1), (.inl 1), (.inl x3)]) 223 [(.inl v10), (.inl v6)] (show zop 253 220 = some (.invokevirtual 87, 3) by decide +kernel) (by decide +kernel) rfl (by decide +kernel) rfl rfl rfl rfl rfl rfl (by decide +kernel) (by decide +kernel) (clS_0 rfl) hD11 rfl g12 ?_
        by_cases hc20 : v6 = v10
        · rw [if_pos hc20] at h
          refine zq_icmpF 226 240 (show zop 253 223 = some (.if_icmp .ne 17, 3) by decide +kernel) rfl rfl (decide_eq_false (fun h9 => h9 hc20)) ?_
          refine zq_aload_n 227 (show zop 253 226 = some (.aload_n 0, 1) by decide +kernel) rfl rfl ?_
          refine zq_iload_n 228 (show zop 253 227 = some (.iload_n 1, 1) by decide +kernel) rfl rfl ?_
          refine zq_iload_n 229 (show zop 253 228 = some (.iload_n 2, 1) by decide +kernel) rfl rfl ?_
          obtain ⟨g16, h⟩ := h
          obtain ⟨v14, s13, hD15, h⟩ := h
          refine zq_vi (v := some (.inl v14)) (σ' := s13) (nj := 3) (j := 192) (c := 2) (t := []) (as := [(.inr (.inr (some 0))), (.inl x1), (.inl x2)]) 232 [(.inl v14)] (show zop 253 229 = some (.invokevirtual 104, 3) by decide +kernel) (by decide +kernel) rfl (by decide +kernel) rfl rfl rfl rfl rfl rfl (by decide +kernel) (by decide +kernel) (clS_0 rfl) hD15 rfl g16 ?_
          refine zq_iconst 233 (show zop 253 232 = some (.iconst (-1), 1) by decide +kernel) rfl rfl ?_
          by_cases hc21 : v14 = (-1)
          · rw [if_pos hc21] at h
            refine zq_icmpF 236 240 (show zop 253 233 = some (.if_icmp .ne 7, 3) by decide +kernel) rfl rfl (decide_eq_false (fun h9 => h9 hc21)) ?_
            refine zq_iconst 237 (show zop 253 236 = some (.iconst 1, 1) by decide +kernel) rfl rfl ?_
            refine zq_goto 241 (show zop 253 237 = some (.goto 4, 3) by decide +kernel) rfl ?_
            exact h
          · rw [if_neg hc21] at h
            refine zq_icmpT 240 (show zop 253 233 = some (.if_icmp .ne 7, 3) by decide +kernel) rfl (decide_eq_true hc21) ?_
            exact h
        · rw [if_neg hc20] at h
          refine zq_icmpT 240 (show zop 253 223 = some (.if_icmp .ne 17, 3) by decide +kernel) rfl (decide_eq_true hc20) ?_
          exact h
      · rw [if_neg hc19] at h
        refine zq_icmpT 240 (show zop 253 206 = some (.if_icmp .ne 34, 3) by decide +kernel) rfl (decide_eq_true hc19) ?_
        exact h
  · rw [if_neg hc17] at h
    refine zq_icmpT 252 (show zop 253 191 = some (.if_icmp .ge 61, 3) by decide +kernel) rfl (decide_eq_true (Int.not_lt.mp hc17)) ?_
    exact h
theorem bK253_252 {x1 : Int} {x2 : Int} {x3 : Int} {x4 : Int} {x5 : Int} {x6 : Int} {x7 : Int} {x8 : Int} {x9 : Int} {d10 : Option AV} {x11 : Int} {x12 : Int} {d13 : Option AV} {w : WS} {r : Nat} {o : Ro} (h : (-2147483648 ≤ (x9 + x11) ∧ (x9 + x11) ≤ 2147483647) ∧ (if x2 < (x9 + x11) then (if x7 = 0 then K253_334 x1 x2 x3 x4 x5 x6 x7 x8 (some (.inl x9)) d10 (some (.inl x11)) x12 d13 w r o else (2 ≤ r) ∧ (∃ (v3 : Int) (s2 : Sg), Dc 192 [(.inr (.inr (some 0))), (.inl x1), (.inl x2)] w.2.2 (.inl (some (.inl v3))) s2 ∧ (2 ≤ (r - 2)) ∧ (∃ (v7 : Int) (s6 : Sg), Dc 189 [(.inr (.inr (some 0))), (.inl x1), (.inl x2)] (wS w s2).2.2 (.inl (some (.inl v7))) s6 ∧ (if v7 = (-1) then (if v3 = (-1) then K253_321 x1 x2 x3 x4 x5 x6 (some (.inl x7)) x8 x9 d10 x11 x12 (some (.inl v3)) (wS (wS w s2) s6) ((r - 2) - 2) o else (if v3 < x6 then (2 ≤ ((r - 2) - 2)) ∧ (∃ (v11 : Int) (s10 : Sg), Dc 188 [(.inr (.inr (some 0))), (.inl x1), (.inl 0), (.inl x2)] (wS (wS w s2) s6).2.2 (.inl (some (.inl v11))) s10 ∧ (2 ≤ (((r - 2) - 2) - 2)) ∧ (∃ (v15 : Int) (s14 : Sg), Dc 188 [(.inr (.inr (some 0))), (.inl x1), (.inl 1), (.inl v3)] (wS (wS (wS w s2) s6) s10).2.2 (.inl (some (.inl v15))) s14 ∧ (2 ≤ ((((r - 2) - 2) - 2) - 2)) ∧ (∃ (v19 : Int) (s18 : Sg), Dc 177 [(.inr (.inr (some 0))), (.inl v11), (.inl v15)] (wS (wS (wS (wS w s2) s6) s10) s14).2.2 (.inl (some (.inl v19))) s18 ∧ (if 50 ≤ v19 then K253_321 x1 x2 x3 x4 x5 x6 (some (.inl x7)) x8 x9 d10 x11 x12 (some (.inl v3)) (wS (wS (wS (wS (wS w s2) s6) s10) s14) s18) (((((r - 2) - 2) - 2) - 2) - 2) o else K253_325 x1 x2 x3 x4 x5 x6 (some (.inl x7)) x8 x9 d10 x11 x12 (some (.inl v3)) (wS (wS (wS (wS (wS w s2) s6) s10) s14) s18) (((((r - 2) - 2) - 2) - 2) - 2) o)))) else K253_325 x1 x2 x3 x4 x5 x6 (some (.inl x7)) x8 x9 d10 x11 x12 (some (.inl v3)) (wS (wS w s2) s6) ((r - 2) - 2) o)) else K253_325 x1 x2 x3 x4 x5 x6 (some (.inl x7)) x8 x9 d10 x11 x12 (some (.inl v3)) (wS (wS w s2) s6) ((r - 2) - 2) o)))) else K253_334 x1 x2 x3 x4 x5 x6 x7 x8 (some (.inl x9)) d10 (some (.inl x11)) x12 d13 w r o)) : K253_252 x1 x2 x3 x4 x5 x6 x7 x8 x9 d10 x11 x12 d13 w r o := by
  show Lg 253 252 [(some (.inr (.inr (some 0)))), (some (.inl x1)), (some (.inl x2)), (some (.inl x3)), (some (.inl x4)), (some (.inl x5)), (some (.inl x6)), (some (.inl x7)), (some (.inl x8)), (some (.inl x9)), d10, (some (.inl x11)), (some (.inl x12)), d13] [] w r o
  refine zq_iload_n 253 (show zop 253 252 = some (.iload_n 2, 1) by decide +kernel) rfl rfl ?_
  refine zq_iload 255 (show zop 253 253 = some (.iload 9, 2) by decide +kernel) rfl rfl ?_
  refine zq_iload 257 (show zop 253 255 = some (.iload 11, 2) by decide +kernel) rfl rfl ?_
  obtain ⟨g1, h⟩ := h
  refine zq_iadd 258 (show zop 253 257 = some (.iadd, 1) by decide +kernel) rfl g1 ?_
  by_cases hc22 : x2 < (x9 + x11)
  · rw [if_pos hc22] at h
    refine zq_icmpF 261 334 (show zop 253 258 = some (.if_icmp .ge 76, 3) by decide +kernel) rfl rfl (decide_eq_false (Int.not_le.mpr hc22)) ?_
    refine zq_iload 263 (show zop 253 261 = some (.iload 7, 2) by decide +kernel) rfl rfl ?_
    by_cases hc23 : x7 = 0
    · rw [if_pos hc23] at h
      refine zq_ifT 334 (show zop 253 263 = some (.ifCond .eq 71, 3) by decide +kernel) rfl (decide_eq_true hc23) ?_
      exact h
    · rw [if_neg hc23] at h
      refine zq_ifF 266 334 (show zop 253 263 = some (.ifCond .eq 71, 3) by decide +kernel) rfl rfl (decide_eq_false hc23) ?_
      refine zq_aload_n 267 (show zop 253 266 = some (.aload_n 0, 1) by decide +kernel) rfl rfl ?_
      refine zq_iload_n 268 (show zop 253 267 = some (.iload_n 1, 1) by decide +kernel) rfl rfl ?_
      refine zq_iload_n 269 (show zop 253 268 = some (.iload_n 2, 1) by decide +kernel) rfl rfl ?_
      obtain ⟨g5, h⟩ := h
      obtain ⟨v3, s2, hD4, h⟩ := h
      refine zq_vi (v := some (.inl v3)) (σ' := s2) (nj := 3) (j := 192) (c := 2) (t := []) (as := [(.inr (.inr (some 0))), (.inl x1), (.inl x2)]) 272 [(.inl v3)] (show zop 253 269 = some (.invokevirtual 104, 3) by decide +kernel) (by decide +kernel) rfl (by decide +kernel) rfl rfl rfl rfl rfl rfl (by decide +kernel) (by decide +kernel) (clS_0 rfl) hD4 rfl g5 ?_
      refine zq_istore 274 [(some (.inr (.inr (some 0)))), (some (.inl x1)), (some (.inl x2)), (some (.inl x3)), (some (.inl x4)), (some (.inl x5)), (some (.inl x6)), (some (.inl x7)), (some (.inl x8)), (some (.inl x9)), d10, (some (.inl x11)), (some (.inl x12)), (some (.inl v3))] (show zop 253 272 = some (.istore 13, 2) by decide +kernel) rfl rfl rfl ?_
      refine zq_aload_n 275 (show zop 253 274 = some (.aload_n 0, 1) by decide +kernel) rfl rfl ?_
      refine zq_iload_n 276 (show zop 253 275 = some (.iload_n 1, 1) by decide +kernel) rfl rfl ?_
      refine zq_iload_n 277 (show zop 253 276 = some (.iload_n 2, 1) by decide +kernel) rfl rfl ?_
      obtain ⟨g9, h⟩ := h
      obtain ⟨v7, s6, hD8, h⟩ := h
      refine zq_vi (v := some (.inl v7)) (σ' := s6) (nj := 3) (j := 189) (c := 2) (t := []) (as := [(.inr (.inr (some 0))), (.inl x1), (.inl x2)]) 280 [(.inl v7)] (show zop 253 277 = some (.invokevirtual 101, 3) by decide +kernel) (by decide +kernel) rfl (by decide +kernel) rfl rfl rfl rfl rfl rfl (by decide +kernel) (by decide +kernel) (clS_0 rfl) hD8 rfl g9 ?_
      refine zq_iconst 281 (show zop 253 280 = some (.iconst (-1), 1) by decide +kernel) rfl rfl ?_
      by_cases hc24 : v7 = (-1)
      · rw [if_pos hc24] at h
        refine zq_icmpF 284 325 (show zop 253 281 = some (.if_icmp .ne 44, 3) by decide +kernel) rfl rfl (decide_eq_false (fun h9 => h9 hc24)) ?_
        refine zq_iload 286 (show zop 253 284 = some (.iload 13, 2) by decide +kernel) rfl rfl ?_
        refine zq_iconst 287 (show zop 253 286 = some (.iconst (-1), 1) by decide +kernel) rfl rfl ?_
        by_cases hc25 : v3 = (-1)
        · rw [if_pos hc25] at h
          refine zq_icmpT 321 (show zop 253 287 = some (.if_icmp .eq 34, 3) by decide +kernel) rfl (decide_eq_true hc25) ?_
          exact h
        · rw [if_neg hc25] at h
          refine zq_icmpF 290 321 (show zop 253 287 = some (.if_icmp .eq 34, 3) by decide +kernel) rfl rfl (decide_eq_false hc25) ?_
          refine zq_iload 292 (show zop 253 290 = some (.iload 13, 2) by decide +kernel) rfl rfl ?_
          refine zq_iload 294 (show zop 253 292 = some (.iload 6, 2) by decide +kernel) rfl rfl ?_
          by_cases hc26 : v3 < x6
          · rw [if_pos hc26] at h
            refine zq_icmpF 297 325 (show zop 253 294 = some (.if_icmp .ge 31, 3) by decide +kernel) rfl rfl (decide_eq_false (Int.not_le.mpr hc26)) ?_
            refine zq_aload_n 298 (show zop 253 297 = some (.aload_n 0, 1) by decide +kernel) rfl rfl ?_
            refine zq_aload_n 299 (show zop 253 298 = some (.aload_n 0, 1) by decide +kernel) rfl rfl ?_
            refine zq_iload_n 300 (show zop 253 299 = some (.iload_n 1, 1) by decide +kernel) rfl rfl ?_
            refine zq_iconst 301 (show zop 253 300 = some (.iconst 0, 1) by decide +kernel) rfl rfl ?_
            refine zq_iload_n 302 (show zop 253 301 = some (.iload_n 2, 1) by decide +kernel) rfl rfl ?_
            obtain ⟨g13, h⟩ := h
            obtain ⟨v11, s10, hD12, h⟩ := h
            refine zq_vi (v := some (.inl v11)) (σ' := s10) (nj := 4) (j := 188) (c := 2) (t := [(.inr (.inr (some 0)))]) (as := [(.inr (.inr (some 0))), (.inl x1), (.inl 0), (.inl x2)]) 305 [(.inl v11), (.inr (.inr (some 0)))] (show zop 253 302 = some (.invokevirtual 87, 3) by decide +kernel) (by decide +kernel) rfl (by decide +kernel) rfl rfl rfl rfl rfl rfl (by decide +kernel) (by decide +kernel) (clS_0 rfl) hD12 rfl g13 ?_
            refine zq_aload_n 306 (show zop 253 305 = some (.aload_n 0, 1) by decide +kernel) rfl rfl ?_
            refine zq_iload_n 307 (show zop 253 306 = some (.iload_n 1, 1) by decide +kernel) rfl rfl ?_
            refine zq_iconst 308 (show zop 253 307 = some (.iconst 1, 1) by decide +kernel) rfl rfl ?_
            refine zq_iload 310 (show zop 253 308 = some (.iload 13, 2) by decide +kernel) rfl rfl ?_
            obtain ⟨g17, h⟩ := h
            obtain ⟨v15, s14, hD16, h⟩ := h
            refine zq_vi (v := some (.inl v15)) (σ' := s14) (nj := 4) (j := 188) (c := 2) (t := [(.inl v11), (.inr (.inr (some 0)))]) (as := [(.inr (.inr (some 0))), (.inl x1), (.inl 1), (.inl v3)]) 313 [(.inl v15), (.inl v11), (.inr (.inr (some 0)))] (show zop 253 310 = some (.invokevirtual 87, 3) by decide +kernel) (by decide +kernel) rfl (by decide +kernel) rfl rfl rfl rfl rfl rfl (by decide +kernel) (by decide +kernel) (clS_0 rfl) hD16 rfl g17 ?_
            obtain ⟨g21, h⟩ := h
            obtain ⟨v19, s18, hD20, h⟩ := h
            refine zq_vi (v := some (.inl v19)) (σ' := s18) (nj := 3) (j := 177) (c := 2) (t := []) (as := [(.inr (.inr (some 0))), (.inl v11), (.inl v15)]) 316 [(.inl v19)] (show zop 253 313 = some (.invokevirtual 107, 3) by decide +kernel) (by decide +kernel) rfl (by decide +kernel) rfl rfl rfl rfl rfl rfl (by decide +kernel) (by decide +kernel) (clS_0 rfl) hD20 rfl g21 ?_
            refine zq_bipush 318 (show zop 253 316 = some (.bipush 50, 2) by decide +kernel) rfl (by decide) ?_
            by_cases hc27 : 50 ≤ v19
            · rw [if_pos hc27] at h
              refine zq_icmpF 321 325 (show zop 253 318 = some (.if_icmp .lt 7, 3) by decide +kernel) rfl rfl (decide_eq_false (Int.not_lt.mpr hc27)) ?_
              exact h
            · rw [if_neg hc27] at h
              refine zq_icmpT 325 (show zop 253 318 = some (.if_icmp .lt 7, 3) by decide +kernel) rfl (decide_eq_true (Int.not_le.mp hc27)) ?_
              exact h
          · rw [if_neg hc26] at h
            refine zq_icmpT 325 (show zop 253 294 = some (.if_icmp .ge 31, 3) by decide +kernel) rfl (decide_eq_true (Int.not_lt.mp hc26)) ?_
            exact h
      · rw [if_neg hc24] at h
        refine zq_icmpT 325 (show zop 253 281 = some (.if_icmp .ne 44, 3) by decide +kernel) rfl (decide_eq_true hc24) ?_
        exact h
  · rw [if_neg hc22] at h
    refine zq_icmpT 334 (show zop 253 258 = some (.if_icmp .ge 76, 3) by decide +kernel) rfl (decide_eq_true (Int.not_lt.mp hc22)) ?_
    exact h
theorem bK253_241 {x1 : Int} {x2 : Int} {x3 : Int} {x4 : Int} {x5 : Int} {x6 : Int} {d7 : Option AV} {x8 : Int} {x9 : Int} {d10 : Option AV} {x11 : Int} {x12 : Int} {d13 : Option AV} {y0 : Int} {w : WS} {r : Nat} {o : Ro} (h : (-2147483648 ≤ (x3 + 1) ∧ (x3 + 1) ≤ 2147483647) ∧ (-2147483648 ≤ (x2 + 1) ∧ (x2 + 1) ≤ 2147483647) ∧ K253_188 x1 (x2 + 1) (x3 + 1) x4 x5 x6 y0 x8 x9 d10 x11 x12 d13 w r o) : K253_241 x1 x2 x3 x4 x5 x6 d7 x8 x9 d10 x11 x12 d13 y0 w r o := by
  show Lg 253 241 [(some (.inr (.inr (some 0)))), (some (.inl x1)), (some (.inl x2)), (some (.inl x3)), (some (.inl x4)), (some (.inl x5)), (some (.inl x6)), d7, (some (.inl x8)), (some (.inl x9)), d10, (some (.inl x11)), (some (.inl x12)), d13] [(.inl y0)] w r o
  refine zq_istore 243 [(some (.inr (.inr (some 0)))), (some (.inl x1)), (some (.inl x2)), (some (.inl x3)), (some (.inl x4)), (some (.inl x5)), (some (.inl x6)), (some (.inl y0)), (some (.inl x8)), (some (.inl x9)), d10, (some (.inl x11)), (some (.inl x12)), d13] (show zop 253 241 = some (.istore 7, 2) by decide +kernel) rfl rfl rfl ?_
  obtain ⟨g1, h⟩ := h
  refine zq_iinc 246 [(some (.inr (.inr (some 0)))), (some (.inl x1)), (some (.inl x2)), (some (.inl (x3 + 1))), (some (.inl x4)), (some (.inl x5)), (some (.inl x6)), (some (.inl y0)), (some (.inl x8)), (some (.inl x9)), d10, (some (.inl x11)), (some (.inl x12)), d13] (show zop 253 243 = some (.iinc 3 1, 3) by decide +kernel) rfl rfl g1 rfl ?_
  obtain ⟨g2, h⟩ := h
  refine zq_iinc 249 [(some (.inr (.inr (some 0)))), (some (.inl x1)), (some (.inl (x2 + 1))), (some (.inl (x3 + 1))), (some (.inl x4)), (some (.inl x5)), (some (.inl x6)), (some (.inl y0)), (some (.inl x8)), (some (.inl x9)), d10, (some (.inl x11)), (some (.inl x12)), d13] (show zop 253 246 = some (.iinc 2 1, 3) by decide +kernel) rfl rfl g2 rfl ?_
  refine zq_goto 188 (show zop 253 249 = some (.goto (-61), 3) by decide +kernel) rfl ?_
  exact h
theorem bK253_240 {x1 : Int} {x2 : Int} {x3 : Int} {x4 : Int} {x5 : Int} {x6 : Int} {d7 : Option AV} {x8 : Int} {x9 : Int} {d10 : Option AV} {x11 : Int} {x12 : Int} {d13 : Option AV} {w : WS} {r : Nat} {o : Ro} (h : K253_241 x1 x2 x3 x4 x5 x6 d7 x8 x9 d10 x11 x12 d13 0 w r o) : K253_240 x1 x2 x3 x4 x5 x6 d7 x8 x9 d10 x11 x12 d13 w r o := by
  show Lg 253 240 [(some (.inr (.inr (some 0)))), (some (.inl x1)), (some (.inl x2)), (some (.inl x3)), (some (.inl x4)), (some (.inl x5)), (some (.inl x6)), d7, (some (.inl x8)), (some (.inl x9)), d10, (some (.inl x11)), (some (.inl x12)), d13] [] w r o
  refine zq_iconst 241 (show zop 253 240 = some (.iconst 0, 1) by decide +kernel) rfl rfl ?_
  exact h
theorem bK253_334 {x1 : Int} {x2 : Int} {x3 : Int} {x4 : Int} {x5 : Int} {x6 : Int} {x7 : Int} {x8 : Int} {d9 : Option AV} {d10 : Option AV} {d11 : Option AV} {x12 : Int} {d13 : Option AV} {w : WS} {r : Nat} {o : Ro} (h : (-2147483648 ≤ (x3 + x12) ∧ (x3 + x12) ≤ 2147483647) ∧ (-2147483648 ≤ (x8 + 1) ∧ (x8 + 1) ≤ 2147483647) ∧ K253_33 x1 x2 (x3 + x12) x4 x5 x6 x7 (x8 + 1) d9 d10 d11 (some (.inl x12)) d13 w r o) : K253_334 x1 x2 x3 x4 x5 x6 x7 x8 d9 d10 d11 x12 d13 w r o := by
  show Lg 253 334 [(some (.inr (.inr (some 0)))), (some (.inl x1)), (some (.inl x2)), (some (.inl x3)), (some (.inl x4)), (some (.inl x5)), (some (.inl x6)), (some (.inl x7)), (some (.inl x8)), d9, d10, d11, (some (.inl x12)), d13] [] w r o
  refine zq_iload_n 335 (show zop 253 334 = some (.iload_n 3, 1) by decide +kernel) rfl rfl ?_
  refine zq_iload 337 (show zop 253 335 = some (.iload 12, 2) by decide +kernel) rfl rfl ?_
  obtain ⟨g1, h⟩ := h
  refine zq_iadd 338 (show zop 253 337 = some (.iadd, 1) by decide +kernel) rfl g1 ?_
  refine zq_istore_n 339 [(some (.inr (.inr (some 0)))), (some (.inl x1)), (some (.inl x2)), (some (.inl (x3 + x12))), (some (.inl x4)), (some (.inl x5)), (some (.inl x6)), (some (.inl x7)), (some (.inl x8)), d9, d10, d11, (some (.inl x12)), d13] (show zop 253 338 = some (.istore_n 3, 1) by decide +kernel) rfl rfl rfl ?_
  obtain ⟨g2, h⟩ := h
  refine zq_iinc 342 [(some (.inr (.inr (some 0)))), (some (.inl x1)), (some (.inl x2)), (some (.inl (x3 + x12))), (some (.inl x4)), (some (.inl x5)), (some (.inl x6)), (some (.inl x7)), (some (.inl (x8 + 1))), d9, d10, d11, (some (.inl x12)), d13] (show zop 253 339 = some (.iinc 8 1, 3) by decide +kernel) rfl rfl g2 rfl ?_
  refine zq_goto 33 (show zop 253 342 = some (.goto (-309), 3) by decide +kernel) rfl ?_
  exact h
theorem bK253_321 {x1 : Int} {x2 : Int} {x3 : Int} {x4 : Int} {x5 : Int} {x6 : Int} {d7 : Option AV} {x8 : Int} {x9 : Int} {d10 : Option AV} {x11 : Int} {x12 : Int} {d13 : Option AV} {w : WS} {r : Nat} {o : Ro} (h : K253_326 x1 x2 x3 x4 x5 x6 d7 x8 x9 d10 x11 x12 d13 1 w r o) : K253_321 x1 x2 x3 x4 x5 x6 d7 x8 x9 d10 x11 x12 d13 w r o := by
  show Lg 253 321 [(some (.inr (.inr (some 0)))), (some (.inl x1)), (some (.inl x2)), (some (.inl x3)), (some (.inl x4)), (some (.inl x5)), (some (.inl x6)), d7, (some (.inl x8)), (some (.inl x9)), d10, (some (.inl x11)), (some (.inl x12)), d13] [] w r o
  refine zq_iconst 322 (show zop 253 321 = some (.iconst 1, 1) by decide +kernel) rfl rfl ?_
  refine zq_goto 326 (show zop 253 322 = some (.goto 4, 3) by decide +kernel) rfl ?_
  exact h
theorem bK253_325 {x1 : Int} {x2 : Int} {x3 : Int} {x4 : Int} {x5 : Int} {x6 : Int} {d7 : Option AV} {x8 : Int} {x9 : Int} {d10 : Option AV} {x11 : Int} {x12 : Int} {d13 : Option AV} {w : WS} {r : Nat} {o : Ro} (h : K253_326 x1 x2 x3 x4 x5 x6 d7 x8 x9 d10 x11 x12 d13 0 w r o) : K253_325 x1 x2 x3 x4 x5 x6 d7 x8 x9 d10 x11 x12 d13 w r o := by
  show Lg 253 325 [(some (.inr (.inr (some 0)))), (some (.inl x1)), (some (.inl x2)), (some (.inl x3)), (some (.inl x4)), (some (.inl x5)), (some (.inl x6)), d7, (some (.inl x8)), (some (.inl x9)), d10, (some (.inl x11)), (some (.inl x12)), d13] [] w r o
  refine zq_iconst 326 (show zop 253 325 = some (.iconst 0, 1) by decide +kernel) rfl rfl ?_
  exact h
theorem bK253_326 {x1 : Int} {x2 : Int} {x3 : Int} {x4 : Int} {x5 : Int} {x6 : Int} {d7 : Option AV} {x8 : Int} {x9 : Int} {d10 : Option AV} {x11 : Int} {x12 : Int} {d13 : Option AV} {y0 : Int} {w : WS} {r : Nat} {o : Ro} (h : (-2147483648 ≤ (x2 + 1) ∧ (x2 + 1) ≤ 2147483647) ∧ K253_252 x1 (x2 + 1) x3 x4 x5 x6 y0 x8 x9 d10 x11 x12 d13 w r o) : K253_326 x1 x2 x3 x4 x5 x6 d7 x8 x9 d10 x11 x12 d13 y0 w r o := by
  show Lg 253 326 [(some (.inr (.inr (some 0)))), (some (.inl x1)), (some (.inl x2)), (some (.inl x3)), (some (.inl x4)), (some (.inl x5)), (some (.inl x6)), d7, (some (.inl x8)), (some (.inl x9)), d10, (some (.inl x11)), (some (.inl x12)), d13] [(.inl y0)] w r o
  refine zq_istore 328 [(some (.inr (.inr (some 0)))), (some (.inl x1)), (some (.inl x2)), (some (.inl x3)), (some (.inl x4)), (some (.inl x5)), (some (.inl x6)), (some (.inl y0)), (some (.inl x8)), (some (.inl x9)), d10, (some (.inl x11)), (some (.inl x12)), d13] (show zop 253 326 = some (.istore 7, 2) by decide +kernel) rfl rfl rfl ?_
  obtain ⟨g1, h⟩ := h
  refine zq_iinc 331 [(some (.inr (.inr (some 0)))), (some (.inl x1)), (some (.inl (x2 + 1))), (some (.inl x3)), (some (.inl x4)), (some (.inl x5)), (some (.inl x6)), (some (.inl y0)), (some (.inl x8)), (some (.inl x9)), d10, (some (.inl x11)), (some (.inl x12)), d13] (show zop 253 328 = some (.iinc 2 1, 3) by decide +kernel) rfl rfl g1 rfl ?_
  refine zq_goto 252 (show zop 253 331 = some (.goto (-79), 3) by decide +kernel) rfl ?_
  exact h
/-- PatchBenchLaw.isWhole (LPatchBench;I)Z -/
theorem lb253 {x1 : Int} {w : WS} {o : Ro} (h : (1 ≤ 800) ∧ (∃ (v2 : Int) (s1 : Sg), Dc 190 [(.inr (.inr (some 0))), (.inl x1)] w.2.2 (.inl (some (.inl v2))) s1 ∧ (40 ≤ (800 - 1)) ∧ (∃ (v6 : Int) (w5 : WS), Lx 250 [(.inr (.inr (some 0))), (.inl x1), (.inl 0)] (wS w s1) (.inl (some (.inl v6)), w5) ∧ (40 ≤ ((800 - 1) - 40)) ∧ (∃ (v10 : Int) (w9 : WS), Lx 250 [(.inr (.inr (some 0))), (.inl x1), (.inl 1)] w5 (.inl (some (.inl v10)), w9) ∧ K253_33 x1 0 0 v2 v6 v10 1 0 none none none none none w9 (((800 - 1) - 40) - 40) o)))) : Lx 253 [(.inr (.inr (some 0))), (.inl x1)] w o := by
  refine Lx_of (l := 14) (r := 800) (by decide +kernel) (by decide +kernel) ?_
  show Lg 253 0 [(some (.inr (.inr (some 0)))), (some (.inl x1)), none, none, none, none, none, none, none, none, none, none, none, none] [] w 800 o
  refine zq_iconst 1 (show zop 253 0 = some (.iconst 0, 1) by decide +kernel) rfl rfl ?_
  refine zq_istore_n 2 [(some (.inr (.inr (some 0)))), (some (.inl x1)), (some (.inl 0)), none, none, none, none, none, none, none, none, none, none, none] (show zop 253 1 = some (.istore_n 2, 1) by decide +kernel) rfl rfl rfl ?_
  refine zq_iconst 3 (show zop 253 2 = some (.iconst 0, 1) by decide +kernel) rfl rfl ?_
  refine zq_istore_n 4 [(some (.inr (.inr (some 0)))), (some (.inl x1)), (some (.inl 0)), (some (.inl 0)), none, none, none, none, none, none, none, none, none, none] (show zop 253 3 = some (.istore_n 3, 1) by decide +kernel) rfl rfl rfl ?_
  refine zq_aload_n 5 (show zop 253 4 = some (.aload_n 0, 1) by decide +kernel) rfl rfl ?_
  refine zq_iload_n 6 (show zop 253 5 = some (.iload_n 1, 1) by decide +kernel) rfl rfl ?_
  obtain ⟨g4, h⟩ := h
  obtain ⟨v2, s1, hD3, h⟩ := h
  refine zq_vi (v := some (.inl v2)) (σ' := s1) (nj := 2) (j := 190) (c := 1) (t := []) (as := [(.inr (.inr (some 0))), (.inl x1)]) 9 [(.inl v2)] (show zop 253 6 = some (.invokevirtual 95, 3) by decide +kernel) (by decide +kernel) rfl (by decide +kernel) rfl rfl rfl rfl rfl rfl (by decide +kernel) (by decide +kernel) (clS_0 rfl) hD3 rfl g4 ?_
  refine zq_istore 11 [(some (.inr (.inr (some 0)))), (some (.inl x1)), (some (.inl 0)), (some (.inl 0)), (some (.inl v2)), none, none, none, none, none, none, none, none, none] (show zop 253 9 = some (.istore 4, 2) by decide +kernel) rfl rfl rfl ?_
  refine zq_aload_n 12 (show zop 253 11 = some (.aload_n 0, 1) by decide +kernel) rfl rfl ?_
  refine zq_iload_n 13 (show zop 253 12 = some (.iload_n 1, 1) by decide +kernel) rfl rfl ?_
  refine zq_iconst 14 (show zop 253 13 = some (.iconst 0, 1) by decide +kernel) rfl rfl ?_
  obtain ⟨g8, h⟩ := h
  obtain ⟨v6, w5, hD7, h⟩ := h
  refine zq_lx (v := some (.inl v6)) (w' := w5) (nj := 3) (j := 250) (c := 40) (t := []) (as := [(.inr (.inr (some 0))), (.inl x1), (.inl 0)]) 17 [(.inl v6)] (show zop 253 14 = some (.invokestatic 91, 3) by decide +kernel) (by decide +kernel) rfl (by decide +kernel) (by decide +kernel) rfl rfl rfl rfl rfl hD7 rfl g8 ?_
  refine zq_istore 19 [(some (.inr (.inr (some 0)))), (some (.inl x1)), (some (.inl 0)), (some (.inl 0)), (some (.inl v2)), (some (.inl v6)), none, none, none, none, none, none, none, none] (show zop 253 17 = some (.istore 5, 2) by decide +kernel) rfl rfl rfl ?_
  refine zq_aload_n 20 (show zop 253 19 = some (.aload_n 0, 1) by decide +kernel) rfl rfl ?_
  refine zq_iload_n 21 (show zop 253 20 = some (.iload_n 1, 1) by decide +kernel) rfl rfl ?_
  refine zq_iconst 22 (show zop 253 21 = some (.iconst 1, 1) by decide +kernel) rfl rfl ?_
  obtain ⟨g12, h⟩ := h
  obtain ⟨v10, w9, hD11, h⟩ := h
  refine zq_lx (v := some (.inl v10)) (w' := w9) (nj := 3) (j := 250) (c := 40) (t := []) (as := [(.inr (.inr (some 0))), (.inl x1), (.inl 1)]) 25 [(.inl v10)] (show zop 253 22 = some (.invokestatic 91, 3) by decide +kernel) (by decide +kernel) rfl (by decide +kernel) (by decide +kernel) rfl rfl rfl rfl rfl hD11 rfl g12 ?_
  refine zq_istore 27 [(some (.inr (.inr (some 0)))), (some (.inl x1)), (some (.inl 0)), (some (.inl 0)), (some (.inl v2)), (some (.inl v6)), (some (.inl v10)), none, none, none, none, none, none, none] (show zop 253 25 = some (.istore 6, 2) by decide +kernel) rfl rfl rfl ?_
  refine zq_iconst 28 (show zop 253 27 = some (.iconst 1, 1) by decide +kernel) rfl rfl ?_
  refine zq_istore 30 [(some (.inr (.inr (some 0)))), (some (.inl x1)), (some (.inl 0)), (some (.inl 0)), (some (.inl v2)), (some (.inl v6)), (some (.inl v10)), (some (.inl 1)), none, none, none, none, none, none] (show zop 253 28 = some (.istore 7, 2) by decide +kernel) rfl rfl rfl ?_
  refine zq_iconst 31 (show zop 253 30 = some (.iconst 0, 1) by decide +kernel) rfl rfl ?_
  refine zq_istore 33 [(some (.inr (.inr (some 0)))), (some (.inl x1)), (some (.inl 0)), (some (.inl 0)), (some (.inl v2)), (some (.inl v6)), (some (.inl v10)), (some (.inl 1)), (some (.inl 0)), none, none, none, none, none] (show zop 253 31 = some (.istore 8, 2) by decide +kernel) rfl rfl rfl ?_
  exact h
def K254_22 (x2 : Int) (x3 : Int) (x4 : Int) (x5 : Int) (d6 : Option AV) (d7 : Option AV) (d8 : Option AV) (d9 : Option AV) (d10 : Option AV) (y0 : Int) (w : WS) (r : Nat) (o : Ro) : Prop := Lg 254 22 [(some (.inr (.inr (some 0)))), (some (.inr (.inr (some 682)))), (some (.inl x2)), (some (.inl x3)), (some (.inl x4)), (some (.inl x5)), d6, d7, d8, d9, d10] [(.inl y0)] w r o
def K254_105 (x2 : Int) (x3 : Int) (d4 : Option AV) (x5 : Int) (x6 : Int) (x7 : Int) (d8 : Option AV) (d9 : Option AV) (d10 : Option AV) (w : WS) (r : Nat) (o : Ro) : Prop := Lg 254 105 [(some (.inr (.inr (some 0)))), (some (.inr (.inr (some 682)))), (some (.inl x2)), (some (.inl x3)), d4, (some (.inl x5)), (some (.inl x6)), (some (.inl x7)), d8, d9, d10] [] w r o
def K254_106 (x2 : Int) (x3 : Int) (d4 : Option AV) (x5 : Int) (x6 : Int) (x7 : Int) (d8 : Option AV) (d9 : Option AV) (d10 : Option AV) (y0 : Int) (w : WS) (r : Nat) (o : Ro) : Prop := Lg 254 106 [(some (.inr (.inr (some 0)))), (some (.inr (.inr (some 682)))), (some (.inl x2)), (some (.inl x3)), d4, (some (.inl x5)), (some (.inl x6)), (some (.inl x7)), d8, d9, d10] [(.inl y0)] w r o
def K254_120 (d0 : Option AV) (d1 : Option AV) (d2 : Option AV) (d3 : Option AV) (d4 : Option AV) (d5 : Option AV) (d6 : Option AV) (d7 : Option AV) (x8 : Int) (d9 : Option AV) (d10 : Option AV) (w : WS) (r : Nat) (o : Ro) : Prop := Lg 254 120 [d0, d1, d2, d3, d4, d5, d6, d7, (some (.inl x8)), d9, d10] [] w r o
def K254_142 (d1 : Option AV) (x2 : Int) (x3 : Int) (d4 : Option AV) (x5 : Int) (x6 : Int) (x7 : Int) (x8 : Int) (d9 : Option AV) (d10 : Option AV) (y1 : Int) (y2 : Int) (w : WS) (r : Nat) (o : Ro) : Prop := Lg 254 142 [(some (.inr (.inr (some 0)))), d1, (some (.inl x2)), (some (.inl x3)), d4, (some (.inl x5)), (some (.inl x6)), (some (.inl x7)), (some (.inl x8)), d9, d10] [(.inl y2), (.inl y1), (.inr (.inr (some 682)))] w r o
def K254_184 (d1 : Option AV) (x2 : Int) (d3 : Option AV) (d4 : Option AV) (d5 : Option AV) (d6 : Option AV) (x7 : Int) (d8 : Option AV) (x9 : Int) (d10 : Option AV) (w : WS) (r : Nat) (o : Ro) : Prop := Lg 254 184 [(some (.inr (.inr (some 0)))), d1, (some (.inl x2)), d3, d4, d5, d6, (some (.inl x7)), d8, (some (.inl x9)), d10] [] w r o
def K254_185 (d1 : Option AV) (x2 : Int) (d3 : Option AV) (d4 : Option AV) (d5 : Option AV) (d6 : Option AV) (x7 : Int) (d8 : Option AV) (x9 : Int) (d10 : Option AV) (y0 : Int) (w : WS) (r : Nat) (o : Ro) : Prop := Lg 254 185 [(some (.inr (.inr (some 0)))), d1, (some (.inl x2)), d3, d4, d5, d6, (some (.inl x7)), d8, (some (.inl x9)), d10] [(.inl y0)] w r o
def K254_190 (d1 : Option AV) (x2 : Int) (d3 : Option AV) (d4 : Option AV) (d5 : Option AV) (d6 : Option AV) (x7 : Int) (x8 : Int) (x9 : Int) (x10 : Int) (w : WS) (r : Nat) (o : Ro) : Prop := Lg 254 190 [(some (.inr (.inr (some 0)))), d1, (some (.inl x2)), d3, d4, d5, d6, (some (.inl x7)), (some (.inl x8)), (some (.inl x9)), (some (.inl x10))] [] w r o
def K254_240 (d1 : Option AV) (x2 : Int) (d3 : Option AV) (d4 : Option AV) (d5 : Option AV) (d6 : Option AV) (d7 : Option AV) (x8 : Int) (x9 : Int) (d10 : Option AV) (w : WS) (r : Nat) (o : Ro) : Prop := Lg 254 240 [(some (.inr (.inr (some 0)))), d1, (some (.inl x2)), d3, d4, d5, d6, d7, (some (.inl x8)), (some (.inl x9)), d10] [] w r o
def K254_232 (d1 : Option AV) (x2 : Int) (d3 : Option AV) (d4 : Option AV) (d5 : Option AV) (d6 : Option AV) (x7 : Int) (d8 : Option AV) (x9 : Int) (x10 : Int) (y0 : Int) (w : WS) (r : Nat) (o : Ro) : Prop := Lg 254 232 [(some (.inr (.inr (some 0)))), d1, (some (.inl x2)), d3, d4, d5, d6, (some (.inl x7)), d8, (some (.inl x9)), (some (.inl x10))] [(.inl y0)] w r o
def K254_259 (d0 : Option AV) (d1 : Option AV) (d2 : Option AV) (d3 : Option AV) (d4 : Option AV) (d5 : Option AV) (d6 : Option AV) (d7 : Option AV) (d8 : Option AV) (d9 : Option AV) (d10 : Option AV) (w : WS) (r : Nat) (o : Ro) : Prop := Lg 254 259 [d0, d1, d2, d3, d4, d5, d6, d7, d8, d9, d10] [] w r o
def K254_260 (d0 : Option AV) (d1 : Option AV) (d2 : Option AV) (d3 : Option AV) (d4 : Option AV) (d5 : Option AV) (d6 : Option AV) (d7 : Option AV) (d8 : Option AV) (d9 : Option AV) (d10 : Option AV) (y0 : Int) (w : WS) (r : Nat) (o : Ro) : Prop := Lg 254 260 [d0, d1, d2, d3, d4, d5, d6, d7, d8, d9, d10] [(.inl y0)] w r o
theorem bK254_22 {x2 : Int} {x3 : Int} {x4 : Int} {x5 : Int} {d6 : Option AV} {d7 : Option AV} {d8 : Option AV} {d9 : Option AV} {d10 : Option AV} {y0 : Int} {w : WS} {r : Nat} {o : Ro} (h : (w.1[0]? = some (0, 12, [])) ∧ (0 ≤ (0 : Int) ∧ (0 : Int) < 12) ∧ (w.1[0]? = some (0, 12, [])) ∧ (0 ≤ (0 : Int) ∧ (0 : Int) < 12) ∧ (-2147483648 ≤ ((w.2.1 682 ((0 : Int)).toNat) + 1) ∧ ((w.2.1 682 ((0 : Int)).toNat) + 1) ≤ 2147483647) ∧ (w.1[0]? = some (0, 12, [])) ∧ (0 ≤ (0 : Int) ∧ (0 : Int) < 12) ∧ (4 ≤ r) ∧ (∃ (v12 : Int) (s11 : Sg), Dc 181 [(.inr (.inr (some 0))), (.inl x2), (.inl x3), (.inl x4)] (wU w 682 ((0 : Int)).toNat ((w.2.1 682 ((0 : Int)).toNat) + 1)).2.2 (.inl (some (.inl v12))) s11 ∧ (if v12 = (w.2.1 682 ((0 : Int)).toNat) then (0 ≤ (r - 4)) ∧ (∃ (v16 : Int) (s15 : Sg), Dc 187 [(.inr (.inr (some 0)))] (wS (wU w 682 ((0 : Int)).toNat ((w.2.1 682 ((0 : Int)).toNat) + 1)) s11).2.2 (.inl (some (.inl v16))) s15 ∧ ((wS (wS (wU w 682 ((0 : Int)).toNat ((w.2.1 682 ((0 : Int)).toNat) + 1)) s11) s15).1[0]? = some (0, 12, [])) ∧ (0 ≤ (0 : Int) ∧ (0 : Int) < 12) ∧ (if v16 = ((wS (wS (wU w 682 ((0 : Int)).toNat ((w.2.1 682 ((0 : Int)).toNat) + 1)) s11) s15).2.1 682 ((0 : Int)).toNat) then (150 ≤ (r - 4)) ∧ (∃ (v23 : Int) (w22 : WS), Lx 251 [(.inr (.inr (some 0))), (.inl (w.2.1 682 ((0 : Int)).toNat)), (.inl 0), (.inl x2)] (wS (wS (wU w 682 ((0 : Int)).toNat ((w.2.1 682 ((0 : Int)).toNat) + 1)) s11) s15) (.inl (some (.inl v23)), w22) ∧ (if v23 = 0 then K254_105 x2 x3 (some (.inl x4)) x5 y0 (w.2.1 682 ((0 : Int)).toNat) d8 d9 d10 w22 ((r - 4) - 150) o else (150 ≤ ((r - 4) - 150)) ∧ (∃ (v27 : Int) (w26 : WS), Lx 251 [(.inr (.inr (some 0))), (.inl (w.2.1 682 ((0 : Int)).toNat)), (.inl 1), (.inl x3)] w22 (.inl (some (.inl v27)), w26) ∧ (if v27 = 0 then K254_105 x2 x3 (some (.inl x4)) x5 y0 (w.2.1 682 ((0 : Int)).toNat) d8 d9 d10 w26 (((r - 4) - 150) - 150) o else (800 ≤ (((r - 4) - 150) - 150)) ∧ (∃ (v31 : Int) (w30 : WS), Lx 253 [(.inr (.inr (some 0))), (.inl (w.2.1 682 ((0 : Int)).toNat))] w26 (.inl (some (.inl v31)), w30) ∧ (if v31 = 0 then K254_105 x2 x3 (some (.inl x4)) x5 y0 (w.2.1 682 ((0 : Int)).toNat) d8 d9 d10 w30 ((((r - 4) - 150) - 150) - 800) o else (2 ≤ ((((r - 4) - 150) - 150) - 800)) ∧ (∃ (v35 : Int) (s34 : Sg), Dc 194 [(.inr (.inr (some 0))), (.inl (w.2.1 682 ((0 : Int)).toNat)), (.inl (w.2.1 682 ((0 : Int)).toNat))] w30.2.2 (.inl (some (.inl v35))) s34 ∧ (if v35 = 0 then K254_106 x2 x3 (some (.inl x4)) x5 y0 (w.2.1 682 ((0 : Int)).toNat) d8 d9 d10 1 (wS w30 s34) (((((r - 4) - 150) - 150) - 800) - 2) o else K254_105 x2 x3 (some (.inl x4)) x5 y0 (w.2.1 682 ((0 : Int)).toNat) d8 d9 d10 (wS w30 s34) (((((r - 4) - 150) - 150) - 800) - 2) o)))))))) else K254_105 x2 x3 (some (.inl x4)) x5 y0 (w.2.1 682 ((0 : Int)).toNat) d8 d9 d10 (wS (wS (wU w 682 ((0 : Int)).toNat ((w.2.1 682 ((0 : Int)).toNat) + 1)) s11) s15) (r - 4) o)) else K254_105 x2 x3 (some (.inl x4)) x5 y0 (w.2.1 682 ((0 : Int)).toNat) d8 d9 d10 (wS (wU w 682 ((0 : Int)).toNat ((w.2.1 682 ((0 : Int)).toNat) + 1)) s11) (r - 4) o))) : K254_22 x2 x3 x4 x5 d6 d7 d8 d9 d10 y0 w r o := by
  show Lg 254 22 [(some (.inr (.inr (some 0)))), (some (.inr (.inr (some 682)))), (some (.inl x2)), (some (.inl x3)), (some (.inl x4)), (some (.inl x5)), d6, d7, d8, d9, d10] [(.inl y0)] w r o
  refine zq_istore 24 [(some (.inr (.inr (some 0)))), (some (.inr (.inr (some 682)))), (some (.inl x2)), (some (.inl x3)), (some (.inl x4)), (some (.inl x5)), (some (.inl y0)), d7, d8, d9, d10] (show zop 254 22 = some (.istore 6, 2) by decide +kernel) rfl rfl rfl ?_
  refine zq_aload_n 25 (show zop 254 24 = some (.aload_n 1, 1) by decide +kernel) rfl rfl ?_
  refine zq_iconst 26 (show zop 254 25 = some (.iconst 0, 1) by decide +kernel) rfl rfl ?_
  obtain ⟨g3, h⟩ := h
  obtain ⟨g1, h⟩ := h
  refine zq_iaload 27 12 (show zop 254 26 = some (.iaload, 1) by decide +kernel) rfl (by decide) g3 g1 ?_
  refine zq_istore 29 [(some (.inr (.inr (some 0)))), (some (.inr (.inr (some 682)))), (some (.inl x2)), (some (.inl x3)), (some (.inl x4)), (some (.inl x5)), (some (.inl y0)), (some (.inl (w.2.1 682 ((0 : Int)).toNat))), d8, d9, d10] (show zop 254 27 = some (.istore 7, 2) by decide +kernel) rfl rfl rfl ?_
  refine zq_aload_n 30 (show zop 254 29 = some (.aload_n 1, 1) by decide +kernel) rfl rfl ?_
  refine zq_iconst 31 (show zop 254 30 = some (.iconst 0, 1) by decide +kernel) rfl rfl ?_
  refine zq_dup2 32 (show zop 254 31 = some (.dup2, 1) by decide +kernel) rfl rfl rfl ?_
  obtain ⟨g6, h⟩ := h
  obtain ⟨g4, h⟩ := h
  refine zq_iaload 33 12 (show zop 254 32 = some (.iaload, 1) by decide +kernel) rfl (by decide) g6 g4 ?_
  refine zq_iconst 34 (show zop 254 33 = some (.iconst 1, 1) by decide +kernel) rfl rfl ?_
  obtain ⟨g7, h⟩ := h
  refine zq_iadd 35 (show zop 254 34 = some (.iadd, 1) by decide +kernel) rfl g7 ?_
  obtain ⟨g10, h⟩ := h
  obtain ⟨g8, h⟩ := h
  refine zq_iastore 36 12 (show zop 254 35 = some (.iastore, 1) by decide +kernel) rfl (by decide) g10 g8 ?_
  refine zq_aload_n 37 (show zop 254 36 = some (.aload_n 0, 1) by decide +kernel) rfl rfl ?_
  refine zq_iload_n 38 (show zop 254 37 = some (.iload_n 2, 1) by decide +kernel) rfl rfl ?_
  refine zq_iload_n 39 (show zop 254 38 = some (.iload_n 3, 1) by decide +kernel) rfl rfl ?_
  refine zq_iload 41 (show zop 254 39 = some (.iload 4, 2) by decide +kernel) rfl rfl ?_
  obtain ⟨g14, h⟩ := h
  obtain ⟨v12, s11, hD13, h⟩ := h
  refine zq_vi (v := some (.inl v12)) (σ' := s11) (nj := 4) (j := 181) (c := 4) (t := []) (as := [(.inr (.inr (some 0))), (.inl x2), (.inl x3), (.inl x4)]) 44 [(.inl v12)] (show zop 254 41 = some (.invokevirtual 110, 3) by decide +kernel) (by decide +kernel) rfl (by decide +kernel) rfl rfl rfl rfl rfl rfl (by decide +kernel) (by decide +kernel) (clS_0 rfl) hD13 rfl g14 ?_
  refine zq_iload 46 (show zop 254 44 = some (.iload 7, 2) by decide +kernel) rfl rfl ?_
  by_cases hc38 : v12 = (w.2.1 682 ((0 : Int)).toNat)
  · rw [if_pos hc38] at h
    refine zq_icmpF 49 105 (show zop 254 46 = some (.if_icmp .ne 59, 3) by decide +kernel) rfl rfl (decide_eq_false (fun h9 => h9 hc38)) ?_
    refine zq_aload_n 50 (show zop 254 49 = some (.aload_n 0, 1) by decide +kernel) rfl rfl ?_
    obtain ⟨g18, h⟩ := h
    obtain ⟨v16, s15, hD17, h⟩ := h
    refine zq_vi (v := some (.inl v16)) (σ' := s15) (nj := 1) (j := 187) (c := 0) (t := []) (as := [(.inr (.inr (some 0)))]) 53 [(.inl v16)] (show zop 254 50 = some (.invokevirtual 113, 3) by decide +kernel) (by decide +kernel) rfl (by decide +kernel) rfl rfl rfl rfl rfl rfl (by decide +kernel) (by decide +kernel) (clS_0 rfl) hD17 rfl g18 ?_
    refine zq_aload_n 54 (show zop 254 53 = some (.aload_n 1, 1) by decide +kernel) rfl rfl ?_
    refine zq_iconst 55 (show zop 254 54 = some (.iconst 0, 1) by decide +kernel) rfl rfl ?_
    obtain ⟨g21, h⟩ := h
    obtain ⟨g19, h⟩ := h
    refine zq_iaload 56 12 (show zop 254 55 = some (.iaload, 1) by decide +kernel) rfl (by decide) g21 g19 ?_
    by_cases hc39 : v16 = ((wS (wS (wU w 682 ((0 : Int)).toNat ((w.2.1 682 ((0 : Int)).toNat) + 1)) s11) s15).2.1 682 ((0 : Int)).toNat)
    · rw [if_pos hc39] at h
      refine zq_icmpF 59 105 (show zop 254 56 = some (.if_icmp .ne 49, 3) by decide +kernel) rfl rfl (decide_eq_false (fun h9 => h9 hc39)) ?_
      refine zq_aload_n 60 (show zop 254 59 = some (.aload_n 0, 1) by decide +kernel) rfl rfl ?_
      refine zq_iload 62 (show zop 254 60 = some (.iload 7, 2) by decide +kernel) rfl rfl ?_
      refine zq_iconst 63 (show zop 254 62 = some (.iconst 0, 1) by decide +kernel) rfl rfl ?_
      refine zq_iload_n 64 (show zop 254 63 = some (.iload_n 2, 1) by decide +kernel) rfl rfl ?_
      obtain ⟨g25, h⟩ := h
      obtain ⟨v23, w22, hD24, h⟩ := h
      refine zq_lx (v := some (.inl v23)) (w' := w22) (nj := 4) (j := 251) (c := 150) (t := []) (as := [(.inr (.inr (some 0))), (.inl (w.2.1 682 ((0 : Int)).toNat)), (.inl 0), (.inl x2)]) 67 [(.inl v23)] (show zop 254 64 = some (.invokestatic 117, 3) by decide +kernel) (by decide +kernel) rfl (by decide +kernel) (by decide +kernel) rfl rfl rfl rfl rfl hD24 rfl g25 ?_
      by_cases hc40 : v23 = 0
      · rw [if_pos hc40] at h
        refine zq_ifT 105 (show zop 254 67 = some (.ifCond .eq 38, 3) by decide +kernel) rfl (decide_eq_true hc40) ?_
        exact h
      · rw [if_neg hc40] at h
        refine zq_ifF 70 105 (show zop 254 67 = some (.ifCond .eq 38, 3) by decide +kernel) rfl rfl (decide_eq_false hc40) ?_
        refine zq_aload_n 71 (show zop 254 70 = some (.aload_n 0, 1) by decide +kernel) rfl rfl ?_
        refine zq_iload 73 (show zop 254 71 = some (.iload 7, 2) by decide +kernel) rfl rfl ?_
        refine zq_iconst 74 (show zop 254 73 = some (.iconst 1, 1) by decide +kernel) rfl rfl ?_
        refine zq_iload_n 75 (show zop 254 74 = some (.iload_n 3, 1) by decide +kernel) rfl rfl ?_
        obtain ⟨g29, h⟩ := h
        obtain ⟨v27, w26, hD28, h⟩ := h
        refine zq_lx (v := some (.inl v27)) (w' := w26) (nj := 4) (j := 251) (c := 150) (t := []) (as := [(.inr (.inr (some 0))), (.inl (w.2.1 682 ((0 : Int)).toNat)), (.inl 1), (.inl x3)]) 78 [(.inl v27)] (show zop 254 75 = some (.invokestatic 117, 3) by decide +kernel) (by decide +kernel) rfl (by decide +kernel) (by decide +kernel) rfl rfl rfl rfl rfl hD28 rfl g29 ?_
        by_cases hc41 : v27 = 0
        · rw [if_pos hc41] at h
          refine zq_ifT 105 (show zop 254 78 = some (.ifCond .eq 27, 3) by decide +kernel) rfl (decide_eq_true hc41) ?_
          exact h
        · rw [if_neg hc41] at h
          refine zq_ifF 81 105 (show zop 254 78 = some (.ifCond .eq 27, 3) by decide +kernel) rfl rfl (decide_eq_false hc41) ?_
          refine zq_aload_n 82 (show zop 254 81 = some (.aload_n 0, 1) by decide +kernel) rfl rfl ?_
          refine zq_iload 84 (show zop 254 82 = some (.iload 7, 2) by decide +kernel) rfl rfl ?_
          obtain ⟨g33, h⟩ := h
          obtain ⟨v31, w30, hD32, h⟩ := h
          refine zq_lx (v := some (.inl v31)) (w' := w30) (nj := 2) (j := 253) (c := 800) (t := []) (as := [(.inr (.inr (some 0))), (.inl (w.2.1 682 ((0 : Int)).toNat))]) 87 [(.inl v31)] (show zop 254 84 = some (.invokestatic 121, 3) by decide +kernel) (by decide +kernel) rfl (by decide +kernel) (by decide +kernel) rfl rfl rfl rfl rfl hD32 rfl g33 ?_
          by_cases hc42 : v31 = 0
          · rw [if_pos hc42] at h
            refine zq_ifT 105 (show zop 254 87 = some (.ifCond .eq 18, 3) by decide +kernel) rfl (decide_eq_true hc42) ?_
            exact h
          · rw [if_neg hc42] at h
            refine zq_ifF 90 105 (show zop 254 87 = some (.ifCond .eq 18, 3) by decide +kernel) rfl rfl (decide_eq_false hc42) ?_
            refine zq_aload_n 91 (show zop 254 90 = some (.aload_n 0, 1) by decide +kernel) rfl rfl ?_
            refine zq_iload 93 (show zop 254 91 = some (.iload 7, 2) by decide +kernel) rfl rfl ?_
            refine zq_iload 95 (show zop 254 93 = some (.iload 7, 2) by decide +kernel) rfl rfl ?_
            obtain ⟨g37, h⟩ := h
            obtain ⟨v35, s34, hD36, h⟩ := h
            refine zq_vi (v := some (.inl v35)) (σ' := s34) (nj := 3) (j := 194) (c := 2) (t := []) (as := [(.inr (.inr (some 0))), (.inl (w.2.1 682 ((0 : Int)).toNat)), (.inl (w.2.1 682 ((0 : Int)).toNat))]) 98 [(.inl v35)] (show zop 254 95 = some (.invokevirtual 125, 3) by decide +kernel) (by decide +kernel) rfl (by decide +kernel) rfl rfl rfl rfl rfl rfl (by decide +kernel) (by decide +kernel) (clS_0 rfl) hD36 rfl g37 ?_
            by_cases hc43 : v35 = 0
            · rw [if_pos hc43] at h
              refine zq_ifF 101 105 (show zop 254 98 = some (.ifCond .ne 7, 3) by decide +kernel) rfl rfl (decide_eq_false (fun h9 => h9 hc43)) ?_
              refine zq_iconst 102 (show zop 254 101 = some (.iconst 1, 1) by decide +kernel) rfl rfl ?_
              refine zq_goto 106 (show zop 254 102 = some (.goto 4, 3) by decide +kernel) rfl ?_
              exact h
            · rw [if_neg hc43] at h
              refine zq_ifT 105 (show zop 254 98 = some (.ifCond .ne 7, 3) by decide +kernel) rfl (decide_eq_true hc43) ?_
              exact h
    · rw [if_neg hc39] at h
      refine zq_icmpT 105 (show zop 254 56 = some (.if_icmp .ne 49, 3) by decide +kernel) rfl (decide_eq_true hc39) ?_
      exact h
  · rw [if_neg hc38] at h
    refine zq_icmpT 105 (show zop 254 46 = some (.if_icmp .ne 59, 3) by decide +kernel) rfl (decide_eq_true hc38) ?_
    exact h
theorem bK254_105 {x2 : Int} {x3 : Int} {d4 : Option AV} {x5 : Int} {x6 : Int} {x7 : Int} {d8 : Option AV} {d9 : Option AV} {d10 : Option AV} {w : WS} {r : Nat} {o : Ro} (h : K254_106 x2 x3 d4 x5 x6 x7 d8 d9 d10 0 w r o) : K254_105 x2 x3 d4 x5 x6 x7 d8 d9 d10 w r o := by
  show Lg 254 105 [(some (.inr (.inr (some 0)))), (some (.inr (.inr (some 682)))), (some (.inl x2)), (some (.inl x3)), d4, (some (.inl x5)), (some (.inl x6)), (some (.inl x7)), d8, d9, d10] [] w r o
  refine zq_iconst 106 (show zop 254 105 = some (.iconst 0, 1) by decide +kernel) rfl rfl ?_
  exact h
theorem bK254_106 {x2 : Int} {x3 : Int} {d4 : Option AV} {x5 : Int} {x6 : Int} {x7 : Int} {d8 : Option AV} {d9 : Option AV} {d10 : Option AV} {y0 : Int} {w : WS} {r : Nat} {o : Ro} (h : (if x6 = x2 then K254_120 (some (.inr (.inr (some 0)))) (some (.inr (.inr (some 682)))) (some (.inl x2)) (some (.inl x3)) d4 (some (.inl x5)) (some (.inl x6)) (some (.inl x7)) y0 d9 d10 w r o else (if x6 = x3 then K254_120 (some (.inr (.inr (some 0)))) (some (.inr (.inr (some 682)))) (some (.inl x2)) (some (.inl x3)) d4 (some (.inl x5)) (some (.inl x6)) (some (.inl x7)) y0 d9 d10 w r o else (w.1[0]? = some (0, 12, [])) ∧ (0 ≤ (5 : Int) ∧ (5 : Int) < 12) ∧ (-2147483648 ≤ (x6 + 1) ∧ (x6 + 1) ≤ 2147483647) ∧ (¬ ((w.2.1 682 ((5 : Int)).toNat) = (x6 + 1)) → w.1[0]? = some (0, 12, [])) ∧ (¬ ((w.2.1 682 ((5 : Int)).toNat) = (x6 + 1)) → 0 ≤ (5 : Int) ∧ (5 : Int) < 12) ∧ K254_142 (some (.inr (.inr (some 682)))) x2 x3 d4 x5 x6 x7 y0 d9 d10 5 (if (w.2.1 682 ((5 : Int)).toNat) = (x6 + 1) then 0 else (w.2.1 682 ((5 : Int)).toNat)) w r o))) : K254_106 x2 x3 d4 x5 x6 x7 d8 d9 d10 y0 w r o := by
  show Lg 254 106 [(some (.inr (.inr (some 0)))), (some (.inr (.inr (some 682)))), (some (.inl x2)), (some (.inl x3)), d4, (some (.inl x5)), (some (.inl x6)), (some (.inl x7)), d8, d9, d10] [(.inl y0)] w r o
  refine zq_istore 108 [(some (.inr (.inr (some 0)))), (some (.inr (.inr (some 682)))), (some (.inl x2)), (some (.inl x3)), d4, (some (.inl x5)), (some (.inl x6)), (some (.inl x7)), (some (.inl y0)), d9, d10] (show zop 254 106 = some (.istore 8, 2) by decide +kernel) rfl rfl rfl ?_
  refine zq_iload 110 (show zop 254 108 = some (.iload 6, 2) by decide +kernel) rfl rfl ?_
  refine zq_iload_n 111 (show zop 254 110 = some (.iload_n 2, 1) by decide +kernel) rfl rfl ?_
  by_cases hc8 : x6 = x2
  · rw [if_pos hc8] at h
    refine zq_icmpT 120 (show zop 254 111 = some (.if_icmp .eq 9, 3) by decide +kernel) rfl (decide_eq_true hc8) ?_
    exact h
  · rw [if_neg hc8] at h
    refine zq_icmpF 114 120 (show zop 254 111 = some (.if_icmp .eq 9, 3) by decide +kernel) rfl rfl (decide_eq_false hc8) ?_
    refine zq_iload 116 (show zop 254 114 = some (.iload 6, 2) by decide +kernel) rfl rfl ?_
    refine zq_iload_n 117 (show zop 254 116 = some (.iload_n 3, 1) by decide +kernel) rfl rfl ?_
    by_cases hc9 : x6 = x3
    · rw [if_pos hc9] at h
      refine zq_icmpF 120 123 (show zop 254 117 = some (.if_icmp .ne 6, 3) by decide +kernel) rfl rfl (decide_eq_false (fun h9 => h9 hc9)) ?_
      exact h
    · rw [if_neg hc9] at h
      refine zq_icmpT 123 (show zop 254 117 = some (.if_icmp .ne 6, 3) by decide +kernel) rfl (decide_eq_true hc9) ?_
      refine zq_aload_n 124 (show zop 254 123 = some (.aload_n 1, 1) by decide +kernel) rfl rfl ?_
      refine zq_iconst 125 (show zop 254 124 = some (.iconst 5, 1) by decide +kernel) rfl rfl ?_
      refine zq_aload_n 126 (show zop 254 125 = some (.aload_n 1, 1) by decide +kernel) rfl rfl ?_
      refine zq_iconst 127 (show zop 254 126 = some (.iconst 5, 1) by decide +kernel) rfl rfl ?_
      obtain ⟨g3, h⟩ := h
      obtain ⟨g1, h⟩ := h
      refine zq_iaload 128 12 (show zop 254 127 = some (.iaload, 1) by decide +kernel) rfl (by decide) g3 g1 ?_
      refine zq_iload 130 (show zop 254 128 = some (.iload 6, 2) by decide +kernel) rfl rfl ?_
      refine zq_iconst 131 (show zop 254 130 = some (.iconst 1, 1) by decide +kernel) rfl rfl ?_
      obtain ⟨g4, h⟩ := h
      refine zq_iadd 132 (show zop 254 131 = some (.iadd, 1) by decide +kernel) rfl g4 ?_
      obtain ⟨G11, G12, h⟩ := h
      by_cases hc10 : (w.2.1 682 ((5 : Int)).toNat) = (x6 + 1)
      · refine zq_icmpF 135 139 (show zop 254 132 = some (.if_icmp .ne 7, 3) by decide +kernel) rfl rfl (decide_eq_false (fun h9 => h9 hc10)) ?_
        refine zq_iconst 136 (show zop 254 135 = some (.iconst 0, 1) by decide +kernel) rfl rfl ?_
        refine zq_goto 142 (show zop 254 136 = some (.goto 6, 3) by decide +kernel) rfl ?_
        have h9 := h; simp only [if_pos hc10] at h9; exact h9
      · refine zq_icmpT 139 (show zop 254 132 = some (.if_icmp .ne 7, 3) by decide +kernel) rfl (decide_eq_true hc10) ?_
        refine zq_aload_n 140 (show zop 254 139 = some (.aload_n 1, 1) by decide +kernel) rfl rfl ?_
        refine zq_iconst 141 (show zop 254 140 = some (.iconst 5, 1) by decide +kernel) rfl rfl ?_
        have g7 := G11 hc10
        have g5 := G12 hc10
        refine zq_iaload 142 12 (show zop 254 141 = some (.iaload, 1) by decide +kernel) rfl (by decide) g7 g5 ?_
        have h9 := h; simp only [if_neg hc10] at h9; exact h9
theorem bK254_120 {d0 : Option AV} {d1 : Option AV} {d2 : Option AV} {d3 : Option AV} {d4 : Option AV} {d5 : Option AV} {d6 : Option AV} {d7 : Option AV} {x8 : Int} {d9 : Option AV} {d10 : Option AV} {w : WS} {r : Nat} {o : Ro} (h : (x8 = 0 ∨ x8 = 1) ∧ o = (.inl (some (.inl x8)), w)) : K254_120 d0 d1 d2 d3 d4 d5 d6 d7 x8 d9 d10 w r o := by
  show Lg 254 120 [d0, d1, d2, d3, d4, d5, d6, d7, (some (.inl x8)), d9, d10] [] w r o
  refine zq_iload 122 (show zop 254 120 = some (.iload 8, 2) by decide +kernel) rfl rfl ?_
  obtain ⟨g1, h⟩ := h
  exact (zq_zret (show zop 254 122 = some (.ireturn, 1) by decide +kernel) (by decide +kernel) g1 h)
theorem bK254_142 {d1 : Option AV} {x2 : Int} {x3 : Int} {d4 : Option AV} {x5 : Int} {x6 : Int} {x7 : Int} {x8 : Int} {d9 : Option AV} {d10 : Option AV} {y1 : Int} {y2 : Int} {w : WS} {r : Nat} {o : Ro} (h : (w.1[0]? = some (0, 12, [])) ∧ (0 ≤ y1 ∧ y1 < 12) ∧ (2 ≤ r) ∧ (∃ (v5 : Int) (s4 : Sg), Dc 174 [(.inr (.inr (some 0))), (.inl x2), (.inl x6)] (wU w 682 (y1).toNat y2).2.2 (.inl (some (.inl v5))) s4 ∧ (if x8 = 0 then K254_184 d1 x2 (some (.inl x3)) d4 (some (.inl x5)) (some (.inl x6)) x7 (some (.inl x8)) v5 d10 (wS (wU w 682 (y1).toNat y2) s4) (r - 2) o else (4 ≤ (r - 2)) ∧ (∃ (v9 : Int) (s8 : Sg), Dc 195 [(.inr (.inr (some 0))), (.inl x7), (.inl x6), (.inl x5)] (wS (wU w 682 (y1).toNat y2) s4).2.2 (.inl (some (.inl v9))) s8 ∧ (if v9 = 0 then (100 ≤ ((r - 2) - 4)) ∧ (∃ (v13 : Int) (w12 : WS), Lx 247 [(.inr (.inr (some 0))), (.inl x6), (.inl x3)] (wS (wS (wU w 682 (y1).toNat y2) s4) s8) (.inl (some (.inl v13)), w12) ∧ (if v13 = 0 then K254_184 d1 x2 (some (.inl x3)) d4 (some (.inl x5)) (some (.inl x6)) x7 (some (.inl x8)) v5 d10 w12 (((r - 2) - 4) - 100) o else K254_185 d1 x2 (some (.inl x3)) d4 (some (.inl x5)) (some (.inl x6)) x7 (some (.inl x8)) v5 d10 1 w12 (((r - 2) - 4) - 100) o)) else K254_184 d1 x2 (some (.inl x3)) d4 (some (.inl x5)) (some (.inl x6)) x7 (some (.inl x8)) v5 d10 (wS (wS (wU w 682 (y1).toNat y2) s4) s8) ((r - 2) - 4) o))))) : K254_142 d1 x2 x3 d4 x5 x6 x7 x8 d9 d10 y1 y2 w r o := by
  show Lg 254 142 [(some (.inr (.inr (some 0)))), d1, (some (.inl x2)), (some (.inl x3)), d4, (some (.inl x5)), (some (.inl x6)), (some (.inl x7)), (some (.inl x8)), d9, d10] [(.inl y2), (.inl y1), (.inr (.inr (some 682)))] w r o
  obtain ⟨g3, h⟩ := h
  obtain ⟨g1, h⟩ := h
  refine zq_iastore 143 12 (show zop 254 142 = some (.iastore, 1) by decide +kernel) rfl (by decide) g3 g1 ?_
  refine zq_aload_n 144 (show zop 254 143 = some (.aload_n 0, 1) by decide +kernel) rfl rfl ?_
  refine zq_iload_n 145 (show zop 254 144 = some (.iload_n 2, 1) by decide +kernel) rfl rfl ?_
  refine zq_iload 147 (show zop 254 145 = some (.iload 6, 2) by decide +kernel) rfl rfl ?_
  obtain ⟨g7, h⟩ := h
  obtain ⟨v5, s4, hD6, h⟩ := h
  refine zq_vi (v := some (.inl v5)) (σ' := s4) (nj := 3) (j := 174) (c := 2) (t := []) (as := [(.inr (.inr (some 0))), (.inl x2), (.inl x6)]) 150 [(.inl v5)] (show zop 254 147 = some (.invokevirtual 33, 3) by decide +kernel) (by decide +kernel) rfl (by decide +kernel) rfl rfl rfl rfl rfl rfl (by decide +kernel) (by decide +kernel) (clS_0 rfl) hD6 rfl g7 ?_
  refine zq_istore 152 [(some (.inr (.inr (some 0)))), d1, (some (.inl x2)), (some (.inl x3)), d4, (some (.inl x5)), (some (.inl x6)), (some (.inl x7)), (some (.inl x8)), (some (.inl v5)), d10] (show zop 254 150 = some (.istore 9, 2) by decide +kernel) rfl rfl rfl ?_
  refine zq_iload 154 (show zop 254 152 = some (.iload 8, 2) by decide +kernel) rfl rfl ?_
  by_cases hc16 : x8 = 0
  · rw [if_pos hc16] at h
    refine zq_ifT 184 (show zop 254 154 = some (.ifCond .eq 30, 3) by decide +kernel) rfl (decide_eq_true hc16) ?_
    exact h
  · rw [if_neg hc16] at h
    refine zq_ifF 157 184 (show zop 254 154 = some (.ifCond .eq 30, 3) by decide +kernel) rfl rfl (decide_eq_false hc16) ?_
    refine zq_aload_n 158 (show zop 254 157 = some (.aload_n 0, 1) by decide +kernel) rfl rfl ?_
    refine zq_iload 160 (show zop 254 158 = some (.iload 7, 2) by decide +kernel) rfl rfl ?_
    refine zq_iload 162 (show zop 254 160 = some (.iload 6, 2) by decide +kernel) rfl rfl ?_
    refine zq_iload 164 (show zop 254 162 = some (.iload 5, 2) by decide +kernel) rfl rfl ?_
    obtain ⟨g11, h⟩ := h
    obtain ⟨v9, s8, hD10, h⟩ := h
    refine zq_vi (v := some (.inl v9)) (σ' := s8) (nj := 4) (j := 195) (c := 4) (t := []) (as := [(.inr (.inr (some 0))), (.inl x7), (.inl x6), (.inl x5)]) 167 [(.inl v9)] (show zop 254 164 = some (.invokevirtual 128, 3) by decide +kernel) (by decide +kernel) rfl (by decide +kernel) rfl rfl rfl rfl rfl rfl (by decide +kernel) (by decide +kernel) (clS_0 rfl) hD10 rfl g11 ?_
    by_cases hc17 : v9 = 0
    · rw [if_pos hc17] at h
      refine zq_ifF 170 184 (show zop 254 167 = some (.ifCond .ne 17, 3) by decide +kernel) rfl rfl (decide_eq_false (fun h9 => h9 hc17)) ?_
      refine zq_aload_n 171 (show zop 254 170 = some (.aload_n 0, 1) by decide +kernel) rfl rfl ?_
      refine zq_iload 173 (show zop 254 171 = some (.iload 6, 2) by decide +kernel) rfl rfl ?_
      refine zq_iload_n 174 (show zop 254 173 = some (.iload_n 3, 1) by decide +kernel) rfl rfl ?_
      obtain ⟨g15, h⟩ := h
      obtain ⟨v13, w12, hD14, h⟩ := h
      refine zq_lx (v := some (.inl v13)) (w' := w12) (nj := 3) (j := 247) (c := 100) (t := []) (as := [(.inr (.inr (some 0))), (.inl x6), (.inl x3)]) 177 [(.inl v13)] (show zop 254 174 = some (.invokestatic 36, 3) by decide +kernel) (by decide +kernel) rfl (by decide +kernel) (by decide +kernel) rfl rfl rfl rfl rfl hD14 rfl g15 ?_
      by_cases hc18 : v13 = 0
      · rw [if_pos hc18] at h
        refine zq_ifT 184 (show zop 254 177 = some (.ifCond .eq 7, 3) by decide +kernel) rfl (decide_eq_true hc18) ?_
        exact h
      · rw [if_neg hc18] at h
        refine zq_ifF 180 184 (show zop 254 177 = some (.ifCond .eq 7, 3) by decide +kernel) rfl rfl (decide_eq_false hc18) ?_
        refine zq_iconst 181 (show zop 254 180 = some (.iconst 1, 1) by decide +kernel) rfl rfl ?_
        refine zq_goto 185 (show zop 254 181 = some (.goto 4, 3) by decide +kernel) rfl ?_
        exact h
    · rw [if_neg hc17] at h
      refine zq_ifT 184 (show zop 254 167 = some (.ifCond .ne 17, 3) by decide +kernel) rfl (decide_eq_true hc17) ?_
      exact h
theorem bK254_184 {d1 : Option AV} {x2 : Int} {d3 : Option AV} {d4 : Option AV} {d5 : Option AV} {d6 : Option AV} {x7 : Int} {d8 : Option AV} {x9 : Int} {d10 : Option AV} {w : WS} {r : Nat} {o : Ro} (h : K254_185 d1 x2 d3 d4 d5 d6 x7 d8 x9 d10 0 w r o) : K254_184 d1 x2 d3 d4 d5 d6 x7 d8 x9 d10 w r o := by
  show Lg 254 184 [(some (.inr (.inr (some 0)))), d1, (some (.inl x2)), d3, d4, d5, d6, (some (.inl x7)), d8, (some (.inl x9)), d10] [] w r o
  refine zq_iconst 185 (show zop 254 184 = some (.iconst 0, 1) by decide +kernel) rfl rfl ?_
  exact h
theorem bK254_185 {d1 : Option AV} {x2 : Int} {d3 : Option AV} {d4 : Option AV} {d5 : Option AV} {d6 : Option AV} {x7 : Int} {d8 : Option AV} {x9 : Int} {d10 : Option AV} {y0 : Int} {w : WS} {r : Nat} {o : Ro} (h : K254_190 d1 x2 d3 d4 d5 d6 x7 y0 x9 0 w r o) : K254_185 d1 x2 d3 d4 d5 d6 x7 d8 x9 d10 y0 w r o := by
  show Lg 254 185 [(some (.inr (.inr (some 0)))), d1, (some (.inl x2)), d3, d4, d5, d6, (some (.inl x7)), d8, (some (.inl x9)), d10] [(.inl y0)] w r o
  refine zq_istore 187 [(some (.inr (.inr (some 0)))), d1, (some (.inl x2)), d3, d4, d5, d6, (some (.inl x7)), (some (.inl y0)), (some (.inl x9)), d10] (show zop 254 185 = some (.istore 8, 2) by decide +kernel) rfl rfl rfl ?_
  refine zq_iconst 188 (show zop 254 187 = some (.iconst 0, 1) by decide +kernel) rfl rfl ?_
  refine zq_istore 190 [(some (.inr (.inr (some 0)))), d1, (some (.inl x2)), d3, d4, d5, d6, (some (.inl x7)), (some (.inl y0)), (some (.inl x9)), (some (.inl 0))] (show zop 254 188 = some (.istore 10, 2) by decide +kernel) rfl rfl rfl ?_
  exact h
theorem bK254_190 {d1 : Option AV} {x2 : Int} {d3 : Option AV} {d4 : Option AV} {d5 : Option AV} {d6 : Option AV} {x7 : Int} {x8 : Int} {x9 : Int} {x10 : Int} {w : WS} {r : Nat} {o : Ro} (h : (1 ≤ r) ∧ (∃ (v2 : Int) (s1 : Sg), Dc 190 [(.inr (.inr (some 0))), (.inl x7)] w.2.2 (.inl (some (.inl v2))) s1 ∧ (if x10 < v2 then (if x8 = 0 then K254_240 d1 x2 d3 d4 d5 d6 (some (.inl x7)) x8 x9 (some (.inl x10)) (wS w s1) (r - 1) o else (1 ≤ (r - 1)) ∧ (∃ (v6 : Int) (s5 : Sg), Dc 196 [(.inr (.inr (some 0))), (.inl x10)] (wS w s1).2.2 (.inl (some (.inl v6))) s5 ∧ (3 ≤ ((r - 1) - 1)) ∧ (∃ (v10 : Int) (s9 : Sg), Dc 191 [(.inr (.inr (some 0))), (.inl x7), (.inl x10), (.inl 0)] (wS (wS w s1) s5).2.2 (.inl (some (.inl v10))) s9 ∧ (-2147483648 ≤ (10 * v10) ∧ (10 * v10) ≤ 2147483647) ∧ K254_232 d1 x2 d3 d4 d5 d6 x7 (some (.inl x8)) x9 x10 (if v6 = (10 * v10) then 1 else 0) (wS (wS (wS w s1) s5) s9) (((r - 1) - 1) - 3) o))) else K254_240 d1 x2 d3 d4 d5 d6 (some (.inl x7)) x8 x9 (some (.inl x10)) (wS w s1) (r - 1) o))) : K254_190 d1 x2 d3 d4 d5 d6 x7 x8 x9 x10 w r o := by
  show Lg 254 190 [(some (.inr (.inr (some 0)))), d1, (some (.inl x2)), d3, d4, d5, d6, (some (.inl x7)), (some (.inl x8)), (some (.inl x9)), (some (.inl x10))] [] w r o
  refine zq_iload 192 (show zop 254 190 = some (.iload 10, 2) by decide +kernel) rfl rfl ?_
  refine zq_aload_n 193 (show zop 254 192 = some (.aload_n 0, 1) by decide +kernel) rfl rfl ?_
  refine zq_iload 195 (show zop 254 193 = some (.iload 7, 2) by decide +kernel) rfl rfl ?_
  obtain ⟨g4, h⟩ := h
  obtain ⟨v2, s1, hD3, h⟩ := h
  refine zq_vi (v := some (.inl v2)) (σ' := s1) (nj := 2) (j := 190) (c := 1) (t := [(.inl x10)]) (as := [(.inr (.inr (some 0))), (.inl x7)]) 198 [(.inl v2), (.inl x10)] (show zop 254 195 = some (.invokevirtual 95, 3) by decide +kernel) (by decide +kernel) rfl (by decide +kernel) rfl rfl rfl rfl rfl rfl (by decide +kernel) (by decide +kernel) (clS_0 rfl) hD3 rfl g4 ?_
  by_cases hc14 : x10 < v2
  · rw [if_pos hc14] at h
    refine zq_icmpF 201 240 (show zop 254 198 = some (.if_icmp .ge 42, 3) by decide +kernel) rfl rfl (decide_eq_false (Int.not_le.mpr hc14)) ?_
    refine zq_iload 203 (show zop 254 201 = some (.iload 8, 2) by decide +kernel) rfl rfl ?_
    by_cases hc15 : x8 = 0
    · rw [if_pos hc15] at h
      refine zq_ifT 240 (show zop 254 203 = some (.ifCond .eq 37, 3) by decide +kernel) rfl (decide_eq_true hc15) ?_
      exact h
    · rw [if_neg hc15] at h
      refine zq_ifF 206 240 (show zop 254 203 = some (.ifCond .eq 37, 3) by decide +kernel) rfl rfl (decide_eq_false hc15) ?_
      refine zq_aload_n 207 (show zop 254 206 = some (.aload_n 0, 1) by decide +kernel) rfl rfl ?_
      refine zq_iload 209 (show zop 254 207 = some (.iload 10, 2) by decide +kernel) rfl rfl ?_
      obtain ⟨g8, h⟩ := h
      obtain ⟨v6, s5, hD7, h⟩ := h
      refine zq_vi (v := some (.inl v6)) (σ' := s5) (nj := 2) (j := 196) (c := 1) (t := []) (as := [(.inr (.inr (some 0))), (.inl x10)]) 212 [(.inl v6)] (show zop 254 209 = some (.invokevirtual 131, 3) by decide +kernel) (by decide +kernel) rfl (by decide +kernel) rfl rfl rfl rfl rfl rfl (by decide +kernel) (by decide +kernel) (clS_0 rfl) hD7 rfl g8 ?_
      refine zq_bipush 214 (show zop 254 212 = some (.bipush 10, 2) by decide +kernel) rfl (by decide) ?_
      refine zq_aload_n 215 (show zop 254 214 = some (.aload_n 0, 1) by decide +kernel) rfl rfl ?_
      refine zq_iload 217 (show zop 254 215 = some (.iload 7, 2) by decide +kernel) rfl rfl ?_
      refine zq_iload 219 (show zop 254 217 = some (.iload 10, 2) by decide +kernel) rfl rfl ?_
      refine zq_iconst 220 (show zop 254 219 = some (.iconst 0, 1) by decide +kernel) rfl rfl ?_
      obtain ⟨g12, h⟩ := h
      obtain ⟨v10, s9, hD11, h⟩ := h
      refine zq_vi (v := some (.inl v10)) (σ' := s9) (nj := 4) (j := 191) (c := 3) (t := [(.inl 10), (.inl v6)]) (as := [(.inr (.inr (some 0))), (.inl x7), (.inl x10), (.inl 0)]) 223 [(.inl v10), (.inl 10), (.inl v6)] (show zop 254 220 = some (.invokevirtual 98, 3) by decide +kernel) (by decide +kernel) rfl (by decide +kernel) rfl rfl rfl rfl rfl rfl (by decide +kernel) (by decide +kernel) (clS_0 rfl) hD11 rfl g12 ?_
      obtain ⟨g13, h⟩ := h
      refine zq_imul 224 (show zop 254 223 = some (.imul, 1) by decide +kernel) rfl g13 ?_
      by_cases hc16 : v6 = (10 * v10)
      · refine zq_icmpF 227 231 (show zop 254 224 = some (.if_icmp .ne 7, 3) by decide +kernel) rfl rfl (decide_eq_false (fun h9 => h9 hc16)) ?_
        refine zq_iconst 228 (show zop 254 227 = some (.iconst 1, 1) by decide +kernel) rfl rfl ?_
        refine zq_goto 232 (show zop 254 228 = some (.goto 4, 3) by decide +kernel) rfl ?_
        have h9 := h; simp only [if_pos hc16] at h9; exact h9
      · refine zq_icmpT 231 (show zop 254 224 = some (.if_icmp .ne 7, 3) by decide +kernel) rfl (decide_eq_true hc16) ?_
        refine zq_iconst 232 (show zop 254 231 = some (.iconst 0, 1) by decide +kernel) rfl rfl ?_
        have h9 := h; simp only [if_neg hc16] at h9; exact h9
  · rw [if_neg hc14] at h
    refine zq_icmpT 240 (show zop 254 198 = some (.if_icmp .ge 42, 3) by decide +kernel) rfl (decide_eq_true (Int.not_lt.mp hc14)) ?_
    exact h
theorem bK254_240 {d1 : Option AV} {x2 : Int} {d3 : Option AV} {d4 : Option AV} {d5 : Option AV} {d6 : Option AV} {d7 : Option AV} {x8 : Int} {x9 : Int} {d10 : Option AV} {w : WS} {r : Nat} {o : Ro} (h : (if x8 = 0 then K254_259 (some (.inr (.inr (some 0)))) d1 (some (.inl x2)) d3 d4 d5 d6 d7 (some (.inl x8)) (some (.inl x9)) d10 w r o else (1 ≤ r) ∧ (∃ (v2 : Int) (s1 : Sg), Dc 175 [(.inr (.inr (some 0))), (.inl x2)] w.2.2 (.inl (some (.inl v2))) s1 ∧ (if x9 = v2 then K254_260 (some (.inr (.inr (some 0)))) d1 (some (.inl x2)) d3 d4 d5 d6 d7 (some (.inl x8)) (some (.inl x9)) d10 1 (wS w s1) (r - 1) o else K254_259 (some (.inr (.inr (some 0)))) d1 (some (.inl x2)) d3 d4 d5 d6 d7 (some (.inl x8)) (some (.inl x9)) d10 (wS w s1) (r - 1) o)))) : K254_240 d1 x2 d3 d4 d5 d6 d7 x8 x9 d10 w r o := by
  show Lg 254 240 [(some (.inr (.inr (some 0)))), d1, (some (.inl x2)), d3, d4, d5, d6, d7, (some (.inl x8)), (some (.inl x9)), d10] [] w r o
  refine zq_iload 242 (show zop 254 240 = some (.iload 8, 2) by decide +kernel) rfl rfl ?_
  by_cases hc5 : x8 = 0
  · rw [if_pos hc5] at h
    refine zq_ifT 259 (show zop 254 242 = some (.ifCond .eq 17, 3) by decide +kernel) rfl (decide_eq_true hc5) ?_
    exact h
  · rw [if_neg hc5] at h
    refine zq_ifF 245 259 (show zop 254 242 = some (.ifCond .eq 17, 3) by decide +kernel) rfl rfl (decide_eq_false hc5) ?_
    refine zq_iload 247 (show zop 254 245 = some (.iload 9, 2) by decide +kernel) rfl rfl ?_
    refine zq_aload_n 248 (show zop 254 247 = some (.aload_n 0, 1) by decide +kernel) rfl rfl ?_
    refine zq_iload_n 249 (show zop 254 248 = some (.iload_n 2, 1) by decide +kernel) rfl rfl ?_
    obtain ⟨g4, h⟩ := h
    obtain ⟨v2, s1, hD3, h⟩ := h
    refine zq_vi (v := some (.inl v2)) (σ' := s1) (nj := 2) (j := 175) (c := 1) (t := [(.inl x9)]) (as := [(.inr (.inr (some 0))), (.inl x2)]) 252 [(.inl v2), (.inl x9)] (show zop 254 249 = some (.invokevirtual 10, 3) by decide +kernel) (by decide +kernel) rfl (by decide +kernel) rfl rfl rfl rfl rfl rfl (by decide +kernel) (by decide +kernel) (clS_0 rfl) hD3 rfl g4 ?_
    by_cases hc6 : x9 = v2
    · rw [if_pos hc6] at h
      refine zq_icmpF 255 259 (show zop 254 252 = some (.if_icmp .ne 7, 3) by decide +kernel) rfl rfl (decide_eq_false (fun h9 => h9 hc6)) ?_
      refine zq_iconst 256 (show zop 254 255 = some (.iconst 1, 1) by decide +kernel) rfl rfl ?_
      refine zq_goto 260 (show zop 254 256 = some (.goto 4, 3) by decide +kernel) rfl ?_
      exact h
    · rw [if_neg hc6] at h
      refine zq_icmpT 259 (show zop 254 252 = some (.if_icmp .ne 7, 3) by decide +kernel) rfl (decide_eq_true hc6) ?_
      exact h
theorem bK254_232 {d1 : Option AV} {x2 : Int} {d3 : Option AV} {d4 : Option AV} {d5 : Option AV} {d6 : Option AV} {x7 : Int} {d8 : Option AV} {x9 : Int} {x10 : Int} {y0 : Int} {w : WS} {r : Nat} {o : Ro} (h : (-2147483648 ≤ (x10 + 1) ∧ (x10 + 1) ≤ 2147483647) ∧ K254_190 d1 x2 d3 d4 d5 d6 x7 y0 x9 (x10 + 1) w r o) : K254_232 d1 x2 d3 d4 d5 d6 x7 d8 x9 x10 y0 w r o := by
  show Lg 254 232 [(some (.inr (.inr (some 0)))), d1, (some (.inl x2)), d3, d4, d5, d6, (some (.inl x7)), d8, (some (.inl x9)), (some (.inl x10))] [(.inl y0)] w r o
  refine zq_istore 234 [(some (.inr (.inr (some 0)))), d1, (some (.inl x2)), d3, d4, d5, d6, (some (.inl x7)), (some (.inl y0)), (some (.inl x9)), (some (.inl x10))] (show zop 254 232 = some (.istore 8, 2) by decide +kernel) rfl rfl rfl ?_
  obtain ⟨g1, h⟩ := h
  refine zq_iinc 237 [(some (.inr (.inr (some 0)))), d1, (some (.inl x2)), d3, d4, d5, d6, (some (.inl x7)), (some (.inl y0)), (some (.inl x9)), (some (.inl (x10 + 1)))] (show zop 254 234 = some (.iinc 10 1, 3) by decide +kernel) rfl rfl g1 rfl ?_
  refine zq_goto 190 (show zop 254 237 = some (.goto (-47), 3) by decide +kernel) rfl ?_
  exact h
theorem bK254_259 {d0 : Option AV} {d1 : Option AV} {d2 : Option AV} {d3 : Option AV} {d4 : Option AV} {d5 : Option AV} {d6 : Option AV} {d7 : Option AV} {d8 : Option AV} {d9 : Option AV} {d10 : Option AV} {w : WS} {r : Nat} {o : Ro} (h : K254_260 d0 d1 d2 d3 d4 d5 d6 d7 d8 d9 d10 0 w r o) : K254_259 d0 d1 d2 d3 d4 d5 d6 d7 d8 d9 d10 w r o := by
  show Lg 254 259 [d0, d1, d2, d3, d4, d5, d6, d7, d8, d9, d10] [] w r o
  refine zq_iconst 260 (show zop 254 259 = some (.iconst 0, 1) by decide +kernel) rfl rfl ?_
  exact h
theorem bK254_260 {d0 : Option AV} {d1 : Option AV} {d2 : Option AV} {d3 : Option AV} {d4 : Option AV} {d5 : Option AV} {d6 : Option AV} {d7 : Option AV} {d8 : Option AV} {d9 : Option AV} {d10 : Option AV} {y0 : Int} {w : WS} {r : Nat} {o : Ro} (h : (y0 = 0 ∨ y0 = 1) ∧ o = (.inl (some (.inl y0)), w)) : K254_260 d0 d1 d2 d3 d4 d5 d6 d7 d8 d9 d10 y0 w r o := by
  show Lg 254 260 [d0, d1, d2, d3, d4, d5, d6, d7, d8, d9, d10] [(.inl y0)] w r o
  obtain ⟨g1, h⟩ := h
  exact (zq_zret (show zop 254 260 = some (.ireturn, 1) by decide +kernel) (by decide +kernel) g1 h)
/-- PatchBenchLaw.makes (LPatchBench;[IIIII)Z -/
theorem lb254 {x2 : Int} {x3 : Int} {x4 : Int} {x5 : Int} {w : WS} {o : Ro} (h : (-2147483648 ≤ (x3 + 1) ∧ (x3 + 1) ≤ 2147483647) ∧ (((Int.tmod (x3 + 1) 4) = x2) → -2147483648 ≤ (x3 + 2) ∧ (x3 + 2) ≤ 2147483647) ∧ (¬ ((Int.tmod (x3 + 1) 4) = x2) → -2147483648 ≤ (x3 + 1) ∧ (x3 + 1) ≤ 2147483647) ∧ K254_22 x2 x3 x4 x5 none none none none none (if (Int.tmod (x3 + 1) 4) = x2 then (Int.tmod (x3 + 2) 4) else (Int.tmod (x3 + 1) 4)) w 1400 o) : Lx 254 [(.inr (.inr (some 0))), (.inr (.inr (some 682))), (.inl x2), (.inl x3), (.inl x4), (.inl x5)] w o := by
  refine Lx_of (l := 11) (r := 1400) (by decide +kernel) (by decide +kernel) ?_
  show Lg 254 0 [(some (.inr (.inr (some 0)))), (some (.inr (.inr (some 682)))), (some (.inl x2)), (some (.inl x3)), (some (.inl x4)), (some (.inl x5)), none, none, none, none, none] [] w 1400 o
  refine zq_iload_n 1 (show zop 254 0 = some (.iload_n 3, 1) by decide +kernel) rfl rfl ?_
  refine zq_iconst 2 (show zop 254 1 = some (.iconst 1, 1) by decide +kernel) rfl rfl ?_
  obtain ⟨g1, h⟩ := h
  refine zq_iadd 3 (show zop 254 2 = some (.iadd, 1) by decide +kernel) rfl g1 ?_
  refine zq_iconst 4 (show zop 254 3 = some (.iconst 4, 1) by decide +kernel) rfl rfl ?_
  refine zq_irem 5 (show zop 254 4 = some (.irem, 1) by decide +kernel) rfl (by decide) ?_
  refine zq_iload_n 6 (show zop 254 5 = some (.iload_n 2, 1) by decide +kernel) rfl rfl ?_
  obtain ⟨G5, G6, h⟩ := h
  by_cases hc4 : (Int.tmod (x3 + 1) 4) = x2
  · refine zq_icmpF 9 17 (show zop 254 6 = some (.if_icmp .ne 11, 3) by decide +kernel) rfl rfl (decide_eq_false (fun h9 => h9 hc4)) ?_
    refine zq_iload_n 10 (show zop 254 9 = some (.iload_n 3, 1) by decide +kernel) rfl rfl ?_
    refine zq_iconst 11 (show zop 254 10 = some (.iconst 2, 1) by decide +kernel) rfl rfl ?_
    have g2 := G5 hc4
    refine zq_iadd 12 (show zop 254 11 = some (.iadd, 1) by decide +kernel) rfl g2 ?_
    refine zq_iconst 13 (show zop 254 12 = some (.iconst 4, 1) by decide +kernel) rfl rfl ?_
    refine zq_irem 14 (show zop 254 13 = some (.irem, 1) by decide +kernel) rfl (by decide) ?_
    refine zq_goto 22 (show zop 254 14 = some (.goto 8, 3) by decide +kernel) rfl ?_
    have h9 := h; simp only [if_pos hc4] at h9; exact h9
  · refine zq_icmpT 17 (show zop 254 6 = some (.if_icmp .ne 11, 3) by decide +kernel) rfl (decide_eq_true hc4) ?_
    refine zq_iload_n 18 (show zop 254 17 = some (.iload_n 3, 1) by decide +kernel) rfl rfl ?_
    refine zq_iconst 19 (show zop 254 18 = some (.iconst 1, 1) by decide +kernel) rfl rfl ?_
    have g3 := G6 hc4
    refine zq_iadd 20 (show zop 254 19 = some (.iadd, 1) by decide +kernel) rfl g3 ?_
    refine zq_iconst 21 (show zop 254 20 = some (.iconst 4, 1) by decide +kernel) rfl rfl ?_
    refine zq_irem 22 (show zop 254 21 = some (.irem, 1) by decide +kernel) rfl (by decide) ?_
    have h9 := h; simp only [if_neg hc4] at h9; exact h9
def K255_33 (x1 : Int) (x2 : Int) (x3 : Int) (d4 : Option AV) (d5 : Option AV) (w : WS) (r : Nat) (o : Ro) : Prop := Lg 255 33 [(some (.inr (.inr (some 0)))), (some (.inl x1)), (some (.inl x2)), (some (.inl x3)), d4, d5] [] w r o
def K255_34 (x1 : Int) (x2 : Int) (x3 : Int) (d4 : Option AV) (d5 : Option AV) (y0 : Int) (w : WS) (r : Nat) (o : Ro) : Prop := Lg 255 34 [(some (.inr (.inr (some 0)))), (some (.inl x1)), (some (.inl x2)), (some (.inl x3)), d4, d5] [(.inl y0)] w r o
def K255_105 (x1 : Int) (x2 : Int) (d3 : Option AV) (x4 : Int) (d5 : Option AV) (w : WS) (r : Nat) (o : Ro) : Prop := Lg 255 105 [(some (.inr (.inr (some 0)))), (some (.inl x1)), (some (.inl x2)), d3, (some (.inl x4)), d5] [] w r o
def K255_88 (x1 : Int) (x2 : Int) (x3 : Int) (x4 : Int) (d5 : Option AV) (w : WS) (r : Nat) (o : Ro) : Prop := Lg 255 88 [(some (.inr (.inr (some 0)))), (some (.inl x1)), (some (.inl x2)), (some (.inl x3)), (some (.inl x4)), d5] [] w r o
def K255_106 (x1 : Int) (x2 : Int) (d3 : Option AV) (x4 : Int) (d5 : Option AV) (y0 : Int) (w : WS) (r : Nat) (o : Ro) : Prop := Lg 255 106 [(some (.inr (.inr (some 0)))), (some (.inl x1)), (some (.inl x2)), d3, (some (.inl x4)), d5] [(.inl y0)] w r o
def K255_101 (x1 : Int) (x2 : Int) (d3 : Option AV) (x4 : Int) (d5 : Option AV) (w : WS) (r : Nat) (o : Ro) : Prop := Lg 255 101 [(some (.inr (.inr (some 0)))), (some (.inl x1)), (some (.inl x2)), d3, (some (.inl x4)), d5] [] w r o
def K255_150 (d0 : Option AV) (d1 : Option AV) (d2 : Option AV) (d3 : Option AV) (d4 : Option AV) (d5 : Option AV) (w : WS) (r : Nat) (o : Ro) : Prop := Lg 255 150 [d0, d1, d2, d3, d4, d5] [] w r o
def K255_146 (d0 : Option AV) (d1 : Option AV) (d2 : Option AV) (d3 : Option AV) (d4 : Option AV) (d5 : Option AV) (w : WS) (r : Nat) (o : Ro) : Prop := Lg 255 146 [d0, d1, d2, d3, d4, d5] [] w r o
def K255_151 (d0 : Option AV) (d1 : Option AV) (d2 : Option AV) (d3 : Option AV) (d4 : Option AV) (d5 : Option AV) (y0 : Int) (w : WS) (r : Nat) (o : Ro) : Prop := Lg 255 151 [d0, d1, d2, d3, d4, d5] [(.inl y0)] w r o
theorem bK255_33 {x1 : Int} {x2 : Int} {x3 : Int} {d4 : Option AV} {d5 : Option AV} {w : WS} {r : Nat} {o : Ro} (h : K255_34 x1 x2 x3 d4 d5 0 w r o) : K255_33 x1 x2 x3 d4 d5 w r o := by
  show Lg 255 33 [(some (.inr (.inr (some 0)))), (some (.inl x1)), (some (.inl x2)), (some (.inl x3)), d4, d5] [] w r o
  refine zq_iconst 34 (show zop 255 33 = some (.iconst 0, 1) by decide +kernel) rfl rfl ?_
  exact h
theorem bK255_34 {x1 : Int} {x2 : Int} {x3 : Int} {d4 : Option AV} {d5 : Option AV} {y0 : Int} {w : WS} {r : Nat} {o : Ro} (h : (if 0 ≤ x3 then (2 ≤ r) ∧ (∃ (v2 : Int) (s1 : Sg), Dc 194 [(.inr (.inr (some 0))), (.inl x2), (.inl x1)] w.2.2 (.inl (some (.inl v2))) s1 ∧ (if v2 = x3 then (2 ≤ (r - 2)) ∧ (∃ (v6 : Int) (s5 : Sg), Dc 193 [(.inr (.inr (some 0))), (.inl x2), (.inl x1)] (wS w s1).2.2 (.inl (some (.inl v6))) s5 ∧ (2 ≤ ((r - 2) - 2)) ∧ (∃ (v10 : Int) (s9 : Sg), Dc 193 [(.inr (.inr (some 0))), (.inl x1), (.inl x2)] (wS (wS w s1) s5).2.2 (.inl (some (.inl v10))) s9 ∧ (if v6 = v10 then (2 ≤ (((r - 2) - 2) - 2)) ∧ (∃ (v14 : Int) (s13 : Sg), Dc 193 [(.inr (.inr (some 0))), (.inl x1), (.inl x1)] (wS (wS (wS w s1) s5) s9).2.2 (.inl (some (.inl v14))) s13 ∧ (if v14 = 0 then K255_105 x1 x2 (some (.inl x3)) y0 d5 (wS (wS (wS (wS w s1) s5) s9) s13) ((((r - 2) - 2) - 2) - 2) o else (if y0 = 0 then (2 ≤ ((((r - 2) - 2) - 2) - 2)) ∧ (∃ (v18 : Int) (s17 : Sg), Dc 193 [(.inr (.inr (some 0))), (.inl x1), (.inl x2)] (wS (wS (wS (wS w s1) s5) s9) s13).2.2 (.inl (some (.inl v18))) s17 ∧ (if v18 = 0 then K255_88 x1 x2 x3 y0 d5 (wS (wS (wS (wS (wS w s1) s5) s9) s13) s17) (((((r - 2) - 2) - 2) - 2) - 2) o else K255_105 x1 x2 (some (.inl x3)) y0 d5 (wS (wS (wS (wS (wS w s1) s5) s9) s13) s17) (((((r - 2) - 2) - 2) - 2) - 2) o)) else K255_88 x1 x2 x3 y0 d5 (wS (wS (wS (wS w s1) s5) s9) s13) ((((r - 2) - 2) - 2) - 2) o))) else K255_105 x1 x2 (some (.inl x3)) y0 d5 (wS (wS (wS w s1) s5) s9) (((r - 2) - 2) - 2) o))) else K255_105 x1 x2 (some (.inl x3)) y0 d5 (wS w s1) (r - 2) o)) else K255_105 x1 x2 (some (.inl x3)) y0 d5 w r o)) : K255_34 x1 x2 x3 d4 d5 y0 w r o := by
  show Lg 255 34 [(some (.inr (.inr (some 0)))), (some (.inl x1)), (some (.inl x2)), (some (.inl x3)), d4, d5] [(.inl y0)] w r o
  refine zq_istore 36 [(some (.inr (.inr (some 0)))), (some (.inl x1)), (some (.inl x2)), (some (.inl x3)), (some (.inl y0)), d5] (show zop 255 34 = some (.istore 4, 2) by decide +kernel) rfl rfl rfl ?_
  refine zq_iload_n 37 (show zop 255 36 = some (.iload_n 3, 1) by decide +kernel) rfl rfl ?_
  by_cases hc21 : 0 ≤ x3
  · rw [if_pos hc21] at h
    refine zq_ifF 40 105 (show zop 255 37 = some (.ifCond .lt 68, 3) by decide +kernel) rfl rfl (decide_eq_false (Int.not_lt.mpr hc21)) ?_
    refine zq_aload_n 41 (show zop 255 40 = some (.aload_n 0, 1) by decide +kernel) rfl rfl ?_
    refine zq_iload_n 42 (show zop 255 41 = some (.iload_n 2, 1) by decide +kernel) rfl rfl ?_
    refine zq_iload_n 43 (show zop 255 42 = some (.iload_n 1, 1) by decide +kernel) rfl rfl ?_
    obtain ⟨g4, h⟩ := h
    obtain ⟨v2, s1, hD3, h⟩ := h
    refine zq_vi (v := some (.inl v2)) (σ' := s1) (nj := 3) (j := 194) (c := 2) (t := []) (as := [(.inr (.inr (some 0))), (.inl x2), (.inl x1)]) 46 [(.inl v2)] (show zop 255 43 = some (.invokevirtual 125, 3) by decide +kernel) (by decide +kernel) rfl (by decide +kernel) rfl rfl rfl rfl rfl rfl (by decide +kernel) (by decide +kernel) (clS_0 rfl) hD3 rfl g4 ?_
    refine zq_iload_n 47 (show zop 255 46 = some (.iload_n 3, 1) by decide +kernel) rfl rfl ?_
    by_cases hc22 : v2 = x3
    · rw [if_pos hc22] at h
      refine zq_icmpF 50 105 (show zop 255 47 = some (.if_icmp .ne 58, 3) by decide +kernel) rfl rfl (decide_eq_false (fun h9 => h9 hc22)) ?_
      refine zq_aload_n 51 (show zop 255 50 = some (.aload_n 0, 1) by decide +kernel) rfl rfl ?_
      refine zq_iload_n 52 (show zop 255 51 = some (.iload_n 2, 1) by decide +kernel) rfl rfl ?_
      refine zq_iload_n 53 (show zop 255 52 = some (.iload_n 1, 1) by decide +kernel) rfl rfl ?_
      obtain ⟨g8, h⟩ := h
      obtain ⟨v6, s5, hD7, h⟩ := h
      refine zq_vi (v := some (.inl v6)) (σ' := s5) (nj := 3) (j := 193) (c := 2) (t := []) (as := [(.inr (.inr (some 0))), (.inl x2), (.inl x1)]) 56 [(.inl v6)] (show zop 255 53 = some (.invokevirtual 138, 3) by decide +kernel) (by decide +kernel) rfl (by decide +kernel) rfl rfl rfl rfl rfl rfl (by decide +kernel) (by decide +kernel) (clS_0 rfl) hD7 rfl g8 ?_
      refine zq_aload_n 57 (show zop 255 56 = some (.aload_n 0, 1) by decide +kernel) rfl rfl ?_
      refine zq_iload_n 58 (show zop 255 57 = some (.iload_n 1, 1) by decide +kernel) rfl rfl ?_
      refine zq_iload_n 59 (show zop 255 58 = some (.iload_n 2, 1) by decide +kernel) rfl rfl ?_
      obtain ⟨g12, h⟩ := h
      obtain ⟨v10, s9, hD11, h⟩ := h
      refine zq_vi (v := some (.inl v10)) (σ' := s9) (nj := 3) (j := 193) (c := 2) (t := [(.inl v6)]) (as := [(.inr (.inr (some 0))), (.inl x1), (.inl x2)]) 62 [(.inl v10), (.inl v6)] (show zop 255 59 = some (.invokevirtual 138, 3) by decide +kernel) (by decide +kernel) rfl (by decide +kernel) rfl rfl rfl rfl rfl rfl (by decide +kernel) (by decide +kernel) (clS_0 rfl) hD11 rfl g12 ?_
      by_cases hc23 : v6 = v10
      · rw [if_pos hc23] at h
        refine zq_icmpF 65 105 (show zop 255 62 = some (.if_icmp .ne 43, 3) by decide +kernel) rfl rfl (decide_eq_false (fun h9 => h9 hc23)) ?_
        refine zq_aload_n 66 (show zop 255 65 = some (.aload_n 0, 1) by decide +kernel) rfl rfl ?_
        refine zq_iload_n 67 (show zop 255 66 = some (.iload_n 1, 1) by decide +kernel) rfl rfl ?_
        refine zq_iload_n 68 (show zop 255 67 = some (.iload_n 1, 1) by decide +kernel) rfl rfl ?_
        obtain ⟨g16, h⟩ := h
        obtain ⟨v14, s13, hD15, h⟩ := h
        refine zq_vi (v := some (.inl v14)) (σ' := s13) (nj := 3) (j := 193) (c := 2) (t := []) (as := [(.inr (.inr (some 0))), (.inl x1), (.inl x1)]) 71 [(.inl v14)] (show zop 255 68 = some (.invokevirtual 138, 3) by decide +kernel) (by decide +kernel) rfl (by decide +kernel) rfl rfl rfl rfl rfl rfl (by decide +kernel) (by decide +kernel) (clS_0 rfl) hD15 rfl g16 ?_
        by_cases hc24 : v14 = 0
        · rw [if_pos hc24] at h
          refine zq_ifT 105 (show zop 255 71 = some (.ifCond .eq 34, 3) by decide +kernel) rfl (decide_eq_true hc24) ?_
          exact h
        · rw [if_neg hc24] at h
          refine zq_ifF 74 105 (show zop 255 71 = some (.ifCond .eq 34, 3) by decide +kernel) rfl rfl (decide_eq_false hc24) ?_
          refine zq_iload 76 (show zop 255 74 = some (.iload 4, 2) by decide +kernel) rfl rfl ?_
          by_cases hc25 : y0 = 0
          · rw [if_pos hc25] at h
            refine zq_ifF 79 88 (show zop 255 76 = some (.ifCond .ne 12, 3) by decide +kernel) rfl rfl (decide_eq_false (fun h9 => h9 hc25)) ?_
            refine zq_aload_n 80 (show zop 255 79 = some (.aload_n 0, 1) by decide +kernel) rfl rfl ?_
            refine zq_iload_n 81 (show zop 255 80 = some (.iload_n 1, 1) by decide +kernel) rfl rfl ?_
            refine zq_iload_n 82 (show zop 255 81 = some (.iload_n 2, 1) by decide +kernel) rfl rfl ?_
            obtain ⟨g20, h⟩ := h
            obtain ⟨v18, s17, hD19, h⟩ := h
            refine zq_vi (v := some (.inl v18)) (σ' := s17) (nj := 3) (j := 193) (c := 2) (t := []) (as := [(.inr (.inr (some 0))), (.inl x1), (.inl x2)]) 85 [(.inl v18)] (show zop 255 82 = some (.invokevirtual 138, 3) by decide +kernel) (by decide +kernel) rfl (by decide +kernel) rfl rfl rfl rfl rfl rfl (by decide +kernel) (by decide +kernel) (clS_0 rfl) hD19 rfl g20 ?_
            by_cases hc26 : v18 = 0
            · rw [if_pos hc26] at h
              refine zq_ifF 88 105 (show zop 255 85 = some (.ifCond .ne 20, 3) by decide +kernel) rfl rfl (decide_eq_false (fun h9 => h9 hc26)) ?_
              exact h
            · rw [if_neg hc26] at h
              refine zq_ifT 105 (show zop 255 85 = some (.ifCond .ne 20, 3) by decide +kernel) rfl (decide_eq_true hc26) ?_
              exact h
          · rw [if_neg hc25] at h
            refine zq_ifT 88 (show zop 255 76 = some (.ifCond .ne 12, 3) by decide +kernel) rfl (decide_eq_true hc25) ?_
            exact h
      · rw [if_neg hc23] at h
        refine zq_icmpT 105 (show zop 255 62 = some (.if_icmp .ne 43, 3) by decide +kernel) rfl (decide_eq_true hc23) ?_
        exact h
    · rw [if_neg hc22] at h
      refine zq_icmpT 105 (show zop 255 47 = some (.if_icmp .ne 58, 3) by decide +kernel) rfl (decide_eq_true hc22) ?_
      exact h
  · rw [if_neg hc21] at h
    refine zq_ifT 105 (show zop 255 37 = some (.ifCond .lt 68, 3) by decide +kernel) rfl (decide_eq_true (Int.not_le.mp hc21)) ?_
    exact h
theorem bK255_105 {x1 : Int} {x2 : Int} {d3 : Option AV} {x4 : Int} {d5 : Option AV} {w : WS} {r : Nat} {o : Ro} (h : K255_106 x1 x2 d3 x4 d5 0 w r o) : K255_105 x1 x2 d3 x4 d5 w r o := by
  show Lg 255 105 [(some (.inr (.inr (some 0)))), (some (.inl x1)), (some (.inl x2)), d3, (some (.inl x4)), d5] [] w r o
  refine zq_iconst 106 (show zop 255 105 = some (.iconst 0, 1) by decide +kernel) rfl rfl ?_
  exact h
theorem bK255_88 {x1 : Int} {x2 : Int} {x3 : Int} {x4 : Int} {d5 : Option AV} {w : WS} {r : Nat} {o : Ro} (h : (if x3 = 0 then K255_101 x1 x2 (some (.inl x3)) x4 d5 w r o else (2 ≤ r) ∧ (∃ (v2 : Int) (s1 : Sg), Dc 193 [(.inr (.inr (some 0))), (.inl x1), (.inl x2)] w.2.2 (.inl (some (.inl v2))) s1 ∧ (if v2 = 0 then K255_101 x1 x2 (some (.inl x3)) x4 d5 (wS w s1) (r - 2) o else K255_105 x1 x2 (some (.inl x3)) x4 d5 (wS w s1) (r - 2) o)))) : K255_88 x1 x2 x3 x4 d5 w r o := by
  show Lg 255 88 [(some (.inr (.inr (some 0)))), (some (.inl x1)), (some (.inl x2)), (some (.inl x3)), (some (.inl x4)), d5] [] w r o
  refine zq_iload_n 89 (show zop 255 88 = some (.iload_n 3, 1) by decide +kernel) rfl rfl ?_
  by_cases hc5 : x3 = 0
  · rw [if_pos hc5] at h
    refine zq_ifT 101 (show zop 255 89 = some (.ifCond .eq 12, 3) by decide +kernel) rfl (decide_eq_true hc5) ?_
    exact h
  · rw [if_neg hc5] at h
    refine zq_ifF 92 101 (show zop 255 89 = some (.ifCond .eq 12, 3) by decide +kernel) rfl rfl (decide_eq_false hc5) ?_
    refine zq_aload_n 93 (show zop 255 92 = some (.aload_n 0, 1) by decide +kernel) rfl rfl ?_
    refine zq_iload_n 94 (show zop 255 93 = some (.iload_n 1, 1) by decide +kernel) rfl rfl ?_
    refine zq_iload_n 95 (show zop 255 94 = some (.iload_n 2, 1) by decide +kernel) rfl rfl ?_
    obtain ⟨g4, h⟩ := h
    obtain ⟨v2, s1, hD3, h⟩ := h
    refine zq_vi (v := some (.inl v2)) (σ' := s1) (nj := 3) (j := 193) (c := 2) (t := []) (as := [(.inr (.inr (some 0))), (.inl x1), (.inl x2)]) 98 [(.inl v2)] (show zop 255 95 = some (.invokevirtual 138, 3) by decide +kernel) (by decide +kernel) rfl (by decide +kernel) rfl rfl rfl rfl rfl rfl (by decide +kernel) (by decide +kernel) (clS_0 rfl) hD3 rfl g4 ?_
    by_cases hc6 : v2 = 0
    · rw [if_pos hc6] at h
      refine zq_ifF 101 105 (show zop 255 98 = some (.ifCond .ne 7, 3) by decide +kernel) rfl rfl (decide_eq_false (fun h9 => h9 hc6)) ?_
      exact h
    · rw [if_neg hc6] at h
      refine zq_ifT 105 (show zop 255 98 = some (.ifCond .ne 7, 3) by decide +kernel) rfl (decide_eq_true hc6) ?_
      exact h
theorem bK255_106 {x1 : Int} {x2 : Int} {d3 : Option AV} {x4 : Int} {d5 : Option AV} {y0 : Int} {w : WS} {r : Nat} {o : Ro} (h : (if y0 = 0 then K255_150 (some (.inr (.inr (some 0)))) (some (.inl x1)) (some (.inl x2)) d3 (some (.inl x4)) (some (.inl y0)) w r o else (800 ≤ r) ∧ (∃ (v2 : Int) (w1 : WS), Lx 253 [(.inr (.inr (some 0))), (.inl x1)] w (.inl (some (.inl v2)), w1) ∧ (if v2 = 0 then K255_150 (some (.inr (.inr (some 0)))) (some (.inl x1)) (some (.inl x2)) d3 (some (.inl x4)) (some (.inl y0)) w1 (r - 800) o else (if x1 = x2 then K255_146 (some (.inr (.inr (some 0)))) (some (.inl x1)) (some (.inl x2)) d3 (some (.inl x4)) (some (.inl y0)) w1 (r - 800) o else (if x4 = 0 then K255_146 (some (.inr (.inr (some 0)))) (some (.inl x1)) (some (.inl x2)) d3 (some (.inl x4)) (some (.inl y0)) w1 (r - 800) o else (2 ≤ (r - 800)) ∧ (∃ (v6 : Int) (s5 : Sg), Dc 193 [(.inr (.inr (some 0))), (.inl x1), (.inl x2)] w1.2.2 (.inl (some (.inl v6))) s5 ∧ (120 ≤ ((r - 800) - 2)) ∧ (∃ (v10 : Int) (w9 : WS), Lx 256 [(.inr (.inr (some 0))), (.inl x1), (.inl x2)] (wS w1 s5) (.inl (some (.inl v10)), w9) ∧ (if v6 = v10 then K255_146 (some (.inr (.inr (some 0)))) (some (.inl x1)) (some (.inl x2)) d3 (some (.inl x4)) (some (.inl y0)) w9 (((r - 800) - 2) - 120) o else K255_150 (some (.inr (.inr (some 0)))) (some (.inl x1)) (some (.inl x2)) d3 (some (.inl x4)) (some (.inl y0)) w9 (((r - 800) - 2) - 120) o))))))))) : K255_106 x1 x2 d3 x4 d5 y0 w r o := by
  show Lg 255 106 [(some (.inr (.inr (some 0)))), (some (.inl x1)), (some (.inl x2)), d3, (some (.inl x4)), d5] [(.inl y0)] w r o
  refine zq_istore 108 [(some (.inr (.inr (some 0)))), (some (.inl x1)), (some (.inl x2)), d3, (some (.inl x4)), (some (.inl y0))] (show zop 255 106 = some (.istore 5, 2) by decide +kernel) rfl rfl rfl ?_
  refine zq_iload 110 (show zop 255 108 = some (.iload 5, 2) by decide +kernel) rfl rfl ?_
  by_cases hc13 : y0 = 0
  · rw [if_pos hc13] at h
    refine zq_ifT 150 (show zop 255 110 = some (.ifCond .eq 40, 3) by decide +kernel) rfl (decide_eq_true hc13) ?_
    exact h
  · rw [if_neg hc13] at h
    refine zq_ifF 113 150 (show zop 255 110 = some (.ifCond .eq 40, 3) by decide +kernel) rfl rfl (decide_eq_false hc13) ?_
    refine zq_aload_n 114 (show zop 255 113 = some (.aload_n 0, 1) by decide +kernel) rfl rfl ?_
    refine zq_iload_n 115 (show zop 255 114 = some (.iload_n 1, 1) by decide +kernel) rfl rfl ?_
    obtain ⟨g4, h⟩ := h
    obtain ⟨v2, w1, hD3, h⟩ := h
    refine zq_lx (v := some (.inl v2)) (w' := w1) (nj := 2) (j := 253) (c := 800) (t := []) (as := [(.inr (.inr (some 0))), (.inl x1)]) 118 [(.inl v2)] (show zop 255 115 = some (.invokestatic 121, 3) by decide +kernel) (by decide +kernel) rfl (by decide +kernel) (by decide +kernel) rfl rfl rfl rfl rfl hD3 rfl g4 ?_
    by_cases hc14 : v2 = 0
    · rw [if_pos hc14] at h
      refine zq_ifT 150 (show zop 255 118 = some (.ifCond .eq 32, 3) by decide +kernel) rfl (decide_eq_true hc14) ?_
      exact h
    · rw [if_neg hc14] at h
      refine zq_ifF 121 150 (show zop 255 118 = some (.ifCond .eq 32, 3) by decide +kernel) rfl rfl (decide_eq_false hc14) ?_
      refine zq_iload_n 122 (show zop 255 121 = some (.iload_n 1, 1) by decide +kernel) rfl rfl ?_
      refine zq_iload_n 123 (show zop 255 122 = some (.iload_n 2, 1) by decide +kernel) rfl rfl ?_
      by_cases hc15 : x1 = x2
      · rw [if_pos hc15] at h
        refine zq_icmpT 146 (show zop 255 123 = some (.if_icmp .eq 23, 3) by decide +kernel) rfl (decide_eq_true hc15) ?_
        exact h
      · rw [if_neg hc15] at h
        refine zq_icmpF 126 146 (show zop 255 123 = some (.if_icmp .eq 23, 3) by decide +kernel) rfl rfl (decide_eq_false hc15) ?_
        refine zq_iload 128 (show zop 255 126 = some (.iload 4, 2) by decide +kernel) rfl rfl ?_
        by_cases hc16 : x4 = 0
        · rw [if_pos hc16] at h
          refine zq_ifT 146 (show zop 255 128 = some (.ifCond .eq 18, 3) by decide +kernel) rfl (decide_eq_true hc16) ?_
          exact h
        · rw [if_neg hc16] at h
          refine zq_ifF 131 146 (show zop 255 128 = some (.ifCond .eq 18, 3) by decide +kernel) rfl rfl (decide_eq_false hc16) ?_
          refine zq_aload_n 132 (show zop 255 131 = some (.aload_n 0, 1) by decide +kernel) rfl rfl ?_
          refine zq_iload_n 133 (show zop 255 132 = some (.iload_n 1, 1) by decide +kernel) rfl rfl ?_
          refine zq_iload_n 134 (show zop 255 133 = some (.iload_n 2, 1) by decide +kernel) rfl rfl ?_
          obtain ⟨g8, h⟩ := h
          obtain ⟨v6, s5, hD7, h⟩ := h
          refine zq_vi (v := some (.inl v6)) (σ' := s5) (nj := 3) (j := 193) (c := 2) (t := []) (as := [(.inr (.inr (some 0))), (.inl x1), (.inl x2)]) 137 [(.inl v6)] (show zop 255 134 = some (.invokevirtual 138, 3) by decide +kernel) (by decide +kernel) rfl (by decide +kernel) rfl rfl rfl rfl rfl rfl (by decide +kernel) (by decide +kernel) (clS_0 rfl) hD7 rfl g8 ?_
          refine zq_aload_n 138 (show zop 255 137 = some (.aload_n 0, 1) by decide +kernel) rfl rfl ?_
          refine zq_iload_n 139 (show zop 255 138 = some (.iload_n 1, 1) by decide +kernel) rfl rfl ?_
          refine zq_iload_n 140 (show zop 255 139 = some (.iload_n 2, 1) by decide +kernel) rfl rfl ?_
          obtain ⟨g12, h⟩ := h
          obtain ⟨v10, w9, hD11, h⟩ := h
          refine zq_lx (v := some (.inl v10)) (w' := w9) (nj := 3) (j := 256) (c := 120) (t := [(.inl v6)]) (as := [(.inr (.inr (some 0))), (.inl x1), (.inl x2)]) 143 [(.inl v10), (.inl v6)] (show zop 255 140 = some (.invokestatic 142, 3) by decide +kernel) (by decide +kernel) rfl (by decide +kernel) (by decide +kernel) rfl rfl rfl rfl rfl hD11 rfl g12 ?_
          by_cases hc17 : v6 = v10
          · rw [if_pos hc17] at h
            refine zq_icmpF 146 150 (show zop 255 143 = some (.if_icmp .ne 7, 3) by decide +kernel) rfl rfl (decide_eq_false (fun h9 => h9 hc17)) ?_
            exact h
          · rw [if_neg hc17] at h
            refine zq_icmpT 150 (show zop 255 143 = some (.if_icmp .ne 7, 3) by decide +kernel) rfl (decide_eq_true hc17) ?_
            exact h
theorem bK255_101 {x1 : Int} {x2 : Int} {d3 : Option AV} {x4 : Int} {d5 : Option AV} {w : WS} {r : Nat} {o : Ro} (h : K255_106 x1 x2 d3 x4 d5 1 w r o) : K255_101 x1 x2 d3 x4 d5 w r o := by
  show Lg 255 101 [(some (.inr (.inr (some 0)))), (some (.inl x1)), (some (.inl x2)), d3, (some (.inl x4)), d5] [] w r o
  refine zq_iconst 102 (show zop 255 101 = some (.iconst 1, 1) by decide +kernel) rfl rfl ?_
  refine zq_goto 106 (show zop 255 102 = some (.goto 4, 3) by decide +kernel) rfl ?_
  exact h
theorem bK255_150 {d0 : Option AV} {d1 : Option AV} {d2 : Option AV} {d3 : Option AV} {d4 : Option AV} {d5 : Option AV} {w : WS} {r : Nat} {o : Ro} (h : K255_151 d0 d1 d2 d3 d4 d5 0 w r o) : K255_150 d0 d1 d2 d3 d4 d5 w r o := by
  show Lg 255 150 [d0, d1, d2, d3, d4, d5] [] w r o
  refine zq_iconst 151 (show zop 255 150 = some (.iconst 0, 1) by decide +kernel) rfl rfl ?_
  exact h
theorem bK255_146 {d0 : Option AV} {d1 : Option AV} {d2 : Option AV} {d3 : Option AV} {d4 : Option AV} {d5 : Option AV} {w : WS} {r : Nat} {o : Ro} (h : K255_151 d0 d1 d2 d3 d4 d5 1 w r o) : K255_146 d0 d1 d2 d3 d4 d5 w r o := by
  show Lg 255 146 [d0, d1, d2, d3, d4, d5] [] w r o
  refine zq_iconst 147 (show zop 255 146 = some (.iconst 1, 1) by decide +kernel) rfl rfl ?_
  refine zq_goto 151 (show zop 255 147 = some (.goto 4, 3) by decide +kernel) rfl ?_
  exact h
theorem bK255_151 {d0 : Option AV} {d1 : Option AV} {d2 : Option AV} {d3 : Option AV} {d4 : Option AV} {d5 : Option AV} {y0 : Int} {w : WS} {r : Nat} {o : Ro} (h : (y0 = 0 ∨ y0 = 1) ∧ o = (.inl (some (.inl y0)), w)) : K255_151 d0 d1 d2 d3 d4 d5 y0 w r o := by
  show Lg 255 151 [d0, d1, d2, d3, d4, d5] [(.inl y0)] w r o
  obtain ⟨g1, h⟩ := h
  exact (zq_zret (show zop 255 151 = some (.ireturn, 1) by decide +kernel) (by decide +kernel) g1 h)
/-- PatchBenchLaw.arePatches (LPatchBench;II)Z -/
theorem lb255 {x1 : Int} {x2 : Int} {w : WS} {o : Ro} (h : (2 ≤ 1500) ∧ (∃ (v2 : Int) (s1 : Sg), Dc 194 [(.inr (.inr (some 0))), (.inl x1), (.inl x2)] w.2.2 (.inl (some (.inl v2))) s1 ∧ (200 ≤ (1500 - 2)) ∧ (∃ (v6 : Int) (w5 : WS), Lx 252 [(.inr (.inr (some 0))), (.inl x1), (.inl 0), (.inl x2), (.inl 0)] (wS w s1) (.inl (some (.inl v6)), w5) ∧ (if v6 = 0 then K255_33 x1 x2 v2 none none w5 ((1500 - 2) - 200) o else (200 ≤ ((1500 - 2) - 200)) ∧ (∃ (v10 : Int) (w9 : WS), Lx 252 [(.inr (.inr (some 0))), (.inl x1), (.inl 1), (.inl x2), (.inl 1)] w5 (.inl (some (.inl v10)), w9) ∧ (if v10 = 0 then K255_33 x1 x2 v2 none none w9 (((1500 - 2) - 200) - 200) o else K255_34 x1 x2 v2 none none 1 w9 (((1500 - 2) - 200) - 200) o)))))) : Lx 255 [(.inr (.inr (some 0))), (.inl x1), (.inl x2)] w o := by
  refine Lx_of (l := 6) (r := 1500) (by decide +kernel) (by decide +kernel) ?_
  show Lg 255 0 [(some (.inr (.inr (some 0)))), (some (.inl x1)), (some (.inl x2)), none, none, none] [] w 1500 o
  refine zq_aload_n 1 (show zop 255 0 = some (.aload_n 0, 1) by decide +kernel) rfl rfl ?_
  refine zq_iload_n 2 (show zop 255 1 = some (.iload_n 1, 1) by decide +kernel) rfl rfl ?_
  refine zq_iload_n 3 (show zop 255 2 = some (.iload_n 2, 1) by decide +kernel) rfl rfl ?_
  obtain ⟨g4, h⟩ := h
  obtain ⟨v2, s1, hD3, h⟩ := h
  refine zq_vi (v := some (.inl v2)) (σ' := s1) (nj := 3) (j := 194) (c := 2) (t := []) (as := [(.inr (.inr (some 0))), (.inl x1), (.inl x2)]) 6 [(.inl v2)] (show zop 255 3 = some (.invokevirtual 125, 3) by decide +kernel) (by decide +kernel) rfl (by decide +kernel) rfl rfl rfl rfl rfl rfl (by decide +kernel) (by decide +kernel) (clS_0 rfl) hD3 rfl g4 ?_
  refine zq_istore_n 7 [(some (.inr (.inr (some 0)))), (some (.inl x1)), (some (.inl x2)), (some (.inl v2)), none, none] (show zop 255 6 = some (.istore_n 3, 1) by decide +kernel) rfl rfl rfl ?_
  refine zq_aload_n 8 (show zop 255 7 = some (.aload_n 0, 1) by decide +kernel) rfl rfl ?_
  refine zq_iload_n 9 (show zop 255 8 = some (.iload_n 1, 1) by decide +kernel) rfl rfl ?_
  refine zq_iconst 10 (show zop 255 9 = some (.iconst 0, 1) by decide +kernel) rfl rfl ?_
  refine zq_iload_n 11 (show zop 255 10 = some (.iload_n 2, 1) by decide +kernel) rfl rfl ?_
  refine zq_iconst 12 (show zop 255 11 = some (.iconst 0, 1) by decide +kernel) rfl rfl ?_
  obtain ⟨g8, h⟩ := h
  obtain ⟨v6, w5, hD7, h⟩ := h
  refine zq_lx (v := some (.inl v6)) (w' := w5) (nj := 5) (j := 252) (c := 200) (t := []) (as := [(.inr (.inr (some 0))), (.inl x1), (.inl 0), (.inl x2), (.inl 0)]) 15 [(.inl v6)] (show zop 255 12 = some (.invokestatic 134, 3) by decide +kernel) (by decide +kernel) rfl (by decide +kernel) (by decide +kernel) rfl rfl rfl rfl rfl hD7 rfl g8 ?_
  by_cases hc13 : v6 = 0
  · rw [if_pos hc13] at h
    refine zq_ifT 33 (show zop 255 15 = some (.ifCond .eq 18, 3) by decide +kernel) rfl (decide_eq_true hc13) ?_
    exact h
  · rw [if_neg hc13] at h
    refine zq_ifF 18 33 (show zop 255 15 = some (.ifCond .eq 18, 3) by decide +kernel) rfl rfl (decide_eq_false hc13) ?_
    refine zq_aload_n 19 (show zop 255 18 = some (.aload_n 0, 1) by decide +kernel) rfl rfl ?_
    refine zq_iload_n 20 (show zop 255 19 = some (.iload_n 1, 1) by decide +kernel) rfl rfl ?_
    refine zq_iconst 21 (show zop 255 20 = some (.iconst 1, 1) by decide +kernel) rfl rfl ?_
    refine zq_iload_n 22 (show zop 255 21 = some (.iload_n 2, 1) by decide +kernel) rfl rfl ?_
    refine zq_iconst 23 (show zop 255 22 = some (.iconst 1, 1) by decide +kernel) rfl rfl ?_
    obtain ⟨g12, h⟩ := h
    obtain ⟨v10, w9, hD11, h⟩ := h
    refine zq_lx (v := some (.inl v10)) (w' := w9) (nj := 5) (j := 252) (c := 200) (t := []) (as := [(.inr (.inr (some 0))), (.inl x1), (.inl 1), (.inl x2), (.inl 1)]) 26 [(.inl v10)] (show zop 255 23 = some (.invokestatic 134, 3) by decide +kernel) (by decide +kernel) rfl (by decide +kernel) (by decide +kernel) rfl rfl rfl rfl rfl hD11 rfl g12 ?_
    by_cases hc14 : v10 = 0
    · rw [if_pos hc14] at h
      refine zq_ifT 33 (show zop 255 26 = some (.ifCond .eq 7, 3) by decide +kernel) rfl (decide_eq_true hc14) ?_
      exact h
    · rw [if_neg hc14] at h
      refine zq_ifF 29 33 (show zop 255 26 = some (.ifCond .eq 7, 3) by decide +kernel) rfl rfl (decide_eq_false hc14) ?_
      refine zq_iconst 30 (show zop 255 29 = some (.iconst 1, 1) by decide +kernel) rfl rfl ?_
      refine zq_goto 34 (show zop 255 30 = some (.goto 4, 3) by decide +kernel) rfl ?_
      exact h
end
