noncomputable section
def K0_60 (d3 : Option AV) (d4 : Option AV) (d5 : Option AV) (d6 : Option AV) (y0 : Int) (w : WS) (r : Nat) (o : Ro) : Prop := Lg 0 60 [(some (.inr (.inr (some SCR)))), (some (.inr (.inr (some 0)))), (some (.inr (.inr (some 682)))), d3, d4, d5, d6] [(.inl y0)] w r o
def K0_59 (d3 : Option AV) (d4 : Option AV) (d5 : Option AV) (d6 : Option AV) (w : WS) (r : Nat) (o : Ro) : Prop := Lg 0 59 [(some (.inr (.inr (some SCR)))), (some (.inr (.inr (some 0)))), (some (.inr (.inr (some 682)))), d3, d4, d5, d6] [] w r o
def K0_79 (x3 : Int) (d4 : Option AV) (d5 : Option AV) (d6 : Option AV) (y0 : Int) (w : WS) (r : Nat) (o : Ro) : Prop := Lg 0 79 [(some (.inr (.inr (some SCR)))), (some (.inr (.inr (some 0)))), (some (.inr (.inr (some 682)))), (some (.inl x3)), d4, d5, d6] [(.inl y0)] w r o
def K0_84 (x3 : Int) (x4 : Int) (x5 : Int) (d6 : Option AV) (w : WS) (r : Nat) (o : Ro) : Prop := Lg 0 84 [(some (.inr (.inr (some SCR)))), (some (.inr (.inr (some 0)))), (some (.inr (.inr (some 682)))), (some (.inl x3)), (some (.inl x4)), (some (.inl x5)), d6] [] w r o
def K0_203 (d0 : Option AV) (x3 : Int) (d4 : Option AV) (d5 : Option AV) (d6 : Option AV) (w : WS) (r : Nat) (o : Ro) : Prop := Lg 0 203 [d0, (some (.inr (.inr (some 0)))), (some (.inr (.inr (some 682)))), (some (.inl x3)), d4, d5, d6] [] w r o
def K0_107 (d3 : Option AV) (x4 : Int) (x5 : Int) (x6 : Int) (w : WS) (r : Nat) (o : Ro) : Prop := Lg 0 107 [(some (.inr (.inr (some SCR)))), (some (.inr (.inr (some 0)))), (some (.inr (.inr (some 682)))), d3, (some (.inl x4)), (some (.inl x5)), (some (.inl x6))] [] w r o
def K0_231 (d0 : Option AV) (d1 : Option AV) (d2 : Option AV) (d3 : Option AV) (d4 : Option AV) (d5 : Option AV) (d6 : Option AV) (w : WS) (r : Nat) (o : Ro) : Prop := Lg 0 231 [d0, d1, d2, d3, d4, d5, d6] [] w r o
def K0_232 (d0 : Option AV) (d1 : Option AV) (d2 : Option AV) (d3 : Option AV) (d4 : Option AV) (d5 : Option AV) (d6 : Option AV) (y0 : Int) (w : WS) (r : Nat) (o : Ro) : Prop := Lg 0 232 [d0, d1, d2, d3, d4, d5, d6] [(.inl y0)] w r o
def K0_195 (d3 : Option AV) (x4 : Int) (x5 : Int) (d6 : Option AV) (w : WS) (r : Nat) (o : Ro) : Prop := Lg 0 195 [(some (.inr (.inr (some SCR)))), (some (.inr (.inr (some 0)))), (some (.inr (.inr (some 682)))), d3, (some (.inl x4)), (some (.inl x5)), d6] [] w r o
def K0_135 (d3 : Option AV) (x4 : Int) (x5 : Int) (x6 : Int) (w : WS) (r : Nat) (o : Ro) : Prop := Lg 0 135 [(some (.inr (.inr (some SCR)))), (some (.inr (.inr (some 0)))), (some (.inr (.inr (some 682)))), d3, (some (.inl x4)), (some (.inl x5)), (some (.inl x6))] [] w r o
def K0_196 (d3 : Option AV) (x4 : Int) (x5 : Int) (d6 : Option AV) (y0 : Int) (w : WS) (r : Nat) (o : Ro) : Prop := Lg 0 196 [(some (.inr (.inr (some SCR)))), (some (.inr (.inr (some 0)))), (some (.inr (.inr (some 682)))), d3, (some (.inl x4)), (some (.inl x5)), d6] [(.inl y0)] w r o
def K0_152 (d3 : Option AV) (x4 : Int) (x5 : Int) (x6 : Int) (y0 : Int) (w : WS) (r : Nat) (o : Ro) : Prop := Lg 0 152 [(some (.inr (.inr (some SCR)))), (some (.inr (.inr (some 0)))), (some (.inr (.inr (some 682)))), d3, (some (.inl x4)), (some (.inl x5)), (some (.inl x6))] [(.inl y0)] w r o
def K0_172 (d3 : Option AV) (x4 : Int) (x5 : Int) (x6 : Int) (w : WS) (r : Nat) (o : Ro) : Prop := Lg 0 172 [(some (.inr (.inr (some SCR)))), (some (.inr (.inr (some 0)))), (some (.inr (.inr (some 682)))), d3, (some (.inl x4)), (some (.inl x5)), (some (.inl x6))] [] w r o
theorem bK0_60 {d3 : Option AV} {d4 : Option AV} {d5 : Option AV} {d6 : Option AV} {y0 : Int} {w : WS} {r : Nat} {o : Ro} (h : K0_79 y0 d4 d5 d6 (if 70 < (Int.tdiv (w.2.1 (SCR + 1) 0) 3) then 70 else (Int.tdiv (w.2.1 (SCR + 1) 0) 3)) w r o) : K0_60 d3 d4 d5 d6 y0 w r o := by
  show Lg 0 60 [(some (.inr (.inr (some SCR)))), (some (.inr (.inr (some 0)))), (some (.inr (.inr (some 682)))), d3, d4, d5, d6] [(.inl y0)] w r o
  refine zq_istore_n 61 [(some (.inr (.inr (some SCR)))), (some (.inr (.inr (some 0)))), (some (.inr (.inr (some 682)))), (some (.inl y0)), d4, d5, d6] (show zop 0 60 = some (.istore_n 3, 1) by decide +kernel) rfl rfl rfl ?_
  refine zq_aload_n 62 (show zop 0 61 = some (.aload_n 0, 1) by decide +kernel) rfl rfl ?_
  refine zq_slen 63 (show zop 0 62 = some (.arraylength, 1) by decide +kernel) rfl ?_
  refine zq_iconst 64 (show zop 0 63 = some (.iconst 3, 1) by decide +kernel) rfl rfl ?_
  refine zq_idiv 65 (show zop 0 64 = some (.idiv, 1) by decide +kernel) rfl (by decide) ?_
  refine zq_bipush 67 (show zop 0 65 = some (.bipush 70, 2) by decide +kernel) rfl (by decide) ?_
  by_cases hc1 : 70 < (Int.tdiv (w.2.1 (SCR + 1) 0) 3)
  · refine zq_icmpF 70 75 (show zop 0 67 = some (.if_icmp .le 8, 3) by decide +kernel) rfl rfl (decide_eq_false (Int.not_le.mpr hc1)) ?_
    refine zq_bipush 72 (show zop 0 70 = some (.bipush 70, 2) by decide +kernel) rfl (by decide) ?_
    refine zq_goto 79 (show zop 0 72 = some (.goto 7, 3) by decide +kernel) rfl ?_
    have h9 := h; simp only [if_pos hc1] at h9; exact h9
  · refine zq_icmpT 75 (show zop 0 67 = some (.if_icmp .le 8, 3) by decide +kernel) rfl (decide_eq_true (Int.not_lt.mp hc1)) ?_
    refine zq_aload_n 76 (show zop 0 75 = some (.aload_n 0, 1) by decide +kernel) rfl rfl ?_
    refine zq_slen 77 (show zop 0 76 = some (.arraylength, 1) by decide +kernel) rfl ?_
    refine zq_iconst 78 (show zop 0 77 = some (.iconst 3, 1) by decide +kernel) rfl rfl ?_
    refine zq_idiv 79 (show zop 0 78 = some (.idiv, 1) by decide +kernel) rfl (by decide) ?_
    have h9 := h; simp only [if_neg hc1] at h9; exact h9
theorem bK0_59 {d3 : Option AV} {d4 : Option AV} {d5 : Option AV} {d6 : Option AV} {w : WS} {r : Nat} {o : Ro} (h : K0_60 d3 d4 d5 d6 0 w r o) : K0_59 d3 d4 d5 d6 w r o := by
  show Lg 0 59 [(some (.inr (.inr (some SCR)))), (some (.inr (.inr (some 0)))), (some (.inr (.inr (some 682)))), d3, d4, d5, d6] [] w r o
  refine zq_iconst 60 (show zop 0 59 = some (.iconst 0, 1) by decide +kernel) rfl rfl ?_
  exact h
theorem bK0_79 {x3 : Int} {d4 : Option AV} {d5 : Option AV} {d6 : Option AV} {y0 : Int} {w : WS} {r : Nat} {o : Ro} (h : K0_84 x3 y0 0 d6 w r o) : K0_79 x3 d4 d5 d6 y0 w r o := by
  show Lg 0 79 [(some (.inr (.inr (some SCR)))), (some (.inr (.inr (some 0)))), (some (.inr (.inr (some 682)))), (some (.inl x3)), d4, d5, d6] [(.inl y0)] w r o
  refine zq_istore 81 [(some (.inr (.inr (some SCR)))), (some (.inr (.inr (some 0)))), (some (.inr (.inr (some 682)))), (some (.inl x3)), (some (.inl y0)), d5, d6] (show zop 0 79 = some (.istore 4, 2) by decide +kernel) rfl rfl rfl ?_
  refine zq_iconst 82 (show zop 0 81 = some (.iconst 0, 1) by decide +kernel) rfl rfl ?_
  refine zq_istore 84 [(some (.inr (.inr (some SCR)))), (some (.inr (.inr (some 0)))), (some (.inr (.inr (some 682)))), (some (.inl x3)), (some (.inl y0)), (some (.inl 0)), d6] (show zop 0 82 = some (.istore 5, 2) by decide +kernel) rfl rfl rfl ?_
  exact h
theorem bK0_84 {x3 : Int} {x4 : Int} {x5 : Int} {d6 : Option AV} {w : WS} {r : Nat} {o : Ro} (h : (if x5 < x4 then (if x3 = 0 then K0_203 (some (.inr (.inr (some SCR)))) x3 (some (.inl x4)) (some (.inl x5)) d6 w r o else (-2147483648 ≤ (3 * x5) ∧ (3 * x5) ≤ 2147483647) ∧ (-2147483648 ≤ ((3 * x5) + 1) ∧ ((3 * x5) + 1) ≤ 2147483647) ∧ (0 ≤ r) ∧ (∃ (v4 : Int) (w3 : WS), Lx 243 [(.inr (.inr (some SCR))), (.inl ((3 * x5) + 1))] w (.inl (some (.inl v4)), w3) ∧ K0_107 (some (.inl x3)) x4 x5 v4 w3 r o)) else K0_203 (some (.inr (.inr (some SCR)))) x3 (some (.inl x4)) (some (.inl x5)) d6 w r o)) : K0_84 x3 x4 x5 d6 w r o := by
  show Lg 0 84 [(some (.inr (.inr (some SCR)))), (some (.inr (.inr (some 0)))), (some (.inr (.inr (some 682)))), (some (.inl x3)), (some (.inl x4)), (some (.inl x5)), d6] [] w r o
  refine zq_iload 86 (show zop 0 84 = some (.iload 5, 2) by decide +kernel) rfl rfl ?_
  refine zq_iload 88 (show zop 0 86 = some (.iload 4, 2) by decide +kernel) rfl rfl ?_
  by_cases hc7 : x5 < x4
  · rw [if_pos hc7] at h
    refine zq_icmpF 91 203 (show zop 0 88 = some (.if_icmp .ge 115, 3) by decide +kernel) rfl rfl (decide_eq_false (Int.not_le.mpr hc7)) ?_
    refine zq_iload_n 92 (show zop 0 91 = some (.iload_n 3, 1) by decide +kernel) rfl rfl ?_
    by_cases hc8 : x3 = 0
    · rw [if_pos hc8] at h
      refine zq_ifT 203 (show zop 0 92 = some (.ifCond .eq 111, 3) by decide +kernel) rfl (decide_eq_true hc8) ?_
      exact h
    · rw [if_neg hc8] at h
      refine zq_ifF 95 203 (show zop 0 92 = some (.ifCond .eq 111, 3) by decide +kernel) rfl rfl (decide_eq_false hc8) ?_
      refine zq_aload_n 96 (show zop 0 95 = some (.aload_n 0, 1) by decide +kernel) rfl rfl ?_
      refine zq_iconst 97 (show zop 0 96 = some (.iconst 3, 1) by decide +kernel) rfl rfl ?_
      refine zq_iload 99 (show zop 0 97 = some (.iload 5, 2) by decide +kernel) rfl rfl ?_
      obtain ⟨g1, h⟩ := h
      refine zq_imul 100 (show zop 0 99 = some (.imul, 1) by decide +kernel) rfl g1 ?_
      refine zq_iconst 101 (show zop 0 100 = some (.iconst 1, 1) by decide +kernel) rfl rfl ?_
      obtain ⟨g2, h⟩ := h
      refine zq_iadd 102 (show zop 0 101 = some (.iadd, 1) by decide +kernel) rfl g2 ?_
      obtain ⟨g6, h⟩ := h
      obtain ⟨v4, w3, hD5, h⟩ := h
      refine zq_lx (v := some (.inl v4)) (w' := w3) (nj := 2) (j := 243) (c := 0) (t := []) (as := [(.inr (.inr (some SCR))), (.inl ((3 * x5) + 1))]) 105 [(.inl v4)] (show zop 0 102 = some (.invokestatic 303, 3) by decide +kernel) (by decide +kernel) rfl (by decide +kernel) (by decide +kernel) rfl rfl rfl rfl rfl hD5 rfl g6 ?_
      refine zq_istore 107 [(some (.inr (.inr (some SCR)))), (some (.inr (.inr (some 0)))), (some (.inr (.inr (some 682)))), (some (.inl x3)), (some (.inl x4)), (some (.inl x5)), (some (.inl v4))] (show zop 0 105 = some (.istore 6, 2) by decide +kernel) rfl rfl rfl ?_
      exact h
  · rw [if_neg hc7] at h
    refine zq_icmpT 203 (show zop 0 88 = some (.if_icmp .ge 115, 3) by decide +kernel) rfl (decide_eq_true (Int.not_lt.mp hc7)) ?_
    exact h
theorem bK0_203 {d0 : Option AV} {x3 : Int} {d4 : Option AV} {d5 : Option AV} {d6 : Option AV} {w : WS} {r : Nat} {o : Ro} (h : (if x3 = 0 then K0_231 d0 (some (.inr (.inr (some 0)))) (some (.inr (.inr (some 682)))) (some (.inl x3)) d4 d5 d6 w r o else (0 ≤ r) ∧ (∃ (v2 : Int) (s1 : Sg), Dc 187 [(.inr (.inr (some 0)))] w.2.2 (.inl (some (.inl v2))) s1 ∧ ((wS w s1).1[0]? = some (0, 12, [])) ∧ (0 ≤ (0 : Int) ∧ (0 : Int) < 12) ∧ (if v2 = ((wS w s1).2.1 682 ((0 : Int)).toNat) then (0 ≤ r) ∧ (∃ (v9 : Int) (s8 : Sg), Dc 208 [(.inr (.inr (some 0)))] (wS w s1).2.2 (.inl (some (.inl v9))) s8 ∧ ((wS (wS w s1) s8).1[0]? = some (0, 12, [])) ∧ (0 ≤ (3 : Int) ∧ (3 : Int) < 12) ∧ (if v9 = ((wS (wS w s1) s8).2.1 682 ((3 : Int)).toNat) then K0_232 d0 (some (.inr (.inr (some 0)))) (some (.inr (.inr (some 682)))) (some (.inl x3)) d4 d5 d6 1 (wS (wS w s1) s8) r o else K0_231 d0 (some (.inr (.inr (some 0)))) (some (.inr (.inr (some 682)))) (some (.inl x3)) d4 d5 d6 (wS (wS w s1) s8) r o)) else K0_231 d0 (some (.inr (.inr (some 0)))) (some (.inr (.inr (some 682)))) (some (.inl x3)) d4 d5 d6 (wS w s1) r o)))) : K0_203 d0 x3 d4 d5 d6 w r o := by
  show Lg 0 203 [d0, (some (.inr (.inr (some 0)))), (some (.inr (.inr (some 682)))), (some (.inl x3)), d4, d5, d6] [] w r o
  refine zq_iload_n 204 (show zop 0 203 = some (.iload_n 3, 1) by decide +kernel) rfl rfl ?_
  by_cases hc15 : x3 = 0
  · rw [if_pos hc15] at h
    refine zq_ifT 231 (show zop 0 204 = some (.ifCond .eq 27, 3) by decide +kernel) rfl (decide_eq_true hc15) ?_
    exact h
  · rw [if_neg hc15] at h
    refine zq_ifF 207 231 (show zop 0 204 = some (.ifCond .eq 27, 3) by decide +kernel) rfl rfl (decide_eq_false hc15) ?_
    refine zq_aload_n 208 (show zop 0 207 = some (.aload_n 1, 1) by decide +kernel) rfl rfl ?_
    obtain ⟨g4, h⟩ := h
    obtain ⟨v2, s1, hD3, h⟩ := h
    refine zq_vi (v := some (.inl v2)) (σ' := s1) (nj := 1) (j := 187) (c := 0) (t := []) (as := [(.inr (.inr (some 0)))]) 211 [(.inl v2)] (show zop 0 208 = some (.invokevirtual 113, 3) by decide +kernel) (by decide +kernel) rfl (by decide +kernel) rfl rfl rfl rfl rfl rfl (by decide +kernel) (by decide +kernel) (clS_0 rfl) hD3 rfl g4 ?_
    refine zq_aload_n 212 (show zop 0 211 = some (.aload_n 2, 1) by decide +kernel) rfl rfl ?_
    refine zq_iconst 213 (show zop 0 212 = some (.iconst 0, 1) by decide +kernel) rfl rfl ?_
    obtain ⟨g7, h⟩ := h
    obtain ⟨g5, h⟩ := h
    refine zq_iaload 214 12 (show zop 0 213 = some (.iaload, 1) by decide +kernel) rfl (by decide) g7 g5 ?_
    by_cases hc16 : v2 = ((wS w s1).2.1 682 ((0 : Int)).toNat)
    · rw [if_pos hc16] at h
      refine zq_icmpF 217 231 (show zop 0 214 = some (.if_icmp .ne 17, 3) by decide +kernel) rfl rfl (decide_eq_false (fun h9 => h9 hc16)) ?_
      refine zq_aload_n 218 (show zop 0 217 = some (.aload_n 1, 1) by decide +kernel) rfl rfl ?_
      obtain ⟨g11, h⟩ := h
      obtain ⟨v9, s8, hD10, h⟩ := h
      refine zq_vi (v := some (.inl v9)) (σ' := s8) (nj := 1) (j := 208) (c := 0) (t := []) (as := [(.inr (.inr (some 0)))]) 221 [(.inl v9)] (show zop 0 218 = some (.invokevirtual 211, 3) by decide +kernel) (by decide +kernel) rfl (by decide +kernel) rfl rfl rfl rfl rfl rfl (by decide +kernel) (by decide +kernel) (clS_0 rfl) hD10 rfl g11 ?_
      refine zq_aload_n 222 (show zop 0 221 = some (.aload_n 2, 1) by decide +kernel) rfl rfl ?_
      refine zq_iconst 223 (show zop 0 222 = some (.iconst 3, 1) by decide +kernel) rfl rfl ?_
      obtain ⟨g14, h⟩ := h
      obtain ⟨g12, h⟩ := h
      refine zq_iaload 224 12 (show zop 0 223 = some (.iaload, 1) by decide +kernel) rfl (by decide) g14 g12 ?_
      by_cases hc17 : v9 = ((wS (wS w s1) s8).2.1 682 ((3 : Int)).toNat)
      · rw [if_pos hc17] at h
        refine zq_icmpF 227 231 (show zop 0 224 = some (.if_icmp .ne 7, 3) by decide +kernel) rfl rfl (decide_eq_false (fun h9 => h9 hc17)) ?_
        refine zq_iconst 228 (show zop 0 227 = some (.iconst 1, 1) by decide +kernel) rfl rfl ?_
        refine zq_goto 232 (show zop 0 228 = some (.goto 4, 3) by decide +kernel) rfl ?_
        exact h
      · rw [if_neg hc17] at h
        refine zq_icmpT 231 (show zop 0 224 = some (.if_icmp .ne 7, 3) by decide +kernel) rfl (decide_eq_true hc17) ?_
        exact h
    · rw [if_neg hc16] at h
      refine zq_icmpT 231 (show zop 0 214 = some (.if_icmp .ne 17, 3) by decide +kernel) rfl (decide_eq_true hc16) ?_
      exact h
theorem bK0_107 {d3 : Option AV} {x4 : Int} {x5 : Int} {x6 : Int} {w : WS} {r : Nat} {o : Ro} (h : (-2147483648 ≤ (3 * x5) ∧ (3 * x5) ≤ 2147483647) ∧ (0 ≤ r) ∧ (∃ (v3 : Int) (w2 : WS), Lx 243 [(.inr (.inr (some SCR))), (.inl (3 * x5))] w (.inl (some (.inl v3)), w2) ∧ (-2147483648 ≤ (3 * x5) ∧ (3 * x5) ≤ 2147483647) ∧ (-2147483648 ≤ ((3 * x5) + 2) ∧ ((3 * x5) + 2) ≤ 2147483647) ∧ (0 ≤ r) ∧ (∃ (v9 : Int) (w8 : WS), Lx 243 [(.inr (.inr (some SCR))), (.inl ((3 * x5) + 2))] w2 (.inl (some (.inl v9)), w8) ∧ (3100 ≤ r) ∧ (∃ (v13 : Int) (w12 : WS), Lx 245 [(.inr (.inr (some 0))), (.inr (.inr (some 682))), (.inl v3), (.inl x6), (.inl v9)] w8 (.inl (some (.inl v13)), w12) ∧ (if v13 = 0 then K0_195 d3 x4 x5 (some (.inl x6)) w12 (r - 3100) o else K0_135 d3 x4 x5 x6 w12 (r - 3100) o))))) : K0_107 d3 x4 x5 x6 w r o := by
  show Lg 0 107 [(some (.inr (.inr (some SCR)))), (some (.inr (.inr (some 0)))), (some (.inr (.inr (some 682)))), d3, (some (.inl x4)), (some (.inl x5)), (some (.inl x6))] [] w r o
  refine zq_aload_n 108 (show zop 0 107 = some (.aload_n 1, 1) by decide +kernel) rfl rfl ?_
  refine zq_aload_n 109 (show zop 0 108 = some (.aload_n 2, 1) by decide +kernel) rfl rfl ?_
  refine zq_aload_n 110 (show zop 0 109 = some (.aload_n 0, 1) by decide +kernel) rfl rfl ?_
  refine zq_iconst 111 (show zop 0 110 = some (.iconst 3, 1) by decide +kernel) rfl rfl ?_
  refine zq_iload 113 (show zop 0 111 = some (.iload 5, 2) by decide +kernel) rfl rfl ?_
  obtain ⟨g1, h⟩ := h
  refine zq_imul 114 (show zop 0 113 = some (.imul, 1) by decide +kernel) rfl g1 ?_
  obtain ⟨g5, h⟩ := h
  obtain ⟨v3, w2, hD4, h⟩ := h
  refine zq_lx (v := some (.inl v3)) (w' := w2) (nj := 2) (j := 243) (c := 0) (t := [(.inr (.inr (some 682))), (.inr (.inr (some 0)))]) (as := [(.inr (.inr (some SCR))), (.inl (3 * x5))]) 117 [(.inl v3), (.inr (.inr (some 682))), (.inr (.inr (some 0)))] (show zop 0 114 = some (.invokestatic 303, 3) by decide +kernel) (by decide +kernel) rfl (by decide +kernel) (by decide +kernel) rfl rfl rfl rfl rfl hD4 rfl g5 ?_
  refine zq_iload 119 (show zop 0 117 = some (.iload 6, 2) by decide +kernel) rfl rfl ?_
  refine zq_aload_n 120 (show zop 0 119 = some (.aload_n 0, 1) by decide +kernel) rfl rfl ?_
  refine zq_iconst 121 (show zop 0 120 = some (.iconst 3, 1) by decide +kernel) rfl rfl ?_
  refine zq_iload 123 (show zop 0 121 = some (.iload 5, 2) by decide +kernel) rfl rfl ?_
  obtain ⟨g6, h⟩ := h
  refine zq_imul 124 (show zop 0 123 = some (.imul, 1) by decide +kernel) rfl g6 ?_
  refine zq_iconst 125 (show zop 0 124 = some (.iconst 2, 1) by decide +kernel) rfl rfl ?_
  obtain ⟨g7, h⟩ := h
  refine zq_iadd 126 (show zop 0 125 = some (.iadd, 1) by decide +kernel) rfl g7 ?_
  obtain ⟨g11, h⟩ := h
  obtain ⟨v9, w8, hD10, h⟩ := h
  refine zq_lx (v := some (.inl v9)) (w' := w8) (nj := 2) (j := 243) (c := 0) (t := [(.inl x6), (.inl v3), (.inr (.inr (some 682))), (.inr (.inr (some 0)))]) (as := [(.inr (.inr (some SCR))), (.inl ((3 * x5) + 2))]) 129 [(.inl v9), (.inl x6), (.inl v3), (.inr (.inr (some 682))), (.inr (.inr (some 0)))] (show zop 0 126 = some (.invokestatic 303, 3) by decide +kernel) (by decide +kernel) rfl (by decide +kernel) (by decide +kernel) rfl rfl rfl rfl rfl hD10 rfl g11 ?_
  obtain ⟨g15, h⟩ := h
  obtain ⟨v13, w12, hD14, h⟩ := h
  refine zq_lx (v := some (.inl v13)) (w' := w12) (nj := 5) (j := 245) (c := 3100) (t := []) (as := [(.inr (.inr (some 0))), (.inr (.inr (some 682))), (.inl v3), (.inl x6), (.inl v9)]) 132 [(.inl v13)] (show zop 0 129 = some (.invokestatic 307, 3) by decide +kernel) (by decide +kernel) rfl (by decide +kernel) (by decide +kernel) rfl rfl rfl rfl rfl hD14 rfl g15 ?_
  by_cases hc16 : v13 = 0
  · rw [if_pos hc16] at h
    refine zq_ifT 195 (show zop 0 132 = some (.ifCond .eq 63, 3) by decide +kernel) rfl (decide_eq_true hc16) ?_
    exact h
  · rw [if_neg hc16] at h
    refine zq_ifF 135 195 (show zop 0 132 = some (.ifCond .eq 63, 3) by decide +kernel) rfl rfl (decide_eq_false hc16) ?_
    exact h
theorem bK0_231 {d0 : Option AV} {d1 : Option AV} {d2 : Option AV} {d3 : Option AV} {d4 : Option AV} {d5 : Option AV} {d6 : Option AV} {w : WS} {r : Nat} {o : Ro} (h : K0_232 d0 d1 d2 d3 d4 d5 d6 0 w r o) : K0_231 d0 d1 d2 d3 d4 d5 d6 w r o := by
  show Lg 0 231 [d0, d1, d2, d3, d4, d5, d6] [] w r o
  refine zq_iconst 232 (show zop 0 231 = some (.iconst 0, 1) by decide +kernel) rfl rfl ?_
  exact h
theorem bK0_232 {d0 : Option AV} {d1 : Option AV} {d2 : Option AV} {d3 : Option AV} {d4 : Option AV} {d5 : Option AV} {d6 : Option AV} {y0 : Int} {w : WS} {r : Nat} {o : Ro} (h : (y0 = 0 ∨ y0 = 1) ∧ o = (.inl (some (.inl y0)), w)) : K0_232 d0 d1 d2 d3 d4 d5 d6 y0 w r o := by
  show Lg 0 232 [d0, d1, d2, d3, d4, d5, d6] [(.inl y0)] w r o
  obtain ⟨g1, h⟩ := h
  exact (zq_zret (show zop 0 232 = some (.ireturn, 1) by decide +kernel) (by decide +kernel) g1 h)
theorem bK0_195 {d3 : Option AV} {x4 : Int} {x5 : Int} {d6 : Option AV} {w : WS} {r : Nat} {o : Ro} (h : K0_196 d3 x4 x5 d6 0 w r o) : K0_195 d3 x4 x5 d6 w r o := by
  show Lg 0 195 [(some (.inr (.inr (some SCR)))), (some (.inr (.inr (some 0)))), (some (.inr (.inr (some 682)))), d3, (some (.inl x4)), (some (.inl x5)), d6] [] w r o
  refine zq_iconst 196 (show zop 0 195 = some (.iconst 0, 1) by decide +kernel) rfl rfl ?_
  exact h
theorem bK0_135 {d3 : Option AV} {x4 : Int} {x5 : Int} {x6 : Int} {w : WS} {r : Nat} {o : Ro} (h : (0 ≤ r) ∧ (∃ (v2 : Int) (w1 : WS), Lx 244 [(.inl x6)] w (.inl (some (.inl v2)), w1) ∧ (0 ≤ r) ∧ (∃ (v6 : Int) (w5 : WS), Lx 244 [(.inl (Int.tdiv x6 27))] w1 (.inl (some (.inl v6)), w5) ∧ (2 ≤ r) ∧ (∃ (v10 : Int) (s9 : Sg), Dc 177 [(.inr (.inr (some 0))), (.inl v2), (.inl v6)] w5.2.2 (.inl (some (.inl v10))) s9 ∧ K0_152 d3 x4 x5 x6 v10 (wS w5 s9) (r - 2) o)))) : K0_135 d3 x4 x5 x6 w r o := by
  show Lg 0 135 [(some (.inr (.inr (some SCR)))), (some (.inr (.inr (some 0)))), (some (.inr (.inr (some 682)))), d3, (some (.inl x4)), (some (.inl x5)), (some (.inl x6))] [] w r o
  refine zq_aload_n 136 (show zop 0 135 = some (.aload_n 1, 1) by decide +kernel) rfl rfl ?_
  refine zq_iload 138 (show zop 0 136 = some (.iload 6, 2) by decide +kernel) rfl rfl ?_
  obtain ⟨g4, h⟩ := h
  obtain ⟨v2, w1, hD3, h⟩ := h
  refine zq_lx (v := some (.inl v2)) (w' := w1) (nj := 1) (j := 244) (c := 0) (t := [(.inr (.inr (some 0)))]) (as := [(.inl x6)]) 141 [(.inl v2), (.inr (.inr (some 0)))] (show zop 0 138 = some (.invokestatic 22, 3) by decide +kernel) (by decide +kernel) rfl (by decide +kernel) (by decide +kernel) rfl rfl rfl rfl rfl hD3 rfl g4 ?_
  refine zq_iload 143 (show zop 0 141 = some (.iload 6, 2) by decide +kernel) rfl rfl ?_
  refine zq_bipush 145 (show zop 0 143 = some (.bipush 27, 2) by decide +kernel) rfl (by decide) ?_
  refine zq_idiv 146 (show zop 0 145 = some (.idiv, 1) by decide +kernel) rfl (by decide) ?_
  obtain ⟨g8, h⟩ := h
  obtain ⟨v6, w5, hD7, h⟩ := h
  refine zq_lx (v := some (.inl v6)) (w' := w5) (nj := 1) (j := 244) (c := 0) (t := [(.inl v2), (.inr (.inr (some 0)))]) (as := [(.inl (Int.tdiv x6 27))]) 149 [(.inl v6), (.inl v2), (.inr (.inr (some 0)))] (show zop 0 146 = some (.invokestatic 22, 3) by decide +kernel) (by decide +kernel) rfl (by decide +kernel) (by decide +kernel) rfl rfl rfl rfl rfl hD7 rfl g8 ?_
  obtain ⟨g12, h⟩ := h
  obtain ⟨v10, s9, hD11, h⟩ := h
  refine zq_vi (v := some (.inl v10)) (σ' := s9) (nj := 3) (j := 177) (c := 2) (t := []) (as := [(.inr (.inr (some 0))), (.inl v2), (.inl v6)]) 152 [(.inl v10)] (show zop 0 149 = some (.invokevirtual 107, 3) by decide +kernel) (by decide +kernel) rfl (by decide +kernel) rfl rfl rfl rfl rfl rfl (by decide +kernel) (by decide +kernel) (clS_0 rfl) hD11 rfl g12 ?_
  exact h
theorem bK0_196 {d3 : Option AV} {x4 : Int} {x5 : Int} {d6 : Option AV} {y0 : Int} {w : WS} {r : Nat} {o : Ro} (h : (-2147483648 ≤ (x5 + 1) ∧ (x5 + 1) ≤ 2147483647) ∧ K0_84 y0 x4 (x5 + 1) d6 w r o) : K0_196 d3 x4 x5 d6 y0 w r o := by
  show Lg 0 196 [(some (.inr (.inr (some SCR)))), (some (.inr (.inr (some 0)))), (some (.inr (.inr (some 682)))), d3, (some (.inl x4)), (some (.inl x5)), d6] [(.inl y0)] w r o
  refine zq_istore_n 197 [(some (.inr (.inr (some SCR)))), (some (.inr (.inr (some 0)))), (some (.inr (.inr (some 682)))), (some (.inl y0)), (some (.inl x4)), (some (.inl x5)), d6] (show zop 0 196 = some (.istore_n 3, 1) by decide +kernel) rfl rfl rfl ?_
  obtain ⟨g1, h⟩ := h
  refine zq_iinc 200 [(some (.inr (.inr (some SCR)))), (some (.inr (.inr (some 0)))), (some (.inr (.inr (some 682)))), (some (.inl y0)), (some (.inl x4)), (some (.inl (x5 + 1))), d6] (show zop 0 197 = some (.iinc 5 1, 3) by decide +kernel) rfl rfl g1 rfl ?_
  refine zq_goto 84 (show zop 0 200 = some (.goto (-116), 3) by decide +kernel) rfl ?_
  exact h
theorem bK0_152 {d3 : Option AV} {x4 : Int} {x5 : Int} {x6 : Int} {y0 : Int} {w : WS} {r : Nat} {o : Ro} (h : (0 ≤ r) ∧ (∃ (v2 : Int) (w1 : WS), Lx 244 [(.inl (Int.tdiv x6 27))] w (.inl (some (.inl v2)), w1) ∧ (0 ≤ r) ∧ (∃ (v6 : Int) (w5 : WS), Lx 244 [(.inl x6)] w1 (.inl (some (.inl v6)), w5) ∧ (2 ≤ r) ∧ (∃ (v10 : Int) (s9 : Sg), Dc 177 [(.inr (.inr (some 0))), (.inl v2), (.inl v6)] w5.2.2 (.inl (some (.inl v10))) s9 ∧ (if y0 = v10 then K0_172 d3 x4 x5 x6 (wS w5 s9) (r - 2) o else K0_195 d3 x4 x5 (some (.inl x6)) (wS w5 s9) (r - 2) o))))) : K0_152 d3 x4 x5 x6 y0 w r o := by
  show Lg 0 152 [(some (.inr (.inr (some SCR)))), (some (.inr (.inr (some 0)))), (some (.inr (.inr (some 682)))), d3, (some (.inl x4)), (some (.inl x5)), (some (.inl x6))] [(.inl y0)] w r o
  refine zq_aload_n 153 (show zop 0 152 = some (.aload_n 1, 1) by decide +kernel) rfl rfl ?_
  refine zq_iload 155 (show zop 0 153 = some (.iload 6, 2) by decide +kernel) rfl rfl ?_
  refine zq_bipush 157 (show zop 0 155 = some (.bipush 27, 2) by decide +kernel) rfl (by decide) ?_
  refine zq_idiv 158 (show zop 0 157 = some (.idiv, 1) by decide +kernel) rfl (by decide) ?_
  obtain ⟨g4, h⟩ := h
  obtain ⟨v2, w1, hD3, h⟩ := h
  refine zq_lx (v := some (.inl v2)) (w' := w1) (nj := 1) (j := 244) (c := 0) (t := [(.inr (.inr (some 0))), (.inl y0)]) (as := [(.inl (Int.tdiv x6 27))]) 161 [(.inl v2), (.inr (.inr (some 0))), (.inl y0)] (show zop 0 158 = some (.invokestatic 22, 3) by decide +kernel) (by decide +kernel) rfl (by decide +kernel) (by decide +kernel) rfl rfl rfl rfl rfl hD3 rfl g4 ?_
  refine zq_iload 163 (show zop 0 161 = some (.iload 6, 2) by decide +kernel) rfl rfl ?_
  obtain ⟨g8, h⟩ := h
  obtain ⟨v6, w5, hD7, h⟩ := h
  refine zq_lx (v := some (.inl v6)) (w' := w5) (nj := 1) (j := 244) (c := 0) (t := [(.inl v2), (.inr (.inr (some 0))), (.inl y0)]) (as := [(.inl x6)]) 166 [(.inl v6), (.inl v2), (.inr (.inr (some 0))), (.inl y0)] (show zop 0 163 = some (.invokestatic 22, 3) by decide +kernel) (by decide +kernel) rfl (by decide +kernel) (by decide +kernel) rfl rfl rfl rfl rfl hD7 rfl g8 ?_
  obtain ⟨g12, h⟩ := h
  obtain ⟨v10, s9, hD11, h⟩ := h
  refine zq_vi (v := some (.inl v10)) (σ' := s9) (nj := 3) (j := 177) (c := 2) (t := [(.inl y0)]) (as := [(.inr (.inr (some 0))), (.inl v2), (.inl v6)]) 169 [(.inl v10), (.inl y0)] (show zop 0 166 = some (.invokevirtual 107, 3) by decide +kernel) (by decide +kernel) rfl (by decide +kernel) rfl rfl rfl rfl rfl rfl (by decide +kernel) (by decide +kernel) (clS_0 rfl) hD11 rfl g12 ?_
  by_cases hc13 : y0 = v10
  · rw [if_pos hc13] at h
    refine zq_icmpF 172 195 (show zop 0 169 = some (.if_icmp .ne 26, 3) by decide +kernel) rfl rfl (decide_eq_false (fun h9 => h9 hc13)) ?_
    exact h
  · rw [if_neg hc13] at h
    refine zq_icmpT 195 (show zop 0 169 = some (.if_icmp .ne 26, 3) by decide +kernel) rfl (decide_eq_true hc13) ?_
    exact h
theorem bK0_172 {d3 : Option AV} {x4 : Int} {x5 : Int} {x6 : Int} {w : WS} {r : Nat} {o : Ro} (h : (0 ≤ r) ∧ (∃ (v2 : Int) (w1 : WS), Lx 244 [(.inl x6)] w (.inl (some (.inl v2)), w1) ∧ (0 ≤ r) ∧ (∃ (v6 : Int) (w5 : WS), Lx 244 [(.inl x6)] w1 (.inl (some (.inl v6)), w5) ∧ (2 ≤ r) ∧ (∃ (v10 : Int) (s9 : Sg), Dc 177 [(.inr (.inr (some 0))), (.inl v2), (.inl v6)] w5.2.2 (.inl (some (.inl v10))) s9 ∧ (if v10 = 100 then K0_196 d3 x4 x5 (some (.inl x6)) 1 (wS w5 s9) (r - 2) o else K0_195 d3 x4 x5 (some (.inl x6)) (wS w5 s9) (r - 2) o))))) : K0_172 d3 x4 x5 x6 w r o := by
  show Lg 0 172 [(some (.inr (.inr (some SCR)))), (some (.inr (.inr (some 0)))), (some (.inr (.inr (some 682)))), d3, (some (.inl x4)), (some (.inl x5)), (some (.inl x6))] [] w r o
  refine zq_aload_n 173 (show zop 0 172 = some (.aload_n 1, 1) by decide +kernel) rfl rfl ?_
  refine zq_iload 175 (show zop 0 173 = some (.iload 6, 2) by decide +kernel) rfl rfl ?_
  obtain ⟨g4, h⟩ := h
  obtain ⟨v2, w1, hD3, h⟩ := h
  refine zq_lx (v := some (.inl v2)) (w' := w1) (nj := 1) (j := 244) (c := 0) (t := [(.inr (.inr (some 0)))]) (as := [(.inl x6)]) 178 [(.inl v2), (.inr (.inr (some 0)))] (show zop 0 175 = some (.invokestatic 22, 3) by decide +kernel) (by decide +kernel) rfl (by decide +kernel) (by decide +kernel) rfl rfl rfl rfl rfl hD3 rfl g4 ?_
  refine zq_iload 180 (show zop 0 178 = some (.iload 6, 2) by decide +kernel) rfl rfl ?_
  obtain ⟨g8, h⟩ := h
  obtain ⟨v6, w5, hD7, h⟩ := h
  refine zq_lx (v := some (.inl v6)) (w' := w5) (nj := 1) (j := 244) (c := 0) (t := [(.inl v2), (.inr (.inr (some 0)))]) (as := [(.inl x6)]) 183 [(.inl v6), (.inl v2), (.inr (.inr (some 0)))] (show zop 0 180 = some (.invokestatic 22, 3) by decide +kernel) (by decide +kernel) rfl (by decide +kernel) (by decide +kernel) rfl rfl rfl rfl rfl hD7 rfl g8 ?_
  obtain ⟨g12, h⟩ := h
  obtain ⟨v10, s9, hD11, h⟩ := h
  refine zq_vi (v := some (.inl v10)) (σ' := s9) (nj := 3) (j := 177) (c := 2) (t := []) (as := [(.inr (.inr (some 0))), (.inl v2), (.inl v6)]) 186 [(.inl v10)] (show zop 0 183 = some (.invokevirtual 107, 3) by decide +kernel) (by decide +kernel) rfl (by decide +kernel) rfl rfl rfl rfl rfl rfl (by decide +kernel) (by decide +kernel) (clS_0 rfl) hD11 rfl g12 ?_
  refine zq_bipush 188 (show zop 0 186 = some (.bipush 100, 2) by decide +kernel) rfl (by decide) ?_
  by_cases hc13 : v10 = 100
  · rw [if_pos hc13] at h
    refine zq_icmpF 191 195 (show zop 0 188 = some (.if_icmp .ne 7, 3) by decide +kernel) rfl rfl (decide_eq_false (fun h9 => h9 hc13)) ?_
    refine zq_iconst 192 (show zop 0 191 = some (.iconst 1, 1) by decide +kernel) rfl rfl ?_
    refine zq_goto 196 (show zop 0 192 = some (.goto 4, 3) by decide +kernel) rfl ?_
    exact h
  · rw [if_neg hc13] at h
    refine zq_icmpT 195 (show zop 0 188 = some (.if_icmp .ne 7, 3) by decide +kernel) rfl (decide_eq_true hc13) ?_
    exact h
theorem lb0 {w : WS} {r : Nat} {o : Ro} (h : (0 ≤ r) ∧ (∃ (v2 : Int) (s1 : Sg), Dc 187 [(.inr (.inr (some 0)))] w.2.2 (.inl (some (.inl v2))) s1 ∧ (if v2 = 0 then (0 ≤ r) ∧ (∃ (v6 : Int) (s5 : Sg), Dc 208 [(.inr (.inr (some 0)))] (wS w s1).2.2 (.inl (some (.inl v6))) s5 ∧ (if v6 = 0 then (1 ≤ r) ∧ (∃ (v10 : Int) (s9 : Sg), Dc 210 [(.inr (.inr (some 0))), (.inl 0)] (wS (wS w s1) s5).2.2 (.inl (some (.inl v10))) s9 ∧ (if v10 = (-1) then (2 ≤ (r - 1)) ∧ (∃ (v14 : Int) (s13 : Sg), Dc 177 [(.inr (.inr (some 0))), (.inl 0), (.inl 0)] (wS (wS (wS w s1) s5) s9).2.2 (.inl (some (.inl v14))) s13 ∧ (if v14 = 100 then (1 ≤ ((r - 1) - 2)) ∧ (∃ (v18 : Int) (s17 : Sg), Dc 212 [(.inr (.inr (some 0)))] (wS (wS (wS (wS w s1) s5) s9) s13).2.2 (.inl (some (.inl v18))) s17 ∧ (if v18 = 1 then K0_60 none none none none 1 (wS (wS (wS (wS (wS w s1) s5) s9) s13) s17) (((r - 1) - 2) - 1) o else K0_59 none none none none (wS (wS (wS (wS (wS w s1) s5) s9) s13) s17) (((r - 1) - 2) - 1) o)) else K0_59 none none none none (wS (wS (wS (wS w s1) s5) s9) s13) ((r - 1) - 2) o)) else K0_59 none none none none (wS (wS (wS w s1) s5) s9) (r - 1) o)) else K0_59 none none none none (wS (wS w s1) s5) r o)) else K0_59 none none none none (wS w s1) r o))) : Lg 0 13 [(some (.inr (.inr (some SCR)))), (some (.inr (.inr (some 0)))), (some (.inr (.inr (some 682)))), none, none, none, none] [] w r o := by
  refine zq_aload_n 14 (show zop 0 13 = some (.aload_n 1, 1) by decide +kernel) rfl rfl ?_
  obtain ⟨g4, h⟩ := h
  obtain ⟨v2, s1, hD3, h⟩ := h
  refine zq_vi (v := some (.inl v2)) (σ' := s1) (nj := 1) (j := 187) (c := 0) (t := []) (as := [(.inr (.inr (some 0)))]) 17 [(.inl v2)] (show zop 0 14 = some (.invokevirtual 113, 3) by decide +kernel) (by decide +kernel) rfl (by decide +kernel) rfl rfl rfl rfl rfl rfl (by decide +kernel) (by decide +kernel) (clS_0 rfl) hD3 rfl g4 ?_
  by_cases hc21 : v2 = 0
  · rw [if_pos hc21] at h
    refine zq_ifF 20 59 (show zop 0 17 = some (.ifCond .ne 42, 3) by decide +kernel) rfl rfl (decide_eq_false (fun h9 => h9 hc21)) ?_
    refine zq_aload_n 21 (show zop 0 20 = some (.aload_n 1, 1) by decide +kernel) rfl rfl ?_
    obtain ⟨g8, h⟩ := h
    obtain ⟨v6, s5, hD7, h⟩ := h
    refine zq_vi (v := some (.inl v6)) (σ' := s5) (nj := 1) (j := 208) (c := 0) (t := []) (as := [(.inr (.inr (some 0)))]) 24 [(.inl v6)] (show zop 0 21 = some (.invokevirtual 211, 3) by decide +kernel) (by decide +kernel) rfl (by decide +kernel) rfl rfl rfl rfl rfl rfl (by decide +kernel) (by decide +kernel) (clS_0 rfl) hD7 rfl g8 ?_
    by_cases hc22 : v6 = 0
    · rw [if_pos hc22] at h
      refine zq_ifF 27 59 (show zop 0 24 = some (.ifCond .ne 35, 3) by decide +kernel) rfl rfl (decide_eq_false (fun h9 => h9 hc22)) ?_
      refine zq_aload_n 28 (show zop 0 27 = some (.aload_n 1, 1) by decide +kernel) rfl rfl ?_
      refine zq_iconst 29 (show zop 0 28 = some (.iconst 0, 1) by decide +kernel) rfl rfl ?_
      obtain ⟨g12, h⟩ := h
      obtain ⟨v10, s9, hD11, h⟩ := h
      refine zq_vi (v := some (.inl v10)) (σ' := s9) (nj := 2) (j := 210) (c := 1) (t := []) (as := [(.inr (.inr (some 0))), (.inl 0)]) 32 [(.inl v10)] (show zop 0 29 = some (.invokevirtual 232, 3) by decide +kernel) (by decide +kernel) rfl (by decide +kernel) rfl rfl rfl rfl rfl rfl (by decide +kernel) (by decide +kernel) (clS_0 rfl) hD11 rfl g12 ?_
      refine zq_iconst 33 (show zop 0 32 = some (.iconst (-1), 1) by decide +kernel) rfl rfl ?_
      by_cases hc23 : v10 = (-1)
      · rw [if_pos hc23] at h
        refine zq_icmpF 36 59 (show zop 0 33 = some (.if_icmp .ne 26, 3) by decide +kernel) rfl rfl (decide_eq_false (fun h9 => h9 hc23)) ?_
        refine zq_aload_n 37 (show zop 0 36 = some (.aload_n 1, 1) by decide +kernel) rfl rfl ?_
        refine zq_iconst 38 (show zop 0 37 = some (.iconst 0, 1) by decide +kernel) rfl rfl ?_
        refine zq_iconst 39 (show zop 0 38 = some (.iconst 0, 1) by decide +kernel) rfl rfl ?_
        obtain ⟨g16, h⟩ := h
        obtain ⟨v14, s13, hD15, h⟩ := h
        refine zq_vi (v := some (.inl v14)) (σ' := s13) (nj := 3) (j := 177) (c := 2) (t := []) (as := [(.inr (.inr (some 0))), (.inl 0), (.inl 0)]) 42 [(.inl v14)] (show zop 0 39 = some (.invokevirtual 107, 3) by decide +kernel) (by decide +kernel) rfl (by decide +kernel) rfl rfl rfl rfl rfl rfl (by decide +kernel) (by decide +kernel) (clS_0 rfl) hD15 rfl g16 ?_
        refine zq_bipush 44 (show zop 0 42 = some (.bipush 100, 2) by decide +kernel) rfl (by decide) ?_
        by_cases hc24 : v14 = 100
        · rw [if_pos hc24] at h
          refine zq_icmpF 47 59 (show zop 0 44 = some (.if_icmp .ne 15, 3) by decide +kernel) rfl rfl (decide_eq_false (fun h9 => h9 hc24)) ?_
          refine zq_aload_n 48 (show zop 0 47 = some (.aload_n 1, 1) by decide +kernel) rfl rfl ?_
          obtain ⟨g20, h⟩ := h
          obtain ⟨v18, s17, hD19, h⟩ := h
          refine zq_vi (v := some (.inl v18)) (σ' := s17) (nj := 1) (j := 212) (c := 1) (t := []) (as := [(.inr (.inr (some 0)))]) 51 [(.inl v18)] (show zop 0 48 = some (.invokevirtual 257, 3) by decide +kernel) (by decide +kernel) rfl (by decide +kernel) rfl rfl rfl rfl rfl rfl (by decide +kernel) (by decide +kernel) (clS_0 rfl) hD19 rfl g20 ?_
          refine zq_iconst 52 (show zop 0 51 = some (.iconst 1, 1) by decide +kernel) rfl rfl ?_
          by_cases hc25 : v18 = 1
          · rw [if_pos hc25] at h
            refine zq_icmpF 55 59 (show zop 0 52 = some (.if_icmp .ne 7, 3) by decide +kernel) rfl rfl (decide_eq_false (fun h9 => h9 hc25)) ?_
            refine zq_iconst 56 (show zop 0 55 = some (.iconst 1, 1) by decide +kernel) rfl rfl ?_
            refine zq_goto 60 (show zop 0 56 = some (.goto 4, 3) by decide +kernel) rfl ?_
            exact h
          · rw [if_neg hc25] at h
            refine zq_icmpT 59 (show zop 0 52 = some (.if_icmp .ne 7, 3) by decide +kernel) rfl (decide_eq_true hc25) ?_
            exact h
        · rw [if_neg hc24] at h
          refine zq_icmpT 59 (show zop 0 44 = some (.if_icmp .ne 15, 3) by decide +kernel) rfl (decide_eq_true hc24) ?_
          exact h
      · rw [if_neg hc23] at h
        refine zq_icmpT 59 (show zop 0 33 = some (.if_icmp .ne 26, 3) by decide +kernel) rfl (decide_eq_true hc23) ?_
        exact h
    · rw [if_neg hc22] at h
      refine zq_ifT 59 (show zop 0 24 = some (.ifCond .ne 35, 3) by decide +kernel) rfl (decide_eq_true hc22) ?_
      exact h
  · rw [if_neg hc21] at h
    refine zq_ifT 59 (show zop 0 17 = some (.ifCond .ne 42, 3) by decide +kernel) rfl (decide_eq_true hc21) ?_
    exact h
end
