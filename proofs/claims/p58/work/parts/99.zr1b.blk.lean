noncomputable section
def K256_5 (x1 : Int) (x2 : Int) (x3 : Int) (x4 : Int) (w : WS) (r : Nat) (o : Ro) : Prop := Lg 256 5 [(some (.inr (.inr (some 0)))), (some (.inl x1)), (some (.inl x2)), (some (.inl x3)), (some (.inl x4))] [] w r o
def K256_42 (x1 : Int) (x2 : Int) (d3 : Option AV) (x4 : Int) (w : WS) (r : Nat) (o : Ro) : Prop := Lg 256 42 [(some (.inr (.inr (some 0)))), (some (.inl x1)), (some (.inl x2)), d3, (some (.inl x4))] [] w r o
def K256_43 (x1 : Int) (x2 : Int) (d3 : Option AV) (x4 : Int) (y0 : Int) (w : WS) (r : Nat) (o : Ro) : Prop := Lg 256 43 [(some (.inr (.inr (some 0)))), (some (.inl x1)), (some (.inl x2)), d3, (some (.inl x4))] [(.inl y0)] w r o
theorem bK256_5 {x1 : Int} {x2 : Int} {x3 : Int} {x4 : Int} {w : WS} {r : Nat} {o : Ro} (h : (2 ≤ r) ∧ (∃ (v2 : Int) (s1 : Sg), Dc 188 [(.inr (.inr (some 0))), (.inl x1), (.inl 0), (.inl x4)] w.2.2 (.inl (some (.inl v2))) s1 ∧ (if v2 = (-1) then (x3 = 0 ∨ x3 = 1) ∧ o = (.inl (some (.inl x3)), (wS w s1)) else (if x3 = 0 then K256_42 x1 x2 (some (.inl x3)) x4 (wS w s1) (r - 2) o else (2 ≤ (r - 2)) ∧ (∃ (v7 : Int) (s6 : Sg), Dc 189 [(.inr (.inr (some 0))), (.inl x1), (.inl x4)] (wS w s1).2.2 (.inl (some (.inl v7))) s6 ∧ (2 ≤ ((r - 2) - 2)) ∧ (∃ (v11 : Int) (s10 : Sg), Dc 189 [(.inr (.inr (some 0))), (.inl x2), (.inl x4)] (wS (wS w s1) s6).2.2 (.inl (some (.inl v11))) s10 ∧ (if v7 = v11 then K256_43 x1 x2 (some (.inl x3)) x4 1 (wS (wS (wS w s1) s6) s10) (((r - 2) - 2) - 2) o else K256_42 x1 x2 (some (.inl x3)) x4 (wS (wS (wS w s1) s6) s10) (((r - 2) - 2) - 2) o))))))) : K256_5 x1 x2 x3 x4 w r o := by
  show Lg 256 5 [(some (.inr (.inr (some 0)))), (some (.inl x1)), (some (.inl x2)), (some (.inl x3)), (some (.inl x4))] [] w r o
  refine zq_aload_n 6 (show zop 256 5 = some (.aload_n 0, 1) by decide +kernel) rfl rfl ?_
  refine zq_iload_n 7 (show zop 256 6 = some (.iload_n 1, 1) by decide +kernel) rfl rfl ?_
  refine zq_iconst 8 (show zop 256 7 = some (.iconst 0, 1) by decide +kernel) rfl rfl ?_
  refine zq_iload 10 (show zop 256 8 = some (.iload 4, 2) by decide +kernel) rfl rfl ?_
  obtain ⟨g4, h⟩ := h
  obtain ⟨v2, s1, hD3, h⟩ := h
  refine zq_vi (v := some (.inl v2)) (σ' := s1) (nj := 4) (j := 188) (c := 2) (t := []) (as := [(.inr (.inr (some 0))), (.inl x1), (.inl 0), (.inl x4)]) 13 [(.inl v2)] (show zop 256 10 = some (.invokevirtual 87, 3) by decide +kernel) (by decide +kernel) rfl (by decide +kernel) rfl rfl rfl rfl rfl rfl (by decide +kernel) (by decide +kernel) (clS_0 rfl) hD3 rfl g4 ?_
  refine zq_iconst 14 (show zop 256 13 = some (.iconst (-1), 1) by decide +kernel) rfl rfl ?_
  by_cases hc14 : v2 = (-1)
  · rw [if_pos hc14] at h
    refine zq_icmpT 50 (show zop 256 14 = some (.if_icmp .eq 36, 3) by decide +kernel) rfl (decide_eq_true hc14) ?_
    refine zq_iload_n 51 (show zop 256 50 = some (.iload_n 3, 1) by decide +kernel) rfl rfl ?_
    obtain ⟨g5, h⟩ := h
    exact (zq_zret (show zop 256 51 = some (.ireturn, 1) by decide +kernel) (by decide +kernel) g5 h)
  · rw [if_neg hc14] at h
    refine zq_icmpF 17 50 (show zop 256 14 = some (.if_icmp .eq 36, 3) by decide +kernel) rfl rfl (decide_eq_false hc14) ?_
    refine zq_iload_n 18 (show zop 256 17 = some (.iload_n 3, 1) by decide +kernel) rfl rfl ?_
    by_cases hc15 : x3 = 0
    · rw [if_pos hc15] at h
      refine zq_ifT 42 (show zop 256 18 = some (.ifCond .eq 24, 3) by decide +kernel) rfl (decide_eq_true hc15) ?_
      exact h
    · rw [if_neg hc15] at h
      refine zq_ifF 21 42 (show zop 256 18 = some (.ifCond .eq 24, 3) by decide +kernel) rfl rfl (decide_eq_false hc15) ?_
      refine zq_aload_n 22 (show zop 256 21 = some (.aload_n 0, 1) by decide +kernel) rfl rfl ?_
      refine zq_iload_n 23 (show zop 256 22 = some (.iload_n 1, 1) by decide +kernel) rfl rfl ?_
      refine zq_iload 25 (show zop 256 23 = some (.iload 4, 2) by decide +kernel) rfl rfl ?_
      obtain ⟨g9, h⟩ := h
      obtain ⟨v7, s6, hD8, h⟩ := h
      refine zq_vi (v := some (.inl v7)) (σ' := s6) (nj := 3) (j := 189) (c := 2) (t := []) (as := [(.inr (.inr (some 0))), (.inl x1), (.inl x4)]) 28 [(.inl v7)] (show zop 256 25 = some (.invokevirtual 101, 3) by decide +kernel) (by decide +kernel) rfl (by decide +kernel) rfl rfl rfl rfl rfl rfl (by decide +kernel) (by decide +kernel) (clS_0 rfl) hD8 rfl g9 ?_
      refine zq_aload_n 29 (show zop 256 28 = some (.aload_n 0, 1) by decide +kernel) rfl rfl ?_
      refine zq_iload_n 30 (show zop 256 29 = some (.iload_n 2, 1) by decide +kernel) rfl rfl ?_
      refine zq_iload 32 (show zop 256 30 = some (.iload 4, 2) by decide +kernel) rfl rfl ?_
      obtain ⟨g13, h⟩ := h
      obtain ⟨v11, s10, hD12, h⟩ := h
      refine zq_vi (v := some (.inl v11)) (σ' := s10) (nj := 3) (j := 189) (c := 2) (t := [(.inl v7)]) (as := [(.inr (.inr (some 0))), (.inl x2), (.inl x4)]) 35 [(.inl v11), (.inl v7)] (show zop 256 32 = some (.invokevirtual 101, 3) by decide +kernel) (by decide +kernel) rfl (by decide +kernel) rfl rfl rfl rfl rfl rfl (by decide +kernel) (by decide +kernel) (clS_0 rfl) hD12 rfl g13 ?_
      by_cases hc16 : v7 = v11
      · rw [if_pos hc16] at h
        refine zq_icmpF 38 42 (show zop 256 35 = some (.if_icmp .ne 7, 3) by decide +kernel) rfl rfl (decide_eq_false (fun h9 => h9 hc16)) ?_
        refine zq_iconst 39 (show zop 256 38 = some (.iconst 1, 1) by decide +kernel) rfl rfl ?_
        refine zq_goto 43 (show zop 256 39 = some (.goto 4, 3) by decide +kernel) rfl ?_
        exact h
      · rw [if_neg hc16] at h
        refine zq_icmpT 42 (show zop 256 35 = some (.if_icmp .ne 7, 3) by decide +kernel) rfl (decide_eq_true hc16) ?_
        exact h
theorem bK256_42 {x1 : Int} {x2 : Int} {d3 : Option AV} {x4 : Int} {w : WS} {r : Nat} {o : Ro} (h : K256_43 x1 x2 d3 x4 0 w r o) : K256_42 x1 x2 d3 x4 w r o := by
  show Lg 256 42 [(some (.inr (.inr (some 0)))), (some (.inl x1)), (some (.inl x2)), d3, (some (.inl x4))] [] w r o
  refine zq_iconst 43 (show zop 256 42 = some (.iconst 0, 1) by decide +kernel) rfl rfl ?_
  exact h
theorem bK256_43 {x1 : Int} {x2 : Int} {d3 : Option AV} {x4 : Int} {y0 : Int} {w : WS} {r : Nat} {o : Ro} (h : (-2147483648 ≤ (x4 + 1) ∧ (x4 + 1) ≤ 2147483647) ∧ K256_5 x1 x2 y0 (x4 + 1) w r o) : K256_43 x1 x2 d3 x4 y0 w r o := by
  show Lg 256 43 [(some (.inr (.inr (some 0)))), (some (.inl x1)), (some (.inl x2)), d3, (some (.inl x4))] [(.inl y0)] w r o
  refine zq_istore_n 44 [(some (.inr (.inr (some 0)))), (some (.inl x1)), (some (.inl x2)), (some (.inl y0)), (some (.inl x4))] (show zop 256 43 = some (.istore_n 3, 1) by decide +kernel) rfl rfl rfl ?_
  obtain ⟨g1, h⟩ := h
  refine zq_iinc 47 [(some (.inr (.inr (some 0)))), (some (.inl x1)), (some (.inl x2)), (some (.inl y0)), (some (.inl (x4 + 1)))] (show zop 256 44 = some (.iinc 4 1, 3) by decide +kernel) rfl rfl g1 rfl ?_
  refine zq_goto 5 (show zop 256 47 = some (.goto (-42), 3) by decide +kernel) rfl ?_
  exact h
/-- PatchBenchLaw.haveSamePairs (LPatchBench;II)Z -/
theorem lb256 {x1 : Int} {x2 : Int} {w : WS} {o : Ro} (h : K256_5 x1 x2 1 0 w 120 o) : Lx 256 [(.inr (.inr (some 0))), (.inl x1), (.inl x2)] w o := by
  refine Lx_of (l := 5) (r := 120) (by decide +kernel) (by decide +kernel) ?_
  show Lg 256 0 [(some (.inr (.inr (some 0)))), (some (.inl x1)), (some (.inl x2)), none, none] [] w 120 o
  refine zq_iconst 1 (show zop 256 0 = some (.iconst 1, 1) by decide +kernel) rfl rfl ?_
  refine zq_istore_n 2 [(some (.inr (.inr (some 0)))), (some (.inl x1)), (some (.inl x2)), (some (.inl 1)), none] (show zop 256 1 = some (.istore_n 3, 1) by decide +kernel) rfl rfl rfl ?_
  refine zq_iconst 3 (show zop 256 2 = some (.iconst 0, 1) by decide +kernel) rfl rfl ?_
  refine zq_istore 5 [(some (.inr (.inr (some 0)))), (some (.inl x1)), (some (.inl x2)), (some (.inl 1)), (some (.inl 0))] (show zop 256 3 = some (.istore 4, 2) by decide +kernel) rfl rfl rfl ?_
  exact h
/-- PatchBenchLaw.ofPast (LPatchBench;IIZ)I -/
theorem lb257 {x1 : Int} {x2 : Int} {x3 : Int} {w : WS} {o : Ro} (h : (5 ≤ 5) ∧ ((∃ (v2 : Int) (s1 : Sg), Dc 185 [(.inr (.inr (some 0))), (.inl x1), (.inl x2), (.inl x3)] w.2.2 (.inl (some (.inl v2))) s1 ∧ o = (.inl (some (.inl v2)), (wS w s1))) ∨ (∃ s0 : Sg, Dc 185 [(.inr (.inr (some 0))), (.inl x1), (.inl x2), (.inl x3)] w.2.2 (.inr 2) s0 ∧ o = (.inl (some (.inl (-2))), wS w s0)))) : Lx 257 [(.inr (.inr (some 0))), (.inl x1), (.inl x2), (.inl x3)] w o := by
  refine Lx_of (l := 5) (r := 5) (by decide +kernel) (by decide +kernel) ?_
  show Lg 257 0 [(some (.inr (.inr (some 0)))), (some (.inl x1)), (some (.inl x2)), (some (.inl x3)), none] [] w 5 o
  refine zq_aload_n 1 (show zop 257 0 = some (.aload_n 0, 1) by decide +kernel) rfl rfl ?_
  refine zq_iload_n 2 (show zop 257 1 = some (.iload_n 1, 1) by decide +kernel) rfl rfl ?_
  refine zq_iload_n 3 (show zop 257 2 = some (.iload_n 2, 1) by decide +kernel) rfl rfl ?_
  refine zq_iload_n 4 (show zop 257 3 = some (.iload_n 3, 1) by decide +kernel) rfl rfl ?_
  obtain ⟨g4, h⟩ := h
  rcases h with ⟨v2, s1, hD3, h⟩ | ⟨s0, hD0, h⟩
  · refine zq_vi (v := some (.inl v2)) (σ' := s1) (nj := 4) (j := 185) (c := 5) (t := []) (as := [(.inr (.inr (some 0))), (.inl x1), (.inl x2), (.inl x3)]) 7 [(.inl v2)] (show zop 257 4 = some (.invokevirtual 145, 3) by decide +kernel) (by decide +kernel) rfl (by decide +kernel) rfl rfl rfl rfl rfl rfl (by decide +kernel) (by decide +kernel) (clS_0 rfl) hD3 rfl g4 ?_
    exact (zq_iret (show zop 257 7 = some (.ireturn, 1) by decide +kernel) (by decide +kernel) h)
  · exact zq_viH (E := 2) (v := (-2)) (nj := 4) (j := 185) (c := 5) (t := []) (as := [(.inr (.inr (some 0))), (.inl x1), (.inl x2), (.inl x3)]) 7 (show zop 257 4 = some (.invokevirtual 145, 3) by decide +kernel) (by decide +kernel) rfl (by decide +kernel) rfl rfl rfl rfl rfl rfl (by decide +kernel) (by decide +kernel) (clS_0 rfl) hD0 (by decide +kernel) rfl g4 h
/-- PatchBenchLaw.ofSplit (LPatchBench;IIIIZ)I -/
theorem lb258 {x1 : Int} {x2 : Int} {x3 : Int} {x4 : Int} {x5 : Int} {w : WS} {o : Ro} (h : (6 ≤ 6) ∧ ((∃ (v2 : Int) (s1 : Sg), Dc 186 [(.inr (.inr (some 0))), (.inl x1), (.inl x2), (.inl x3), (.inl x4), (.inl x5)] w.2.2 (.inl (some (.inl v2))) s1 ∧ o = (.inl (some (.inl v2)), (wS w s1))) ∨ (∃ s0 : Sg, Dc 186 [(.inr (.inr (some 0))), (.inl x1), (.inl x2), (.inl x3), (.inl x4), (.inl x5)] w.2.2 (.inr 2) s0 ∧ o = (.inl (some (.inl (-2))), wS w s0)))) : Lx 258 [(.inr (.inr (some 0))), (.inl x1), (.inl x2), (.inl x3), (.inl x4), (.inl x5)] w o := by
  refine Lx_of (l := 7) (r := 6) (by decide +kernel) (by decide +kernel) ?_
  show Lg 258 0 [(some (.inr (.inr (some 0)))), (some (.inl x1)), (some (.inl x2)), (some (.inl x3)), (some (.inl x4)), (some (.inl x5)), none] [] w 6 o
  refine zq_aload_n 1 (show zop 258 0 = some (.aload_n 0, 1) by decide +kernel) rfl rfl ?_
  refine zq_iload_n 2 (show zop 258 1 = some (.iload_n 1, 1) by decide +kernel) rfl rfl ?_
  refine zq_iload_n 3 (show zop 258 2 = some (.iload_n 2, 1) by decide +kernel) rfl rfl ?_
  refine zq_iload_n 4 (show zop 258 3 = some (.iload_n 3, 1) by decide +kernel) rfl rfl ?_
  refine zq_iload 6 (show zop 258 4 = some (.iload 4, 2) by decide +kernel) rfl rfl ?_
  refine zq_iload 8 (show zop 258 6 = some (.iload 5, 2) by decide +kernel) rfl rfl ?_
  obtain ⟨g4, h⟩ := h
  rcases h with ⟨v2, s1, hD3, h⟩ | ⟨s0, hD0, h⟩
  · refine zq_vi (v := some (.inl v2)) (σ' := s1) (nj := 6) (j := 186) (c := 6) (t := []) (as := [(.inr (.inr (some 0))), (.inl x1), (.inl x2), (.inl x3), (.inl x4), (.inl x5)]) 11 [(.inl v2)] (show zop 258 8 = some (.invokevirtual 151, 3) by decide +kernel) (by decide +kernel) rfl (by decide +kernel) rfl rfl rfl rfl rfl rfl (by decide +kernel) (by decide +kernel) (clS_0 rfl) hD3 rfl g4 ?_
    exact (zq_iret (show zop 258 11 = some (.ireturn, 1) by decide +kernel) (by decide +kernel) h)
  · exact zq_viH (E := 2) (v := (-2)) (nj := 6) (j := 186) (c := 6) (t := []) (as := [(.inr (.inr (some 0))), (.inl x1), (.inl x2), (.inl x3), (.inl x4), (.inl x5)]) 11 (show zop 258 8 = some (.invokevirtual 151, 3) by decide +kernel) (by decide +kernel) rfl (by decide +kernel) rfl rfl rfl rfl rfl rfl (by decide +kernel) (by decide +kernel) (clS_0 rfl) hD0 (by decide +kernel) rfl g4 h
/-- PatchBenchLaw.ofMerge (LPatchBench;III)I -/
theorem lb259 {x1 : Int} {x2 : Int} {x3 : Int} {w : WS} {o : Ro} (h : (5 ≤ 5) ∧ ((∃ (v2 : Int) (s1 : Sg), Dc 197 [(.inr (.inr (some 0))), (.inl x1), (.inl x2), (.inl x3)] w.2.2 (.inl (some (.inl v2))) s1 ∧ o = (.inl (some (.inl v2)), (wS w s1))) ∨ (∃ s0 : Sg, Dc 197 [(.inr (.inr (some 0))), (.inl x1), (.inl x2), (.inl x3)] w.2.2 (.inr 2) s0 ∧ o = (.inl (some (.inl (-2))), wS w s0)))) : Lx 259 [(.inr (.inr (some 0))), (.inl x1), (.inl x2), (.inl x3)] w o := by
  refine Lx_of (l := 5) (r := 5) (by decide +kernel) (by decide +kernel) ?_
  show Lg 259 0 [(some (.inr (.inr (some 0)))), (some (.inl x1)), (some (.inl x2)), (some (.inl x3)), none] [] w 5 o
  refine zq_aload_n 1 (show zop 259 0 = some (.aload_n 0, 1) by decide +kernel) rfl rfl ?_
  refine zq_iload_n 2 (show zop 259 1 = some (.iload_n 1, 1) by decide +kernel) rfl rfl ?_
  refine zq_iload_n 3 (show zop 259 2 = some (.iload_n 2, 1) by decide +kernel) rfl rfl ?_
  refine zq_iload_n 4 (show zop 259 3 = some (.iload_n 3, 1) by decide +kernel) rfl rfl ?_
  obtain ⟨g4, h⟩ := h
  rcases h with ⟨v2, s1, hD3, h⟩ | ⟨s0, hD0, h⟩
  · refine zq_vi (v := some (.inl v2)) (σ' := s1) (nj := 4) (j := 197) (c := 5) (t := []) (as := [(.inr (.inr (some 0))), (.inl x1), (.inl x2), (.inl x3)]) 7 [(.inl v2)] (show zop 259 4 = some (.invokevirtual 155, 3) by decide +kernel) (by decide +kernel) rfl (by decide +kernel) rfl rfl rfl rfl rfl rfl (by decide +kernel) (by decide +kernel) (clS_0 rfl) hD3 rfl g4 ?_
    exact (zq_iret (show zop 259 7 = some (.ireturn, 1) by decide +kernel) (by decide +kernel) h)
  · exact zq_viH (E := 2) (v := (-2)) (nj := 4) (j := 197) (c := 5) (t := []) (as := [(.inr (.inr (some 0))), (.inl x1), (.inl x2), (.inl x3)]) 7 (show zop 259 4 = some (.invokevirtual 155, 3) by decide +kernel) (by decide +kernel) rfl (by decide +kernel) rfl rfl rfl rfl rfl rfl (by decide +kernel) (by decide +kernel) (clS_0 rfl) hD0 (by decide +kernel) rfl g4 h
/-- PatchBenchLaw.ofSwap (LPatchBench;I)I -/
theorem lb260 {x1 : Int} {w : WS} {o : Ro} (h : (2 ≤ 2) ∧ ((∃ (v2 : Int) (s1 : Sg), Dc 204 [(.inr (.inr (some 0))), (.inl x1)] w.2.2 (.inl (some (.inl v2))) s1 ∧ o = (.inl (some (.inl v2)), (wS w s1))) ∨ (∃ s0 : Sg, Dc 204 [(.inr (.inr (some 0))), (.inl x1)] w.2.2 (.inr 2) s0 ∧ o = (.inl (some (.inl (-2))), wS w s0)))) : Lx 260 [(.inr (.inr (some 0))), (.inl x1)] w o := by
  refine Lx_of (l := 3) (r := 2) (by decide +kernel) (by decide +kernel) ?_
  show Lg 260 0 [(some (.inr (.inr (some 0)))), (some (.inl x1)), none] [] w 2 o
  refine zq_aload_n 1 (show zop 260 0 = some (.aload_n 0, 1) by decide +kernel) rfl rfl ?_
  refine zq_iload_n 2 (show zop 260 1 = some (.iload_n 1, 1) by decide +kernel) rfl rfl ?_
  obtain ⟨g4, h⟩ := h
  rcases h with ⟨v2, s1, hD3, h⟩ | ⟨s0, hD0, h⟩
  · refine zq_vi (v := some (.inl v2)) (σ' := s1) (nj := 2) (j := 204) (c := 2) (t := []) (as := [(.inr (.inr (some 0))), (.inl x1)]) 5 [(.inl v2)] (show zop 260 2 = some (.invokevirtual 158, 3) by decide +kernel) (by decide +kernel) rfl (by decide +kernel) rfl rfl rfl rfl rfl rfl (by decide +kernel) (by decide +kernel) (clS_0 rfl) hD3 rfl g4 ?_
    exact (zq_iret (show zop 260 5 = some (.ireturn, 1) by decide +kernel) (by decide +kernel) h)
  · exact zq_viH (E := 2) (v := (-2)) (nj := 2) (j := 204) (c := 2) (t := []) (as := [(.inr (.inr (some 0))), (.inl x1)]) 5 (show zop 260 2 = some (.invokevirtual 158, 3) by decide +kernel) (by decide +kernel) rfl (by decide +kernel) rfl rfl rfl rfl rfl rfl (by decide +kernel) (by decide +kernel) (clS_0 rfl) hD0 (by decide +kernel) rfl g4 h
/-- PatchBenchLaw.ofChain (LPatchBench;II)I -/
theorem lb261 {x1 : Int} {x2 : Int} {w : WS} {o : Ro} (h : (4 ≤ 4) ∧ ((∃ (v2 : Int) (s1 : Sg), Dc 223 [(.inr (.inr (some 0))), (.inl x1), (.inl x2)] w.2.2 (.inl (some (.inl v2))) s1 ∧ o = (.inl (some (.inl v2)), (wS w s1))) ∨ (∃ s0 : Sg, Dc 223 [(.inr (.inr (some 0))), (.inl x1), (.inl x2)] w.2.2 (.inr 2) s0 ∧ o = (.inl (some (.inl (-2))), wS w s0)))) : Lx 261 [(.inr (.inr (some 0))), (.inl x1), (.inl x2)] w o := by
  refine Lx_of (l := 4) (r := 4) (by decide +kernel) (by decide +kernel) ?_
  show Lg 261 0 [(some (.inr (.inr (some 0)))), (some (.inl x1)), (some (.inl x2)), none] [] w 4 o
  refine zq_aload_n 1 (show zop 261 0 = some (.aload_n 0, 1) by decide +kernel) rfl rfl ?_
  refine zq_iload_n 2 (show zop 261 1 = some (.iload_n 1, 1) by decide +kernel) rfl rfl ?_
  refine zq_iload_n 3 (show zop 261 2 = some (.iload_n 2, 1) by decide +kernel) rfl rfl ?_
  obtain ⟨g4, h⟩ := h
  rcases h with ⟨v2, s1, hD3, h⟩ | ⟨s0, hD0, h⟩
  · refine zq_vi (v := some (.inl v2)) (σ' := s1) (nj := 3) (j := 223) (c := 4) (t := []) (as := [(.inr (.inr (some 0))), (.inl x1), (.inl x2)]) 6 [(.inl v2)] (show zop 261 3 = some (.invokevirtual 164, 3) by decide +kernel) (by decide +kernel) rfl (by decide +kernel) rfl rfl rfl rfl rfl rfl (by decide +kernel) (by decide +kernel) (clS_0 rfl) hD3 rfl g4 ?_
    exact (zq_iret (show zop 261 6 = some (.ireturn, 1) by decide +kernel) (by decide +kernel) h)
  · exact zq_viH (E := 2) (v := (-2)) (nj := 3) (j := 223) (c := 4) (t := []) (as := [(.inr (.inr (some 0))), (.inl x1), (.inl x2)]) 6 (show zop 261 3 = some (.invokevirtual 164, 3) by decide +kernel) (by decide +kernel) rfl (by decide +kernel) rfl rfl rfl rfl rfl rfl (by decide +kernel) (by decide +kernel) (clS_0 rfl) hD0 (by decide +kernel) rfl g4 h
/-- PatchBenchLaw.ofDelta (LPatchBench;III)I -/
theorem lb262 {x1 : Int} {x2 : Int} {x3 : Int} {w : WS} {o : Ro} (h : (4 ≤ 4) ∧ ((∃ (v2 : Int) (s1 : Sg), Dc 226 [(.inr (.inr (some 0))), (.inl x1), (.inl x2), (.inl x3)] w.2.2 (.inl (some (.inl v2))) s1 ∧ o = (.inl (some (.inl v2)), (wS w s1))) ∨ (∃ s0 : Sg, Dc 226 [(.inr (.inr (some 0))), (.inl x1), (.inl x2), (.inl x3)] w.2.2 (.inr 2) s0 ∧ o = (.inl (some (.inl (-2))), wS w s0)))) : Lx 262 [(.inr (.inr (some 0))), (.inl x1), (.inl x2), (.inl x3)] w o := by
  refine Lx_of (l := 5) (r := 4) (by decide +kernel) (by decide +kernel) ?_
  show Lg 262 0 [(some (.inr (.inr (some 0)))), (some (.inl x1)), (some (.inl x2)), (some (.inl x3)), none] [] w 4 o
  refine zq_aload_n 1 (show zop 262 0 = some (.aload_n 0, 1) by decide +kernel) rfl rfl ?_
  refine zq_iload_n 2 (show zop 262 1 = some (.iload_n 1, 1) by decide +kernel) rfl rfl ?_
  refine zq_iload_n 3 (show zop 262 2 = some (.iload_n 2, 1) by decide +kernel) rfl rfl ?_
  refine zq_iload_n 4 (show zop 262 3 = some (.iload_n 3, 1) by decide +kernel) rfl rfl ?_
  obtain ⟨g4, h⟩ := h
  rcases h with ⟨v2, s1, hD3, h⟩ | ⟨s0, hD0, h⟩
  · refine zq_vi (v := some (.inl v2)) (σ' := s1) (nj := 4) (j := 226) (c := 4) (t := []) (as := [(.inr (.inr (some 0))), (.inl x1), (.inl x2), (.inl x3)]) 7 [(.inl v2)] (show zop 262 4 = some (.invokevirtual 167, 3) by decide +kernel) (by decide +kernel) rfl (by decide +kernel) rfl rfl rfl rfl rfl rfl (by decide +kernel) (by decide +kernel) (clS_0 rfl) hD3 rfl g4 ?_
    exact (zq_iret (show zop 262 7 = some (.ireturn, 1) by decide +kernel) (by decide +kernel) h)
  · exact zq_viH (E := 2) (v := (-2)) (nj := 4) (j := 226) (c := 4) (t := []) (as := [(.inr (.inr (some 0))), (.inl x1), (.inl x2), (.inl x3)]) 7 (show zop 262 4 = some (.invokevirtual 167, 3) by decide +kernel) (by decide +kernel) rfl (by decide +kernel) rfl rfl rfl rfl rfl rfl (by decide +kernel) (by decide +kernel) (clS_0 rfl) hD0 (by decide +kernel) rfl g4 h
def K263_80 (d0 : Option AV) (d1 : Option AV) (d2 : Option AV) (d3 : Option AV) (d4 : Option AV) (d5 : Option AV) (d6 : Option AV) (d7 : Option AV) (d8 : Option AV) (w : WS) (r : Nat) (o : Ro) : Prop := Lg 263 80 [d0, d1, d2, d3, d4, d5, d6, d7, d8] [] w r o
def K263_81 (d0 : Option AV) (d1 : Option AV) (d2 : Option AV) (d3 : Option AV) (d4 : Option AV) (d5 : Option AV) (d6 : Option AV) (d7 : Option AV) (d8 : Option AV) (y0 : Int) (w : WS) (r : Nat) (o : Ro) : Prop := Lg 263 81 [d0, d1, d2, d3, d4, d5, d6, d7, d8] [(.inl y0)] w r o
def K263_119 (d0 : Option AV) (d1 : Option AV) (d2 : Option AV) (d3 : Option AV) (d4 : Option AV) (d5 : Option AV) (d6 : Option AV) (d7 : Option AV) (d8 : Option AV) (w : WS) (r : Nat) (o : Ro) : Prop := Lg 263 119 [d0, d1, d2, d3, d4, d5, d6, d7, d8] [] w r o
def K263_124 (d0 : Option AV) (d1 : Option AV) (d2 : Option AV) (d3 : Option AV) (d4 : Option AV) (d5 : Option AV) (d6 : Option AV) (d7 : Option AV) (d8 : Option AV) (y0 : Int) (w : WS) (r : Nat) (o : Ro) : Prop := Lg 263 124 [d0, d1, d2, d3, d4, d5, d6, d7, d8] [(.inl y0)] w r o
def K263_162 (d0 : Option AV) (d1 : Option AV) (d2 : Option AV) (d3 : Option AV) (d4 : Option AV) (d5 : Option AV) (d6 : Option AV) (d7 : Option AV) (d8 : Option AV) (y0 : Int) (w : WS) (r : Nat) (o : Ro) : Prop := Lg 263 162 [d0, d1, d2, d3, d4, d5, d6, d7, d8] [(.inl y0)] w r o
def K263_161 (d0 : Option AV) (d1 : Option AV) (d2 : Option AV) (d3 : Option AV) (d4 : Option AV) (d5 : Option AV) (d6 : Option AV) (d7 : Option AV) (d8 : Option AV) (w : WS) (r : Nat) (o : Ro) : Prop := Lg 263 161 [d0, d1, d2, d3, d4, d5, d6, d7, d8] [] w r o
def K263_226 (d0 : Option AV) (d1 : Option AV) (d2 : Option AV) (d3 : Option AV) (d4 : Option AV) (d5 : Option AV) (d6 : Option AV) (d7 : Option AV) (d8 : Option AV) (w : WS) (r : Nat) (o : Ro) : Prop := Lg 263 226 [d0, d1, d2, d3, d4, d5, d6, d7, d8] [] w r o
def K263_227 (d0 : Option AV) (d1 : Option AV) (d2 : Option AV) (d3 : Option AV) (d4 : Option AV) (d5 : Option AV) (d6 : Option AV) (d7 : Option AV) (d8 : Option AV) (y0 : Int) (w : WS) (r : Nat) (o : Ro) : Prop := Lg 263 227 [d0, d1, d2, d3, d4, d5, d6, d7, d8] [(.inl y0)] w r o
def K263_258 (d0 : Option AV) (d1 : Option AV) (d2 : Option AV) (d3 : Option AV) (d4 : Option AV) (d5 : Option AV) (d6 : Option AV) (d7 : Option AV) (d8 : Option AV) (y0 : Int) (w : WS) (r : Nat) (o : Ro) : Prop := Lg 263 258 [d0, d1, d2, d3, d4, d5, d6, d7, d8] [(.inl y0)] w r o
def K263_341 (x2 : Int) (x3 : Int) (d4 : Option AV) (x5 : Int) (x6 : Int) (d7 : Option AV) (d8 : Option AV) (w : WS) (r : Nat) (o : Ro) : Prop := Lg 263 341 [(some (.inr (.inr (some 0)))), (some (.inr (.inr (some 682)))), (some (.inl x2)), (some (.inl x3)), d4, (some (.inl x5)), (some (.inl x6)), d7, d8] [] w r o
def K263_342 (x2 : Int) (x3 : Int) (d4 : Option AV) (x5 : Int) (x6 : Int) (d7 : Option AV) (d8 : Option AV) (y0 : Int) (w : WS) (r : Nat) (o : Ro) : Prop := Lg 263 342 [(some (.inr (.inr (some 0)))), (some (.inr (.inr (some 682)))), (some (.inl x2)), (some (.inl x3)), d4, (some (.inl x5)), (some (.inl x6)), d7, d8] [(.inl y0)] w r o
def K263_416 (x2 : Int) (x3 : Int) (d4 : Option AV) (x5 : Int) (x6 : Int) (d7 : Option AV) (d8 : Option AV) (w : WS) (r : Nat) (o : Ro) : Prop := Lg 263 416 [(some (.inr (.inr (some 0)))), (some (.inr (.inr (some 682)))), (some (.inl x2)), (some (.inl x3)), d4, (some (.inl x5)), (some (.inl x6)), d7, d8] [] w r o
def K263_417 (x2 : Int) (x3 : Int) (d4 : Option AV) (x5 : Int) (x6 : Int) (d7 : Option AV) (d8 : Option AV) (y0 : Int) (w : WS) (r : Nat) (o : Ro) : Prop := Lg 263 417 [(some (.inr (.inr (some 0)))), (some (.inr (.inr (some 682)))), (some (.inl x2)), (some (.inl x3)), d4, (some (.inl x5)), (some (.inl x6)), d7, d8] [(.inl y0)] w r o
def K263_432 (d0 : Option AV) (d1 : Option AV) (d2 : Option AV) (d3 : Option AV) (d4 : Option AV) (d5 : Option AV) (d6 : Option AV) (d7 : Option AV) (x8 : Int) (w : WS) (r : Nat) (o : Ro) : Prop := Lg 263 432 [d0, d1, d2, d3, d4, d5, d6, d7, (some (.inl x8))] [] w r o
def K263_461 (d1 : Option AV) (x2 : Int) (x3 : Int) (d4 : Option AV) (x5 : Int) (x6 : Int) (d7 : Option AV) (d8 : Option AV) (y1 : Int) (y2 : Int) (y3 : Int) (w : WS) (r : Nat) (o : Ro) : Prop := Lg 263 461 [(some (.inr (.inr (some 0)))), d1, (some (.inl x2)), (some (.inl x3)), d4, (some (.inl x5)), (some (.inl x6)), d7, d8] [(.inl y3), (.inl y2), (.inl y1), (.inr (.inr (some 0)))] w r o
def K263_488 (d0 : Option AV) (d1 : Option AV) (d2 : Option AV) (d3 : Option AV) (d4 : Option AV) (d5 : Option AV) (d6 : Option AV) (d7 : Option AV) (d8 : Option AV) (y1 : Int) (y2 : Int) (w : WS) (r : Nat) (o : Ro) : Prop := Lg 263 488 [d0, d1, d2, d3, d4, d5, d6, d7, d8] [(.inl y2), (.inl y1), (.inr (.inr (some 0)))] w r o
def K263_498 (d0 : Option AV) (d1 : Option AV) (d2 : Option AV) (d3 : Option AV) (d4 : Option AV) (d5 : Option AV) (d6 : Option AV) (d7 : Option AV) (d8 : Option AV) (w : WS) (r : Nat) (o : Ro) : Prop := Lg 263 498 [d0, d1, d2, d3, d4, d5, d6, d7, d8] [] w r o
def K263_499 (d0 : Option AV) (d1 : Option AV) (d2 : Option AV) (d3 : Option AV) (d4 : Option AV) (d5 : Option AV) (d6 : Option AV) (d7 : Option AV) (d8 : Option AV) (y0 : Int) (w : WS) (r : Nat) (o : Ro) : Prop := Lg 263 499 [d0, d1, d2, d3, d4, d5, d6, d7, d8] [(.inl y0)] w r o
theorem bK263_80 {d0 : Option AV} {d1 : Option AV} {d2 : Option AV} {d3 : Option AV} {d4 : Option AV} {d5 : Option AV} {d6 : Option AV} {d7 : Option AV} {d8 : Option AV} {w : WS} {r : Nat} {o : Ro} (h : K263_81 d0 d1 d2 d3 d4 d5 d6 d7 d8 0 w r o) : K263_80 d0 d1 d2 d3 d4 d5 d6 d7 d8 w r o := by
  show Lg 263 80 [d0, d1, d2, d3, d4, d5, d6, d7, d8] [] w r o
  refine zq_iconst 81 (show zop 263 80 = some (.iconst 0, 1) by decide +kernel) rfl rfl ?_
  exact h
theorem bK263_81 {d0 : Option AV} {d1 : Option AV} {d2 : Option AV} {d3 : Option AV} {d4 : Option AV} {d5 : Option AV} {d6 : Option AV} {d7 : Option AV} {d8 : Option AV} {y0 : Int} {w : WS} {r : Nat} {o : Ro} (h : (y0 = 0 ∨ y0 = 1) ∧ o = (.inl (some (.inl y0)), w)) : K263_81 d0 d1 d2 d3 d4 d5 d6 d7 d8 y0 w r o := by
  show Lg 263 81 [d0, d1, d2, d3, d4, d5, d6, d7, d8] [(.inl y0)] w r o
  obtain ⟨g1, h⟩ := h
  exact (zq_zret (show zop 263 81 = some (.ireturn, 1) by decide +kernel) (by decide +kernel) g1 h)
theorem bK263_119 {d0 : Option AV} {d1 : Option AV} {d2 : Option AV} {d3 : Option AV} {d4 : Option AV} {d5 : Option AV} {d6 : Option AV} {d7 : Option AV} {d8 : Option AV} {w : WS} {r : Nat} {o : Ro} (h : K263_124 d0 d1 d2 d3 d4 d5 d6 d7 d8 1 w r o) : K263_119 d0 d1 d2 d3 d4 d5 d6 d7 d8 w r o := by
  show Lg 263 119 [d0, d1, d2, d3, d4, d5, d6, d7, d8] [] w r o
  refine zq_iconst 120 (show zop 263 119 = some (.iconst 1, 1) by decide +kernel) rfl rfl ?_
  refine zq_goto 124 (show zop 263 120 = some (.goto 4, 3) by decide +kernel) rfl ?_
  exact h
theorem bK263_124 {d0 : Option AV} {d1 : Option AV} {d2 : Option AV} {d3 : Option AV} {d4 : Option AV} {d5 : Option AV} {d6 : Option AV} {d7 : Option AV} {d8 : Option AV} {y0 : Int} {w : WS} {r : Nat} {o : Ro} (h : (y0 = 0 ∨ y0 = 1) ∧ o = (.inl (some (.inl y0)), w)) : K263_124 d0 d1 d2 d3 d4 d5 d6 d7 d8 y0 w r o := by
  show Lg 263 124 [d0, d1, d2, d3, d4, d5, d6, d7, d8] [(.inl y0)] w r o
  obtain ⟨g1, h⟩ := h
  exact (zq_zret (show zop 263 124 = some (.ireturn, 1) by decide +kernel) (by decide +kernel) g1 h)
theorem bK263_162 {d0 : Option AV} {d1 : Option AV} {d2 : Option AV} {d3 : Option AV} {d4 : Option AV} {d5 : Option AV} {d6 : Option AV} {d7 : Option AV} {d8 : Option AV} {y0 : Int} {w : WS} {r : Nat} {o : Ro} (h : (y0 = 0 ∨ y0 = 1) ∧ o = (.inl (some (.inl y0)), w)) : K263_162 d0 d1 d2 d3 d4 d5 d6 d7 d8 y0 w r o := by
  show Lg 263 162 [d0, d1, d2, d3, d4, d5, d6, d7, d8] [(.inl y0)] w r o
  obtain ⟨g1, h⟩ := h
  exact (zq_zret (show zop 263 162 = some (.ireturn, 1) by decide +kernel) (by decide +kernel) g1 h)
theorem bK263_161 {d0 : Option AV} {d1 : Option AV} {d2 : Option AV} {d3 : Option AV} {d4 : Option AV} {d5 : Option AV} {d6 : Option AV} {d7 : Option AV} {d8 : Option AV} {w : WS} {r : Nat} {o : Ro} (h : K263_162 d0 d1 d2 d3 d4 d5 d6 d7 d8 0 w r o) : K263_161 d0 d1 d2 d3 d4 d5 d6 d7 d8 w r o := by
  show Lg 263 161 [d0, d1, d2, d3, d4, d5, d6, d7, d8] [] w r o
  refine zq_iconst 162 (show zop 263 161 = some (.iconst 0, 1) by decide +kernel) rfl rfl ?_
  exact h
theorem bK263_226 {d0 : Option AV} {d1 : Option AV} {d2 : Option AV} {d3 : Option AV} {d4 : Option AV} {d5 : Option AV} {d6 : Option AV} {d7 : Option AV} {d8 : Option AV} {w : WS} {r : Nat} {o : Ro} (h : K263_227 d0 d1 d2 d3 d4 d5 d6 d7 d8 0 w r o) : K263_226 d0 d1 d2 d3 d4 d5 d6 d7 d8 w r o := by
  show Lg 263 226 [d0, d1, d2, d3, d4, d5, d6, d7, d8] [] w r o
  refine zq_iconst 227 (show zop 263 226 = some (.iconst 0, 1) by decide +kernel) rfl rfl ?_
  exact h
theorem bK263_227 {d0 : Option AV} {d1 : Option AV} {d2 : Option AV} {d3 : Option AV} {d4 : Option AV} {d5 : Option AV} {d6 : Option AV} {d7 : Option AV} {d8 : Option AV} {y0 : Int} {w : WS} {r : Nat} {o : Ro} (h : (y0 = 0 ∨ y0 = 1) ∧ o = (.inl (some (.inl y0)), w)) : K263_227 d0 d1 d2 d3 d4 d5 d6 d7 d8 y0 w r o := by
  show Lg 263 227 [d0, d1, d2, d3, d4, d5, d6, d7, d8] [(.inl y0)] w r o
  obtain ⟨g1, h⟩ := h
  exact (zq_zret (show zop 263 227 = some (.ireturn, 1) by decide +kernel) (by decide +kernel) g1 h)
theorem bK263_258 {d0 : Option AV} {d1 : Option AV} {d2 : Option AV} {d3 : Option AV} {d4 : Option AV} {d5 : Option AV} {d6 : Option AV} {d7 : Option AV} {d8 : Option AV} {y0 : Int} {w : WS} {r : Nat} {o : Ro} (h : (y0 = 0 ∨ y0 = 1) ∧ o = (.inl (some (.inl y0)), w)) : K263_258 d0 d1 d2 d3 d4 d5 d6 d7 d8 y0 w r o := by
  show Lg 263 258 [d0, d1, d2, d3, d4, d5, d6, d7, d8] [(.inl y0)] w r o
  obtain ⟨g1, h⟩ := h
  exact (zq_zret (show zop 263 258 = some (.ireturn, 1) by decide +kernel) (by decide +kernel) g1 h)
theorem bK263_341 {x2 : Int} {x3 : Int} {d4 : Option AV} {x5 : Int} {x6 : Int} {d7 : Option AV} {d8 : Option AV} {w : WS} {r : Nat} {o : Ro} (h : K263_342 x2 x3 d4 x5 x6 d7 d8 0 w r o) : K263_341 x2 x3 d4 x5 x6 d7 d8 w r o := by
  show Lg 263 341 [(some (.inr (.inr (some 0)))), (some (.inr (.inr (some 682)))), (some (.inl x2)), (some (.inl x3)), d4, (some (.inl x5)), (some (.inl x6)), d7, d8] [] w r o
  refine zq_iconst 342 (show zop 263 341 = some (.iconst 0, 1) by decide +kernel) rfl rfl ?_
  exact h
theorem bK263_342 {x2 : Int} {x3 : Int} {d4 : Option AV} {x5 : Int} {x6 : Int} {d7 : Option AV} {d8 : Option AV} {y0 : Int} {w : WS} {r : Nat} {o : Ro} (h : (if y0 = 0 then K263_416 x2 x3 d4 x5 x6 d7 (some (.inl y0)) w r o else (800 ≤ r) ∧ (∃ (v2 : Int) (w1 : WS), Lx 253 [(.inr (.inr (some 0))), (.inl x6)] w (.inl (some (.inl v2)), w1) ∧ (if v2 = 0 then K263_416 x2 x3 d4 x5 x6 d7 (some (.inl y0)) w1 (r - 800) o else (-2147483648 ≤ (x6 + 1) ∧ (x6 + 1) ≤ 2147483647) ∧ (800 ≤ (r - 800)) ∧ (∃ (v7 : Int) (w6 : WS), Lx 253 [(.inr (.inr (some 0))), (.inl (x6 + 1))] w1 (.inl (some (.inl v7)), w6) ∧ (if v7 = 0 then K263_416 x2 x3 d4 x5 x6 d7 (some (.inl y0)) w6 ((r - 800) - 800) o else (-2147483648 ≤ (x6 + 1) ∧ (x6 + 1) ≤ 2147483647) ∧ (3 ≤ ((r - 800) - 800)) ∧ (∃ (v12 : Int) (s11 : Sg), Dc 184 [(.inr (.inr (some 0))), (.inl x6), (.inl (x6 + 1))] w6.2.2 (.inl (some (.inl v12))) s11 ∧ (if v12 = 0 then (1 ≤ (((r - 800) - 800) - 3)) ∧ (∃ (v16 : Int) (s15 : Sg), Dc 190 [(.inr (.inr (some 0))), (.inl x6)] (wS w6 s11).2.2 (.inl (some (.inl v16))) s15 ∧ (1 ≤ ((((r - 800) - 800) - 3) - 1)) ∧ (∃ (v20 : Int) (s19 : Sg), Dc 190 [(.inr (.inr (some 0))), (.inl x3)] (wS (wS w6 s11) s15).2.2 (.inl (some (.inl v20))) s19 ∧ (if v16 = v20 then (-2147483648 ≤ (x6 + 1) ∧ (x6 + 1) ≤ 2147483647) ∧ (1 ≤ (((((r - 800) - 800) - 3) - 1) - 1)) ∧ (∃ (v25 : Int) (s24 : Sg), Dc 190 [(.inr (.inr (some 0))), (.inl (x6 + 1))] (wS (wS (wS w6 s11) s15) s19).2.2 (.inl (some (.inl v25))) s24 ∧ (1 ≤ ((((((r - 800) - 800) - 3) - 1) - 1) - 1)) ∧ (∃ (v29 : Int) (s28 : Sg), Dc 190 [(.inr (.inr (some 0))), (.inl x2)] (wS (wS (wS (wS w6 s11) s15) s19) s24).2.2 (.inl (some (.inl v29))) s28 ∧ (if v25 = v29 then K263_417 x2 x3 d4 x5 x6 d7 (some (.inl y0)) 1 (wS (wS (wS (wS (wS w6 s11) s15) s19) s24) s28) (((((((r - 800) - 800) - 3) - 1) - 1) - 1) - 1) o else K263_416 x2 x3 d4 x5 x6 d7 (some (.inl y0)) (wS (wS (wS (wS (wS w6 s11) s15) s19) s24) s28) (((((((r - 800) - 800) - 3) - 1) - 1) - 1) - 1) o))) else K263_416 x2 x3 d4 x5 x6 d7 (some (.inl y0)) (wS (wS (wS w6 s11) s15) s19) (((((r - 800) - 800) - 3) - 1) - 1) o))) else K263_416 x2 x3 d4 x5 x6 d7 (some (.inl y0)) (wS w6 s11) (((r - 800) - 800) - 3) o)))))))) : K263_342 x2 x3 d4 x5 x6 d7 d8 y0 w r o := by
  show Lg 263 342 [(some (.inr (.inr (some 0)))), (some (.inr (.inr (some 682)))), (some (.inl x2)), (some (.inl x3)), d4, (some (.inl x5)), (some (.inl x6)), d7, d8] [(.inl y0)] w r o
  refine zq_istore 344 [(some (.inr (.inr (some 0)))), (some (.inr (.inr (some 682)))), (some (.inl x2)), (some (.inl x3)), d4, (some (.inl x5)), (some (.inl x6)), d7, (some (.inl y0))] (show zop 263 342 = some (.istore 8, 2) by decide +kernel) rfl rfl rfl ?_
  refine zq_iload 346 (show zop 263 344 = some (.iload 8, 2) by decide +kernel) rfl rfl ?_
  by_cases hc32 : y0 = 0
  · rw [if_pos hc32] at h
    refine zq_ifT 416 (show zop 263 346 = some (.ifCond .eq 70, 3) by decide +kernel) rfl (decide_eq_true hc32) ?_
    exact h
  · rw [if_neg hc32] at h
    refine zq_ifF 349 416 (show zop 263 346 = some (.ifCond .eq 70, 3) by decide +kernel) rfl rfl (decide_eq_false hc32) ?_
    refine zq_aload_n 350 (show zop 263 349 = some (.aload_n 0, 1) by decide +kernel) rfl rfl ?_
    refine zq_iload 352 (show zop 263 350 = some (.iload 6, 2) by decide +kernel) rfl rfl ?_
    obtain ⟨g4, h⟩ := h
    obtain ⟨v2, w1, hD3, h⟩ := h
    refine zq_lx (v := some (.inl v2)) (w' := w1) (nj := 2) (j := 253) (c := 800) (t := []) (as := [(.inr (.inr (some 0))), (.inl x6)]) 355 [(.inl v2)] (show zop 263 352 = some (.invokestatic 121, 3) by decide +kernel) (by decide +kernel) rfl (by decide +kernel) (by decide +kernel) rfl rfl rfl rfl rfl hD3 rfl g4 ?_
    by_cases hc33 : v2 = 0
    · rw [if_pos hc33] at h
      refine zq_ifT 416 (show zop 263 355 = some (.ifCond .eq 61, 3) by decide +kernel) rfl (decide_eq_true hc33) ?_
      exact h
    · rw [if_neg hc33] at h
      refine zq_ifF 358 416 (show zop 263 355 = some (.ifCond .eq 61, 3) by decide +kernel) rfl rfl (decide_eq_false hc33) ?_
      refine zq_aload_n 359 (show zop 263 358 = some (.aload_n 0, 1) by decide +kernel) rfl rfl ?_
      refine zq_iload 361 (show zop 263 359 = some (.iload 6, 2) by decide +kernel) rfl rfl ?_
      refine zq_iconst 362 (show zop 263 361 = some (.iconst 1, 1) by decide +kernel) rfl rfl ?_
      obtain ⟨g5, h⟩ := h
      refine zq_iadd 363 (show zop 263 362 = some (.iadd, 1) by decide +kernel) rfl g5 ?_
      obtain ⟨g9, h⟩ := h
      obtain ⟨v7, w6, hD8, h⟩ := h
      refine zq_lx (v := some (.inl v7)) (w' := w6) (nj := 2) (j := 253) (c := 800) (t := []) (as := [(.inr (.inr (some 0))), (.inl (x6 + 1))]) 366 [(.inl v7)] (show zop 263 363 = some (.invokestatic 121, 3) by decide +kernel) (by decide +kernel) rfl (by decide +kernel) (by decide +kernel) rfl rfl rfl rfl rfl hD8 rfl g9 ?_
      by_cases hc34 : v7 = 0
      · rw [if_pos hc34] at h
        refine zq_ifT 416 (show zop 263 366 = some (.ifCond .eq 50, 3) by decide +kernel) rfl (decide_eq_true hc34) ?_
        exact h
      · rw [if_neg hc34] at h
        refine zq_ifF 369 416 (show zop 263 366 = some (.ifCond .eq 50, 3) by decide +kernel) rfl rfl (decide_eq_false hc34) ?_
        refine zq_aload_n 370 (show zop 263 369 = some (.aload_n 0, 1) by decide +kernel) rfl rfl ?_
        refine zq_iload 372 (show zop 263 370 = some (.iload 6, 2) by decide +kernel) rfl rfl ?_
        refine zq_iload 374 (show zop 263 372 = some (.iload 6, 2) by decide +kernel) rfl rfl ?_
        refine zq_iconst 375 (show zop 263 374 = some (.iconst 1, 1) by decide +kernel) rfl rfl ?_
        obtain ⟨g10, h⟩ := h
        refine zq_iadd 376 (show zop 263 375 = some (.iadd, 1) by decide +kernel) rfl g10 ?_
        obtain ⟨g14, h⟩ := h
        obtain ⟨v12, s11, hD13, h⟩ := h
        refine zq_vi (v := some (.inl v12)) (σ' := s11) (nj := 3) (j := 184) (c := 3) (t := []) (as := [(.inr (.inr (some 0))), (.inl x6), (.inl (x6 + 1))]) 379 [(.inl v12)] (show zop 263 376 = some (.invokevirtual 184, 3) by decide +kernel) (by decide +kernel) rfl (by decide +kernel) rfl rfl rfl rfl rfl rfl (by decide +kernel) (by decide +kernel) (clS_0 rfl) hD13 rfl g14 ?_
        by_cases hc35 : v12 = 0
        · rw [if_pos hc35] at h
          refine zq_ifF 382 416 (show zop 263 379 = some (.ifCond .ne 37, 3) by decide +kernel) rfl rfl (decide_eq_false (fun h9 => h9 hc35)) ?_
          refine zq_aload_n 383 (show zop 263 382 = some (.aload_n 0, 1) by decide +kernel) rfl rfl ?_
          refine zq_iload 385 (show zop 263 383 = some (.iload 6, 2) by decide +kernel) rfl rfl ?_
          obtain ⟨g18, h⟩ := h
          obtain ⟨v16, s15, hD17, h⟩ := h
          refine zq_vi (v := some (.inl v16)) (σ' := s15) (nj := 2) (j := 190) (c := 1) (t := []) (as := [(.inr (.inr (some 0))), (.inl x6)]) 388 [(.inl v16)] (show zop 263 385 = some (.invokevirtual 95, 3) by decide +kernel) (by decide +kernel) rfl (by decide +kernel) rfl rfl rfl rfl rfl rfl (by decide +kernel) (by decide +kernel) (clS_0 rfl) hD17 rfl g18 ?_
          refine zq_aload_n 389 (show zop 263 388 = some (.aload_n 0, 1) by decide +kernel) rfl rfl ?_
          refine zq_iload_n 390 (show zop 263 389 = some (.iload_n 3, 1) by decide +kernel) rfl rfl ?_
          obtain ⟨g22, h⟩ := h
          obtain ⟨v20, s19, hD21, h⟩ := h
          refine zq_vi (v := some (.inl v20)) (σ' := s19) (nj := 2) (j := 190) (c := 1) (t := [(.inl v16)]) (as := [(.inr (.inr (some 0))), (.inl x3)]) 393 [(.inl v20), (.inl v16)] (show zop 263 390 = some (.invokevirtual 95, 3) by decide +kernel) (by decide +kernel) rfl (by decide +kernel) rfl rfl rfl rfl rfl rfl (by decide +kernel) (by decide +kernel) (clS_0 rfl) hD21 rfl g22 ?_
          by_cases hc36 : v16 = v20
          · rw [if_pos hc36] at h
            refine zq_icmpF 396 416 (show zop 263 393 = some (.if_icmp .ne 23, 3) by decide +kernel) rfl rfl (decide_eq_false (fun h9 => h9 hc36)) ?_
            refine zq_aload_n 397 (show zop 263 396 = some (.aload_n 0, 1) by decide +kernel) rfl rfl ?_
            refine zq_iload 399 (show zop 263 397 = some (.iload 6, 2) by decide +kernel) rfl rfl ?_
            refine zq_iconst 400 (show zop 263 399 = some (.iconst 1, 1) by decide +kernel) rfl rfl ?_
            obtain ⟨g23, h⟩ := h
            refine zq_iadd 401 (show zop 263 400 = some (.iadd, 1) by decide +kernel) rfl g23 ?_
            obtain ⟨g27, h⟩ := h
            obtain ⟨v25, s24, hD26, h⟩ := h
            refine zq_vi (v := some (.inl v25)) (σ' := s24) (nj := 2) (j := 190) (c := 1) (t := []) (as := [(.inr (.inr (some 0))), (.inl (x6 + 1))]) 404 [(.inl v25)] (show zop 263 401 = some (.invokevirtual 95, 3) by decide +kernel) (by decide +kernel) rfl (by decide +kernel) rfl rfl rfl rfl rfl rfl (by decide +kernel) (by decide +kernel) (clS_0 rfl) hD26 rfl g27 ?_
            refine zq_aload_n 405 (show zop 263 404 = some (.aload_n 0, 1) by decide +kernel) rfl rfl ?_
            refine zq_iload_n 406 (show zop 263 405 = some (.iload_n 2, 1) by decide +kernel) rfl rfl ?_
            obtain ⟨g31, h⟩ := h
            obtain ⟨v29, s28, hD30, h⟩ := h
            refine zq_vi (v := some (.inl v29)) (σ' := s28) (nj := 2) (j := 190) (c := 1) (t := [(.inl v25)]) (as := [(.inr (.inr (some 0))), (.inl x2)]) 409 [(.inl v29), (.inl v25)] (show zop 263 406 = some (.invokevirtual 95, 3) by decide +kernel) (by decide +kernel) rfl (by decide +kernel) rfl rfl rfl rfl rfl rfl (by decide +kernel) (by decide +kernel) (clS_0 rfl) hD30 rfl g31 ?_
            by_cases hc37 : v25 = v29
            · rw [if_pos hc37] at h
              refine zq_icmpF 412 416 (show zop 263 409 = some (.if_icmp .ne 7, 3) by decide +kernel) rfl rfl (decide_eq_false (fun h9 => h9 hc37)) ?_
              refine zq_iconst 413 (show zop 263 412 = some (.iconst 1, 1) by decide +kernel) rfl rfl ?_
              refine zq_goto 417 (show zop 263 413 = some (.goto 4, 3) by decide +kernel) rfl ?_
              exact h
            · rw [if_neg hc37] at h
              refine zq_icmpT 416 (show zop 263 409 = some (.if_icmp .ne 7, 3) by decide +kernel) rfl (decide_eq_true hc37) ?_
              exact h
          · rw [if_neg hc36] at h
            refine zq_icmpT 416 (show zop 263 393 = some (.if_icmp .ne 23, 3) by decide +kernel) rfl (decide_eq_true hc36) ?_
            exact h
        · rw [if_neg hc35] at h
          refine zq_ifT 416 (show zop 263 379 = some (.ifCond .ne 37, 3) by decide +kernel) rfl (decide_eq_true hc35) ?_
          exact h
theorem bK263_416 {x2 : Int} {x3 : Int} {d4 : Option AV} {x5 : Int} {x6 : Int} {d7 : Option AV} {d8 : Option AV} {w : WS} {r : Nat} {o : Ro} (h : K263_417 x2 x3 d4 x5 x6 d7 d8 0 w r o) : K263_416 x2 x3 d4 x5 x6 d7 d8 w r o := by
  show Lg 263 416 [(some (.inr (.inr (some 0)))), (some (.inr (.inr (some 682)))), (some (.inl x2)), (some (.inl x3)), d4, (some (.inl x5)), (some (.inl x6)), d7, d8] [] w r o
  refine zq_iconst 417 (show zop 263 416 = some (.iconst 0, 1) by decide +kernel) rfl rfl ?_
  exact h
theorem bK263_417 {x2 : Int} {x3 : Int} {d4 : Option AV} {x5 : Int} {x6 : Int} {d7 : Option AV} {d8 : Option AV} {y0 : Int} {w : WS} {r : Nat} {o : Ro} (h : (w.1[0]? = some (0, 12, [])) ∧ (0 ≤ (0 : Int) ∧ (0 : Int) < 12) ∧ (if (w.2.1 682 ((0 : Int)).toNat) ≤ 22 then (if y0 = 0 then K263_432 (some (.inr (.inr (some 0)))) (some (.inr (.inr (some 682)))) (some (.inl x2)) (some (.inl x3)) d4 (some (.inl x5)) (some (.inl x6)) d7 y0 w r o else (w.1[0]? = some (0, 12, [])) ∧ (0 ≤ (0 : Int) ∧ (0 : Int) < 12) ∧ (-2147483648 ≤ ((w.2.1 682 ((0 : Int)).toNat) + 1) ∧ ((w.2.1 682 ((0 : Int)).toNat) + 1) ≤ 2147483647) ∧ (w.1[0]? = some (0, 12, [])) ∧ (0 ≤ (0 : Int) ∧ (0 : Int) < 12) ∧ (-2147483648 ≤ (x6 + 1) ∧ (x6 + 1) ≤ 2147483647) ∧ K263_461 (some (.inr (.inr (some 682)))) x2 x3 d4 x5 x6 d7 (some (.inl y0)) x6 (x6 + 1) (if (Int.tmod x5 2) = 0 then 1 else 0) (wU w 682 ((0 : Int)).toNat ((w.2.1 682 ((0 : Int)).toNat) + 1)) r o) else K263_432 (some (.inr (.inr (some 0)))) (some (.inr (.inr (some 682)))) (some (.inl x2)) (some (.inl x3)) d4 (some (.inl x5)) (some (.inl x6)) d7 y0 w r o)) : K263_417 x2 x3 d4 x5 x6 d7 d8 y0 w r o := by
  show Lg 263 417 [(some (.inr (.inr (some 0)))), (some (.inr (.inr (some 682)))), (some (.inl x2)), (some (.inl x3)), d4, (some (.inl x5)), (some (.inl x6)), d7, d8] [(.inl y0)] w r o
  refine zq_istore 419 [(some (.inr (.inr (some 0)))), (some (.inr (.inr (some 682)))), (some (.inl x2)), (some (.inl x3)), d4, (some (.inl x5)), (some (.inl x6)), d7, (some (.inl y0))] (show zop 263 417 = some (.istore 8, 2) by decide +kernel) rfl rfl rfl ?_
  refine zq_aload_n 420 (show zop 263 419 = some (.aload_n 1, 1) by decide +kernel) rfl rfl ?_
  refine zq_iconst 421 (show zop 263 420 = some (.iconst 0, 1) by decide +kernel) rfl rfl ?_
  obtain ⟨g3, h⟩ := h
  obtain ⟨g1, h⟩ := h
  refine zq_iaload 422 12 (show zop 263 421 = some (.iaload, 1) by decide +kernel) rfl (by decide) g3 g1 ?_
  refine zq_bipush 424 (show zop 263 422 = some (.bipush 22, 2) by decide +kernel) rfl (by decide) ?_
  by_cases hc12 : (w.2.1 682 ((0 : Int)).toNat) ≤ 22
  · rw [if_pos hc12] at h
    refine zq_icmpF 427 432 (show zop 263 424 = some (.if_icmp .gt 8, 3) by decide +kernel) rfl rfl (decide_eq_false (Int.not_lt.mpr hc12)) ?_
    refine zq_iload 429 (show zop 263 427 = some (.iload 8, 2) by decide +kernel) rfl rfl ?_
    by_cases hc13 : y0 = 0
    · rw [if_pos hc13] at h
      refine zq_ifF 432 435 (show zop 263 429 = some (.ifCond .ne 6, 3) by decide +kernel) rfl rfl (decide_eq_false (fun h9 => h9 hc13)) ?_
      exact h
    · rw [if_neg hc13] at h
      refine zq_ifT 435 (show zop 263 429 = some (.ifCond .ne 6, 3) by decide +kernel) rfl (decide_eq_true hc13) ?_
      refine zq_aload_n 436 (show zop 263 435 = some (.aload_n 1, 1) by decide +kernel) rfl rfl ?_
      refine zq_iconst 437 (show zop 263 436 = some (.iconst 0, 1) by decide +kernel) rfl rfl ?_
      refine zq_dup2 438 (show zop 263 437 = some (.dup2, 1) by decide +kernel) rfl rfl rfl ?_
      obtain ⟨g6, h⟩ := h
      obtain ⟨g4, h⟩ := h
      refine zq_iaload 439 12 (show zop 263 438 = some (.iaload, 1) by decide +kernel) rfl (by decide) g6 g4 ?_
      refine zq_iconst 440 (show zop 263 439 = some (.iconst 1, 1) by decide +kernel) rfl rfl ?_
      obtain ⟨g7, h⟩ := h
      refine zq_iadd 441 (show zop 263 440 = some (.iadd, 1) by decide +kernel) rfl g7 ?_
      obtain ⟨g10, h⟩ := h
      obtain ⟨g8, h⟩ := h
      refine zq_iastore 442 12 (show zop 263 441 = some (.iastore, 1) by decide +kernel) rfl (by decide) g10 g8 ?_
      refine zq_aload_n 443 (show zop 263 442 = some (.aload_n 0, 1) by decide +kernel) rfl rfl ?_
      refine zq_iload 445 (show zop 263 443 = some (.iload 6, 2) by decide +kernel) rfl rfl ?_
      refine zq_iload 447 (show zop 263 445 = some (.iload 6, 2) by decide +kernel) rfl rfl ?_
      refine zq_iconst 448 (show zop 263 447 = some (.iconst 1, 1) by decide +kernel) rfl rfl ?_
      obtain ⟨g11, h⟩ := h
      refine zq_iadd 449 (show zop 263 448 = some (.iadd, 1) by decide +kernel) rfl g11 ?_
      refine zq_iload 451 (show zop 263 449 = some (.iload 5, 2) by decide +kernel) rfl rfl ?_
      refine zq_iconst 452 (show zop 263 451 = some (.iconst 2, 1) by decide +kernel) rfl rfl ?_
      refine zq_irem 453 (show zop 263 452 = some (.irem, 1) by decide +kernel) rfl (by decide) ?_
      by_cases hc14 : (Int.tmod x5 2) = 0
      · refine zq_ifF 456 460 (show zop 263 453 = some (.ifCond .ne 7, 3) by decide +kernel) rfl rfl (decide_eq_false (fun h9 => h9 hc14)) ?_
        refine zq_iconst 457 (show zop 263 456 = some (.iconst 1, 1) by decide +kernel) rfl rfl ?_
        refine zq_goto 461 (show zop 263 457 = some (.goto 4, 3) by decide +kernel) rfl ?_
        have h9 := h; simp only [if_pos hc14] at h9; exact h9
      · refine zq_ifT 460 (show zop 263 453 = some (.ifCond .ne 7, 3) by decide +kernel) rfl (decide_eq_true hc14) ?_
        refine zq_iconst 461 (show zop 263 460 = some (.iconst 0, 1) by decide +kernel) rfl rfl ?_
        have h9 := h; simp only [if_neg hc14] at h9; exact h9
  · rw [if_neg hc12] at h
    refine zq_icmpT 432 (show zop 263 424 = some (.if_icmp .gt 8, 3) by decide +kernel) rfl (decide_eq_true (Int.not_le.mp hc12)) ?_
    exact h
theorem bK263_432 {d0 : Option AV} {d1 : Option AV} {d2 : Option AV} {d3 : Option AV} {d4 : Option AV} {d5 : Option AV} {d6 : Option AV} {d7 : Option AV} {x8 : Int} {w : WS} {r : Nat} {o : Ro} (h : (x8 = 0 ∨ x8 = 1) ∧ o = (.inl (some (.inl x8)), w)) : K263_432 d0 d1 d2 d3 d4 d5 d6 d7 x8 w r o := by
  show Lg 263 432 [d0, d1, d2, d3, d4, d5, d6, d7, (some (.inl x8))] [] w r o
  refine zq_iload 434 (show zop 263 432 = some (.iload 8, 2) by decide +kernel) rfl rfl ?_
  obtain ⟨g1, h⟩ := h
  exact (zq_zret (show zop 263 434 = some (.ireturn, 1) by decide +kernel) (by decide +kernel) g1 h)
theorem bK263_461 {d1 : Option AV} {x2 : Int} {x3 : Int} {d4 : Option AV} {x5 : Int} {x6 : Int} {d7 : Option AV} {d8 : Option AV} {y1 : Int} {y2 : Int} {y3 : Int} {w : WS} {r : Nat} {o : Ro} (h : (5 ≤ r) ∧ (∃ (v2 : Int) (s1 : Sg), Dc 185 [(.inr (.inr (some 0))), (.inl y1), (.inl y2), (.inl y3)] w.2.2 (.inl (some (.inl v2))) s1 ∧ (-2147483648 ≤ (x6 + 2) ∧ (x6 + 2) ≤ 2147483647) ∧ (if v2 = (x6 + 2) then (-2147483648 ≤ (x6 + 2) ∧ (x6 + 2) ≤ 2147483647) ∧ K263_488 (some (.inr (.inr (some 0)))) d1 (some (.inl x2)) (some (.inl x3)) d4 (some (.inl x5)) (some (.inl x6)) d7 d8 (x6 + 2) (if (Int.tmod x5 2) = 0 then x2 else x3) (wS w s1) (r - 5) o else K263_498 (some (.inr (.inr (some 0)))) d1 (some (.inl x2)) (some (.inl x3)) d4 (some (.inl x5)) (some (.inl x6)) d7 d8 (wS w s1) (r - 5) o))) : K263_461 d1 x2 x3 d4 x5 x6 d7 d8 y1 y2 y3 w r o := by
  show Lg 263 461 [(some (.inr (.inr (some 0)))), d1, (some (.inl x2)), (some (.inl x3)), d4, (some (.inl x5)), (some (.inl x6)), d7, d8] [(.inl y3), (.inl y2), (.inl y1), (.inr (.inr (some 0)))] w r o
  obtain ⟨g4, h⟩ := h
  obtain ⟨v2, s1, hD3, h⟩ := h
  refine zq_vi (v := some (.inl v2)) (σ' := s1) (nj := 4) (j := 185) (c := 5) (t := []) (as := [(.inr (.inr (some 0))), (.inl y1), (.inl y2), (.inl y3)]) 464 [(.inl v2)] (show zop 263 461 = some (.invokevirtual 145, 3) by decide +kernel) (by decide +kernel) rfl (by decide +kernel) rfl rfl rfl rfl rfl rfl (by decide +kernel) (by decide +kernel) (clS_0 rfl) hD3 rfl g4 ?_
  refine zq_iload 466 (show zop 263 464 = some (.iload 6, 2) by decide +kernel) rfl rfl ?_
  refine zq_iconst 467 (show zop 263 466 = some (.iconst 2, 1) by decide +kernel) rfl rfl ?_
  obtain ⟨g5, h⟩ := h
  refine zq_iadd 468 (show zop 263 467 = some (.iadd, 1) by decide +kernel) rfl g5 ?_
  by_cases hc7 : v2 = (x6 + 2)
  · rw [if_pos hc7] at h
    refine zq_icmpF 471 498 (show zop 263 468 = some (.if_icmp .ne 30, 3) by decide +kernel) rfl rfl (decide_eq_false (fun h9 => h9 hc7)) ?_
    refine zq_aload_n 472 (show zop 263 471 = some (.aload_n 0, 1) by decide +kernel) rfl rfl ?_
    refine zq_iload 474 (show zop 263 472 = some (.iload 6, 2) by decide +kernel) rfl rfl ?_
    refine zq_iconst 475 (show zop 263 474 = some (.iconst 2, 1) by decide +kernel) rfl rfl ?_
    obtain ⟨g6, h⟩ := h
    refine zq_iadd 476 (show zop 263 475 = some (.iadd, 1) by decide +kernel) rfl g6 ?_
    refine zq_iload 478 (show zop 263 476 = some (.iload 5, 2) by decide +kernel) rfl rfl ?_
    refine zq_iconst 479 (show zop 263 478 = some (.iconst 2, 1) by decide +kernel) rfl rfl ?_
    refine zq_irem 480 (show zop 263 479 = some (.irem, 1) by decide +kernel) rfl (by decide) ?_
    by_cases hc8 : (Int.tmod x5 2) = 0
    · refine zq_ifF 483 487 (show zop 263 480 = some (.ifCond .ne 7, 3) by decide +kernel) rfl rfl (decide_eq_false (fun h9 => h9 hc8)) ?_
      refine zq_iload_n 484 (show zop 263 483 = some (.iload_n 2, 1) by decide +kernel) rfl rfl ?_
      refine zq_goto 488 (show zop 263 484 = some (.goto 4, 3) by decide +kernel) rfl ?_
      have h9 := h; simp only [if_pos hc8] at h9; exact h9
    · refine zq_ifT 487 (show zop 263 480 = some (.ifCond .ne 7, 3) by decide +kernel) rfl (decide_eq_true hc8) ?_
      refine zq_iload_n 488 (show zop 263 487 = some (.iload_n 3, 1) by decide +kernel) rfl rfl ?_
      have h9 := h; simp only [if_neg hc8] at h9; exact h9
  · rw [if_neg hc7] at h
    refine zq_icmpT 498 (show zop 263 468 = some (.if_icmp .ne 30, 3) by decide +kernel) rfl (decide_eq_true hc7) ?_
    exact h
theorem bK263_488 {d0 : Option AV} {d1 : Option AV} {d2 : Option AV} {d3 : Option AV} {d4 : Option AV} {d5 : Option AV} {d6 : Option AV} {d7 : Option AV} {d8 : Option AV} {y1 : Int} {y2 : Int} {w : WS} {r : Nat} {o : Ro} (h : (2 ≤ r) ∧ (∃ (v2 : Int) (s1 : Sg), Dc 193 [(.inr (.inr (some 0))), (.inl y1), (.inl y2)] w.2.2 (.inl (some (.inl v2))) s1 ∧ (if v2 = 0 then K263_498 d0 d1 d2 d3 d4 d5 d6 d7 d8 (wS w s1) (r - 2) o else K263_499 d0 d1 d2 d3 d4 d5 d6 d7 d8 1 (wS w s1) (r - 2) o))) : K263_488 d0 d1 d2 d3 d4 d5 d6 d7 d8 y1 y2 w r o := by
  show Lg 263 488 [d0, d1, d2, d3, d4, d5, d6, d7, d8] [(.inl y2), (.inl y1), (.inr (.inr (some 0)))] w r o
  obtain ⟨g4, h⟩ := h
  obtain ⟨v2, s1, hD3, h⟩ := h
  refine zq_vi (v := some (.inl v2)) (σ' := s1) (nj := 3) (j := 193) (c := 2) (t := []) (as := [(.inr (.inr (some 0))), (.inl y1), (.inl y2)]) 491 [(.inl v2)] (show zop 263 488 = some (.invokevirtual 138, 3) by decide +kernel) (by decide +kernel) rfl (by decide +kernel) rfl rfl rfl rfl rfl rfl (by decide +kernel) (by decide +kernel) (clS_0 rfl) hD3 rfl g4 ?_
  by_cases hc5 : v2 = 0
  · rw [if_pos hc5] at h
    refine zq_ifT 498 (show zop 263 491 = some (.ifCond .eq 7, 3) by decide +kernel) rfl (decide_eq_true hc5) ?_
    exact h
  · rw [if_neg hc5] at h
    refine zq_ifF 494 498 (show zop 263 491 = some (.ifCond .eq 7, 3) by decide +kernel) rfl rfl (decide_eq_false hc5) ?_
    refine zq_iconst 495 (show zop 263 494 = some (.iconst 1, 1) by decide +kernel) rfl rfl ?_
    refine zq_goto 499 (show zop 263 495 = some (.goto 4, 3) by decide +kernel) rfl ?_
    exact h
theorem bK263_498 {d0 : Option AV} {d1 : Option AV} {d2 : Option AV} {d3 : Option AV} {d4 : Option AV} {d5 : Option AV} {d6 : Option AV} {d7 : Option AV} {d8 : Option AV} {w : WS} {r : Nat} {o : Ro} (h : K263_499 d0 d1 d2 d3 d4 d5 d6 d7 d8 0 w r o) : K263_498 d0 d1 d2 d3 d4 d5 d6 d7 d8 w r o := by
  show Lg 263 498 [d0, d1, d2, d3, d4, d5, d6, d7, d8] [] w r o
  refine zq_iconst 499 (show zop 263 498 = some (.iconst 0, 1) by decide +kernel) rfl rfl ?_
  exact h
theorem bK263_499 {d0 : Option AV} {d1 : Option AV} {d2 : Option AV} {d3 : Option AV} {d4 : Option AV} {d5 : Option AV} {d6 : Option AV} {d7 : Option AV} {d8 : Option AV} {y0 : Int} {w : WS} {r : Nat} {o : Ro} (h : (y0 = 0 ∨ y0 = 1) ∧ o = (.inl (some (.inl y0)), w)) : K263_499 d0 d1 d2 d3 d4 d5 d6 d7 d8 y0 w r o := by
  show Lg 263 499 [d0, d1, d2, d3, d4, d5, d6, d7, d8] [(.inl y0)] w r o
  obtain ⟨g1, h⟩ := h
  exact (zq_zret (show zop 263 499 = some (.ireturn, 1) by decide +kernel) (by decide +kernel) g1 h)
/-- PatchBenchLaw.twoOf (LPatchBench;[IIIII)Z -/
theorem lb263 {x2 : Int} {x3 : Int} {x4 : Int} {x5 : Int} {w : WS} {o : Ro} (h : (w.1[0]? = some (0, 12, [])) ∧ (0 ≤ (0 : Int) ∧ (0 : Int) < 12) ∧ (if (Int.tmod x4 4) = 0 then (w.1[0]? = some (0, 12, [])) ∧ (0 ≤ (0 : Int) ∧ (0 : Int) < 12) ∧ (-2147483648 ≤ ((w.2.1 682 ((0 : Int)).toNat) + 1) ∧ ((w.2.1 682 ((0 : Int)).toNat) + 1) ≤ 2147483647) ∧ (w.1[0]? = some (0, 12, [])) ∧ (0 ≤ (0 : Int) ∧ (0 : Int) < 12) ∧ (2 ≤ 3000) ∧ (∃ (v12 : Int) (s11 : Sg), Dc 182 [(.inr (.inr (some 0))), (.inl x2)] (wU w 682 ((0 : Int)).toNat ((w.2.1 682 ((0 : Int)).toNat) + 1)).2.2 (.inl (some (.inl v12))) s11 ∧ (if v12 = (w.2.1 682 ((0 : Int)).toNat) then (200 ≤ (3000 - 2)) ∧ (∃ (v16 : Int) (w15 : WS), Lx 252 [(.inr (.inr (some 0))), (.inl (w.2.1 682 ((0 : Int)).toNat)), (.inl 0), (.inl x2), (.inl 1)] (wS (wU w 682 ((0 : Int)).toNat ((w.2.1 682 ((0 : Int)).toNat) + 1)) s11) (.inl (some (.inl v16)), w15) ∧ (if v16 = 0 then K263_80 (some (.inr (.inr (some 0)))) (some (.inr (.inr (some 682)))) (some (.inl x2)) (some (.inl x3)) (some (.inl x4)) (some (.inl x5)) (some (.inl (w.2.1 682 ((0 : Int)).toNat))) none none w15 ((3000 - 2) - 200) o else (200 ≤ ((3000 - 2) - 200)) ∧ (∃ (v20 : Int) (w19 : WS), Lx 252 [(.inr (.inr (some 0))), (.inl (w.2.1 682 ((0 : Int)).toNat)), (.inl 1), (.inl x2), (.inl 0)] w15 (.inl (some (.inl v20)), w19) ∧ (if v20 = 0 then K263_80 (some (.inr (.inr (some 0)))) (some (.inr (.inr (some 682)))) (some (.inl x2)) (some (.inl x3)) (some (.inl x4)) (some (.inl x5)) (some (.inl (w.2.1 682 ((0 : Int)).toNat))) none none w19 (((3000 - 2) - 200) - 200) o else (1 ≤ (((3000 - 2) - 200) - 200)) ∧ (∃ (v24 : Int) (s23 : Sg), Dc 190 [(.inr (.inr (some 0))), (.inl (w.2.1 682 ((0 : Int)).toNat))] w19.2.2 (.inl (some (.inl v24))) s23 ∧ (1 ≤ ((((3000 - 2) - 200) - 200) - 1)) ∧ (∃ (v28 : Int) (s27 : Sg), Dc 190 [(.inr (.inr (some 0))), (.inl x2)] (wS w19 s23).2.2 (.inl (some (.inl v28))) s27 ∧ (if v24 = v28 then (800 ≤ (((((3000 - 2) - 200) - 200) - 1) - 1)) ∧ (∃ (v32 : Int) (w31 : WS), Lx 253 [(.inr (.inr (some 0))), (.inl (w.2.1 682 ((0 : Int)).toNat))] (wS (wS w19 s23) s27) (.inl (some (.inl v32)), w31) ∧ (if v32 = 0 then K263_80 (some (.inr (.inr (some 0)))) (some (.inr (.inr (some 682)))) (some (.inl x2)) (some (.inl x3)) (some (.inl x4)) (some (.inl x5)) (some (.inl (w.2.1 682 ((0 : Int)).toNat))) none none w31 ((((((3000 - 2) - 200) - 200) - 1) - 1) - 800) o else K263_81 (some (.inr (.inr (some 0)))) (some (.inr (.inr (some 682)))) (some (.inl x2)) (some (.inl x3)) (some (.inl x4)) (some (.inl x5)) (some (.inl (w.2.1 682 ((0 : Int)).toNat))) none none 1 w31 ((((((3000 - 2) - 200) - 200) - 1) - 1) - 800) o)) else K263_80 (some (.inr (.inr (some 0)))) (some (.inr (.inr (some 682)))) (some (.inl x2)) (some (.inl x3)) (some (.inl x4)) (some (.inl x5)) (some (.inl (w.2.1 682 ((0 : Int)).toNat))) none none (wS (wS w19 s23) s27) (((((3000 - 2) - 200) - 200) - 1) - 1) o))))))) else K263_80 (some (.inr (.inr (some 0)))) (some (.inr (.inr (some 682)))) (some (.inl x2)) (some (.inl x3)) (some (.inl x4)) (some (.inl x5)) (some (.inl (w.2.1 682 ((0 : Int)).toNat))) none none (wS (wU w 682 ((0 : Int)).toNat ((w.2.1 682 ((0 : Int)).toNat) + 1)) s11) (3000 - 2) o)) else (if (Int.tmod x4 4) = 1 then (1 ≤ 3000) ∧ (∃ (v36 : Int) (s35 : Sg), Dc 190 [(.inr (.inr (some 0))), (.inl x2)] w.2.2 (.inl (some (.inl v36))) s35 ∧ (if v36 = 0 then K263_119 (some (.inr (.inr (some 0)))) (some (.inr (.inr (some 682)))) (some (.inl x2)) (some (.inl x3)) (some (.inl x4)) (some (.inl x5)) (some (.inl (w.2.1 682 ((0 : Int)).toNat))) none none (wS w s35) (3000 - 1) o else (1 ≤ (3000 - 1)) ∧ (∃ (v40 : Int) (s39 : Sg), Dc 190 [(.inr (.inr (some 0))), (.inl x2)] (wS w s35).2.2 (.inl (some (.inl v40))) s39 ∧ (0 < v40) ∧ (2400 ≤ ((3000 - 1) - 1)) ∧ (∃ (v45 : Int) (w44 : WS), Lx 264 [(.inr (.inr (some 0))), (.inr (.inr (some 682))), (.inl x2), (.inl (Int.tmod (Int.tdiv x4 4) v40)), (.inl x5)] (wS (wS w s35) s39) (.inl (some (.inl v45)), w44) ∧ (if v45 = 0 then K263_124 (some (.inr (.inr (some 0)))) (some (.inr (.inr (some 682)))) (some (.inl x2)) (some (.inl x3)) (some (.inl x4)) (some (.inl x5)) (some (.inl (w.2.1 682 ((0 : Int)).toNat))) none none 0 w44 (((3000 - 1) - 1) - 2400) o else K263_119 (some (.inr (.inr (some 0)))) (some (.inr (.inr (some 682)))) (some (.inl x2)) (some (.inl x3)) (some (.inl x4)) (some (.inl x5)) (some (.inl (w.2.1 682 ((0 : Int)).toNat))) none none w44 (((3000 - 1) - 1) - 2400) o))))) else (200 ≤ 3000) ∧ (∃ (v49 : Int) (w48 : WS), Lx 252 [(.inr (.inr (some 0))), (.inl x2), (.inl 1), (.inl x3), (.inl 0)] w (.inl (some (.inl v49)), w48) ∧ (if v49 = 0 then (5 ≤ (3000 - 200)) ∧ (∃ (v53 : Int) (w52 : WS), Lx 257 [(.inr (.inr (some 0))), (.inl x2), (.inl x3), (.inl 1)] w48 (.inl (some (.inl v53)), w52) ∧ (if v53 = (-2) then (0 ≤ ((3000 - 200) - 5)) ∧ (∃ (v57 : Int) (s56 : Sg), Dc 187 [(.inr (.inr (some 0)))] w52.2.2 (.inl (some (.inl v57))) s56 ∧ (if v57 = (w.2.1 682 ((0 : Int)).toNat) then K263_162 (some (.inr (.inr (some 0)))) (some (.inr (.inr (some 682)))) (some (.inl x2)) (some (.inl x3)) (some (.inl x4)) (some (.inl x5)) (some (.inl (w.2.1 682 ((0 : Int)).toNat))) none none 1 (wS w52 s56) ((3000 - 200) - 5) o else K263_161 (some (.inr (.inr (some 0)))) (some (.inr (.inr (some 682)))) (some (.inl x2)) (some (.inl x3)) (some (.inl x4)) (some (.inl x5)) (some (.inl (w.2.1 682 ((0 : Int)).toNat))) none none (wS w52 s56) ((3000 - 200) - 5) o)) else K263_161 (some (.inr (.inr (some 0)))) (some (.inr (.inr (some 682)))) (some (.inl x2)) (some (.inl x3)) (some (.inl x4)) (some (.inl x5)) (some (.inl (w.2.1 682 ((0 : Int)).toNat))) none none w52 ((3000 - 200) - 5) o)) else (if (Int.tmod x4 4) = 2 then (w48.1[0]? = some (0, 12, [])) ∧ (0 ≤ (0 : Int) ∧ (0 : Int) < 12) ∧ (-2147483648 ≤ ((w48.2.1 682 ((0 : Int)).toNat) + 1) ∧ ((w48.2.1 682 ((0 : Int)).toNat) + 1) ≤ 2147483647) ∧ (w48.1[0]? = some (0, 12, [])) ∧ (0 ≤ (0 : Int) ∧ (0 : Int) < 12) ∧ (4 ≤ (3000 - 200)) ∧ (∃ (v68 : Int) (s67 : Sg), Dc 183 [(.inr (.inr (some 0))), (.inl x2), (.inl x3)] (wU w48 682 ((0 : Int)).toNat ((w48.2.1 682 ((0 : Int)).toNat) + 1)).2.2 (.inl (some (.inl v68))) s67 ∧ (if v68 = (w.2.1 682 ((0 : Int)).toNat) then (200 ≤ ((3000 - 200) - 4)) ∧ (∃ (v72 : Int) (w71 : WS), Lx 252 [(.inr (.inr (some 0))), (.inl (w.2.1 682 ((0 : Int)).toNat)), (.inl 0), (.inl x2), (.inl 0)] (wS (wU w48 682 ((0 : Int)).toNat ((w48.2.1 682 ((0 : Int)).toNat) + 1)) s67) (.inl (some (.inl v72)), w71) ∧ (if v72 = 0 then K263_226 (some (.inr (.inr (some 0)))) (some (.inr (.inr (some 682)))) (some (.inl x2)) (some (.inl x3)) (some (.inl x4)) (some (.inl x5)) (some (.inl (w.2.1 682 ((0 : Int)).toNat))) none none w71 (((3000 - 200) - 4) - 200) o else (200 ≤ (((3000 - 200) - 4) - 200)) ∧ (∃ (v76 : Int) (w75 : WS), Lx 252 [(.inr (.inr (some 0))), (.inl (w.2.1 682 ((0 : Int)).toNat)), (.inl 1), (.inl x3), (.inl 1)] w71 (.inl (some (.inl v76)), w75) ∧ (if v76 = 0 then K263_226 (some (.inr (.inr (some 0)))) (some (.inr (.inr (some 682)))) (some (.inl x2)) (some (.inl x3)) (some (.inl x4)) (some (.inl x5)) (some (.inl (w.2.1 682 ((0 : Int)).toNat))) none none w75 ((((3000 - 200) - 4) - 200) - 200) o else (800 ≤ ((((3000 - 200) - 4) - 200) - 200)) ∧ (∃ (v80 : Int) (w79 : WS), Lx 253 [(.inr (.inr (some 0))), (.inl (w.2.1 682 ((0 : Int)).toNat))] w75 (.inl (some (.inl v80)), w79) ∧ (if v80 = 0 then K263_226 (some (.inr (.inr (some 0)))) (some (.inr (.inr (some 682)))) (some (.inl x2)) (some (.inl x3)) (some (.inl x4)) (some (.inl x5)) (some (.inl (w.2.1 682 ((0 : Int)).toNat))) none none w79 (((((3000 - 200) - 4) - 200) - 200) - 800) o else K263_227 (some (.inr (.inr (some 0)))) (some (.inr (.inr (some 682)))) (some (.inl x2)) (some (.inl x3)) (some (.inl x4)) (some (.inl x5)) (some (.inl (w.2.1 682 ((0 : Int)).toNat))) none none 1 w79 (((((3000 - 200) - 4) - 200) - 200) - 800) o)))))) else K263_226 (some (.inr (.inr (some 0)))) (some (.inr (.inr (some 682)))) (some (.inl x2)) (some (.inl x3)) (some (.inl x4)) (some (.inl x5)) (some (.inl (w.2.1 682 ((0 : Int)).toNat))) none none (wS (wU w48 682 ((0 : Int)).toNat ((w48.2.1 682 ((0 : Int)).toNat) + 1)) s67) ((3000 - 200) - 4) o)) else (5 ≤ (3000 - 200)) ∧ (∃ (v84 : Int) (w83 : WS), Lx 257 [(.inr (.inr (some 0))), (.inl x2), (.inl x3), (.inl 1)] w48 (.inl (some (.inl v84)), w83) ∧ (if v84 = (-2) then (0 ≤ ((3000 - 200) - 5)) ∧ (∃ (v88 : Int) (s87 : Sg), Dc 187 [(.inr (.inr (some 0)))] w83.2.2 (.inl (some (.inl v88))) s87 ∧ K263_258 (some (.inr (.inr (some 0)))) (some (.inr (.inr (some 682)))) (some (.inl x2)) (some (.inl x3)) (some (.inl x4)) (some (.inl x5)) (some (.inl (w.2.1 682 ((0 : Int)).toNat))) (some (.inl v84)) none (if v88 = (w.2.1 682 ((0 : Int)).toNat) then 1 else 0) (wS w83 s87) ((3000 - 200) - 5) o) else (w83.1[0]? = some (0, 12, [])) ∧ (0 ≤ (0 : Int) ∧ (0 : Int) < 12) ∧ (-2147483648 ≤ ((w83.2.1 682 ((0 : Int)).toNat) + 2) ∧ ((w83.2.1 682 ((0 : Int)).toNat) + 2) ≤ 2147483647) ∧ (w83.1[0]? = some (0, 12, [])) ∧ (0 ≤ (0 : Int) ∧ (0 : Int) < 12) ∧ (3 ≤ ((3000 - 200) - 5)) ∧ (∃ (v99 : Int) (s98 : Sg), Dc 184 [(.inr (.inr (some 0))), (.inl x2), (.inl x3)] (wU w83 682 ((0 : Int)).toNat ((w83.2.1 682 ((0 : Int)).toNat) + 2)).2.2 (.inl (some (.inl v99))) s98 ∧ (if v99 = 0 then (if v84 = (w.2.1 682 ((0 : Int)).toNat) then (5 ≤ (((3000 - 200) - 5) - 3)) ∧ (∃ (v103 : Int) (s102 : Sg), Dc 185 [(.inr (.inr (some 0))), (.inl x2), (.inl x3), (.inl 0)] (wS (wU w83 682 ((0 : Int)).toNat ((w83.2.1 682 ((0 : Int)).toNat) + 2)) s98).2.2 (.inl (some (.inl v103))) s102 ∧ (-2147483648 ≤ ((w.2.1 682 ((0 : Int)).toNat) + 1) ∧ ((w.2.1 682 ((0 : Int)).toNat) + 1) ≤ 2147483647) ∧ (if v103 = ((w.2.1 682 ((0 : Int)).toNat) + 1) then (200 ≤ ((((3000 - 200) - 5) - 3) - 5)) ∧ (∃ (v108 : Int) (w107 : WS), Lx 252 [(.inr (.inr (some 0))), (.inl (w.2.1 682 ((0 : Int)).toNat)), (.inl 0), (.inl x2), (.inl 0)] (wS (wS (wU w83 682 ((0 : Int)).toNat ((w83.2.1 682 ((0 : Int)).toNat) + 2)) s98) s102) (.inl (some (.inl v108)), w107) ∧ (if v108 = 0 then K263_341 x2 x3 (some (.inl x4)) x5 (w.2.1 682 ((0 : Int)).toNat) (some (.inl v84)) none w107 (((((3000 - 200) - 5) - 3) - 5) - 200) o else (-2147483648 ≤ ((w.2.1 682 ((0 : Int)).toNat) + 1) ∧ ((w.2.1 682 ((0 : Int)).toNat) + 1) ≤ 2147483647) ∧ (200 ≤ (((((3000 - 200) - 5) - 3) - 5) - 200)) ∧ (∃ (v113 : Int) (w112 : WS), Lx 252 [(.inr (.inr (some 0))), (.inl (w.2.1 682 ((0 : Int)).toNat)), (.inl 1), (.inl ((w.2.1 682 ((0 : Int)).toNat) + 1)), (.inl 0)] w107 (.inl (some (.inl v113)), w112) ∧ (if v113 = 0 then K263_341 x2 x3 (some (.inl x4)) x5 (w.2.1 682 ((0 : Int)).toNat) (some (.inl v84)) none w112 ((((((3000 - 200) - 5) - 3) - 5) - 200) - 200) o else (-2147483648 ≤ ((w.2.1 682 ((0 : Int)).toNat) + 1) ∧ ((w.2.1 682 ((0 : Int)).toNat) + 1) ≤ 2147483647) ∧ (200 ≤ ((((((3000 - 200) - 5) - 3) - 5) - 200) - 200)) ∧ (∃ (v118 : Int) (w117 : WS), Lx 252 [(.inr (.inr (some 0))), (.inl ((w.2.1 682 ((0 : Int)).toNat) + 1)), (.inl 1), (.inl x3), (.inl 1)] w112 (.inl (some (.inl v118)), w117) ∧ (if v118 = 0 then K263_341 x2 x3 (some (.inl x4)) x5 (w.2.1 682 ((0 : Int)).toNat) (some (.inl v84)) none w117 (((((((3000 - 200) - 5) - 3) - 5) - 200) - 200) - 200) o else K263_342 x2 x3 (some (.inl x4)) x5 (w.2.1 682 ((0 : Int)).toNat) (some (.inl v84)) none 1 w117 (((((((3000 - 200) - 5) - 3) - 5) - 200) - 200) - 200) o)))))) else K263_341 x2 x3 (some (.inl x4)) x5 (w.2.1 682 ((0 : Int)).toNat) (some (.inl v84)) none (wS (wS (wU w83 682 ((0 : Int)).toNat ((w83.2.1 682 ((0 : Int)).toNat) + 2)) s98) s102) ((((3000 - 200) - 5) - 3) - 5) o)) else K263_341 x2 x3 (some (.inl x4)) x5 (w.2.1 682 ((0 : Int)).toNat) (some (.inl v84)) none (wS (wU w83 682 ((0 : Int)).toNat ((w83.2.1 682 ((0 : Int)).toNat) + 2)) s98) (((3000 - 200) - 5) - 3) o) else K263_341 x2 x3 (some (.inl x4)) x5 (w.2.1 682 ((0 : Int)).toNat) (some (.inl v84)) none (wS (wU w83 682 ((0 : Int)).toNat ((w83.2.1 682 ((0 : Int)).toNat) + 2)) s98) (((3000 - 200) - 5) - 3) o)))))))))) : Lx 263 [(.inr (.inr (some 0))), (.inr (.inr (some 682))), (.inl x2), (.inl x3), (.inl x4), (.inl x5)] w o := by
  refine Lx_of (l := 9) (r := 3000) (by decide +kernel) (by decide +kernel) ?_
  show Lg 263 0 [(some (.inr (.inr (some 0)))), (some (.inr (.inr (some 682)))), (some (.inl x2)), (some (.inl x3)), (some (.inl x4)), (some (.inl x5)), none, none, none] [] w 3000 o
  refine zq_aload_n 1 (show zop 263 0 = some (.aload_n 1, 1) by decide +kernel) rfl rfl ?_
  refine zq_iconst 2 (show zop 263 1 = some (.iconst 0, 1) by decide +kernel) rfl rfl ?_
  obtain ⟨g3, h⟩ := h
  obtain ⟨g1, h⟩ := h
  refine zq_iaload 3 12 (show zop 263 2 = some (.iaload, 1) by decide +kernel) rfl (by decide) g3 g1 ?_
  refine zq_istore 5 [(some (.inr (.inr (some 0)))), (some (.inr (.inr (some 682)))), (some (.inl x2)), (some (.inl x3)), (some (.inl x4)), (some (.inl x5)), (some (.inl (w.2.1 682 ((0 : Int)).toNat))), none, none] (show zop 263 3 = some (.istore 6, 2) by decide +kernel) rfl rfl rfl ?_
  refine zq_iload 7 (show zop 263 5 = some (.iload 4, 2) by decide +kernel) rfl rfl ?_
  refine zq_iconst 8 (show zop 263 7 = some (.iconst 4, 1) by decide +kernel) rfl rfl ?_
  refine zq_irem 9 (show zop 263 8 = some (.irem, 1) by decide +kernel) rfl (by decide) ?_
  by_cases hc121 : (Int.tmod x4 4) = 0
  · rw [if_pos hc121] at h
    refine zq_ifF 12 82 (show zop 263 9 = some (.ifCond .ne 73, 3) by decide +kernel) rfl rfl (decide_eq_false (fun h9 => h9 hc121)) ?_
    refine zq_aload_n 13 (show zop 263 12 = some (.aload_n 1, 1) by decide +kernel) rfl rfl ?_
    refine zq_iconst 14 (show zop 263 13 = some (.iconst 0, 1) by decide +kernel) rfl rfl ?_
    refine zq_dup2 15 (show zop 263 14 = some (.dup2, 1) by decide +kernel) rfl rfl rfl ?_
    obtain ⟨g6, h⟩ := h
    obtain ⟨g4, h⟩ := h
    refine zq_iaload 16 12 (show zop 263 15 = some (.iaload, 1) by decide +kernel) rfl (by decide) g6 g4 ?_
    refine zq_iconst 17 (show zop 263 16 = some (.iconst 1, 1) by decide +kernel) rfl rfl ?_
    obtain ⟨g7, h⟩ := h
    refine zq_iadd 18 (show zop 263 17 = some (.iadd, 1) by decide +kernel) rfl g7 ?_
    obtain ⟨g10, h⟩ := h
    obtain ⟨g8, h⟩ := h
    refine zq_iastore 19 12 (show zop 263 18 = some (.iastore, 1) by decide +kernel) rfl (by decide) g10 g8 ?_
    refine zq_aload_n 20 (show zop 263 19 = some (.aload_n 0, 1) by decide +kernel) rfl rfl ?_
    refine zq_iload_n 21 (show zop 263 20 = some (.iload_n 2, 1) by decide +kernel) rfl rfl ?_
    obtain ⟨g14, h⟩ := h
    obtain ⟨v12, s11, hD13, h⟩ := h
    refine zq_vi (v := some (.inl v12)) (σ' := s11) (nj := 2) (j := 182) (c := 2) (t := []) (as := [(.inr (.inr (some 0))), (.inl x2)]) 24 [(.inl v12)] (show zop 263 21 = some (.invokevirtual 170, 3) by decide +kernel) (by decide +kernel) rfl (by decide +kernel) rfl rfl rfl rfl rfl rfl (by decide +kernel) (by decide +kernel) (clS_0 rfl) hD13 rfl g14 ?_
    refine zq_iload 26 (show zop 263 24 = some (.iload 6, 2) by decide +kernel) rfl rfl ?_
    by_cases hc122 : v12 = (w.2.1 682 ((0 : Int)).toNat)
    · rw [if_pos hc122] at h
      refine zq_icmpF 29 80 (show zop 263 26 = some (.if_icmp .ne 54, 3) by decide +kernel) rfl rfl (decide_eq_false (fun h9 => h9 hc122)) ?_
      refine zq_aload_n 30 (show zop 263 29 = some (.aload_n 0, 1) by decide +kernel) rfl rfl ?_
      refine zq_iload 32 (show zop 263 30 = some (.iload 6, 2) by decide +kernel) rfl rfl ?_
      refine zq_iconst 33 (show zop 263 32 = some (.iconst 0, 1) by decide +kernel) rfl rfl ?_
      refine zq_iload_n 34 (show zop 263 33 = some (.iload_n 2, 1) by decide +kernel) rfl rfl ?_
      refine zq_iconst 35 (show zop 263 34 = some (.iconst 1, 1) by decide +kernel) rfl rfl ?_
      obtain ⟨g18, h⟩ := h
      obtain ⟨v16, w15, hD17, h⟩ := h
      refine zq_lx (v := some (.inl v16)) (w' := w15) (nj := 5) (j := 252) (c := 200) (t := []) (as := [(.inr (.inr (some 0))), (.inl (w.2.1 682 ((0 : Int)).toNat)), (.inl 0), (.inl x2), (.inl 1)]) 38 [(.inl v16)] (show zop 263 35 = some (.invokestatic 134, 3) by decide +kernel) (by decide +kernel) rfl (by decide +kernel) (by decide +kernel) rfl rfl rfl rfl rfl hD17 rfl g18 ?_
      by_cases hc123 : v16 = 0
      · rw [if_pos hc123] at h
        refine zq_ifT 80 (show zop 263 38 = some (.ifCond .eq 42, 3) by decide +kernel) rfl (decide_eq_true hc123) ?_
        exact h
      · rw [if_neg hc123] at h
        refine zq_ifF 41 80 (show zop 263 38 = some (.ifCond .eq 42, 3) by decide +kernel) rfl rfl (decide_eq_false hc123) ?_
        refine zq_aload_n 42 (show zop 263 41 = some (.aload_n 0, 1) by decide +kernel) rfl rfl ?_
        refine zq_iload 44 (show zop 263 42 = some (.iload 6, 2) by decide +kernel) rfl rfl ?_
        refine zq_iconst 45 (show zop 263 44 = some (.iconst 1, 1) by decide +kernel) rfl rfl ?_
        refine zq_iload_n 46 (show zop 263 45 = some (.iload_n 2, 1) by decide +kernel) rfl rfl ?_
        refine zq_iconst 47 (show zop 263 46 = some (.iconst 0, 1) by decide +kernel) rfl rfl ?_
        obtain ⟨g22, h⟩ := h
        obtain ⟨v20, w19, hD21, h⟩ := h
        refine zq_lx (v := some (.inl v20)) (w' := w19) (nj := 5) (j := 252) (c := 200) (t := []) (as := [(.inr (.inr (some 0))), (.inl (w.2.1 682 ((0 : Int)).toNat)), (.inl 1), (.inl x2), (.inl 0)]) 50 [(.inl v20)] (show zop 263 47 = some (.invokestatic 134, 3) by decide +kernel) (by decide +kernel) rfl (by decide +kernel) (by decide +kernel) rfl rfl rfl rfl rfl hD21 rfl g22 ?_
        by_cases hc124 : v20 = 0
        · rw [if_pos hc124] at h
          refine zq_ifT 80 (show zop 263 50 = some (.ifCond .eq 30, 3) by decide +kernel) rfl (decide_eq_true hc124) ?_
          exact h
        · rw [if_neg hc124] at h
          refine zq_ifF 53 80 (show zop 263 50 = some (.ifCond .eq 30, 3) by decide +kernel) rfl rfl (decide_eq_false hc124) ?_
          refine zq_aload_n 54 (show zop 263 53 = some (.aload_n 0, 1) by decide +kernel) rfl rfl ?_
          refine zq_iload 56 (show zop 263 54 = some (.iload 6, 2) by decide +kernel) rfl rfl ?_
          obtain ⟨g26, h⟩ := h
          obtain ⟨v24, s23, hD25, h⟩ := h
          refine zq_vi (v := some (.inl v24)) (σ' := s23) (nj := 2) (j := 190) (c := 1) (t := []) (as := [(.inr (.inr (some 0))), (.inl (w.2.1 682 ((0 : Int)).toNat))]) 59 [(.inl v24)] (show zop 263 56 = some (.invokevirtual 95, 3) by decide +kernel) (by decide +kernel) rfl (by decide +kernel) rfl rfl rfl rfl rfl rfl (by decide +kernel) (by decide +kernel) (clS_0 rfl) hD25 rfl g26 ?_
          refine zq_aload_n 60 (show zop 263 59 = some (.aload_n 0, 1) by decide +kernel) rfl rfl ?_
          refine zq_iload_n 61 (show zop 263 60 = some (.iload_n 2, 1) by decide +kernel) rfl rfl ?_
          obtain ⟨g30, h⟩ := h
          obtain ⟨v28, s27, hD29, h⟩ := h
          refine zq_vi (v := some (.inl v28)) (σ' := s27) (nj := 2) (j := 190) (c := 1) (t := [(.inl v24)]) (as := [(.inr (.inr (some 0))), (.inl x2)]) 64 [(.inl v28), (.inl v24)] (show zop 263 61 = some (.invokevirtual 95, 3) by decide +kernel) (by decide +kernel) rfl (by decide +kernel) rfl rfl rfl rfl rfl rfl (by decide +kernel) (by decide +kernel) (clS_0 rfl) hD29 rfl g30 ?_
          by_cases hc125 : v24 = v28
          · rw [if_pos hc125] at h
            refine zq_icmpF 67 80 (show zop 263 64 = some (.if_icmp .ne 16, 3) by decide +kernel) rfl rfl (decide_eq_false (fun h9 => h9 hc125)) ?_
            refine zq_aload_n 68 (show zop 263 67 = some (.aload_n 0, 1) by decide +kernel) rfl rfl ?_
            refine zq_iload 70 (show zop 263 68 = some (.iload 6, 2) by decide +kernel) rfl rfl ?_
            obtain ⟨g34, h⟩ := h
            obtain ⟨v32, w31, hD33, h⟩ := h
            refine zq_lx (v := some (.inl v32)) (w' := w31) (nj := 2) (j := 253) (c := 800) (t := []) (as := [(.inr (.inr (some 0))), (.inl (w.2.1 682 ((0 : Int)).toNat))]) 73 [(.inl v32)] (show zop 263 70 = some (.invokestatic 121, 3) by decide +kernel) (by decide +kernel) rfl (by decide +kernel) (by decide +kernel) rfl rfl rfl rfl rfl hD33 rfl g34 ?_
            by_cases hc126 : v32 = 0
            · rw [if_pos hc126] at h
              refine zq_ifT 80 (show zop 263 73 = some (.ifCond .eq 7, 3) by decide +kernel) rfl (decide_eq_true hc126) ?_
              exact h
            · rw [if_neg hc126] at h
              refine zq_ifF 76 80 (show zop 263 73 = some (.ifCond .eq 7, 3) by decide +kernel) rfl rfl (decide_eq_false hc126) ?_
              refine zq_iconst 77 (show zop 263 76 = some (.iconst 1, 1) by decide +kernel) rfl rfl ?_
              refine zq_goto 81 (show zop 263 77 = some (.goto 4, 3) by decide +kernel) rfl ?_
              exact h
          · rw [if_neg hc125] at h
            refine zq_icmpT 80 (show zop 263 64 = some (.if_icmp .ne 16, 3) by decide +kernel) rfl (decide_eq_true hc125) ?_
            exact h
    · rw [if_neg hc122] at h
      refine zq_icmpT 80 (show zop 263 26 = some (.if_icmp .ne 54, 3) by decide +kernel) rfl (decide_eq_true hc122) ?_
      exact h
  · rw [if_neg hc121] at h
    refine zq_ifT 82 (show zop 263 9 = some (.ifCond .ne 73, 3) by decide +kernel) rfl (decide_eq_true hc121) ?_
    refine zq_iload 84 (show zop 263 82 = some (.iload 4, 2) by decide +kernel) rfl rfl ?_
    refine zq_iconst 85 (show zop 263 84 = some (.iconst 4, 1) by decide +kernel) rfl rfl ?_
    refine zq_irem 86 (show zop 263 85 = some (.irem, 1) by decide +kernel) rfl (by decide) ?_
    refine zq_iconst 87 (show zop 263 86 = some (.iconst 1, 1) by decide +kernel) rfl rfl ?_
    by_cases hc127 : (Int.tmod x4 4) = 1
    · rw [if_pos hc127] at h
      refine zq_icmpF 90 125 (show zop 263 87 = some (.if_icmp .ne 38, 3) by decide +kernel) rfl rfl (decide_eq_false (fun h9 => h9 hc127)) ?_
      refine zq_aload_n 91 (show zop 263 90 = some (.aload_n 0, 1) by decide +kernel) rfl rfl ?_
      refine zq_iload_n 92 (show zop 263 91 = some (.iload_n 2, 1) by decide +kernel) rfl rfl ?_
      obtain ⟨g38, h⟩ := h
      obtain ⟨v36, s35, hD37, h⟩ := h
      refine zq_vi (v := some (.inl v36)) (σ' := s35) (nj := 2) (j := 190) (c := 1) (t := []) (as := [(.inr (.inr (some 0))), (.inl x2)]) 95 [(.inl v36)] (show zop 263 92 = some (.invokevirtual 95, 3) by decide +kernel) (by decide +kernel) rfl (by decide +kernel) rfl rfl rfl rfl rfl rfl (by decide +kernel) (by decide +kernel) (clS_0 rfl) hD37 rfl g38 ?_
      by_cases hc128 : v36 = 0
      · rw [if_pos hc128] at h
        refine zq_ifT 119 (show zop 263 95 = some (.ifCond .eq 24, 3) by decide +kernel) rfl (decide_eq_true hc128) ?_
        exact h
      · rw [if_neg hc128] at h
        refine zq_ifF 98 119 (show zop 263 95 = some (.ifCond .eq 24, 3) by decide +kernel) rfl rfl (decide_eq_false hc128) ?_
        refine zq_aload_n 99 (show zop 263 98 = some (.aload_n 0, 1) by decide +kernel) rfl rfl ?_
        refine zq_aload_n 100 (show zop 263 99 = some (.aload_n 1, 1) by decide +kernel) rfl rfl ?_
        refine zq_iload_n 101 (show zop 263 100 = some (.iload_n 2, 1) by decide +kernel) rfl rfl ?_
        refine zq_iload 103 (show zop 263 101 = some (.iload 4, 2) by decide +kernel) rfl rfl ?_
        refine zq_iconst 104 (show zop 263 103 = some (.iconst 4, 1) by decide +kernel) rfl rfl ?_
        refine zq_idiv 105 (show zop 263 104 = some (.idiv, 1) by decide +kernel) rfl (by decide) ?_
        refine zq_aload_n 106 (show zop 263 105 = some (.aload_n 0, 1) by decide +kernel) rfl rfl ?_
        refine zq_iload_n 107 (show zop 263 106 = some (.iload_n 2, 1) by decide +kernel) rfl rfl ?_
        obtain ⟨g42, h⟩ := h
        obtain ⟨v40, s39, hD41, h⟩ := h
        refine zq_vi (v := some (.inl v40)) (σ' := s39) (nj := 2) (j := 190) (c := 1) (t := [(.inl (Int.tdiv x4 4)), (.inl x2), (.inr (.inr (some 682))), (.inr (.inr (some 0)))]) (as := [(.inr (.inr (some 0))), (.inl x2)]) 110 [(.inl v40), (.inl (Int.tdiv x4 4)), (.inl x2), (.inr (.inr (some 682))), (.inr (.inr (some 0)))] (show zop 263 107 = some (.invokevirtual 95, 3) by decide +kernel) (by decide +kernel) rfl (by decide +kernel) rfl rfl rfl rfl rfl rfl (by decide +kernel) (by decide +kernel) (clS_0 rfl) hD41 rfl g42 ?_
        obtain ⟨g43, h⟩ := h
        refine zq_irem 111 (show zop 263 110 = some (.irem, 1) by decide +kernel) rfl g43 ?_
        refine zq_iload 113 (show zop 263 111 = some (.iload 5, 2) by decide +kernel) rfl rfl ?_
        obtain ⟨g47, h⟩ := h
        obtain ⟨v45, w44, hD46, h⟩ := h
        refine zq_lx (v := some (.inl v45)) (w' := w44) (nj := 5) (j := 264) (c := 2400) (t := []) (as := [(.inr (.inr (some 0))), (.inr (.inr (some 682))), (.inl x2), (.inl (Int.tmod (Int.tdiv x4 4) v40)), (.inl x5)]) 116 [(.inl v45)] (show zop 263 113 = some (.invokestatic 173, 3) by decide +kernel) (by decide +kernel) rfl (by decide +kernel) (by decide +kernel) rfl rfl rfl rfl rfl hD46 rfl g47 ?_
        by_cases hc129 : v45 = 0
        · rw [if_pos hc129] at h
          refine zq_ifT 123 (show zop 263 116 = some (.ifCond .eq 7, 3) by decide +kernel) rfl (decide_eq_true hc129) ?_
          refine zq_iconst 124 (show zop 263 123 = some (.iconst 0, 1) by decide +kernel) rfl rfl ?_
          exact h
        · rw [if_neg hc129] at h
          refine zq_ifF 119 123 (show zop 263 116 = some (.ifCond .eq 7, 3) by decide +kernel) rfl rfl (decide_eq_false hc129) ?_
          exact h
    · rw [if_neg hc127] at h
      refine zq_icmpT 125 (show zop 263 87 = some (.if_icmp .ne 38, 3) by decide +kernel) rfl (decide_eq_true hc127) ?_
      refine zq_aload_n 126 (show zop 263 125 = some (.aload_n 0, 1) by decide +kernel) rfl rfl ?_
      refine zq_iload_n 127 (show zop 263 126 = some (.iload_n 2, 1) by decide +kernel) rfl rfl ?_
      refine zq_iconst 128 (show zop 263 127 = some (.iconst 1, 1) by decide +kernel) rfl rfl ?_
      refine zq_iload_n 129 (show zop 263 128 = some (.iload_n 3, 1) by decide +kernel) rfl rfl ?_
      refine zq_iconst 130 (show zop 263 129 = some (.iconst 0, 1) by decide +kernel) rfl rfl ?_
      obtain ⟨g51, h⟩ := h
      obtain ⟨v49, w48, hD50, h⟩ := h
      refine zq_lx (v := some (.inl v49)) (w' := w48) (nj := 5) (j := 252) (c := 200) (t := []) (as := [(.inr (.inr (some 0))), (.inl x2), (.inl 1), (.inl x3), (.inl 0)]) 133 [(.inl v49)] (show zop 263 130 = some (.invokestatic 134, 3) by decide +kernel) (by decide +kernel) rfl (by decide +kernel) (by decide +kernel) rfl rfl rfl rfl rfl hD50 rfl g51 ?_
      by_cases hc130 : v49 = 0
      · rw [if_pos hc130] at h
        refine zq_ifF 136 163 (show zop 263 133 = some (.ifCond .ne 30, 3) by decide +kernel) rfl rfl (decide_eq_false (fun h9 => h9 hc130)) ?_
        refine zq_aload_n 137 (show zop 263 136 = some (.aload_n 0, 1) by decide +kernel) rfl rfl ?_
        refine zq_iload_n 138 (show zop 263 137 = some (.iload_n 2, 1) by decide +kernel) rfl rfl ?_
        refine zq_iload_n 139 (show zop 263 138 = some (.iload_n 3, 1) by decide +kernel) rfl rfl ?_
        refine zq_iconst 140 (show zop 263 139 = some (.iconst 1, 1) by decide +kernel) rfl rfl ?_
        obtain ⟨g55, h⟩ := h
        obtain ⟨v53, w52, hD54, h⟩ := h
        refine zq_lx (v := some (.inl v53)) (w' := w52) (nj := 4) (j := 257) (c := 5) (t := []) (as := [(.inr (.inr (some 0))), (.inl x2), (.inl x3), (.inl 1)]) 143 [(.inl v53)] (show zop 263 140 = some (.invokestatic 177, 3) by decide +kernel) (by decide +kernel) rfl (by decide +kernel) (by decide +kernel) rfl rfl rfl rfl rfl hD54 rfl g55 ?_
        refine zq_bipush 145 (show zop 263 143 = some (.bipush (-2), 2) by decide +kernel) rfl (by decide) ?_
        by_cases hc131 : v53 = (-2)
        · rw [if_pos hc131] at h
          refine zq_icmpF 148 161 (show zop 263 145 = some (.if_icmp .ne 16, 3) by decide +kernel) rfl rfl (decide_eq_false (fun h9 => h9 hc131)) ?_
          refine zq_aload_n 149 (show zop 263 148 = some (.aload_n 0, 1) by decide +kernel) rfl rfl ?_
          obtain ⟨g59, h⟩ := h
          obtain ⟨v57, s56, hD58, h⟩ := h
          refine zq_vi (v := some (.inl v57)) (σ' := s56) (nj := 1) (j := 187) (c := 0) (t := []) (as := [(.inr (.inr (some 0)))]) 152 [(.inl v57)] (show zop 263 149 = some (.invokevirtual 113, 3) by decide +kernel) (by decide +kernel) rfl (by decide +kernel) rfl rfl rfl rfl rfl rfl (by decide +kernel) (by decide +kernel) (clS_0 rfl) hD58 rfl g59 ?_
          refine zq_iload 154 (show zop 263 152 = some (.iload 6, 2) by decide +kernel) rfl rfl ?_
          by_cases hc132 : v57 = (w.2.1 682 ((0 : Int)).toNat)
          · rw [if_pos hc132] at h
            refine zq_icmpF 157 161 (show zop 263 154 = some (.if_icmp .ne 7, 3) by decide +kernel) rfl rfl (decide_eq_false (fun h9 => h9 hc132)) ?_
            refine zq_iconst 158 (show zop 263 157 = some (.iconst 1, 1) by decide +kernel) rfl rfl ?_
            refine zq_goto 162 (show zop 263 158 = some (.goto 4, 3) by decide +kernel) rfl ?_
            exact h
          · rw [if_neg hc132] at h
            refine zq_icmpT 161 (show zop 263 154 = some (.if_icmp .ne 7, 3) by decide +kernel) rfl (decide_eq_true hc132) ?_
            exact h
        · rw [if_neg hc131] at h
          refine zq_icmpT 161 (show zop 263 145 = some (.if_icmp .ne 16, 3) by decide +kernel) rfl (decide_eq_true hc131) ?_
          exact h
      · rw [if_neg hc130] at h
        refine zq_ifT 163 (show zop 263 133 = some (.ifCond .ne 30, 3) by decide +kernel) rfl (decide_eq_true hc130) ?_
        refine zq_iload 165 (show zop 263 163 = some (.iload 4, 2) by decide +kernel) rfl rfl ?_
        refine zq_iconst 166 (show zop 263 165 = some (.iconst 4, 1) by decide +kernel) rfl rfl ?_
        refine zq_irem 167 (show zop 263 166 = some (.irem, 1) by decide +kernel) rfl (by decide) ?_
        refine zq_iconst 168 (show zop 263 167 = some (.iconst 2, 1) by decide +kernel) rfl rfl ?_
        by_cases hc133 : (Int.tmod x4 4) = 2
        · rw [if_pos hc133] at h
          refine zq_icmpF 171 228 (show zop 263 168 = some (.if_icmp .ne 60, 3) by decide +kernel) rfl rfl (decide_eq_false (fun h9 => h9 hc133)) ?_
          refine zq_aload_n 172 (show zop 263 171 = some (.aload_n 1, 1) by decide +kernel) rfl rfl ?_
          refine zq_iconst 173 (show zop 263 172 = some (.iconst 0, 1) by decide +kernel) rfl rfl ?_
          refine zq_dup2 174 (show zop 263 173 = some (.dup2, 1) by decide +kernel) rfl rfl rfl ?_
          obtain ⟨g62, h⟩ := h
          obtain ⟨g60, h⟩ := h
          refine zq_iaload 175 12 (show zop 263 174 = some (.iaload, 1) by decide +kernel) rfl (by decide) g62 g60 ?_
          refine zq_iconst 176 (show zop 263 175 = some (.iconst 1, 1) by decide +kernel) rfl rfl ?_
          obtain ⟨g63, h⟩ := h
          refine zq_iadd 177 (show zop 263 176 = some (.iadd, 1) by decide +kernel) rfl g63 ?_
          obtain ⟨g66, h⟩ := h
          obtain ⟨g64, h⟩ := h
          refine zq_iastore 178 12 (show zop 263 177 = some (.iastore, 1) by decide +kernel) rfl (by decide) g66 g64 ?_
          refine zq_aload_n 179 (show zop 263 178 = some (.aload_n 0, 1) by decide +kernel) rfl rfl ?_
          refine zq_iload_n 180 (show zop 263 179 = some (.iload_n 2, 1) by decide +kernel) rfl rfl ?_
          refine zq_iload_n 181 (show zop 263 180 = some (.iload_n 3, 1) by decide +kernel) rfl rfl ?_
          obtain ⟨g70, h⟩ := h
          obtain ⟨v68, s67, hD69, h⟩ := h
          refine zq_vi (v := some (.inl v68)) (σ' := s67) (nj := 3) (j := 183) (c := 4) (t := []) (as := [(.inr (.inr (some 0))), (.inl x2), (.inl x3)]) 184 [(.inl v68)] (show zop 263 181 = some (.invokevirtual 181, 3) by decide +kernel) (by decide +kernel) rfl (by decide +kernel) rfl rfl rfl rfl rfl rfl (by decide +kernel) (by decide +kernel) (clS_0 rfl) hD69 rfl g70 ?_
          refine zq_iload 186 (show zop 263 184 = some (.iload 6, 2) by decide +kernel) rfl rfl ?_
          by_cases hc134 : v68 = (w.2.1 682 ((0 : Int)).toNat)
          · rw [if_pos hc134] at h
            refine zq_icmpF 189 226 (show zop 263 186 = some (.if_icmp .ne 40, 3) by decide +kernel) rfl rfl (decide_eq_false (fun h9 => h9 hc134)) ?_
            refine zq_aload_n 190 (show zop 263 189 = some (.aload_n 0, 1) by decide +kernel) rfl rfl ?_
            refine zq_iload 192 (show zop 263 190 = some (.iload 6, 2) by decide +kernel) rfl rfl ?_
            refine zq_iconst 193 (show zop 263 192 = some (.iconst 0, 1) by decide +kernel) rfl rfl ?_
            refine zq_iload_n 194 (show zop 263 193 = some (.iload_n 2, 1) by decide +kernel) rfl rfl ?_
            refine zq_iconst 195 (show zop 263 194 = some (.iconst 0, 1) by decide +kernel) rfl rfl ?_
            obtain ⟨g74, h⟩ := h
            obtain ⟨v72, w71, hD73, h⟩ := h
            refine zq_lx (v := some (.inl v72)) (w' := w71) (nj := 5) (j := 252) (c := 200) (t := []) (as := [(.inr (.inr (some 0))), (.inl (w.2.1 682 ((0 : Int)).toNat)), (.inl 0), (.inl x2), (.inl 0)]) 198 [(.inl v72)] (show zop 263 195 = some (.invokestatic 134, 3) by decide +kernel) (by decide +kernel) rfl (by decide +kernel) (by decide +kernel) rfl rfl rfl rfl rfl hD73 rfl g74 ?_
            by_cases hc135 : v72 = 0
            · rw [if_pos hc135] at h
              refine zq_ifT 226 (show zop 263 198 = some (.ifCond .eq 28, 3) by decide +kernel) rfl (decide_eq_true hc135) ?_
              exact h
            · rw [if_neg hc135] at h
              refine zq_ifF 201 226 (show zop 263 198 = some (.ifCond .eq 28, 3) by decide +kernel) rfl rfl (decide_eq_false hc135) ?_
              refine zq_aload_n 202 (show zop 263 201 = some (.aload_n 0, 1) by decide +kernel) rfl rfl ?_
              refine zq_iload 204 (show zop 263 202 = some (.iload 6, 2) by decide +kernel) rfl rfl ?_
              refine zq_iconst 205 (show zop 263 204 = some (.iconst 1, 1) by decide +kernel) rfl rfl ?_
              refine zq_iload_n 206 (show zop 263 205 = some (.iload_n 3, 1) by decide +kernel) rfl rfl ?_
              refine zq_iconst 207 (show zop 263 206 = some (.iconst 1, 1) by decide +kernel) rfl rfl ?_
              obtain ⟨g78, h⟩ := h
              obtain ⟨v76, w75, hD77, h⟩ := h
              refine zq_lx (v := some (.inl v76)) (w' := w75) (nj := 5) (j := 252) (c := 200) (t := []) (as := [(.inr (.inr (some 0))), (.inl (w.2.1 682 ((0 : Int)).toNat)), (.inl 1), (.inl x3), (.inl 1)]) 210 [(.inl v76)] (show zop 263 207 = some (.invokestatic 134, 3) by decide +kernel) (by decide +kernel) rfl (by decide +kernel) (by decide +kernel) rfl rfl rfl rfl rfl hD77 rfl g78 ?_
              by_cases hc136 : v76 = 0
              · rw [if_pos hc136] at h
                refine zq_ifT 226 (show zop 263 210 = some (.ifCond .eq 16, 3) by decide +kernel) rfl (decide_eq_true hc136) ?_
                exact h
              · rw [if_neg hc136] at h
                refine zq_ifF 213 226 (show zop 263 210 = some (.ifCond .eq 16, 3) by decide +kernel) rfl rfl (decide_eq_false hc136) ?_
                refine zq_aload_n 214 (show zop 263 213 = some (.aload_n 0, 1) by decide +kernel) rfl rfl ?_
                refine zq_iload 216 (show zop 263 214 = some (.iload 6, 2) by decide +kernel) rfl rfl ?_
                obtain ⟨g82, h⟩ := h
                obtain ⟨v80, w79, hD81, h⟩ := h
                refine zq_lx (v := some (.inl v80)) (w' := w79) (nj := 2) (j := 253) (c := 800) (t := []) (as := [(.inr (.inr (some 0))), (.inl (w.2.1 682 ((0 : Int)).toNat))]) 219 [(.inl v80)] (show zop 263 216 = some (.invokestatic 121, 3) by decide +kernel) (by decide +kernel) rfl (by decide +kernel) (by decide +kernel) rfl rfl rfl rfl rfl hD81 rfl g82 ?_
                by_cases hc137 : v80 = 0
                · rw [if_pos hc137] at h
                  refine zq_ifT 226 (show zop 263 219 = some (.ifCond .eq 7, 3) by decide +kernel) rfl (decide_eq_true hc137) ?_
                  exact h
                · rw [if_neg hc137] at h
                  refine zq_ifF 222 226 (show zop 263 219 = some (.ifCond .eq 7, 3) by decide +kernel) rfl rfl (decide_eq_false hc137) ?_
                  refine zq_iconst 223 (show zop 263 222 = some (.iconst 1, 1) by decide +kernel) rfl rfl ?_
                  refine zq_goto 227 (show zop 263 223 = some (.goto 4, 3) by decide +kernel) rfl ?_
                  exact h
          · rw [if_neg hc134] at h
            refine zq_icmpT 226 (show zop 263 186 = some (.if_icmp .ne 40, 3) by decide +kernel) rfl (decide_eq_true hc134) ?_
            exact h
        · rw [if_neg hc133] at h
          refine zq_icmpT 228 (show zop 263 168 = some (.if_icmp .ne 60, 3) by decide +kernel) rfl (decide_eq_true hc133) ?_
          refine zq_aload_n 229 (show zop 263 228 = some (.aload_n 0, 1) by decide +kernel) rfl rfl ?_
          refine zq_iload_n 230 (show zop 263 229 = some (.iload_n 2, 1) by decide +kernel) rfl rfl ?_
          refine zq_iload_n 231 (show zop 263 230 = some (.iload_n 3, 1) by decide +kernel) rfl rfl ?_
          refine zq_iconst 232 (show zop 263 231 = some (.iconst 1, 1) by decide +kernel) rfl rfl ?_
          obtain ⟨g86, h⟩ := h
          obtain ⟨v84, w83, hD85, h⟩ := h
          refine zq_lx (v := some (.inl v84)) (w' := w83) (nj := 4) (j := 257) (c := 5) (t := []) (as := [(.inr (.inr (some 0))), (.inl x2), (.inl x3), (.inl 1)]) 235 [(.inl v84)] (show zop 263 232 = some (.invokestatic 177, 3) by decide +kernel) (by decide +kernel) rfl (by decide +kernel) (by decide +kernel) rfl rfl rfl rfl rfl hD85 rfl g86 ?_
          refine zq_istore 237 [(some (.inr (.inr (some 0)))), (some (.inr (.inr (some 682)))), (some (.inl x2)), (some (.inl x3)), (some (.inl x4)), (some (.inl x5)), (some (.inl (w.2.1 682 ((0 : Int)).toNat))), (some (.inl v84)), none] (show zop 263 235 = some (.istore 7, 2) by decide +kernel) rfl rfl rfl ?_
          refine zq_iload 239 (show zop 263 237 = some (.iload 7, 2) by decide +kernel) rfl rfl ?_
          refine zq_bipush 241 (show zop 263 239 = some (.bipush (-2), 2) by decide +kernel) rfl (by decide) ?_
          by_cases hc138 : v84 = (-2)
          · rw [if_pos hc138] at h
            refine zq_icmpF 244 259 (show zop 263 241 = some (.if_icmp .ne 18, 3) by decide +kernel) rfl rfl (decide_eq_false (fun h9 => h9 hc138)) ?_
            refine zq_aload_n 245 (show zop 263 244 = some (.aload_n 0, 1) by decide +kernel) rfl rfl ?_
            obtain ⟨g90, h⟩ := h
            obtain ⟨v88, s87, hD89, h⟩ := h
            refine zq_vi (v := some (.inl v88)) (σ' := s87) (nj := 1) (j := 187) (c := 0) (t := []) (as := [(.inr (.inr (some 0)))]) 248 [(.inl v88)] (show zop 263 245 = some (.invokevirtual 113, 3) by decide +kernel) (by decide +kernel) rfl (by decide +kernel) rfl rfl rfl rfl rfl rfl (by decide +kernel) (by decide +kernel) (clS_0 rfl) hD89 rfl g90 ?_
            refine zq_iload 250 (show zop 263 248 = some (.iload 6, 2) by decide +kernel) rfl rfl ?_
            by_cases hc139 : v88 = (w.2.1 682 ((0 : Int)).toNat)
            · refine zq_icmpF 253 257 (show zop 263 250 = some (.if_icmp .ne 7, 3) by decide +kernel) rfl rfl (decide_eq_false (fun h9 => h9 hc139)) ?_
              refine zq_iconst 254 (show zop 263 253 = some (.iconst 1, 1) by decide +kernel) rfl rfl ?_
              refine zq_goto 258 (show zop 263 254 = some (.goto 4, 3) by decide +kernel) rfl ?_
              have h9 := h; simp only [if_pos hc139] at h9; exact h9
            · refine zq_icmpT 257 (show zop 263 250 = some (.if_icmp .ne 7, 3) by decide +kernel) rfl (decide_eq_true hc139) ?_
              refine zq_iconst 258 (show zop 263 257 = some (.iconst 0, 1) by decide +kernel) rfl rfl ?_
              have h9 := h; simp only [if_neg hc139] at h9; exact h9
          · rw [if_neg hc138] at h
            refine zq_icmpT 259 (show zop 263 241 = some (.if_icmp .ne 18, 3) by decide +kernel) rfl (decide_eq_true hc138) ?_
            refine zq_aload_n 260 (show zop 263 259 = some (.aload_n 1, 1) by decide +kernel) rfl rfl ?_
            refine zq_iconst 261 (show zop 263 260 = some (.iconst 0, 1) by decide +kernel) rfl rfl ?_
            refine zq_dup2 262 (show zop 263 261 = some (.dup2, 1) by decide +kernel) rfl rfl rfl ?_
            obtain ⟨g93, h⟩ := h
            obtain ⟨g91, h⟩ := h
            refine zq_iaload 263 12 (show zop 263 262 = some (.iaload, 1) by decide +kernel) rfl (by decide) g93 g91 ?_
            refine zq_iconst 264 (show zop 263 263 = some (.iconst 2, 1) by decide +kernel) rfl rfl ?_
            obtain ⟨g94, h⟩ := h
            refine zq_iadd 265 (show zop 263 264 = some (.iadd, 1) by decide +kernel) rfl g94 ?_
            obtain ⟨g97, h⟩ := h
            obtain ⟨g95, h⟩ := h
            refine zq_iastore 266 12 (show zop 263 265 = some (.iastore, 1) by decide +kernel) rfl (by decide) g97 g95 ?_
            refine zq_aload_n 267 (show zop 263 266 = some (.aload_n 0, 1) by decide +kernel) rfl rfl ?_
            refine zq_iload_n 268 (show zop 263 267 = some (.iload_n 2, 1) by decide +kernel) rfl rfl ?_
            refine zq_iload_n 269 (show zop 263 268 = some (.iload_n 3, 1) by decide +kernel) rfl rfl ?_
            obtain ⟨g101, h⟩ := h
            obtain ⟨v99, s98, hD100, h⟩ := h
            refine zq_vi (v := some (.inl v99)) (σ' := s98) (nj := 3) (j := 184) (c := 3) (t := []) (as := [(.inr (.inr (some 0))), (.inl x2), (.inl x3)]) 272 [(.inl v99)] (show zop 263 269 = some (.invokevirtual 184, 3) by decide +kernel) (by decide +kernel) rfl (by decide +kernel) rfl rfl rfl rfl rfl rfl (by decide +kernel) (by decide +kernel) (clS_0 rfl) hD100 rfl g101 ?_
            by_cases hc140 : v99 = 0
            · rw [if_pos hc140] at h
              refine zq_ifF 275 341 (show zop 263 272 = some (.ifCond .ne 69, 3) by decide +kernel) rfl rfl (decide_eq_false (fun h9 => h9 hc140)) ?_
              refine zq_iload 277 (show zop 263 275 = some (.iload 7, 2) by decide +kernel) rfl rfl ?_
              refine zq_iload 279 (show zop 263 277 = some (.iload 6, 2) by decide +kernel) rfl rfl ?_
              by_cases hc141 : v84 = (w.2.1 682 ((0 : Int)).toNat)
              · rw [if_pos hc141] at h
                refine zq_icmpF 282 341 (show zop 263 279 = some (.if_icmp .ne 62, 3) by decide +kernel) rfl rfl (decide_eq_false (fun h9 => h9 hc141)) ?_
                refine zq_aload_n 283 (show zop 263 282 = some (.aload_n 0, 1) by decide +kernel) rfl rfl ?_
                refine zq_iload_n 284 (show zop 263 283 = some (.iload_n 2, 1) by decide +kernel) rfl rfl ?_
                refine zq_iload_n 285 (show zop 263 284 = some (.iload_n 3, 1) by decide +kernel) rfl rfl ?_
                refine zq_iconst 286 (show zop 263 285 = some (.iconst 0, 1) by decide +kernel) rfl rfl ?_
                obtain ⟨g105, h⟩ := h
                obtain ⟨v103, s102, hD104, h⟩ := h
                refine zq_vi (v := some (.inl v103)) (σ' := s102) (nj := 4) (j := 185) (c := 5) (t := []) (as := [(.inr (.inr (some 0))), (.inl x2), (.inl x3), (.inl 0)]) 289 [(.inl v103)] (show zop 263 286 = some (.invokevirtual 145, 3) by decide +kernel) (by decide +kernel) rfl (by decide +kernel) rfl rfl rfl rfl rfl rfl (by decide +kernel) (by decide +kernel) (clS_0 rfl) hD104 rfl g105 ?_
                refine zq_iload 291 (show zop 263 289 = some (.iload 6, 2) by decide +kernel) rfl rfl ?_
                refine zq_iconst 292 (show zop 263 291 = some (.iconst 1, 1) by decide +kernel) rfl rfl ?_
                obtain ⟨g106, h⟩ := h
                refine zq_iadd 293 (show zop 263 292 = some (.iadd, 1) by decide +kernel) rfl g106 ?_
                by_cases hc142 : v103 = ((w.2.1 682 ((0 : Int)).toNat) + 1)
                · rw [if_pos hc142] at h
                  refine zq_icmpF 296 341 (show zop 263 293 = some (.if_icmp .ne 48, 3) by decide +kernel) rfl rfl (decide_eq_false (fun h9 => h9 hc142)) ?_
                  refine zq_aload_n 297 (show zop 263 296 = some (.aload_n 0, 1) by decide +kernel) rfl rfl ?_
                  refine zq_iload 299 (show zop 263 297 = some (.iload 6, 2) by decide +kernel) rfl rfl ?_
                  refine zq_iconst 300 (show zop 263 299 = some (.iconst 0, 1) by decide +kernel) rfl rfl ?_
                  refine zq_iload_n 301 (show zop 263 300 = some (.iload_n 2, 1) by decide +kernel) rfl rfl ?_
                  refine zq_iconst 302 (show zop 263 301 = some (.iconst 0, 1) by decide +kernel) rfl rfl ?_
                  obtain ⟨g110, h⟩ := h
                  obtain ⟨v108, w107, hD109, h⟩ := h
                  refine zq_lx (v := some (.inl v108)) (w' := w107) (nj := 5) (j := 252) (c := 200) (t := []) (as := [(.inr (.inr (some 0))), (.inl (w.2.1 682 ((0 : Int)).toNat)), (.inl 0), (.inl x2), (.inl 0)]) 305 [(.inl v108)] (show zop 263 302 = some (.invokestatic 134, 3) by decide +kernel) (by decide +kernel) rfl (by decide +kernel) (by decide +kernel) rfl rfl rfl rfl rfl hD109 rfl g110 ?_
                  by_cases hc143 : v108 = 0
                  · rw [if_pos hc143] at h
                    refine zq_ifT 341 (show zop 263 305 = some (.ifCond .eq 36, 3) by decide +kernel) rfl (decide_eq_true hc143) ?_
                    exact h
                  · rw [if_neg hc143] at h
                    refine zq_ifF 308 341 (show zop 263 305 = some (.ifCond .eq 36, 3) by decide +kernel) rfl rfl (decide_eq_false hc143) ?_
                    refine zq_aload_n 309 (show zop 263 308 = some (.aload_n 0, 1) by decide +kernel) rfl rfl ?_
                    refine zq_iload 311 (show zop 263 309 = some (.iload 6, 2) by decide +kernel) rfl rfl ?_
                    refine zq_iconst 312 (show zop 263 311 = some (.iconst 1, 1) by decide +kernel) rfl rfl ?_
                    refine zq_iload 314 (show zop 263 312 = some (.iload 6, 2) by decide +kernel) rfl rfl ?_
                    refine zq_iconst 315 (show zop 263 314 = some (.iconst 1, 1) by decide +kernel) rfl rfl ?_
                    obtain ⟨g111, h⟩ := h
                    refine zq_iadd 316 (show zop 263 315 = some (.iadd, 1) by decide +kernel) rfl g111 ?_
                    refine zq_iconst 317 (show zop 263 316 = some (.iconst 0, 1) by decide +kernel) rfl rfl ?_
                    obtain ⟨g115, h⟩ := h
                    obtain ⟨v113, w112, hD114, h⟩ := h
                    refine zq_lx (v := some (.inl v113)) (w' := w112) (nj := 5) (j := 252) (c := 200) (t := []) (as := [(.inr (.inr (some 0))), (.inl (w.2.1 682 ((0 : Int)).toNat)), (.inl 1), (.inl ((w.2.1 682 ((0 : Int)).toNat) + 1)), (.inl 0)]) 320 [(.inl v113)] (show zop 263 317 = some (.invokestatic 134, 3) by decide +kernel) (by decide +kernel) rfl (by decide +kernel) (by decide +kernel) rfl rfl rfl rfl rfl hD114 rfl g115 ?_
                    by_cases hc144 : v113 = 0
                    · rw [if_pos hc144] at h
                      refine zq_ifT 341 (show zop 263 320 = some (.ifCond .eq 21, 3) by decide +kernel) rfl (decide_eq_true hc144) ?_
                      exact h
                    · rw [if_neg hc144] at h
                      refine zq_ifF 323 341 (show zop 263 320 = some (.ifCond .eq 21, 3) by decide +kernel) rfl rfl (decide_eq_false hc144) ?_
                      refine zq_aload_n 324 (show zop 263 323 = some (.aload_n 0, 1) by decide +kernel) rfl rfl ?_
                      refine zq_iload 326 (show zop 263 324 = some (.iload 6, 2) by decide +kernel) rfl rfl ?_
                      refine zq_iconst 327 (show zop 263 326 = some (.iconst 1, 1) by decide +kernel) rfl rfl ?_
                      obtain ⟨g116, h⟩ := h
                      refine zq_iadd 328 (show zop 263 327 = some (.iadd, 1) by decide +kernel) rfl g116 ?_
                      refine zq_iconst 329 (show zop 263 328 = some (.iconst 1, 1) by decide +kernel) rfl rfl ?_
                      refine zq_iload_n 330 (show zop 263 329 = some (.iload_n 3, 1) by decide +kernel) rfl rfl ?_
                      refine zq_iconst 331 (show zop 263 330 = some (.iconst 1, 1) by decide +kernel) rfl rfl ?_
                      obtain ⟨g120, h⟩ := h
                      obtain ⟨v118, w117, hD119, h⟩ := h
                      refine zq_lx (v := some (.inl v118)) (w' := w117) (nj := 5) (j := 252) (c := 200) (t := []) (as := [(.inr (.inr (some 0))), (.inl ((w.2.1 682 ((0 : Int)).toNat) + 1)), (.inl 1), (.inl x3), (.inl 1)]) 334 [(.inl v118)] (show zop 263 331 = some (.invokestatic 134, 3) by decide +kernel) (by decide +kernel) rfl (by decide +kernel) (by decide +kernel) rfl rfl rfl rfl rfl hD119 rfl g120 ?_
                      by_cases hc145 : v118 = 0
                      · rw [if_pos hc145] at h
                        refine zq_ifT 341 (show zop 263 334 = some (.ifCond .eq 7, 3) by decide +kernel) rfl (decide_eq_true hc145) ?_
                        exact h
                      · rw [if_neg hc145] at h
                        refine zq_ifF 337 341 (show zop 263 334 = some (.ifCond .eq 7, 3) by decide +kernel) rfl rfl (decide_eq_false hc145) ?_
                        refine zq_iconst 338 (show zop 263 337 = some (.iconst 1, 1) by decide +kernel) rfl rfl ?_
                        refine zq_goto 342 (show zop 263 338 = some (.goto 4, 3) by decide +kernel) rfl ?_
                        exact h
                · rw [if_neg hc142] at h
                  refine zq_icmpT 341 (show zop 263 293 = some (.if_icmp .ne 48, 3) by decide +kernel) rfl (decide_eq_true hc142) ?_
                  exact h
              · rw [if_neg hc141] at h
                refine zq_icmpT 341 (show zop 263 279 = some (.if_icmp .ne 62, 3) by decide +kernel) rfl (decide_eq_true hc141) ?_
                exact h
            · rw [if_neg hc140] at h
              refine zq_ifT 341 (show zop 263 272 = some (.ifCond .ne 69, 3) by decide +kernel) rfl (decide_eq_true hc140) ?_
              exact h
def K264_70 (d0 : Option AV) (d1 : Option AV) (d2 : Option AV) (d3 : Option AV) (d4 : Option AV) (d5 : Option AV) (d6 : Option AV) (d7 : Option AV) (d8 : Option AV) (d9 : Option AV) (y0 : Int) (w : WS) (r : Nat) (o : Ro) : Prop := Lg 264 70 [d0, d1, d2, d3, d4, d5, d6, d7, d8, d9] [(.inl y0)] w r o
def K264_148 (d1 : Option AV) (x2 : Int) (d3 : Option AV) (d4 : Option AV) (x5 : Int) (x6 : Int) (x7 : Int) (d8 : Option AV) (d9 : Option AV) (w : WS) (r : Nat) (o : Ro) : Prop := Lg 264 148 [(some (.inr (.inr (some 0)))), d1, (some (.inl x2)), d3, d4, (some (.inl x5)), (some (.inl x6)), (some (.inl x7)), d8, d9] [] w r o
def K264_149 (d1 : Option AV) (x2 : Int) (d3 : Option AV) (d4 : Option AV) (x5 : Int) (x6 : Int) (x7 : Int) (d8 : Option AV) (d9 : Option AV) (y0 : Int) (w : WS) (r : Nat) (o : Ro) : Prop := Lg 264 149 [(some (.inr (.inr (some 0)))), d1, (some (.inl x2)), d3, d4, (some (.inl x5)), (some (.inl x6)), (some (.inl x7)), d8, d9] [(.inl y0)] w r o
def K264_224 (d0 : Option AV) (d1 : Option AV) (d2 : Option AV) (d3 : Option AV) (d4 : Option AV) (d5 : Option AV) (d6 : Option AV) (d7 : Option AV) (d8 : Option AV) (d9 : Option AV) (w : WS) (r : Nat) (o : Ro) : Prop := Lg 264 224 [d0, d1, d2, d3, d4, d5, d6, d7, d8, d9] [] w r o
def K264_195 (d1 : Option AV) (x2 : Int) (d3 : Option AV) (d4 : Option AV) (x5 : Int) (x6 : Int) (x7 : Int) (d8 : Option AV) (d9 : Option AV) (y0 : Int) (y1 : Int) (w : WS) (r : Nat) (o : Ro) : Prop := Lg 264 195 [(some (.inr (.inr (some 0)))), d1, (some (.inl x2)), d3, d4, (some (.inl x5)), (some (.inl x6)), (some (.inl x7)), d8, d9] [(.inl y1), (.inl y0)] w r o
def K264_225 (d0 : Option AV) (d1 : Option AV) (d2 : Option AV) (d3 : Option AV) (d4 : Option AV) (d5 : Option AV) (d6 : Option AV) (d7 : Option AV) (d8 : Option AV) (d9 : Option AV) (y0 : Int) (w : WS) (r : Nat) (o : Ro) : Prop := Lg 264 225 [d0, d1, d2, d3, d4, d5, d6, d7, d8, d9] [(.inl y0)] w r o
theorem bK264_70 {d0 : Option AV} {d1 : Option AV} {d2 : Option AV} {d3 : Option AV} {d4 : Option AV} {d5 : Option AV} {d6 : Option AV} {d7 : Option AV} {d8 : Option AV} {d9 : Option AV} {y0 : Int} {w : WS} {r : Nat} {o : Ro} (h : (y0 = 0 ∨ y0 = 1) ∧ o = (.inl (some (.inl y0)), w)) : K264_70 d0 d1 d2 d3 d4 d5 d6 d7 d8 d9 y0 w r o := by
  show Lg 264 70 [d0, d1, d2, d3, d4, d5, d6, d7, d8, d9] [(.inl y0)] w r o
  obtain ⟨g1, h⟩ := h
  exact (zq_zret (show zop 264 70 = some (.ireturn, 1) by decide +kernel) (by decide +kernel) g1 h)
theorem bK264_148 {d1 : Option AV} {x2 : Int} {d3 : Option AV} {d4 : Option AV} {x5 : Int} {x6 : Int} {x7 : Int} {d8 : Option AV} {d9 : Option AV} {w : WS} {r : Nat} {o : Ro} (h : K264_149 d1 x2 d3 d4 x5 x6 x7 d8 d9 0 w r o) : K264_148 d1 x2 d3 d4 x5 x6 x7 d8 d9 w r o := by
  show Lg 264 148 [(some (.inr (.inr (some 0)))), d1, (some (.inl x2)), d3, d4, (some (.inl x5)), (some (.inl x6)), (some (.inl x7)), d8, d9] [] w r o
  refine zq_iconst 149 (show zop 264 148 = some (.iconst 0, 1) by decide +kernel) rfl rfl ?_
  exact h
theorem bK264_149 {d1 : Option AV} {x2 : Int} {d3 : Option AV} {d4 : Option AV} {x5 : Int} {x6 : Int} {x7 : Int} {d8 : Option AV} {d9 : Option AV} {y0 : Int} {w : WS} {r : Nat} {o : Ro} (h : (if y0 = 0 then K264_224 (some (.inr (.inr (some 0)))) d1 (some (.inl x2)) d3 d4 (some (.inl x5)) (some (.inl x6)) (some (.inl x7)) d8 (some (.inl y0)) w r o else (800 ≤ r) ∧ (∃ (v2 : Int) (w1 : WS), Lx 253 [(.inr (.inr (some 0))), (.inl x5)] w (.inl (some (.inl v2)), w1) ∧ (if v2 = 0 then K264_224 (some (.inr (.inr (some 0)))) d1 (some (.inl x2)) d3 d4 (some (.inl x5)) (some (.inl x6)) (some (.inl x7)) d8 (some (.inl y0)) w1 (r - 800) o else (-2147483648 ≤ (x5 + 1) ∧ (x5 + 1) ≤ 2147483647) ∧ (800 ≤ (r - 800)) ∧ (∃ (v7 : Int) (w6 : WS), Lx 253 [(.inr (.inr (some 0))), (.inl (x5 + 1))] w1 (.inl (some (.inl v7)), w6) ∧ (if v7 = 0 then K264_224 (some (.inr (.inr (some 0)))) d1 (some (.inl x2)) d3 d4 (some (.inl x5)) (some (.inl x6)) (some (.inl x7)) d8 (some (.inl y0)) w6 ((r - 800) - 800) o else (1 ≤ ((r - 800) - 800)) ∧ (∃ (v11 : Int) (s10 : Sg), Dc 190 [(.inr (.inr (some 0))), (.inl x5)] w6.2.2 (.inl (some (.inl v11))) s10 ∧ (-2147483648 ≤ (x6 + x7) ∧ (x6 + x7) ≤ 2147483647) ∧ K264_195 d1 x2 d3 d4 x5 x6 x7 d8 (some (.inl y0)) v11 (if (x6 + x7) = 0 then 0 else 1) (wS w6 s10) (((r - 800) - 800) - 1) o))))))) : K264_149 d1 x2 d3 d4 x5 x6 x7 d8 d9 y0 w r o := by
  show Lg 264 149 [(some (.inr (.inr (some 0)))), d1, (some (.inl x2)), d3, d4, (some (.inl x5)), (some (.inl x6)), (some (.inl x7)), d8, d9] [(.inl y0)] w r o
  refine zq_istore 151 [(some (.inr (.inr (some 0)))), d1, (some (.inl x2)), d3, d4, (some (.inl x5)), (some (.inl x6)), (some (.inl x7)), d8, (some (.inl y0))] (show zop 264 149 = some (.istore 9, 2) by decide +kernel) rfl rfl rfl ?_
  refine zq_iload 153 (show zop 264 151 = some (.iload 9, 2) by decide +kernel) rfl rfl ?_
  by_cases hc15 : y0 = 0
  · rw [if_pos hc15] at h
    refine zq_ifT 224 (show zop 264 153 = some (.ifCond .eq 71, 3) by decide +kernel) rfl (decide_eq_true hc15) ?_
    exact h
  · rw [if_neg hc15] at h
    refine zq_ifF 156 224 (show zop 264 153 = some (.ifCond .eq 71, 3) by decide +kernel) rfl rfl (decide_eq_false hc15) ?_
    refine zq_aload_n 157 (show zop 264 156 = some (.aload_n 0, 1) by decide +kernel) rfl rfl ?_
    refine zq_iload 159 (show zop 264 157 = some (.iload 5, 2) by decide +kernel) rfl rfl ?_
    obtain ⟨g4, h⟩ := h
    obtain ⟨v2, w1, hD3, h⟩ := h
    refine zq_lx (v := some (.inl v2)) (w' := w1) (nj := 2) (j := 253) (c := 800) (t := []) (as := [(.inr (.inr (some 0))), (.inl x5)]) 162 [(.inl v2)] (show zop 264 159 = some (.invokestatic 121, 3) by decide +kernel) (by decide +kernel) rfl (by decide +kernel) (by decide +kernel) rfl rfl rfl rfl rfl hD3 rfl g4 ?_
    by_cases hc16 : v2 = 0
    · rw [if_pos hc16] at h
      refine zq_ifT 224 (show zop 264 162 = some (.ifCond .eq 62, 3) by decide +kernel) rfl (decide_eq_true hc16) ?_
      exact h
    · rw [if_neg hc16] at h
      refine zq_ifF 165 224 (show zop 264 162 = some (.ifCond .eq 62, 3) by decide +kernel) rfl rfl (decide_eq_false hc16) ?_
      refine zq_aload_n 166 (show zop 264 165 = some (.aload_n 0, 1) by decide +kernel) rfl rfl ?_
      refine zq_iload 168 (show zop 264 166 = some (.iload 5, 2) by decide +kernel) rfl rfl ?_
      refine zq_iconst 169 (show zop 264 168 = some (.iconst 1, 1) by decide +kernel) rfl rfl ?_
      obtain ⟨g5, h⟩ := h
      refine zq_iadd 170 (show zop 264 169 = some (.iadd, 1) by decide +kernel) rfl g5 ?_
      obtain ⟨g9, h⟩ := h
      obtain ⟨v7, w6, hD8, h⟩ := h
      refine zq_lx (v := some (.inl v7)) (w' := w6) (nj := 2) (j := 253) (c := 800) (t := []) (as := [(.inr (.inr (some 0))), (.inl (x5 + 1))]) 173 [(.inl v7)] (show zop 264 170 = some (.invokestatic 121, 3) by decide +kernel) (by decide +kernel) rfl (by decide +kernel) (by decide +kernel) rfl rfl rfl rfl rfl hD8 rfl g9 ?_
      by_cases hc17 : v7 = 0
      · rw [if_pos hc17] at h
        refine zq_ifT 224 (show zop 264 173 = some (.ifCond .eq 51, 3) by decide +kernel) rfl (decide_eq_true hc17) ?_
        exact h
      · rw [if_neg hc17] at h
        refine zq_ifF 176 224 (show zop 264 173 = some (.ifCond .eq 51, 3) by decide +kernel) rfl rfl (decide_eq_false hc17) ?_
        refine zq_aload_n 177 (show zop 264 176 = some (.aload_n 0, 1) by decide +kernel) rfl rfl ?_
        refine zq_iload 179 (show zop 264 177 = some (.iload 5, 2) by decide +kernel) rfl rfl ?_
        obtain ⟨g13, h⟩ := h
        obtain ⟨v11, s10, hD12, h⟩ := h
        refine zq_vi (v := some (.inl v11)) (σ' := s10) (nj := 2) (j := 190) (c := 1) (t := []) (as := [(.inr (.inr (some 0))), (.inl x5)]) 182 [(.inl v11)] (show zop 264 179 = some (.invokevirtual 95, 3) by decide +kernel) (by decide +kernel) rfl (by decide +kernel) rfl rfl rfl rfl rfl rfl (by decide +kernel) (by decide +kernel) (clS_0 rfl) hD12 rfl g13 ?_
        refine zq_iload 184 (show zop 264 182 = some (.iload 6, 2) by decide +kernel) rfl rfl ?_
        refine zq_iload 186 (show zop 264 184 = some (.iload 7, 2) by decide +kernel) rfl rfl ?_
        obtain ⟨g14, h⟩ := h
        refine zq_iadd 187 (show zop 264 186 = some (.iadd, 1) by decide +kernel) rfl g14 ?_
        by_cases hc18 : (x6 + x7) = 0
        · refine zq_ifF 190 194 (show zop 264 187 = some (.ifCond .ne 7, 3) by decide +kernel) rfl rfl (decide_eq_false (fun h9 => h9 hc18)) ?_
          refine zq_iconst 191 (show zop 264 190 = some (.iconst 0, 1) by decide +kernel) rfl rfl ?_
          refine zq_goto 195 (show zop 264 191 = some (.goto 4, 3) by decide +kernel) rfl ?_
          have h9 := h; simp only [if_pos hc18] at h9; exact h9
        · refine zq_ifT 194 (show zop 264 187 = some (.ifCond .ne 7, 3) by decide +kernel) rfl (decide_eq_true hc18) ?_
          refine zq_iconst 195 (show zop 264 194 = some (.iconst 1, 1) by decide +kernel) rfl rfl ?_
          have h9 := h; simp only [if_neg hc18] at h9; exact h9
theorem bK264_224 {d0 : Option AV} {d1 : Option AV} {d2 : Option AV} {d3 : Option AV} {d4 : Option AV} {d5 : Option AV} {d6 : Option AV} {d7 : Option AV} {d8 : Option AV} {d9 : Option AV} {w : WS} {r : Nat} {o : Ro} (h : K264_225 d0 d1 d2 d3 d4 d5 d6 d7 d8 d9 0 w r o) : K264_224 d0 d1 d2 d3 d4 d5 d6 d7 d8 d9 w r o := by
  show Lg 264 224 [d0, d1, d2, d3, d4, d5, d6, d7, d8, d9] [] w r o
  refine zq_iconst 225 (show zop 264 224 = some (.iconst 0, 1) by decide +kernel) rfl rfl ?_
  exact h
theorem bK264_195 {d1 : Option AV} {x2 : Int} {d3 : Option AV} {d4 : Option AV} {x5 : Int} {x6 : Int} {x7 : Int} {d8 : Option AV} {d9 : Option AV} {y0 : Int} {y1 : Int} {w : WS} {r : Nat} {o : Ro} (h : (if y0 = y1 then (40 ≤ r) ∧ (∃ (v2 : Int) (w1 : WS), Lx 250 [(.inr (.inr (some 0))), (.inl x5), (.inl 1)] w (.inl (some (.inl v2)), w1) ∧ (40 ≤ (r - 40)) ∧ (∃ (v6 : Int) (w5 : WS), Lx 250 [(.inr (.inr (some 0))), (.inl x2), (.inl 0)] w1 (.inl (some (.inl v6)), w5) ∧ (-2147483648 ≤ (v6 - x6) ∧ (v6 - x6) ≤ 2147483647) ∧ (-2147483648 ≤ ((v6 - x6) + x7) ∧ ((v6 - x6) + x7) ≤ 2147483647) ∧ (if v2 = ((v6 - x6) + x7) then K264_225 (some (.inr (.inr (some 0)))) d1 (some (.inl x2)) d3 d4 (some (.inl x5)) (some (.inl x6)) (some (.inl x7)) d8 d9 1 w5 ((r - 40) - 40) o else K264_224 (some (.inr (.inr (some 0)))) d1 (some (.inl x2)) d3 d4 (some (.inl x5)) (some (.inl x6)) (some (.inl x7)) d8 d9 w5 ((r - 40) - 40) o))) else K264_224 (some (.inr (.inr (some 0)))) d1 (some (.inl x2)) d3 d4 (some (.inl x5)) (some (.inl x6)) (some (.inl x7)) d8 d9 w r o)) : K264_195 d1 x2 d3 d4 x5 x6 x7 d8 d9 y0 y1 w r o := by
  show Lg 264 195 [(some (.inr (.inr (some 0)))), d1, (some (.inl x2)), d3, d4, (some (.inl x5)), (some (.inl x6)), (some (.inl x7)), d8, d9] [(.inl y1), (.inl y0)] w r o
  by_cases hc11 : y0 = y1
  · rw [if_pos hc11] at h
    refine zq_icmpF 198 224 (show zop 264 195 = some (.if_icmp .ne 29, 3) by decide +kernel) rfl rfl (decide_eq_false (fun h9 => h9 hc11)) ?_
    refine zq_aload_n 199 (show zop 264 198 = some (.aload_n 0, 1) by decide +kernel) rfl rfl ?_
    refine zq_iload 201 (show zop 264 199 = some (.iload 5, 2) by decide +kernel) rfl rfl ?_
    refine zq_iconst 202 (show zop 264 201 = some (.iconst 1, 1) by decide +kernel) rfl rfl ?_
    obtain ⟨g4, h⟩ := h
    obtain ⟨v2, w1, hD3, h⟩ := h
    refine zq_lx (v := some (.inl v2)) (w' := w1) (nj := 3) (j := 250) (c := 40) (t := []) (as := [(.inr (.inr (some 0))), (.inl x5), (.inl 1)]) 205 [(.inl v2)] (show zop 264 202 = some (.invokestatic 91, 3) by decide +kernel) (by decide +kernel) rfl (by decide +kernel) (by decide +kernel) rfl rfl rfl rfl rfl hD3 rfl g4 ?_
    refine zq_aload_n 206 (show zop 264 205 = some (.aload_n 0, 1) by decide +kernel) rfl rfl ?_
    refine zq_iload_n 207 (show zop 264 206 = some (.iload_n 2, 1) by decide +kernel) rfl rfl ?_
    refine zq_iconst 208 (show zop 264 207 = some (.iconst 0, 1) by decide +kernel) rfl rfl ?_
    obtain ⟨g8, h⟩ := h
    obtain ⟨v6, w5, hD7, h⟩ := h
    refine zq_lx (v := some (.inl v6)) (w' := w5) (nj := 3) (j := 250) (c := 40) (t := [(.inl v2)]) (as := [(.inr (.inr (some 0))), (.inl x2), (.inl 0)]) 211 [(.inl v6), (.inl v2)] (show zop 264 208 = some (.invokestatic 91, 3) by decide +kernel) (by decide +kernel) rfl (by decide +kernel) (by decide +kernel) rfl rfl rfl rfl rfl hD7 rfl g8 ?_
    refine zq_iload 213 (show zop 264 211 = some (.iload 6, 2) by decide +kernel) rfl rfl ?_
    obtain ⟨g9, h⟩ := h
    refine zq_isub 214 (show zop 264 213 = some (.isub, 1) by decide +kernel) rfl g9 ?_
    refine zq_iload 216 (show zop 264 214 = some (.iload 7, 2) by decide +kernel) rfl rfl ?_
    obtain ⟨g10, h⟩ := h
    refine zq_iadd 217 (show zop 264 216 = some (.iadd, 1) by decide +kernel) rfl g10 ?_
    by_cases hc12 : v2 = ((v6 - x6) + x7)
    · rw [if_pos hc12] at h
      refine zq_icmpF 220 224 (show zop 264 217 = some (.if_icmp .ne 7, 3) by decide +kernel) rfl rfl (decide_eq_false (fun h9 => h9 hc12)) ?_
      refine zq_iconst 221 (show zop 264 220 = some (.iconst 1, 1) by decide +kernel) rfl rfl ?_
      refine zq_goto 225 (show zop 264 221 = some (.goto 4, 3) by decide +kernel) rfl ?_
      exact h
    · rw [if_neg hc12] at h
      refine zq_icmpT 224 (show zop 264 217 = some (.if_icmp .ne 7, 3) by decide +kernel) rfl (decide_eq_true hc12) ?_
      exact h
  · rw [if_neg hc11] at h
    refine zq_icmpT 224 (show zop 264 195 = some (.if_icmp .ne 29, 3) by decide +kernel) rfl (decide_eq_true hc11) ?_
    exact h
theorem bK264_225 {d0 : Option AV} {d1 : Option AV} {d2 : Option AV} {d3 : Option AV} {d4 : Option AV} {d5 : Option AV} {d6 : Option AV} {d7 : Option AV} {d8 : Option AV} {d9 : Option AV} {y0 : Int} {w : WS} {r : Nat} {o : Ro} (h : (y0 = 0 ∨ y0 = 1) ∧ o = (.inl (some (.inl y0)), w)) : K264_225 d0 d1 d2 d3 d4 d5 d6 d7 d8 d9 y0 w r o := by
  show Lg 264 225 [d0, d1, d2, d3, d4, d5, d6, d7, d8, d9] [(.inl y0)] w r o
  obtain ⟨g1, h⟩ := h
  exact (zq_zret (show zop 264 225 = some (.ireturn, 1) by decide +kernel) (by decide +kernel) g1 h)
/-- PatchBenchLaw.splits (LPatchBench;[IIII)Z -/
theorem lb264 {x2 : Int} {x3 : Int} {x4 : Int} {w : WS} {o : Ro} (h : (w.1[0]? = some (0, 12, [])) ∧ (0 ≤ (0 : Int) ∧ (0 : Int) < 12) ∧ (3 ≤ 2400) ∧ (∃ (v5 : Int) (s4 : Sg), Dc 191 [(.inr (.inr (some 0))), (.inl x2), (.inl x3), (.inl 1)] w.2.2 (.inl (some (.inl v5))) s4 ∧ (-2147483648 ≤ (v5 + 1) ∧ (v5 + 1) ≤ 2147483647) ∧ (0 < (v5 + 1)) ∧ (3 ≤ (2400 - 3)) ∧ (∃ (v11 : Int) (s10 : Sg), Dc 191 [(.inr (.inr (some 0))), (.inl x2), (.inl x3), (.inl 3)] (wS w s4).2.2 (.inl (some (.inl v11))) s10 ∧ (-2147483648 ≤ (v11 + 1) ∧ (v11 + 1) ≤ 2147483647) ∧ (0 < (v11 + 1)) ∧ (6 ≤ ((2400 - 3) - 3)) ∧ (∃ (v17 : Int) (w16 : WS), Lx 258 [(.inr (.inr (some 0))), (.inl x2), (.inl x3), (.inl (Int.tmod x4 (v5 + 1))), (.inl (Int.tmod (Int.tdiv x4 17) (v11 + 1))), (.inl 1)] (wS (wS w s4) s10) (.inl (some (.inl v17)), w16) ∧ (if v17 = (-2) then (0 ≤ (((2400 - 3) - 3) - 6)) ∧ (∃ (v21 : Int) (s20 : Sg), Dc 187 [(.inr (.inr (some 0)))] w16.2.2 (.inl (some (.inl v21))) s20 ∧ K264_70 (some (.inr (.inr (some 0)))) (some (.inr (.inr (some 682)))) (some (.inl x2)) (some (.inl x3)) (some (.inl x4)) (some (.inl (w.2.1 682 ((0 : Int)).toNat))) (some (.inl (Int.tmod x4 (v5 + 1)))) (some (.inl (Int.tmod (Int.tdiv x4 17) (v11 + 1)))) (some (.inl v17)) none (if v21 = (w.2.1 682 ((0 : Int)).toNat) then 1 else 0) (wS w16 s20) (((2400 - 3) - 3) - 6) o) else (w16.1[0]? = some (0, 12, [])) ∧ (0 ≤ (0 : Int) ∧ (0 : Int) < 12) ∧ (-2147483648 ≤ ((w16.2.1 682 ((0 : Int)).toNat) + 2) ∧ ((w16.2.1 682 ((0 : Int)).toNat) + 2) ≤ 2147483647) ∧ (w16.1[0]? = some (0, 12, [])) ∧ (0 ≤ (0 : Int) ∧ (0 : Int) < 12) ∧ (if v17 = (w.2.1 682 ((0 : Int)).toNat) then (6 ≤ (((2400 - 3) - 3) - 6)) ∧ (∃ (v32 : Int) (s31 : Sg), Dc 186 [(.inr (.inr (some 0))), (.inl x2), (.inl x3), (.inl (Int.tmod x4 (v5 + 1))), (.inl (Int.tmod (Int.tdiv x4 17) (v11 + 1))), (.inl 0)] (wU w16 682 ((0 : Int)).toNat ((w16.2.1 682 ((0 : Int)).toNat) + 2)).2.2 (.inl (some (.inl v32))) s31 ∧ (-2147483648 ≤ ((w.2.1 682 ((0 : Int)).toNat) + 1) ∧ ((w.2.1 682 ((0 : Int)).toNat) + 1) ≤ 2147483647) ∧ (if v32 = ((w.2.1 682 ((0 : Int)).toNat) + 1) then (200 ≤ ((((2400 - 3) - 3) - 6) - 6)) ∧ (∃ (v37 : Int) (w36 : WS), Lx 252 [(.inr (.inr (some 0))), (.inl (w.2.1 682 ((0 : Int)).toNat)), (.inl 0), (.inl x2), (.inl 0)] (wS (wU w16 682 ((0 : Int)).toNat ((w16.2.1 682 ((0 : Int)).toNat) + 2)) s31) (.inl (some (.inl v37)), w36) ∧ (if v37 = 0 then K264_148 (some (.inr (.inr (some 682)))) x2 (some (.inl x3)) (some (.inl x4)) (w.2.1 682 ((0 : Int)).toNat) (Int.tmod x4 (v5 + 1)) (Int.tmod (Int.tdiv x4 17) (v11 + 1)) (some (.inl v17)) none w36 (((((2400 - 3) - 3) - 6) - 6) - 200) o else (-2147483648 ≤ ((w.2.1 682 ((0 : Int)).toNat) + 1) ∧ ((w.2.1 682 ((0 : Int)).toNat) + 1) ≤ 2147483647) ∧ (200 ≤ (((((2400 - 3) - 3) - 6) - 6) - 200)) ∧ (∃ (v42 : Int) (w41 : WS), Lx 252 [(.inr (.inr (some 0))), (.inl (w.2.1 682 ((0 : Int)).toNat)), (.inl 1), (.inl ((w.2.1 682 ((0 : Int)).toNat) + 1)), (.inl 0)] w36 (.inl (some (.inl v42)), w41) ∧ (if v42 = 0 then K264_148 (some (.inr (.inr (some 682)))) x2 (some (.inl x3)) (some (.inl x4)) (w.2.1 682 ((0 : Int)).toNat) (Int.tmod x4 (v5 + 1)) (Int.tmod (Int.tdiv x4 17) (v11 + 1)) (some (.inl v17)) none w41 ((((((2400 - 3) - 3) - 6) - 6) - 200) - 200) o else (-2147483648 ≤ ((w.2.1 682 ((0 : Int)).toNat) + 1) ∧ ((w.2.1 682 ((0 : Int)).toNat) + 1) ≤ 2147483647) ∧ (200 ≤ ((((((2400 - 3) - 3) - 6) - 6) - 200) - 200)) ∧ (∃ (v47 : Int) (w46 : WS), Lx 252 [(.inr (.inr (some 0))), (.inl ((w.2.1 682 ((0 : Int)).toNat) + 1)), (.inl 1), (.inl x2), (.inl 1)] w41 (.inl (some (.inl v47)), w46) ∧ (if v47 = 0 then K264_148 (some (.inr (.inr (some 682)))) x2 (some (.inl x3)) (some (.inl x4)) (w.2.1 682 ((0 : Int)).toNat) (Int.tmod x4 (v5 + 1)) (Int.tmod (Int.tdiv x4 17) (v11 + 1)) (some (.inl v17)) none w46 (((((((2400 - 3) - 3) - 6) - 6) - 200) - 200) - 200) o else K264_149 (some (.inr (.inr (some 682)))) x2 (some (.inl x3)) (some (.inl x4)) (w.2.1 682 ((0 : Int)).toNat) (Int.tmod x4 (v5 + 1)) (Int.tmod (Int.tdiv x4 17) (v11 + 1)) (some (.inl v17)) none 1 w46 (((((((2400 - 3) - 3) - 6) - 6) - 200) - 200) - 200) o)))))) else K264_148 (some (.inr (.inr (some 682)))) x2 (some (.inl x3)) (some (.inl x4)) (w.2.1 682 ((0 : Int)).toNat) (Int.tmod x4 (v5 + 1)) (Int.tmod (Int.tdiv x4 17) (v11 + 1)) (some (.inl v17)) none (wS (wU w16 682 ((0 : Int)).toNat ((w16.2.1 682 ((0 : Int)).toNat) + 2)) s31) ((((2400 - 3) - 3) - 6) - 6) o)) else K264_148 (some (.inr (.inr (some 682)))) x2 (some (.inl x3)) (some (.inl x4)) (w.2.1 682 ((0 : Int)).toNat) (Int.tmod x4 (v5 + 1)) (Int.tmod (Int.tdiv x4 17) (v11 + 1)) (some (.inl v17)) none (wU w16 682 ((0 : Int)).toNat ((w16.2.1 682 ((0 : Int)).toNat) + 2)) (((2400 - 3) - 3) - 6) o)))))) : Lx 264 [(.inr (.inr (some 0))), (.inr (.inr (some 682))), (.inl x2), (.inl x3), (.inl x4)] w o := by
  refine Lx_of (l := 10) (r := 2400) (by decide +kernel) (by decide +kernel) ?_
  show Lg 264 0 [(some (.inr (.inr (some 0)))), (some (.inr (.inr (some 682)))), (some (.inl x2)), (some (.inl x3)), (some (.inl x4)), none, none, none, none, none] [] w 2400 o
  refine zq_aload_n 1 (show zop 264 0 = some (.aload_n 1, 1) by decide +kernel) rfl rfl ?_
  refine zq_iconst 2 (show zop 264 1 = some (.iconst 0, 1) by decide +kernel) rfl rfl ?_
  obtain ⟨g3, h⟩ := h
  obtain ⟨g1, h⟩ := h
  refine zq_iaload 3 12 (show zop 264 2 = some (.iaload, 1) by decide +kernel) rfl (by decide) g3 g1 ?_
  refine zq_istore 5 [(some (.inr (.inr (some 0)))), (some (.inr (.inr (some 682)))), (some (.inl x2)), (some (.inl x3)), (some (.inl x4)), (some (.inl (w.2.1 682 ((0 : Int)).toNat))), none, none, none, none] (show zop 264 3 = some (.istore 5, 2) by decide +kernel) rfl rfl rfl ?_
  refine zq_iload 7 (show zop 264 5 = some (.iload 4, 2) by decide +kernel) rfl rfl ?_
  refine zq_aload_n 8 (show zop 264 7 = some (.aload_n 0, 1) by decide +kernel) rfl rfl ?_
  refine zq_iload_n 9 (show zop 264 8 = some (.iload_n 2, 1) by decide +kernel) rfl rfl ?_
  refine zq_iload_n 10 (show zop 264 9 = some (.iload_n 3, 1) by decide +kernel) rfl rfl ?_
  refine zq_iconst 11 (show zop 264 10 = some (.iconst 1, 1) by decide +kernel) rfl rfl ?_
  obtain ⟨g7, h⟩ := h
  obtain ⟨v5, s4, hD6, h⟩ := h
  refine zq_vi (v := some (.inl v5)) (σ' := s4) (nj := 4) (j := 191) (c := 3) (t := [(.inl x4)]) (as := [(.inr (.inr (some 0))), (.inl x2), (.inl x3), (.inl 1)]) 14 [(.inl v5), (.inl x4)] (show zop 264 11 = some (.invokevirtual 98, 3) by decide +kernel) (by decide +kernel) rfl (by decide +kernel) rfl rfl rfl rfl rfl rfl (by decide +kernel) (by decide +kernel) (clS_0 rfl) hD6 rfl g7 ?_
  refine zq_iconst 15 (show zop 264 14 = some (.iconst 1, 1) by decide +kernel) rfl rfl ?_
  obtain ⟨g8, h⟩ := h
  refine zq_iadd 16 (show zop 264 15 = some (.iadd, 1) by decide +kernel) rfl g8 ?_
  obtain ⟨g9, h⟩ := h
  refine zq_irem 17 (show zop 264 16 = some (.irem, 1) by decide +kernel) rfl g9 ?_
  refine zq_istore 19 [(some (.inr (.inr (some 0)))), (some (.inr (.inr (some 682)))), (some (.inl x2)), (some (.inl x3)), (some (.inl x4)), (some (.inl (w.2.1 682 ((0 : Int)).toNat))), (some (.inl (Int.tmod x4 (v5 + 1)))), none, none, none] (show zop 264 17 = some (.istore 6, 2) by decide +kernel) rfl rfl rfl ?_
  refine zq_iload 21 (show zop 264 19 = some (.iload 4, 2) by decide +kernel) rfl rfl ?_
  refine zq_bipush 23 (show zop 264 21 = some (.bipush 17, 2) by decide +kernel) rfl (by decide) ?_
  refine zq_idiv 24 (show zop 264 23 = some (.idiv, 1) by decide +kernel) rfl (by decide) ?_
  refine zq_aload_n 25 (show zop 264 24 = some (.aload_n 0, 1) by decide +kernel) rfl rfl ?_
  refine zq_iload_n 26 (show zop 264 25 = some (.iload_n 2, 1) by decide +kernel) rfl rfl ?_
  refine zq_iload_n 27 (show zop 264 26 = some (.iload_n 3, 1) by decide +kernel) rfl rfl ?_
  refine zq_iconst 28 (show zop 264 27 = some (.iconst 3, 1) by decide +kernel) rfl rfl ?_
  obtain ⟨g13, h⟩ := h
  obtain ⟨v11, s10, hD12, h⟩ := h
  refine zq_vi (v := some (.inl v11)) (σ' := s10) (nj := 4) (j := 191) (c := 3) (t := [(.inl (Int.tdiv x4 17))]) (as := [(.inr (.inr (some 0))), (.inl x2), (.inl x3), (.inl 3)]) 31 [(.inl v11), (.inl (Int.tdiv x4 17))] (show zop 264 28 = some (.invokevirtual 98, 3) by decide +kernel) (by decide +kernel) rfl (by decide +kernel) rfl rfl rfl rfl rfl rfl (by decide +kernel) (by decide +kernel) (clS_0 rfl) hD12 rfl g13 ?_
  refine zq_iconst 32 (show zop 264 31 = some (.iconst 1, 1) by decide +kernel) rfl rfl ?_
  obtain ⟨g14, h⟩ := h
  refine zq_iadd 33 (show zop 264 32 = some (.iadd, 1) by decide +kernel) rfl g14 ?_
  obtain ⟨g15, h⟩ := h
  refine zq_irem 34 (show zop 264 33 = some (.irem, 1) by decide +kernel) rfl g15 ?_
  refine zq_istore 36 [(some (.inr (.inr (some 0)))), (some (.inr (.inr (some 682)))), (some (.inl x2)), (some (.inl x3)), (some (.inl x4)), (some (.inl (w.2.1 682 ((0 : Int)).toNat))), (some (.inl (Int.tmod x4 (v5 + 1)))), (some (.inl (Int.tmod (Int.tdiv x4 17) (v11 + 1)))), none, none] (show zop 264 34 = some (.istore 7, 2) by decide +kernel) rfl rfl rfl ?_
  refine zq_aload_n 37 (show zop 264 36 = some (.aload_n 0, 1) by decide +kernel) rfl rfl ?_
  refine zq_iload_n 38 (show zop 264 37 = some (.iload_n 2, 1) by decide +kernel) rfl rfl ?_
  refine zq_iload_n 39 (show zop 264 38 = some (.iload_n 3, 1) by decide +kernel) rfl rfl ?_
  refine zq_iload 41 (show zop 264 39 = some (.iload 6, 2) by decide +kernel) rfl rfl ?_
  refine zq_iload 43 (show zop 264 41 = some (.iload 7, 2) by decide +kernel) rfl rfl ?_
  refine zq_iconst 44 (show zop 264 43 = some (.iconst 1, 1) by decide +kernel) rfl rfl ?_
  obtain ⟨g19, h⟩ := h
  obtain ⟨v17, w16, hD18, h⟩ := h
  refine zq_lx (v := some (.inl v17)) (w' := w16) (nj := 6) (j := 258) (c := 6) (t := []) (as := [(.inr (.inr (some 0))), (.inl x2), (.inl x3), (.inl (Int.tmod x4 (v5 + 1))), (.inl (Int.tmod (Int.tdiv x4 17) (v11 + 1))), (.inl 1)]) 47 [(.inl v17)] (show zop 264 44 = some (.invokestatic 187, 3) by decide +kernel) (by decide +kernel) rfl (by decide +kernel) (by decide +kernel) rfl rfl rfl rfl rfl hD18 rfl g19 ?_
  refine zq_istore 49 [(some (.inr (.inr (some 0)))), (some (.inr (.inr (some 682)))), (some (.inl x2)), (some (.inl x3)), (some (.inl x4)), (some (.inl (w.2.1 682 ((0 : Int)).toNat))), (some (.inl (Int.tmod x4 (v5 + 1)))), (some (.inl (Int.tmod (Int.tdiv x4 17) (v11 + 1)))), (some (.inl v17)), none] (show zop 264 47 = some (.istore 8, 2) by decide +kernel) rfl rfl rfl ?_
  refine zq_iload 51 (show zop 264 49 = some (.iload 8, 2) by decide +kernel) rfl rfl ?_
  refine zq_bipush 53 (show zop 264 51 = some (.bipush (-2), 2) by decide +kernel) rfl (by decide) ?_
  by_cases hc50 : v17 = (-2)
  · rw [if_pos hc50] at h
    refine zq_icmpF 56 71 (show zop 264 53 = some (.if_icmp .ne 18, 3) by decide +kernel) rfl rfl (decide_eq_false (fun h9 => h9 hc50)) ?_
    refine zq_aload_n 57 (show zop 264 56 = some (.aload_n 0, 1) by decide +kernel) rfl rfl ?_
    obtain ⟨g23, h⟩ := h
    obtain ⟨v21, s20, hD22, h⟩ := h
    refine zq_vi (v := some (.inl v21)) (σ' := s20) (nj := 1) (j := 187) (c := 0) (t := []) (as := [(.inr (.inr (some 0)))]) 60 [(.inl v21)] (show zop 264 57 = some (.invokevirtual 113, 3) by decide +kernel) (by decide +kernel) rfl (by decide +kernel) rfl rfl rfl rfl rfl rfl (by decide +kernel) (by decide +kernel) (clS_0 rfl) hD22 rfl g23 ?_
    refine zq_iload 62 (show zop 264 60 = some (.iload 5, 2) by decide +kernel) rfl rfl ?_
    by_cases hc51 : v21 = (w.2.1 682 ((0 : Int)).toNat)
    · refine zq_icmpF 65 69 (show zop 264 62 = some (.if_icmp .ne 7, 3) by decide +kernel) rfl rfl (decide_eq_false (fun h9 => h9 hc51)) ?_
      refine zq_iconst 66 (show zop 264 65 = some (.iconst 1, 1) by decide +kernel) rfl rfl ?_
      refine zq_goto 70 (show zop 264 66 = some (.goto 4, 3) by decide +kernel) rfl ?_
      have h9 := h; simp only [if_pos hc51] at h9; exact h9
    · refine zq_icmpT 69 (show zop 264 62 = some (.if_icmp .ne 7, 3) by decide +kernel) rfl (decide_eq_true hc51) ?_
      refine zq_iconst 70 (show zop 264 69 = some (.iconst 0, 1) by decide +kernel) rfl rfl ?_
      have h9 := h; simp only [if_neg hc51] at h9; exact h9
  · rw [if_neg hc50] at h
    refine zq_icmpT 71 (show zop 264 53 = some (.if_icmp .ne 18, 3) by decide +kernel) rfl (decide_eq_true hc50) ?_
    refine zq_aload_n 72 (show zop 264 71 = some (.aload_n 1, 1) by decide +kernel) rfl rfl ?_
    refine zq_iconst 73 (show zop 264 72 = some (.iconst 0, 1) by decide +kernel) rfl rfl ?_
    refine zq_dup2 74 (show zop 264 73 = some (.dup2, 1) by decide +kernel) rfl rfl rfl ?_
    obtain ⟨g26, h⟩ := h
    obtain ⟨g24, h⟩ := h
    refine zq_iaload 75 12 (show zop 264 74 = some (.iaload, 1) by decide +kernel) rfl (by decide) g26 g24 ?_
    refine zq_iconst 76 (show zop 264 75 = some (.iconst 2, 1) by decide +kernel) rfl rfl ?_
    obtain ⟨g27, h⟩ := h
    refine zq_iadd 77 (show zop 264 76 = some (.iadd, 1) by decide +kernel) rfl g27 ?_
    obtain ⟨g30, h⟩ := h
    obtain ⟨g28, h⟩ := h
    refine zq_iastore 78 12 (show zop 264 77 = some (.iastore, 1) by decide +kernel) rfl (by decide) g30 g28 ?_
    refine zq_iload 80 (show zop 264 78 = some (.iload 8, 2) by decide +kernel) rfl rfl ?_
    refine zq_iload 82 (show zop 264 80 = some (.iload 5, 2) by decide +kernel) rfl rfl ?_
    by_cases hc52 : v17 = (w.2.1 682 ((0 : Int)).toNat)
    · rw [if_pos hc52] at h
      refine zq_icmpF 85 148 (show zop 264 82 = some (.if_icmp .ne 66, 3) by decide +kernel) rfl rfl (decide_eq_false (fun h9 => h9 hc52)) ?_
      refine zq_aload_n 86 (show zop 264 85 = some (.aload_n 0, 1) by decide +kernel) rfl rfl ?_
      refine zq_iload_n 87 (show zop 264 86 = some (.iload_n 2, 1) by decide +kernel) rfl rfl ?_
      refine zq_iload_n 88 (show zop 264 87 = some (.iload_n 3, 1) by decide +kernel) rfl rfl ?_
      refine zq_iload 90 (show zop 264 88 = some (.iload 6, 2) by decide +kernel) rfl rfl ?_
      refine zq_iload 92 (show zop 264 90 = some (.iload 7, 2) by decide +kernel) rfl rfl ?_
      refine zq_iconst 93 (show zop 264 92 = some (.iconst 0, 1) by decide +kernel) rfl rfl ?_
      obtain ⟨g34, h⟩ := h
      obtain ⟨v32, s31, hD33, h⟩ := h
      refine zq_vi (v := some (.inl v32)) (σ' := s31) (nj := 6) (j := 186) (c := 6) (t := []) (as := [(.inr (.inr (some 0))), (.inl x2), (.inl x3), (.inl (Int.tmod x4 (v5 + 1))), (.inl (Int.tmod (Int.tdiv x4 17) (v11 + 1))), (.inl 0)]) 96 [(.inl v32)] (show zop 264 93 = some (.invokevirtual 151, 3) by decide +kernel) (by decide +kernel) rfl (by decide +kernel) rfl rfl rfl rfl rfl rfl (by decide +kernel) (by decide +kernel) (clS_0 rfl) hD33 rfl g34 ?_
      refine zq_iload 98 (show zop 264 96 = some (.iload 5, 2) by decide +kernel) rfl rfl ?_
      refine zq_iconst 99 (show zop 264 98 = some (.iconst 1, 1) by decide +kernel) rfl rfl ?_
      obtain ⟨g35, h⟩ := h
      refine zq_iadd 100 (show zop 264 99 = some (.iadd, 1) by decide +kernel) rfl g35 ?_
      by_cases hc53 : v32 = ((w.2.1 682 ((0 : Int)).toNat) + 1)
      · rw [if_pos hc53] at h
        refine zq_icmpF 103 148 (show zop 264 100 = some (.if_icmp .ne 48, 3) by decide +kernel) rfl rfl (decide_eq_false (fun h9 => h9 hc53)) ?_
        refine zq_aload_n 104 (show zop 264 103 = some (.aload_n 0, 1) by decide +kernel) rfl rfl ?_
        refine zq_iload 106 (show zop 264 104 = some (.iload 5, 2) by decide +kernel) rfl rfl ?_
        refine zq_iconst 107 (show zop 264 106 = some (.iconst 0, 1) by decide +kernel) rfl rfl ?_
        refine zq_iload_n 108 (show zop 264 107 = some (.iload_n 2, 1) by decide +kernel) rfl rfl ?_
        refine zq_iconst 109 (show zop 264 108 = some (.iconst 0, 1) by decide +kernel) rfl rfl ?_
        obtain ⟨g39, h⟩ := h
        obtain ⟨v37, w36, hD38, h⟩ := h
        refine zq_lx (v := some (.inl v37)) (w' := w36) (nj := 5) (j := 252) (c := 200) (t := []) (as := [(.inr (.inr (some 0))), (.inl (w.2.1 682 ((0 : Int)).toNat)), (.inl 0), (.inl x2), (.inl 0)]) 112 [(.inl v37)] (show zop 264 109 = some (.invokestatic 134, 3) by decide +kernel) (by decide +kernel) rfl (by decide +kernel) (by decide +kernel) rfl rfl rfl rfl rfl hD38 rfl g39 ?_
        by_cases hc54 : v37 = 0
        · rw [if_pos hc54] at h
          refine zq_ifT 148 (show zop 264 112 = some (.ifCond .eq 36, 3) by decide +kernel) rfl (decide_eq_true hc54) ?_
          exact h
        · rw [if_neg hc54] at h
          refine zq_ifF 115 148 (show zop 264 112 = some (.ifCond .eq 36, 3) by decide +kernel) rfl rfl (decide_eq_false hc54) ?_
          refine zq_aload_n 116 (show zop 264 115 = some (.aload_n 0, 1) by decide +kernel) rfl rfl ?_
          refine zq_iload 118 (show zop 264 116 = some (.iload 5, 2) by decide +kernel) rfl rfl ?_
          refine zq_iconst 119 (show zop 264 118 = some (.iconst 1, 1) by decide +kernel) rfl rfl ?_
          refine zq_iload 121 (show zop 264 119 = some (.iload 5, 2) by decide +kernel) rfl rfl ?_
          refine zq_iconst 122 (show zop 264 121 = some (.iconst 1, 1) by decide +kernel) rfl rfl ?_
          obtain ⟨g40, h⟩ := h
          refine zq_iadd 123 (show zop 264 122 = some (.iadd, 1) by decide +kernel) rfl g40 ?_
          refine zq_iconst 124 (show zop 264 123 = some (.iconst 0, 1) by decide +kernel) rfl rfl ?_
          obtain ⟨g44, h⟩ := h
          obtain ⟨v42, w41, hD43, h⟩ := h
          refine zq_lx (v := some (.inl v42)) (w' := w41) (nj := 5) (j := 252) (c := 200) (t := []) (as := [(.inr (.inr (some 0))), (.inl (w.2.1 682 ((0 : Int)).toNat)), (.inl 1), (.inl ((w.2.1 682 ((0 : Int)).toNat) + 1)), (.inl 0)]) 127 [(.inl v42)] (show zop 264 124 = some (.invokestatic 134, 3) by decide +kernel) (by decide +kernel) rfl (by decide +kernel) (by decide +kernel) rfl rfl rfl rfl rfl hD43 rfl g44 ?_
          by_cases hc55 : v42 = 0
          · rw [if_pos hc55] at h
            refine zq_ifT 148 (show zop 264 127 = some (.ifCond .eq 21, 3) by decide +kernel) rfl (decide_eq_true hc55) ?_
            exact h
          · rw [if_neg hc55] at h
            refine zq_ifF 130 148 (show zop 264 127 = some (.ifCond .eq 21, 3) by decide +kernel) rfl rfl (decide_eq_false hc55) ?_
            refine zq_aload_n 131 (show zop 264 130 = some (.aload_n 0, 1) by decide +kernel) rfl rfl ?_
            refine zq_iload 133 (show zop 264 131 = some (.iload 5, 2) by decide +kernel) rfl rfl ?_
            refine zq_iconst 134 (show zop 264 133 = some (.iconst 1, 1) by decide +kernel) rfl rfl ?_
            obtain ⟨g45, h⟩ := h
            refine zq_iadd 135 (show zop 264 134 = some (.iadd, 1) by decide +kernel) rfl g45 ?_
            refine zq_iconst 136 (show zop 264 135 = some (.iconst 1, 1) by decide +kernel) rfl rfl ?_
            refine zq_iload_n 137 (show zop 264 136 = some (.iload_n 2, 1) by decide +kernel) rfl rfl ?_
            refine zq_iconst 138 (show zop 264 137 = some (.iconst 1, 1) by decide +kernel) rfl rfl ?_
            obtain ⟨g49, h⟩ := h
            obtain ⟨v47, w46, hD48, h⟩ := h
            refine zq_lx (v := some (.inl v47)) (w' := w46) (nj := 5) (j := 252) (c := 200) (t := []) (as := [(.inr (.inr (some 0))), (.inl ((w.2.1 682 ((0 : Int)).toNat) + 1)), (.inl 1), (.inl x2), (.inl 1)]) 141 [(.inl v47)] (show zop 264 138 = some (.invokestatic 134, 3) by decide +kernel) (by decide +kernel) rfl (by decide +kernel) (by decide +kernel) rfl rfl rfl rfl rfl hD48 rfl g49 ?_
            by_cases hc56 : v47 = 0
            · rw [if_pos hc56] at h
              refine zq_ifT 148 (show zop 264 141 = some (.ifCond .eq 7, 3) by decide +kernel) rfl (decide_eq_true hc56) ?_
              exact h
            · rw [if_neg hc56] at h
              refine zq_ifF 144 148 (show zop 264 141 = some (.ifCond .eq 7, 3) by decide +kernel) rfl rfl (decide_eq_false hc56) ?_
              refine zq_iconst 145 (show zop 264 144 = some (.iconst 1, 1) by decide +kernel) rfl rfl ?_
              refine zq_goto 149 (show zop 264 145 = some (.goto 4, 3) by decide +kernel) rfl ?_
              exact h
      · rw [if_neg hc53] at h
        refine zq_icmpT 148 (show zop 264 100 = some (.if_icmp .ne 48, 3) by decide +kernel) rfl (decide_eq_true hc53) ?_
        exact h
    · rw [if_neg hc52] at h
      refine zq_icmpT 148 (show zop 264 82 = some (.if_icmp .ne 66, 3) by decide +kernel) rfl (decide_eq_true hc52) ?_
      exact h
def K265_4 (x1 : Int) (x2 : Int) (x3 : Int) (w : WS) (r : Nat) (o : Ro) : Prop := Lg 265 4 [(some (.inr (.inr (some 0)))), (some (.inl x1)), (some (.inl x2)), (some (.inl x3))] [] w r o
def K265_45 (x1 : Int) (x2 : Int) (x3 : Int) (w : WS) (r : Nat) (o : Ro) : Prop := Lg 265 45 [(some (.inr (.inr (some 0)))), (some (.inl x1)), (some (.inl x2)), (some (.inl x3))] [] w r o
def K265_31 (x1 : Int) (d2 : Option AV) (x3 : Int) (w : WS) (r : Nat) (o : Ro) : Prop := Lg 265 31 [(some (.inr (.inr (some 0)))), (some (.inl x1)), d2, (some (.inl x3))] [] w r o
def K265_36 (x1 : Int) (d2 : Option AV) (x3 : Int) (y0 : Int) (w : WS) (r : Nat) (o : Ro) : Prop := Lg 265 36 [(some (.inr (.inr (some 0)))), (some (.inl x1)), d2, (some (.inl x3))] [(.inl y0)] w r o
def K265_72 (x1 : Int) (d2 : Option AV) (x3 : Int) (w : WS) (r : Nat) (o : Ro) : Prop := Lg 265 72 [(some (.inr (.inr (some 0)))), (some (.inl x1)), d2, (some (.inl x3))] [] w r o
def K265_77 (x1 : Int) (d2 : Option AV) (x3 : Int) (y0 : Int) (w : WS) (r : Nat) (o : Ro) : Prop := Lg 265 77 [(some (.inr (.inr (some 0)))), (some (.inl x1)), d2, (some (.inl x3))] [(.inl y0)] w r o
theorem bK265_4 {x1 : Int} {x2 : Int} {x3 : Int} {w : WS} {r : Nat} {o : Ro} (h : (2 ≤ r) ∧ (∃ (v2 : Int) (s1 : Sg), Dc 188 [(.inr (.inr (some 0))), (.inl x1), (.inl 0), (.inl x3)] w.2.2 (.inl (some (.inl v2))) s1 ∧ (if v2 = (-1) then K265_45 x1 x2 0 (wS w s1) (r - 2) o else (if x2 = 0 then (2 ≤ (r - 2)) ∧ (∃ (v6 : Int) (s5 : Sg), Dc 188 [(.inr (.inr (some 0))), (.inl x1), (.inl 0), (.inl x3)] (wS w s1).2.2 (.inl (some (.inl v6))) s5 ∧ (if 50000 < v6 then K265_31 x1 (some (.inl x2)) x3 (wS (wS w s1) s5) ((r - 2) - 2) o else K265_36 x1 (some (.inl x2)) x3 0 (wS (wS w s1) s5) ((r - 2) - 2) o)) else K265_31 x1 (some (.inl x2)) x3 (wS w s1) (r - 2) o)))) : K265_4 x1 x2 x3 w r o := by
  show Lg 265 4 [(some (.inr (.inr (some 0)))), (some (.inl x1)), (some (.inl x2)), (some (.inl x3))] [] w r o
  refine zq_aload_n 5 (show zop 265 4 = some (.aload_n 0, 1) by decide +kernel) rfl rfl ?_
  refine zq_iload_n 6 (show zop 265 5 = some (.iload_n 1, 1) by decide +kernel) rfl rfl ?_
  refine zq_iconst 7 (show zop 265 6 = some (.iconst 0, 1) by decide +kernel) rfl rfl ?_
  refine zq_iload_n 8 (show zop 265 7 = some (.iload_n 3, 1) by decide +kernel) rfl rfl ?_
  obtain ⟨g4, h⟩ := h
  obtain ⟨v2, s1, hD3, h⟩ := h
  refine zq_vi (v := some (.inl v2)) (σ' := s1) (nj := 4) (j := 188) (c := 2) (t := []) (as := [(.inr (.inr (some 0))), (.inl x1), (.inl 0), (.inl x3)]) 11 [(.inl v2)] (show zop 265 8 = some (.invokevirtual 87, 3) by decide +kernel) (by decide +kernel) rfl (by decide +kernel) rfl rfl rfl rfl rfl rfl (by decide +kernel) (by decide +kernel) (clS_0 rfl) hD3 rfl g4 ?_
  refine zq_iconst 12 (show zop 265 11 = some (.iconst (-1), 1) by decide +kernel) rfl rfl ?_
  by_cases hc9 : v2 = (-1)
  · rw [if_pos hc9] at h
    refine zq_icmpT 43 (show zop 265 12 = some (.if_icmp .eq 31, 3) by decide +kernel) rfl (decide_eq_true hc9) ?_
    refine zq_iconst 44 (show zop 265 43 = some (.iconst 0, 1) by decide +kernel) rfl rfl ?_
    refine zq_istore_n 45 [(some (.inr (.inr (some 0)))), (some (.inl x1)), (some (.inl x2)), (some (.inl 0))] (show zop 265 44 = some (.istore_n 3, 1) by decide +kernel) rfl rfl rfl ?_
    exact h
  · rw [if_neg hc9] at h
    refine zq_icmpF 15 43 (show zop 265 12 = some (.if_icmp .eq 31, 3) by decide +kernel) rfl rfl (decide_eq_false hc9) ?_
    refine zq_iload_n 16 (show zop 265 15 = some (.iload_n 2, 1) by decide +kernel) rfl rfl ?_
    by_cases hc10 : x2 = 0
    · rw [if_pos hc10] at h
      refine zq_ifF 19 31 (show zop 265 16 = some (.ifCond .ne 15, 3) by decide +kernel) rfl rfl (decide_eq_false (fun h9 => h9 hc10)) ?_
      refine zq_aload_n 20 (show zop 265 19 = some (.aload_n 0, 1) by decide +kernel) rfl rfl ?_
      refine zq_iload_n 21 (show zop 265 20 = some (.iload_n 1, 1) by decide +kernel) rfl rfl ?_
      refine zq_iconst 22 (show zop 265 21 = some (.iconst 0, 1) by decide +kernel) rfl rfl ?_
      refine zq_iload_n 23 (show zop 265 22 = some (.iload_n 3, 1) by decide +kernel) rfl rfl ?_
      obtain ⟨g8, h⟩ := h
      obtain ⟨v6, s5, hD7, h⟩ := h
      refine zq_vi (v := some (.inl v6)) (σ' := s5) (nj := 4) (j := 188) (c := 2) (t := []) (as := [(.inr (.inr (some 0))), (.inl x1), (.inl 0), (.inl x3)]) 26 [(.inl v6)] (show zop 265 23 = some (.invokevirtual 87, 3) by decide +kernel) (by decide +kernel) rfl (by decide +kernel) rfl rfl rfl rfl rfl rfl (by decide +kernel) (by decide +kernel) (clS_0 rfl) hD7 rfl g8 ?_
      refine zq_ldc (v := 50000) 28 (show zop 265 26 = some (.ldc 191, 2) by decide +kernel) rfl (by decide +kernel) rfl ?_
      by_cases hc11 : 50000 < v6
      · rw [if_pos hc11] at h
        refine zq_icmpF 31 35 (show zop 265 28 = some (.if_icmp .le 7, 3) by decide +kernel) rfl rfl (decide_eq_false (Int.not_le.mpr hc11)) ?_
        exact h
      · rw [if_neg hc11] at h
        refine zq_icmpT 35 (show zop 265 28 = some (.if_icmp .le 7, 3) by decide +kernel) rfl (decide_eq_true (Int.not_lt.mp hc11)) ?_
        refine zq_iconst 36 (show zop 265 35 = some (.iconst 0, 1) by decide +kernel) rfl rfl ?_
        exact h
    · rw [if_neg hc10] at h
      refine zq_ifT 31 (show zop 265 16 = some (.ifCond .ne 15, 3) by decide +kernel) rfl (decide_eq_true hc10) ?_
      exact h
theorem bK265_45 {x1 : Int} {x2 : Int} {x3 : Int} {w : WS} {r : Nat} {o : Ro} (h : (2 ≤ r) ∧ (∃ (v2 : Int) (s1 : Sg), Dc 188 [(.inr (.inr (some 0))), (.inl x1), (.inl 1), (.inl x3)] w.2.2 (.inl (some (.inl v2))) s1 ∧ (if v2 = (-1) then (x2 = 0 ∨ x2 = 1) ∧ o = (.inl (some (.inl x2)), (wS w s1)) else (if x2 = 0 then (2 ≤ (r - 2)) ∧ (∃ (v7 : Int) (s6 : Sg), Dc 188 [(.inr (.inr (some 0))), (.inl x1), (.inl 1), (.inl x3)] (wS w s1).2.2 (.inl (some (.inl v7))) s6 ∧ (if 50000 < v7 then K265_72 x1 (some (.inl x2)) x3 (wS (wS w s1) s6) ((r - 2) - 2) o else K265_77 x1 (some (.inl x2)) x3 0 (wS (wS w s1) s6) ((r - 2) - 2) o)) else K265_72 x1 (some (.inl x2)) x3 (wS w s1) (r - 2) o)))) : K265_45 x1 x2 x3 w r o := by
  show Lg 265 45 [(some (.inr (.inr (some 0)))), (some (.inl x1)), (some (.inl x2)), (some (.inl x3))] [] w r o
  refine zq_aload_n 46 (show zop 265 45 = some (.aload_n 0, 1) by decide +kernel) rfl rfl ?_
  refine zq_iload_n 47 (show zop 265 46 = some (.iload_n 1, 1) by decide +kernel) rfl rfl ?_
  refine zq_iconst 48 (show zop 265 47 = some (.iconst 1, 1) by decide +kernel) rfl rfl ?_
  refine zq_iload_n 49 (show zop 265 48 = some (.iload_n 3, 1) by decide +kernel) rfl rfl ?_
  obtain ⟨g4, h⟩ := h
  obtain ⟨v2, s1, hD3, h⟩ := h
  refine zq_vi (v := some (.inl v2)) (σ' := s1) (nj := 4) (j := 188) (c := 2) (t := []) (as := [(.inr (.inr (some 0))), (.inl x1), (.inl 1), (.inl x3)]) 52 [(.inl v2)] (show zop 265 49 = some (.invokevirtual 87, 3) by decide +kernel) (by decide +kernel) rfl (by decide +kernel) rfl rfl rfl rfl rfl rfl (by decide +kernel) (by decide +kernel) (clS_0 rfl) hD3 rfl g4 ?_
  refine zq_iconst 53 (show zop 265 52 = some (.iconst (-1), 1) by decide +kernel) rfl rfl ?_
  by_cases hc10 : v2 = (-1)
  · rw [if_pos hc10] at h
    refine zq_icmpT 84 (show zop 265 53 = some (.if_icmp .eq 31, 3) by decide +kernel) rfl (decide_eq_true hc10) ?_
    refine zq_iload_n 85 (show zop 265 84 = some (.iload_n 2, 1) by decide +kernel) rfl rfl ?_
    obtain ⟨g5, h⟩ := h
    exact (zq_zret (show zop 265 85 = some (.ireturn, 1) by decide +kernel) (by decide +kernel) g5 h)
  · rw [if_neg hc10] at h
    refine zq_icmpF 56 84 (show zop 265 53 = some (.if_icmp .eq 31, 3) by decide +kernel) rfl rfl (decide_eq_false hc10) ?_
    refine zq_iload_n 57 (show zop 265 56 = some (.iload_n 2, 1) by decide +kernel) rfl rfl ?_
    by_cases hc11 : x2 = 0
    · rw [if_pos hc11] at h
      refine zq_ifF 60 72 (show zop 265 57 = some (.ifCond .ne 15, 3) by decide +kernel) rfl rfl (decide_eq_false (fun h9 => h9 hc11)) ?_
      refine zq_aload_n 61 (show zop 265 60 = some (.aload_n 0, 1) by decide +kernel) rfl rfl ?_
      refine zq_iload_n 62 (show zop 265 61 = some (.iload_n 1, 1) by decide +kernel) rfl rfl ?_
      refine zq_iconst 63 (show zop 265 62 = some (.iconst 1, 1) by decide +kernel) rfl rfl ?_
      refine zq_iload_n 64 (show zop 265 63 = some (.iload_n 3, 1) by decide +kernel) rfl rfl ?_
      obtain ⟨g9, h⟩ := h
      obtain ⟨v7, s6, hD8, h⟩ := h
      refine zq_vi (v := some (.inl v7)) (σ' := s6) (nj := 4) (j := 188) (c := 2) (t := []) (as := [(.inr (.inr (some 0))), (.inl x1), (.inl 1), (.inl x3)]) 67 [(.inl v7)] (show zop 265 64 = some (.invokevirtual 87, 3) by decide +kernel) (by decide +kernel) rfl (by decide +kernel) rfl rfl rfl rfl rfl rfl (by decide +kernel) (by decide +kernel) (clS_0 rfl) hD8 rfl g9 ?_
      refine zq_ldc (v := 50000) 69 (show zop 265 67 = some (.ldc 191, 2) by decide +kernel) rfl (by decide +kernel) rfl ?_
      by_cases hc12 : 50000 < v7
      · rw [if_pos hc12] at h
        refine zq_icmpF 72 76 (show zop 265 69 = some (.if_icmp .le 7, 3) by decide +kernel) rfl rfl (decide_eq_false (Int.not_le.mpr hc12)) ?_
        exact h
      · rw [if_neg hc12] at h
        refine zq_icmpT 76 (show zop 265 69 = some (.if_icmp .le 7, 3) by decide +kernel) rfl (decide_eq_true (Int.not_lt.mp hc12)) ?_
        refine zq_iconst 77 (show zop 265 76 = some (.iconst 0, 1) by decide +kernel) rfl rfl ?_
        exact h
    · rw [if_neg hc11] at h
      refine zq_ifT 72 (show zop 265 57 = some (.ifCond .ne 15, 3) by decide +kernel) rfl (decide_eq_true hc11) ?_
      exact h
theorem bK265_31 {x1 : Int} {d2 : Option AV} {x3 : Int} {w : WS} {r : Nat} {o : Ro} (h : K265_36 x1 d2 x3 1 w r o) : K265_31 x1 d2 x3 w r o := by
  show Lg 265 31 [(some (.inr (.inr (some 0)))), (some (.inl x1)), d2, (some (.inl x3))] [] w r o
  refine zq_iconst 32 (show zop 265 31 = some (.iconst 1, 1) by decide +kernel) rfl rfl ?_
  refine zq_goto 36 (show zop 265 32 = some (.goto 4, 3) by decide +kernel) rfl ?_
  exact h
theorem bK265_36 {x1 : Int} {d2 : Option AV} {x3 : Int} {y0 : Int} {w : WS} {r : Nat} {o : Ro} (h : (-2147483648 ≤ (x3 + 1) ∧ (x3 + 1) ≤ 2147483647) ∧ K265_4 x1 y0 (x3 + 1) w r o) : K265_36 x1 d2 x3 y0 w r o := by
  show Lg 265 36 [(some (.inr (.inr (some 0)))), (some (.inl x1)), d2, (some (.inl x3))] [(.inl y0)] w r o
  refine zq_istore_n 37 [(some (.inr (.inr (some 0)))), (some (.inl x1)), (some (.inl y0)), (some (.inl x3))] (show zop 265 36 = some (.istore_n 2, 1) by decide +kernel) rfl rfl rfl ?_
  obtain ⟨g1, h⟩ := h
  refine zq_iinc 40 [(some (.inr (.inr (some 0)))), (some (.inl x1)), (some (.inl y0)), (some (.inl (x3 + 1)))] (show zop 265 37 = some (.iinc 3 1, 3) by decide +kernel) rfl rfl g1 rfl ?_
  refine zq_goto 4 (show zop 265 40 = some (.goto (-36), 3) by decide +kernel) rfl ?_
  exact h
theorem bK265_72 {x1 : Int} {d2 : Option AV} {x3 : Int} {w : WS} {r : Nat} {o : Ro} (h : K265_77 x1 d2 x3 1 w r o) : K265_72 x1 d2 x3 w r o := by
  show Lg 265 72 [(some (.inr (.inr (some 0)))), (some (.inl x1)), d2, (some (.inl x3))] [] w r o
  refine zq_iconst 73 (show zop 265 72 = some (.iconst 1, 1) by decide +kernel) rfl rfl ?_
  refine zq_goto 77 (show zop 265 73 = some (.goto 4, 3) by decide +kernel) rfl ?_
  exact h
theorem bK265_77 {x1 : Int} {d2 : Option AV} {x3 : Int} {y0 : Int} {w : WS} {r : Nat} {o : Ro} (h : (-2147483648 ≤ (x3 + 1) ∧ (x3 + 1) ≤ 2147483647) ∧ K265_45 x1 y0 (x3 + 1) w r o) : K265_77 x1 d2 x3 y0 w r o := by
  show Lg 265 77 [(some (.inr (.inr (some 0)))), (some (.inl x1)), d2, (some (.inl x3))] [(.inl y0)] w r o
  refine zq_istore_n 78 [(some (.inr (.inr (some 0)))), (some (.inl x1)), (some (.inl y0)), (some (.inl x3))] (show zop 265 77 = some (.istore_n 2, 1) by decide +kernel) rfl rfl rfl ?_
  obtain ⟨g1, h⟩ := h
  refine zq_iinc 81 [(some (.inr (.inr (some 0)))), (some (.inl x1)), (some (.inl y0)), (some (.inl (x3 + 1)))] (show zop 265 78 = some (.iinc 3 1, 3) by decide +kernel) rfl rfl g1 rfl ?_
  refine zq_goto 45 (show zop 265 81 = some (.goto (-36), 3) by decide +kernel) rfl ?_
  exact h
/-- PatchBenchLaw.hasMarks (LPatchBench;I)Z -/
theorem lb265 {x1 : Int} {w : WS} {o : Ro} (h : K265_4 x1 0 0 w 150 o) : Lx 265 [(.inr (.inr (some 0))), (.inl x1)] w o := by
  refine Lx_of (l := 4) (r := 150) (by decide +kernel) (by decide +kernel) ?_
  show Lg 265 0 [(some (.inr (.inr (some 0)))), (some (.inl x1)), none, none] [] w 150 o
  refine zq_iconst 1 (show zop 265 0 = some (.iconst 0, 1) by decide +kernel) rfl rfl ?_
  refine zq_istore_n 2 [(some (.inr (.inr (some 0)))), (some (.inl x1)), (some (.inl 0)), none] (show zop 265 1 = some (.istore_n 2, 1) by decide +kernel) rfl rfl rfl ?_
  refine zq_iconst 3 (show zop 265 2 = some (.iconst 0, 1) by decide +kernel) rfl rfl ?_
  refine zq_istore_n 4 [(some (.inr (.inr (some 0)))), (some (.inl x1)), (some (.inl 0)), (some (.inl 0))] (show zop 265 3 = some (.istore_n 3, 1) by decide +kernel) rfl rfl rfl ?_
  exact h
def K266_19 (d1 : Option AV) (x2 : Int) (x3 : Int) (x4 : Int) (x5 : Int) (d6 : Option AV) (d7 : Option AV) (d8 : Option AV) (d9 : Option AV) (d10 : Option AV) (y1 : Int) (y2 : Int) (w : WS) (r : Nat) (o : Ro) : Prop := Lg 266 19 [(some (.inr (.inr (some 0)))), d1, (some (.inl x2)), (some (.inl x3)), (some (.inl x4)), (some (.inl x5)), d6, d7, d8, d9, d10] [(.inl y2), (.inl y1), (.inr (.inr (some 682)))] w r o
def K266_46 (d1 : Option AV) (x2 : Int) (x3 : Int) (x4 : Int) (x5 : Int) (d6 : Option AV) (d7 : Option AV) (d8 : Option AV) (d9 : Option AV) (d10 : Option AV) (w : WS) (r : Nat) (o : Ro) : Prop := Lg 266 46 [(some (.inr (.inr (some 0)))), d1, (some (.inl x2)), (some (.inl x3)), (some (.inl x4)), (some (.inl x5)), d6, d7, d8, d9, d10] [] w r o
def K266_47 (d1 : Option AV) (x2 : Int) (x3 : Int) (x4 : Int) (x5 : Int) (d6 : Option AV) (d7 : Option AV) (d8 : Option AV) (d9 : Option AV) (d10 : Option AV) (y0 : Int) (w : WS) (r : Nat) (o : Ro) : Prop := Lg 266 47 [(some (.inr (.inr (some 0)))), d1, (some (.inl x2)), (some (.inl x3)), (some (.inl x4)), (some (.inl x5)), d6, d7, d8, d9, d10] [(.inl y0)] w r o
def K266_86 (d0 : Option AV) (d1 : Option AV) (d2 : Option AV) (d3 : Option AV) (d4 : Option AV) (d5 : Option AV) (d6 : Option AV) (d7 : Option AV) (d8 : Option AV) (d9 : Option AV) (d10 : Option AV) (w : WS) (r : Nat) (o : Ro) : Prop := Lg 266 86 [d0, d1, d2, d3, d4, d5, d6, d7, d8, d9, d10] [] w r o
def K266_87 (d0 : Option AV) (d1 : Option AV) (d2 : Option AV) (d3 : Option AV) (d4 : Option AV) (d5 : Option AV) (d6 : Option AV) (d7 : Option AV) (d8 : Option AV) (d9 : Option AV) (d10 : Option AV) (y0 : Int) (w : WS) (r : Nat) (o : Ro) : Prop := Lg 266 87 [d0, d1, d2, d3, d4, d5, d6, d7, d8, d9, d10] [(.inl y0)] w r o
def K266_115 (d0 : Option AV) (d1 : Option AV) (d2 : Option AV) (d3 : Option AV) (d4 : Option AV) (d5 : Option AV) (d6 : Option AV) (d7 : Option AV) (d8 : Option AV) (d9 : Option AV) (d10 : Option AV) (w : WS) (r : Nat) (o : Ro) : Prop := Lg 266 115 [d0, d1, d2, d3, d4, d5, d6, d7, d8, d9, d10] [] w r o
def K266_116 (d0 : Option AV) (d1 : Option AV) (d2 : Option AV) (d3 : Option AV) (d4 : Option AV) (d5 : Option AV) (d6 : Option AV) (d7 : Option AV) (d8 : Option AV) (d9 : Option AV) (d10 : Option AV) (y0 : Int) (w : WS) (r : Nat) (o : Ro) : Prop := Lg 266 116 [d0, d1, d2, d3, d4, d5, d6, d7, d8, d9, d10] [(.inl y0)] w r o
def K266_157 (d1 : Option AV) (x2 : Int) (x3 : Int) (x4 : Int) (x5 : Int) (d6 : Option AV) (d7 : Option AV) (x8 : Int) (d9 : Option AV) (d10 : Option AV) (w : WS) (r : Nat) (o : Ro) : Prop := Lg 266 157 [(some (.inr (.inr (some 0)))), d1, (some (.inl x2)), (some (.inl x3)), (some (.inl x4)), (some (.inl x5)), d6, d7, (some (.inl x8)), d9, d10] [] w r o
def K266_153 (d1 : Option AV) (x2 : Int) (x3 : Int) (x4 : Int) (x5 : Int) (d6 : Option AV) (d7 : Option AV) (x8 : Int) (d9 : Option AV) (d10 : Option AV) (w : WS) (r : Nat) (o : Ro) : Prop := Lg 266 153 [(some (.inr (.inr (some 0)))), d1, (some (.inl x2)), (some (.inl x3)), (some (.inl x4)), (some (.inl x5)), d6, d7, (some (.inl x8)), d9, d10] [] w r o
def K266_158 (d1 : Option AV) (x2 : Int) (x3 : Int) (x4 : Int) (x5 : Int) (d6 : Option AV) (d7 : Option AV) (x8 : Int) (d9 : Option AV) (d10 : Option AV) (y0 : Int) (w : WS) (r : Nat) (o : Ro) : Prop := Lg 266 158 [(some (.inr (.inr (some 0)))), d1, (some (.inl x2)), (some (.inl x3)), (some (.inl x4)), (some (.inl x5)), d6, d7, (some (.inl x8)), d9, d10] [(.inl y0)] w r o
def K266_168 (d1 : Option AV) (x2 : Int) (x3 : Int) (x4 : Int) (x5 : Int) (x6 : Int) (d7 : Option AV) (x8 : Int) (x9 : Int) (d10 : Option AV) (w : WS) (r : Nat) (o : Ro) : Prop := Lg 266 168 [(some (.inr (.inr (some 0)))), d1, (some (.inl x2)), (some (.inl x3)), (some (.inl x4)), (some (.inl x5)), (some (.inl x6)), d7, (some (.inl x8)), (some (.inl x9)), d10] [] w r o
def K266_308 (d0 : Option AV) (d1 : Option AV) (d2 : Option AV) (d3 : Option AV) (d4 : Option AV) (d5 : Option AV) (x6 : Int) (d7 : Option AV) (d8 : Option AV) (d9 : Option AV) (d10 : Option AV) (w : WS) (r : Nat) (o : Ro) : Prop := Lg 266 308 [d0, d1, d2, d3, d4, d5, (some (.inl x6)), d7, d8, d9, d10] [] w r o
def K266_236 (d1 : Option AV) (x2 : Int) (x3 : Int) (x4 : Int) (x5 : Int) (d6 : Option AV) (d7 : Option AV) (x8 : Int) (d9 : Option AV) (x10 : Int) (y0 : Int) (w : WS) (r : Nat) (o : Ro) : Prop := Lg 266 236 [(some (.inr (.inr (some 0)))), d1, (some (.inl x2)), (some (.inl x3)), (some (.inl x4)), (some (.inl x5)), d6, d7, (some (.inl x8)), d9, (some (.inl x10))] [(.inl y0)] w r o
def K266_235 (d1 : Option AV) (x2 : Int) (x3 : Int) (x4 : Int) (x5 : Int) (d6 : Option AV) (d7 : Option AV) (x8 : Int) (d9 : Option AV) (x10 : Int) (w : WS) (r : Nat) (o : Ro) : Prop := Lg 266 235 [(some (.inr (.inr (some 0)))), d1, (some (.inl x2)), (some (.inl x3)), (some (.inl x4)), (some (.inl x5)), d6, d7, (some (.inl x8)), d9, (some (.inl x10))] [] w r o
def K266_294 (d1 : Option AV) (x2 : Int) (x3 : Int) (x4 : Int) (x5 : Int) (d6 : Option AV) (d7 : Option AV) (d8 : Option AV) (x9 : Int) (d10 : Option AV) (w : WS) (r : Nat) (o : Ro) : Prop := Lg 266 294 [(some (.inr (.inr (some 0)))), d1, (some (.inl x2)), (some (.inl x3)), (some (.inl x4)), (some (.inl x5)), d6, d7, d8, (some (.inl x9)), d10] [] w r o
def K266_290 (d1 : Option AV) (x2 : Int) (x3 : Int) (x4 : Int) (x5 : Int) (d6 : Option AV) (d7 : Option AV) (d8 : Option AV) (x9 : Int) (d10 : Option AV) (w : WS) (r : Nat) (o : Ro) : Prop := Lg 266 290 [(some (.inr (.inr (some 0)))), d1, (some (.inl x2)), (some (.inl x3)), (some (.inl x4)), (some (.inl x5)), d6, d7, d8, (some (.inl x9)), d10] [] w r o
def K266_263 (d1 : Option AV) (x2 : Int) (x3 : Int) (x4 : Int) (x5 : Int) (d6 : Option AV) (d7 : Option AV) (x8 : Int) (x9 : Int) (d10 : Option AV) (w : WS) (r : Nat) (o : Ro) : Prop := Lg 266 263 [(some (.inr (.inr (some 0)))), d1, (some (.inl x2)), (some (.inl x3)), (some (.inl x4)), (some (.inl x5)), d6, d7, (some (.inl x8)), (some (.inl x9)), d10] [] w r o
def K266_295 (d1 : Option AV) (x2 : Int) (x3 : Int) (x4 : Int) (x5 : Int) (d6 : Option AV) (d7 : Option AV) (d8 : Option AV) (x9 : Int) (d10 : Option AV) (y0 : Int) (w : WS) (r : Nat) (o : Ro) : Prop := Lg 266 295 [(some (.inr (.inr (some 0)))), d1, (some (.inl x2)), (some (.inl x3)), (some (.inl x4)), (some (.inl x5)), d6, d7, d8, (some (.inl x9)), d10] [(.inl y0)] w r o
theorem bK266_19 {d1 : Option AV} {x2 : Int} {x3 : Int} {x4 : Int} {x5 : Int} {d6 : Option AV} {d7 : Option AV} {d8 : Option AV} {d9 : Option AV} {d10 : Option AV} {y1 : Int} {y2 : Int} {w : WS} {r : Nat} {o : Ro} (h : (w.1[0]? = some (0, 12, [])) ∧ (0 ≤ y1 ∧ y1 < 12) ∧ (5 ≤ r) ∧ (∃ (v5 : Int) (s4 : Sg), Dc 197 [(.inr (.inr (some 0))), (.inl x2), (.inl x2), (.inl x4)] (wU w 682 (y1).toNat y2).2.2 (.inl (some (.inl v5))) s4 ∧ (if v5 = 0 then (150 ≤ (r - 5)) ∧ (∃ (v9 : Int) (w8 : WS), Lx 251 [(.inr (.inr (some 0))), (.inl x2), (.inl 1), (.inl x4)] (wS (wU w 682 (y1).toNat y2) s4) (.inl (some (.inl v9)), w8) ∧ (if v9 = 0 then K266_46 d1 x2 x3 x4 x5 d6 d7 d8 d9 d10 w8 ((r - 5) - 150) o else K266_47 d1 x2 x3 x4 x5 d6 d7 d8 d9 d10 1 w8 ((r - 5) - 150) o)) else K266_46 d1 x2 x3 x4 x5 d6 d7 d8 d9 d10 (wS (wU w 682 (y1).toNat y2) s4) (r - 5) o))) : K266_19 d1 x2 x3 x4 x5 d6 d7 d8 d9 d10 y1 y2 w r o := by
  show Lg 266 19 [(some (.inr (.inr (some 0)))), d1, (some (.inl x2)), (some (.inl x3)), (some (.inl x4)), (some (.inl x5)), d6, d7, d8, d9, d10] [(.inl y2), (.inl y1), (.inr (.inr (some 682)))] w r o
  obtain ⟨g3, h⟩ := h
  obtain ⟨g1, h⟩ := h
  refine zq_iastore 20 12 (show zop 266 19 = some (.iastore, 1) by decide +kernel) rfl (by decide) g3 g1 ?_
  refine zq_aload_n 21 (show zop 266 20 = some (.aload_n 0, 1) by decide +kernel) rfl rfl ?_
  refine zq_iload_n 22 (show zop 266 21 = some (.iload_n 2, 1) by decide +kernel) rfl rfl ?_
  refine zq_iload_n 23 (show zop 266 22 = some (.iload_n 2, 1) by decide +kernel) rfl rfl ?_
  refine zq_iload 25 (show zop 266 23 = some (.iload 4, 2) by decide +kernel) rfl rfl ?_
  obtain ⟨g7, h⟩ := h
  obtain ⟨v5, s4, hD6, h⟩ := h
  refine zq_vi (v := some (.inl v5)) (σ' := s4) (nj := 4) (j := 197) (c := 5) (t := []) (as := [(.inr (.inr (some 0))), (.inl x2), (.inl x2), (.inl x4)]) 28 [(.inl v5)] (show zop 266 25 = some (.invokevirtual 155, 3) by decide +kernel) (by decide +kernel) rfl (by decide +kernel) rfl rfl rfl rfl rfl rfl (by decide +kernel) (by decide +kernel) (clS_0 rfl) hD6 rfl g7 ?_
  by_cases hc12 : v5 = 0
  · rw [if_pos hc12] at h
    refine zq_ifF 31 46 (show zop 266 28 = some (.ifCond .ne 18, 3) by decide +kernel) rfl rfl (decide_eq_false (fun h9 => h9 hc12)) ?_
    refine zq_aload_n 32 (show zop 266 31 = some (.aload_n 0, 1) by decide +kernel) rfl rfl ?_
    refine zq_iload_n 33 (show zop 266 32 = some (.iload_n 2, 1) by decide +kernel) rfl rfl ?_
    refine zq_iconst 34 (show zop 266 33 = some (.iconst 1, 1) by decide +kernel) rfl rfl ?_
    refine zq_iload 36 (show zop 266 34 = some (.iload 4, 2) by decide +kernel) rfl rfl ?_
    obtain ⟨g11, h⟩ := h
    obtain ⟨v9, w8, hD10, h⟩ := h
    refine zq_lx (v := some (.inl v9)) (w' := w8) (nj := 4) (j := 251) (c := 150) (t := []) (as := [(.inr (.inr (some 0))), (.inl x2), (.inl 1), (.inl x4)]) 39 [(.inl v9)] (show zop 266 36 = some (.invokestatic 117, 3) by decide +kernel) (by decide +kernel) rfl (by decide +kernel) (by decide +kernel) rfl rfl rfl rfl rfl hD10 rfl g11 ?_
    by_cases hc13 : v9 = 0
    · rw [if_pos hc13] at h
      refine zq_ifT 46 (show zop 266 39 = some (.ifCond .eq 7, 3) by decide +kernel) rfl (decide_eq_true hc13) ?_
      exact h
    · rw [if_neg hc13] at h
      refine zq_ifF 42 46 (show zop 266 39 = some (.ifCond .eq 7, 3) by decide +kernel) rfl rfl (decide_eq_false hc13) ?_
      refine zq_iconst 43 (show zop 266 42 = some (.iconst 1, 1) by decide +kernel) rfl rfl ?_
      refine zq_goto 47 (show zop 266 43 = some (.goto 4, 3) by decide +kernel) rfl ?_
      exact h
  · rw [if_neg hc12] at h
    refine zq_ifT 46 (show zop 266 28 = some (.ifCond .ne 18, 3) by decide +kernel) rfl (decide_eq_true hc12) ?_
    exact h
theorem bK266_46 {d1 : Option AV} {x2 : Int} {x3 : Int} {x4 : Int} {x5 : Int} {d6 : Option AV} {d7 : Option AV} {d8 : Option AV} {d9 : Option AV} {d10 : Option AV} {w : WS} {r : Nat} {o : Ro} (h : K266_47 d1 x2 x3 x4 x5 d6 d7 d8 d9 d10 0 w r o) : K266_46 d1 x2 x3 x4 x5 d6 d7 d8 d9 d10 w r o := by
  show Lg 266 46 [(some (.inr (.inr (some 0)))), d1, (some (.inl x2)), (some (.inl x3)), (some (.inl x4)), (some (.inl x5)), d6, d7, d8, d9, d10] [] w r o
  refine zq_iconst 47 (show zop 266 46 = some (.iconst 0, 1) by decide +kernel) rfl rfl ?_
  exact h
theorem bK266_47 {d1 : Option AV} {x2 : Int} {x3 : Int} {x4 : Int} {x5 : Int} {d6 : Option AV} {d7 : Option AV} {d8 : Option AV} {d9 : Option AV} {d10 : Option AV} {y0 : Int} {w : WS} {r : Nat} {o : Ro} (h : (5 ≤ r) ∧ (∃ (v2 : Int) (w1 : WS), Lx 259 [(.inr (.inr (some 0))), (.inl x2), (.inl x3), (.inl x4)] w (.inl (some (.inl v2)), w1) ∧ (200 ≤ (r - 5)) ∧ (∃ (v6 : Int) (w5 : WS), Lx 252 [(.inr (.inr (some 0))), (.inl x2), (.inl 0), (.inl x3), (.inl 0)] w1 (.inl (some (.inl v6)), w5) ∧ (if v6 = 0 then (if y0 = 0 then K266_86 (some (.inr (.inr (some 0)))) d1 (some (.inl x2)) (some (.inl x3)) (some (.inl x4)) (some (.inl x5)) (some (.inl y0)) (some (.inl v2)) d8 d9 d10 w5 ((r - 5) - 200) o else (if v2 = (-2) then K266_87 (some (.inr (.inr (some 0)))) d1 (some (.inl x2)) (some (.inl x3)) (some (.inl x4)) (some (.inl x5)) (some (.inl y0)) (some (.inl v2)) d8 d9 d10 1 w5 ((r - 5) - 200) o else K266_86 (some (.inr (.inr (some 0)))) d1 (some (.inl x2)) (some (.inl x3)) (some (.inl x4)) (some (.inl x5)) (some (.inl y0)) (some (.inl v2)) d8 d9 d10 w5 ((r - 5) - 200) o)) else (if v2 = (-2) then (if y0 = 0 then K266_115 (some (.inr (.inr (some 0)))) d1 (some (.inl x2)) (some (.inl x3)) (some (.inl x4)) (some (.inl x5)) (some (.inl y0)) (some (.inl v2)) d8 d9 d10 w5 ((r - 5) - 200) o else (150 ≤ ((r - 5) - 200)) ∧ (∃ (v10 : Int) (w9 : WS), Lx 251 [(.inr (.inr (some 0))), (.inl x2), (.inl 1), (.inl x4)] w5 (.inl (some (.inl v10)), w9) ∧ (if v10 = 0 then K266_115 (some (.inr (.inr (some 0)))) d1 (some (.inl x2)) (some (.inl x3)) (some (.inl x4)) (some (.inl x5)) (some (.inl y0)) (some (.inl v2)) d8 d9 d10 w9 (((r - 5) - 200) - 150) o else K266_116 (some (.inr (.inr (some 0)))) d1 (some (.inl x2)) (some (.inl x3)) (some (.inl x4)) (some (.inl x5)) (some (.inl y0)) (some (.inl v2)) d8 d9 d10 1 w9 (((r - 5) - 200) - 150) o))) else (1 ≤ ((r - 5) - 200)) ∧ (∃ (v14 : Int) (s13 : Sg), Dc 198 [(.inr (.inr (some 0))), (.inl x4)] w5.2.2 (.inl (some (.inl v14))) s13 ∧ (if y0 = 0 then K266_157 d1 x2 x3 x4 x5 (some (.inl y0)) (some (.inl v2)) v14 d9 d10 (wS w5 s13) (((r - 5) - 200) - 1) o else (150 ≤ (((r - 5) - 200) - 1)) ∧ (∃ (v18 : Int) (w17 : WS), Lx 265 [(.inr (.inr (some 0))), (.inl x2)] (wS w5 s13) (.inl (some (.inl v18)), w17) ∧ (if v18 = 0 then (150 ≤ ((((r - 5) - 200) - 1) - 150)) ∧ (∃ (v22 : Int) (w21 : WS), Lx 265 [(.inr (.inr (some 0))), (.inl x3)] w17 (.inl (some (.inl v22)), w21) ∧ (if v22 = 0 then (if v14 = v2 then K266_153 d1 x2 x3 x4 x5 (some (.inl y0)) (some (.inl v2)) v14 d9 d10 w21 (((((r - 5) - 200) - 1) - 150) - 150) o else K266_157 d1 x2 x3 x4 x5 (some (.inl y0)) (some (.inl v2)) v14 d9 d10 w21 (((((r - 5) - 200) - 1) - 150) - 150) o) else K266_153 d1 x2 x3 x4 x5 (some (.inl y0)) (some (.inl v2)) v14 d9 d10 w21 (((((r - 5) - 200) - 1) - 150) - 150) o)) else K266_153 d1 x2 x3 x4 x5 (some (.inl y0)) (some (.inl v2)) v14 d9 d10 w17 ((((r - 5) - 200) - 1) - 150) o))))))))) : K266_47 d1 x2 x3 x4 x5 d6 d7 d8 d9 d10 y0 w r o := by
  show Lg 266 47 [(some (.inr (.inr (some 0)))), d1, (some (.inl x2)), (some (.inl x3)), (some (.inl x4)), (some (.inl x5)), d6, d7, d8, d9, d10] [(.inl y0)] w r o
  refine zq_istore 49 [(some (.inr (.inr (some 0)))), d1, (some (.inl x2)), (some (.inl x3)), (some (.inl x4)), (some (.inl x5)), (some (.inl y0)), d7, d8, d9, d10] (show zop 266 47 = some (.istore 6, 2) by decide +kernel) rfl rfl rfl ?_
  refine zq_aload_n 50 (show zop 266 49 = some (.aload_n 0, 1) by decide +kernel) rfl rfl ?_
  refine zq_iload_n 51 (show zop 266 50 = some (.iload_n 2, 1) by decide +kernel) rfl rfl ?_
  refine zq_iload_n 52 (show zop 266 51 = some (.iload_n 3, 1) by decide +kernel) rfl rfl ?_
  refine zq_iload 54 (show zop 266 52 = some (.iload 4, 2) by decide +kernel) rfl rfl ?_
  obtain ⟨g4, h⟩ := h
  obtain ⟨v2, w1, hD3, h⟩ := h
  refine zq_lx (v := some (.inl v2)) (w' := w1) (nj := 4) (j := 259) (c := 5) (t := []) (as := [(.inr (.inr (some 0))), (.inl x2), (.inl x3), (.inl x4)]) 57 [(.inl v2)] (show zop 266 54 = some (.invokestatic 192, 3) by decide +kernel) (by decide +kernel) rfl (by decide +kernel) (by decide +kernel) rfl rfl rfl rfl rfl hD3 rfl g4 ?_
  refine zq_istore 59 [(some (.inr (.inr (some 0)))), d1, (some (.inl x2)), (some (.inl x3)), (some (.inl x4)), (some (.inl x5)), (some (.inl y0)), (some (.inl v2)), d8, d9, d10] (show zop 266 57 = some (.istore 7, 2) by decide +kernel) rfl rfl rfl ?_
  refine zq_aload_n 60 (show zop 266 59 = some (.aload_n 0, 1) by decide +kernel) rfl rfl ?_
  refine zq_iload_n 61 (show zop 266 60 = some (.iload_n 2, 1) by decide +kernel) rfl rfl ?_
  refine zq_iconst 62 (show zop 266 61 = some (.iconst 0, 1) by decide +kernel) rfl rfl ?_
  refine zq_iload_n 63 (show zop 266 62 = some (.iload_n 3, 1) by decide +kernel) rfl rfl ?_
  refine zq_iconst 64 (show zop 266 63 = some (.iconst 0, 1) by decide +kernel) rfl rfl ?_
  obtain ⟨g8, h⟩ := h
  obtain ⟨v6, w5, hD7, h⟩ := h
  refine zq_lx (v := some (.inl v6)) (w' := w5) (nj := 5) (j := 252) (c := 200) (t := []) (as := [(.inr (.inr (some 0))), (.inl x2), (.inl 0), (.inl x3), (.inl 0)]) 67 [(.inl v6)] (show zop 266 64 = some (.invokestatic 134, 3) by decide +kernel) (by decide +kernel) rfl (by decide +kernel) (by decide +kernel) rfl rfl rfl rfl rfl hD7 rfl g8 ?_
  by_cases hc25 : v6 = 0
  · rw [if_pos hc25] at h
    refine zq_ifF 70 88 (show zop 266 67 = some (.ifCond .ne 21, 3) by decide +kernel) rfl rfl (decide_eq_false (fun h9 => h9 hc25)) ?_
    refine zq_iload 72 (show zop 266 70 = some (.iload 6, 2) by decide +kernel) rfl rfl ?_
    by_cases hc26 : y0 = 0
    · rw [if_pos hc26] at h
      refine zq_ifT 86 (show zop 266 72 = some (.ifCond .eq 14, 3) by decide +kernel) rfl (decide_eq_true hc26) ?_
      exact h
    · rw [if_neg hc26] at h
      refine zq_ifF 75 86 (show zop 266 72 = some (.ifCond .eq 14, 3) by decide +kernel) rfl rfl (decide_eq_false hc26) ?_
      refine zq_iload 77 (show zop 266 75 = some (.iload 7, 2) by decide +kernel) rfl rfl ?_
      refine zq_bipush 79 (show zop 266 77 = some (.bipush (-2), 2) by decide +kernel) rfl (by decide) ?_
      by_cases hc27 : v2 = (-2)
      · rw [if_pos hc27] at h
        refine zq_icmpF 82 86 (show zop 266 79 = some (.if_icmp .ne 7, 3) by decide +kernel) rfl rfl (decide_eq_false (fun h9 => h9 hc27)) ?_
        refine zq_iconst 83 (show zop 266 82 = some (.iconst 1, 1) by decide +kernel) rfl rfl ?_
        refine zq_goto 87 (show zop 266 83 = some (.goto 4, 3) by decide +kernel) rfl ?_
        exact h
      · rw [if_neg hc27] at h
        refine zq_icmpT 86 (show zop 266 79 = some (.if_icmp .ne 7, 3) by decide +kernel) rfl (decide_eq_true hc27) ?_
        exact h
  · rw [if_neg hc25] at h
    refine zq_ifT 88 (show zop 266 67 = some (.ifCond .ne 21, 3) by decide +kernel) rfl (decide_eq_true hc25) ?_
    refine zq_iload 90 (show zop 266 88 = some (.iload 7, 2) by decide +kernel) rfl rfl ?_
    refine zq_bipush 92 (show zop 266 90 = some (.bipush (-2), 2) by decide +kernel) rfl (by decide) ?_
    by_cases hc28 : v2 = (-2)
    · rw [if_pos hc28] at h
      refine zq_icmpF 95 117 (show zop 266 92 = some (.if_icmp .ne 25, 3) by decide +kernel) rfl rfl (decide_eq_false (fun h9 => h9 hc28)) ?_
      refine zq_iload 97 (show zop 266 95 = some (.iload 6, 2) by decide +kernel) rfl rfl ?_
      by_cases hc29 : y0 = 0
      · rw [if_pos hc29] at h
        refine zq_ifT 115 (show zop 266 97 = some (.ifCond .eq 18, 3) by decide +kernel) rfl (decide_eq_true hc29) ?_
        exact h
      · rw [if_neg hc29] at h
        refine zq_ifF 100 115 (show zop 266 97 = some (.ifCond .eq 18, 3) by decide +kernel) rfl rfl (decide_eq_false hc29) ?_
        refine zq_aload_n 101 (show zop 266 100 = some (.aload_n 0, 1) by decide +kernel) rfl rfl ?_
        refine zq_iload_n 102 (show zop 266 101 = some (.iload_n 2, 1) by decide +kernel) rfl rfl ?_
        refine zq_iconst 103 (show zop 266 102 = some (.iconst 1, 1) by decide +kernel) rfl rfl ?_
        refine zq_iload 105 (show zop 266 103 = some (.iload 4, 2) by decide +kernel) rfl rfl ?_
        obtain ⟨g12, h⟩ := h
        obtain ⟨v10, w9, hD11, h⟩ := h
        refine zq_lx (v := some (.inl v10)) (w' := w9) (nj := 4) (j := 251) (c := 150) (t := []) (as := [(.inr (.inr (some 0))), (.inl x2), (.inl 1), (.inl x4)]) 108 [(.inl v10)] (show zop 266 105 = some (.invokestatic 117, 3) by decide +kernel) (by decide +kernel) rfl (by decide +kernel) (by decide +kernel) rfl rfl rfl rfl rfl hD11 rfl g12 ?_
        by_cases hc30 : v10 = 0
        · rw [if_pos hc30] at h
          refine zq_ifT 115 (show zop 266 108 = some (.ifCond .eq 7, 3) by decide +kernel) rfl (decide_eq_true hc30) ?_
          exact h
        · rw [if_neg hc30] at h
          refine zq_ifF 111 115 (show zop 266 108 = some (.ifCond .eq 7, 3) by decide +kernel) rfl rfl (decide_eq_false hc30) ?_
          refine zq_iconst 112 (show zop 266 111 = some (.iconst 1, 1) by decide +kernel) rfl rfl ?_
          refine zq_goto 116 (show zop 266 112 = some (.goto 4, 3) by decide +kernel) rfl ?_
          exact h
    · rw [if_neg hc28] at h
      refine zq_icmpT 117 (show zop 266 92 = some (.if_icmp .ne 25, 3) by decide +kernel) rfl (decide_eq_true hc28) ?_
      refine zq_aload_n 118 (show zop 266 117 = some (.aload_n 0, 1) by decide +kernel) rfl rfl ?_
      refine zq_iload 120 (show zop 266 118 = some (.iload 4, 2) by decide +kernel) rfl rfl ?_
      obtain ⟨g16, h⟩ := h
      obtain ⟨v14, s13, hD15, h⟩ := h
      refine zq_vi (v := some (.inl v14)) (σ' := s13) (nj := 2) (j := 198) (c := 1) (t := []) (as := [(.inr (.inr (some 0))), (.inl x4)]) 123 [(.inl v14)] (show zop 266 120 = some (.invokevirtual 196, 3) by decide +kernel) (by decide +kernel) rfl (by decide +kernel) rfl rfl rfl rfl rfl rfl (by decide +kernel) (by decide +kernel) (clS_0 rfl) hD15 rfl g16 ?_
      refine zq_istore 125 [(some (.inr (.inr (some 0)))), d1, (some (.inl x2)), (some (.inl x3)), (some (.inl x4)), (some (.inl x5)), (some (.inl y0)), (some (.inl v2)), (some (.inl v14)), d9, d10] (show zop 266 123 = some (.istore 8, 2) by decide +kernel) rfl rfl rfl ?_
      refine zq_iload 127 (show zop 266 125 = some (.iload 6, 2) by decide +kernel) rfl rfl ?_
      by_cases hc31 : y0 = 0
      · rw [if_pos hc31] at h
        refine zq_ifT 157 (show zop 266 127 = some (.ifCond .eq 30, 3) by decide +kernel) rfl (decide_eq_true hc31) ?_
        exact h
      · rw [if_neg hc31] at h
        refine zq_ifF 130 157 (show zop 266 127 = some (.ifCond .eq 30, 3) by decide +kernel) rfl rfl (decide_eq_false hc31) ?_
        refine zq_aload_n 131 (show zop 266 130 = some (.aload_n 0, 1) by decide +kernel) rfl rfl ?_
        refine zq_iload_n 132 (show zop 266 131 = some (.iload_n 2, 1) by decide +kernel) rfl rfl ?_
        obtain ⟨g20, h⟩ := h
        obtain ⟨v18, w17, hD19, h⟩ := h
        refine zq_lx (v := some (.inl v18)) (w' := w17) (nj := 2) (j := 265) (c := 150) (t := []) (as := [(.inr (.inr (some 0))), (.inl x2)]) 135 [(.inl v18)] (show zop 266 132 = some (.invokestatic 199, 3) by decide +kernel) (by decide +kernel) rfl (by decide +kernel) (by decide +kernel) rfl rfl rfl rfl rfl hD19 rfl g20 ?_
        by_cases hc32 : v18 = 0
        · rw [if_pos hc32] at h
          refine zq_ifF 138 153 (show zop 266 135 = some (.ifCond .ne 18, 3) by decide +kernel) rfl rfl (decide_eq_false (fun h9 => h9 hc32)) ?_
          refine zq_aload_n 139 (show zop 266 138 = some (.aload_n 0, 1) by decide +kernel) rfl rfl ?_
          refine zq_iload_n 140 (show zop 266 139 = some (.iload_n 3, 1) by decide +kernel) rfl rfl ?_
          obtain ⟨g24, h⟩ := h
          obtain ⟨v22, w21, hD23, h⟩ := h
          refine zq_lx (v := some (.inl v22)) (w' := w21) (nj := 2) (j := 265) (c := 150) (t := []) (as := [(.inr (.inr (some 0))), (.inl x3)]) 143 [(.inl v22)] (show zop 266 140 = some (.invokestatic 199, 3) by decide +kernel) (by decide +kernel) rfl (by decide +kernel) (by decide +kernel) rfl rfl rfl rfl rfl hD23 rfl g24 ?_
          by_cases hc33 : v22 = 0
          · rw [if_pos hc33] at h
            refine zq_ifF 146 153 (show zop 266 143 = some (.ifCond .ne 10, 3) by decide +kernel) rfl rfl (decide_eq_false (fun h9 => h9 hc33)) ?_
            refine zq_iload 148 (show zop 266 146 = some (.iload 8, 2) by decide +kernel) rfl rfl ?_
            refine zq_iload 150 (show zop 266 148 = some (.iload 7, 2) by decide +kernel) rfl rfl ?_
            by_cases hc34 : v14 = v2
            · rw [if_pos hc34] at h
              refine zq_icmpF 153 157 (show zop 266 150 = some (.if_icmp .ne 7, 3) by decide +kernel) rfl rfl (decide_eq_false (fun h9 => h9 hc34)) ?_
              exact h
            · rw [if_neg hc34] at h
              refine zq_icmpT 157 (show zop 266 150 = some (.if_icmp .ne 7, 3) by decide +kernel) rfl (decide_eq_true hc34) ?_
              exact h
          · rw [if_neg hc33] at h
            refine zq_ifT 153 (show zop 266 143 = some (.ifCond .ne 10, 3) by decide +kernel) rfl (decide_eq_true hc33) ?_
            exact h
        · rw [if_neg hc32] at h
          refine zq_ifT 153 (show zop 266 135 = some (.ifCond .ne 18, 3) by decide +kernel) rfl (decide_eq_true hc32) ?_
          exact h
theorem bK266_86 {d0 : Option AV} {d1 : Option AV} {d2 : Option AV} {d3 : Option AV} {d4 : Option AV} {d5 : Option AV} {d6 : Option AV} {d7 : Option AV} {d8 : Option AV} {d9 : Option AV} {d10 : Option AV} {w : WS} {r : Nat} {o : Ro} (h : K266_87 d0 d1 d2 d3 d4 d5 d6 d7 d8 d9 d10 0 w r o) : K266_86 d0 d1 d2 d3 d4 d5 d6 d7 d8 d9 d10 w r o := by
  show Lg 266 86 [d0, d1, d2, d3, d4, d5, d6, d7, d8, d9, d10] [] w r o
  refine zq_iconst 87 (show zop 266 86 = some (.iconst 0, 1) by decide +kernel) rfl rfl ?_
  exact h
theorem bK266_87 {d0 : Option AV} {d1 : Option AV} {d2 : Option AV} {d3 : Option AV} {d4 : Option AV} {d5 : Option AV} {d6 : Option AV} {d7 : Option AV} {d8 : Option AV} {d9 : Option AV} {d10 : Option AV} {y0 : Int} {w : WS} {r : Nat} {o : Ro} (h : (y0 = 0 ∨ y0 = 1) ∧ o = (.inl (some (.inl y0)), w)) : K266_87 d0 d1 d2 d3 d4 d5 d6 d7 d8 d9 d10 y0 w r o := by
  show Lg 266 87 [d0, d1, d2, d3, d4, d5, d6, d7, d8, d9, d10] [(.inl y0)] w r o
  obtain ⟨g1, h⟩ := h
  exact (zq_zret (show zop 266 87 = some (.ireturn, 1) by decide +kernel) (by decide +kernel) g1 h)
theorem bK266_115 {d0 : Option AV} {d1 : Option AV} {d2 : Option AV} {d3 : Option AV} {d4 : Option AV} {d5 : Option AV} {d6 : Option AV} {d7 : Option AV} {d8 : Option AV} {d9 : Option AV} {d10 : Option AV} {w : WS} {r : Nat} {o : Ro} (h : K266_116 d0 d1 d2 d3 d4 d5 d6 d7 d8 d9 d10 0 w r o) : K266_115 d0 d1 d2 d3 d4 d5 d6 d7 d8 d9 d10 w r o := by
  show Lg 266 115 [d0, d1, d2, d3, d4, d5, d6, d7, d8, d9, d10] [] w r o
  refine zq_iconst 116 (show zop 266 115 = some (.iconst 0, 1) by decide +kernel) rfl rfl ?_
  exact h
theorem bK266_116 {d0 : Option AV} {d1 : Option AV} {d2 : Option AV} {d3 : Option AV} {d4 : Option AV} {d5 : Option AV} {d6 : Option AV} {d7 : Option AV} {d8 : Option AV} {d9 : Option AV} {d10 : Option AV} {y0 : Int} {w : WS} {r : Nat} {o : Ro} (h : (y0 = 0 ∨ y0 = 1) ∧ o = (.inl (some (.inl y0)), w)) : K266_116 d0 d1 d2 d3 d4 d5 d6 d7 d8 d9 d10 y0 w r o := by
  show Lg 266 116 [d0, d1, d2, d3, d4, d5, d6, d7, d8, d9, d10] [(.inl y0)] w r o
  obtain ⟨g1, h⟩ := h
  exact (zq_zret (show zop 266 116 = some (.ireturn, 1) by decide +kernel) (by decide +kernel) g1 h)
theorem bK266_157 {d1 : Option AV} {x2 : Int} {x3 : Int} {x4 : Int} {x5 : Int} {d6 : Option AV} {d7 : Option AV} {x8 : Int} {d9 : Option AV} {d10 : Option AV} {w : WS} {r : Nat} {o : Ro} (h : K266_158 d1 x2 x3 x4 x5 d6 d7 x8 d9 d10 0 w r o) : K266_157 d1 x2 x3 x4 x5 d6 d7 x8 d9 d10 w r o := by
  show Lg 266 157 [(some (.inr (.inr (some 0)))), d1, (some (.inl x2)), (some (.inl x3)), (some (.inl x4)), (some (.inl x5)), d6, d7, (some (.inl x8)), d9, d10] [] w r o
  refine zq_iconst 158 (show zop 266 157 = some (.iconst 0, 1) by decide +kernel) rfl rfl ?_
  exact h
theorem bK266_153 {d1 : Option AV} {x2 : Int} {x3 : Int} {x4 : Int} {x5 : Int} {d6 : Option AV} {d7 : Option AV} {x8 : Int} {d9 : Option AV} {d10 : Option AV} {w : WS} {r : Nat} {o : Ro} (h : K266_158 d1 x2 x3 x4 x5 d6 d7 x8 d9 d10 1 w r o) : K266_153 d1 x2 x3 x4 x5 d6 d7 x8 d9 d10 w r o := by
  show Lg 266 153 [(some (.inr (.inr (some 0)))), d1, (some (.inl x2)), (some (.inl x3)), (some (.inl x4)), (some (.inl x5)), d6, d7, (some (.inl x8)), d9, d10] [] w r o
  refine zq_iconst 154 (show zop 266 153 = some (.iconst 1, 1) by decide +kernel) rfl rfl ?_
  refine zq_goto 158 (show zop 266 154 = some (.goto 4, 3) by decide +kernel) rfl ?_
  exact h
theorem bK266_158 {d1 : Option AV} {x2 : Int} {x3 : Int} {x4 : Int} {x5 : Int} {d6 : Option AV} {d7 : Option AV} {x8 : Int} {d9 : Option AV} {d10 : Option AV} {y0 : Int} {w : WS} {r : Nat} {o : Ro} (h : (1 ≤ r) ∧ (∃ (v2 : Int) (s1 : Sg), Dc 175 [(.inr (.inr (some 0))), (.inl x4)] w.2.2 (.inl (some (.inl v2))) s1 ∧ K266_168 d1 x2 x3 x4 x5 y0 d7 x8 v2 d10 (wS w s1) (r - 1) o)) : K266_158 d1 x2 x3 x4 x5 d6 d7 x8 d9 d10 y0 w r o := by
  show Lg 266 158 [(some (.inr (.inr (some 0)))), d1, (some (.inl x2)), (some (.inl x3)), (some (.inl x4)), (some (.inl x5)), d6, d7, (some (.inl x8)), d9, d10] [(.inl y0)] w r o
  refine zq_istore 160 [(some (.inr (.inr (some 0)))), d1, (some (.inl x2)), (some (.inl x3)), (some (.inl x4)), (some (.inl x5)), (some (.inl y0)), d7, (some (.inl x8)), d9, d10] (show zop 266 158 = some (.istore 6, 2) by decide +kernel) rfl rfl rfl ?_
  refine zq_aload_n 161 (show zop 266 160 = some (.aload_n 0, 1) by decide +kernel) rfl rfl ?_
  refine zq_iload 163 (show zop 266 161 = some (.iload 4, 2) by decide +kernel) rfl rfl ?_
  obtain ⟨g4, h⟩ := h
  obtain ⟨v2, s1, hD3, h⟩ := h
  refine zq_vi (v := some (.inl v2)) (σ' := s1) (nj := 2) (j := 175) (c := 1) (t := []) (as := [(.inr (.inr (some 0))), (.inl x4)]) 166 [(.inl v2)] (show zop 266 163 = some (.invokevirtual 10, 3) by decide +kernel) (by decide +kernel) rfl (by decide +kernel) rfl rfl rfl rfl rfl rfl (by decide +kernel) (by decide +kernel) (clS_0 rfl) hD3 rfl g4 ?_
  refine zq_istore 168 [(some (.inr (.inr (some 0)))), d1, (some (.inl x2)), (some (.inl x3)), (some (.inl x4)), (some (.inl x5)), (some (.inl y0)), d7, (some (.inl x8)), (some (.inl v2)), d10] (show zop 266 166 = some (.istore 9, 2) by decide +kernel) rfl rfl rfl ?_
  exact h
theorem bK266_168 {d1 : Option AV} {x2 : Int} {x3 : Int} {x4 : Int} {x5 : Int} {x6 : Int} {d7 : Option AV} {x8 : Int} {x9 : Int} {d10 : Option AV} {w : WS} {r : Nat} {o : Ro} (h : (if 0 < x8 then (if x6 = 0 then K266_308 (some (.inr (.inr (some 0)))) d1 (some (.inl x2)) (some (.inl x3)) (some (.inl x4)) (some (.inl x5)) x6 d7 (some (.inl x8)) (some (.inl x9)) d10 w r o else (0 < x8) ∧ (-2147483648 ≤ (1 + (Int.tmod (Int.tdiv x5 16) 3)) ∧ (1 + (Int.tmod (Int.tdiv x5 16) 3)) ≤ 2147483647) ∧ (3 ≤ r) ∧ (∃ (v4 : Int) (s3 : Sg), Dc 199 [(.inr (.inr (some 0))), (.inl x4), (.inl (Int.tmod x5 x8)), (.inl (1 + (Int.tmod (Int.tdiv x5 16) 3)))] w.2.2 (.inl (some (.inl v4))) s3 ∧ (-2147483648 ≤ (x9 - 3) ∧ (x9 - 3) ≤ 2147483647) ∧ (if v4 ≤ (x9 - 3) then (1 ≤ (r - 3)) ∧ (∃ (v9 : Int) (s8 : Sg), Dc 175 [(.inr (.inr (some 0))), (.inl x4)] (wS w s3).2.2 (.inl (some (.inl v9))) s8 ∧ (if v9 = v4 then (1 ≤ ((r - 3) - 1)) ∧ (∃ (v13 : Int) (s12 : Sg), Dc 198 [(.inr (.inr (some 0))), (.inl x4)] (wS (wS w s3) s8).2.2 (.inl (some (.inl v13))) s12 ∧ (if v13 ≤ x8 then K266_236 d1 x2 x3 x4 x5 (some (.inl x6)) d7 x8 (some (.inl x9)) v4 1 (wS (wS (wS w s3) s8) s12) (((r - 3) - 1) - 1) o else K266_235 d1 x2 x3 x4 x5 (some (.inl x6)) d7 x8 (some (.inl x9)) v4 (wS (wS (wS w s3) s8) s12) (((r - 3) - 1) - 1) o)) else K266_235 d1 x2 x3 x4 x5 (some (.inl x6)) d7 x8 (some (.inl x9)) v4 (wS (wS w s3) s8) ((r - 3) - 1) o)) else K266_235 d1 x2 x3 x4 x5 (some (.inl x6)) d7 x8 (some (.inl x9)) v4 (wS w s3) (r - 3) o))) else K266_308 (some (.inr (.inr (some 0)))) d1 (some (.inl x2)) (some (.inl x3)) (some (.inl x4)) (some (.inl x5)) x6 d7 (some (.inl x8)) (some (.inl x9)) d10 w r o)) : K266_168 d1 x2 x3 x4 x5 x6 d7 x8 x9 d10 w r o := by
  show Lg 266 168 [(some (.inr (.inr (some 0)))), d1, (some (.inl x2)), (some (.inl x3)), (some (.inl x4)), (some (.inl x5)), (some (.inl x6)), d7, (some (.inl x8)), (some (.inl x9)), d10] [] w r o
  refine zq_iload 170 (show zop 266 168 = some (.iload 8, 2) by decide +kernel) rfl rfl ?_
  by_cases hc16 : 0 < x8
  · rw [if_pos hc16] at h
    refine zq_ifF 173 308 (show zop 266 170 = some (.ifCond .le 138, 3) by decide +kernel) rfl rfl (decide_eq_false (Int.not_le.mpr hc16)) ?_
    refine zq_iload 175 (show zop 266 173 = some (.iload 6, 2) by decide +kernel) rfl rfl ?_
    by_cases hc17 : x6 = 0
    · rw [if_pos hc17] at h
      refine zq_ifT 308 (show zop 266 175 = some (.ifCond .eq 133, 3) by decide +kernel) rfl (decide_eq_true hc17) ?_
      exact h
    · rw [if_neg hc17] at h
      refine zq_ifF 178 308 (show zop 266 175 = some (.ifCond .eq 133, 3) by decide +kernel) rfl rfl (decide_eq_false hc17) ?_
      refine zq_aload_n 179 (show zop 266 178 = some (.aload_n 0, 1) by decide +kernel) rfl rfl ?_
      refine zq_iload 181 (show zop 266 179 = some (.iload 4, 2) by decide +kernel) rfl rfl ?_
      refine zq_iload 183 (show zop 266 181 = some (.iload 5, 2) by decide +kernel) rfl rfl ?_
      refine zq_iload 185 (show zop 266 183 = some (.iload 8, 2) by decide +kernel) rfl rfl ?_
      obtain ⟨g1, h⟩ := h
      refine zq_irem 186 (show zop 266 185 = some (.irem, 1) by decide +kernel) rfl g1 ?_
      refine zq_iconst 187 (show zop 266 186 = some (.iconst 1, 1) by decide +kernel) rfl rfl ?_
      refine zq_iload 189 (show zop 266 187 = some (.iload 5, 2) by decide +kernel) rfl rfl ?_
      refine zq_bipush 191 (show zop 266 189 = some (.bipush 16, 2) by decide +kernel) rfl (by decide) ?_
      refine zq_idiv 192 (show zop 266 191 = some (.idiv, 1) by decide +kernel) rfl (by decide) ?_
      refine zq_iconst 193 (show zop 266 192 = some (.iconst 3, 1) by decide +kernel) rfl rfl ?_
      refine zq_irem 194 (show zop 266 193 = some (.irem, 1) by decide +kernel) rfl (by decide) ?_
      obtain ⟨g2, h⟩ := h
      refine zq_iadd 195 (show zop 266 194 = some (.iadd, 1) by decide +kernel) rfl g2 ?_
      obtain ⟨g6, h⟩ := h
      obtain ⟨v4, s3, hD5, h⟩ := h
      refine zq_vi (v := some (.inl v4)) (σ' := s3) (nj := 4) (j := 199) (c := 3) (t := []) (as := [(.inr (.inr (some 0))), (.inl x4), (.inl (Int.tmod x5 x8)), (.inl (1 + (Int.tmod (Int.tdiv x5 16) 3)))]) 198 [(.inl v4)] (show zop 266 195 = some (.invokevirtual 202, 3) by decide +kernel) (by decide +kernel) rfl (by decide +kernel) rfl rfl rfl rfl rfl rfl (by decide +kernel) (by decide +kernel) (clS_0 rfl) hD5 rfl g6 ?_
      refine zq_istore 200 [(some (.inr (.inr (some 0)))), d1, (some (.inl x2)), (some (.inl x3)), (some (.inl x4)), (some (.inl x5)), (some (.inl x6)), d7, (some (.inl x8)), (some (.inl x9)), (some (.inl v4))] (show zop 266 198 = some (.istore 10, 2) by decide +kernel) rfl rfl rfl ?_
      refine zq_iload 202 (show zop 266 200 = some (.iload 10, 2) by decide +kernel) rfl rfl ?_
      refine zq_iload 204 (show zop 266 202 = some (.iload 9, 2) by decide +kernel) rfl rfl ?_
      refine zq_iconst 205 (show zop 266 204 = some (.iconst 3, 1) by decide +kernel) rfl rfl ?_
      obtain ⟨g7, h⟩ := h
      refine zq_isub 206 (show zop 266 205 = some (.isub, 1) by decide +kernel) rfl g7 ?_
      by_cases hc18 : v4 ≤ (x9 - 3)
      · rw [if_pos hc18] at h
        refine zq_icmpF 209 235 (show zop 266 206 = some (.if_icmp .gt 29, 3) by decide +kernel) rfl rfl (decide_eq_false (Int.not_lt.mpr hc18)) ?_
        refine zq_aload_n 210 (show zop 266 209 = some (.aload_n 0, 1) by decide +kernel) rfl rfl ?_
        refine zq_iload 212 (show zop 266 210 = some (.iload 4, 2) by decide +kernel) rfl rfl ?_
        obtain ⟨g11, h⟩ := h
        obtain ⟨v9, s8, hD10, h⟩ := h
        refine zq_vi (v := some (.inl v9)) (σ' := s8) (nj := 2) (j := 175) (c := 1) (t := []) (as := [(.inr (.inr (some 0))), (.inl x4)]) 215 [(.inl v9)] (show zop 266 212 = some (.invokevirtual 10, 3) by decide +kernel) (by decide +kernel) rfl (by decide +kernel) rfl rfl rfl rfl rfl rfl (by decide +kernel) (by decide +kernel) (clS_0 rfl) hD10 rfl g11 ?_
        refine zq_iload 217 (show zop 266 215 = some (.iload 10, 2) by decide +kernel) rfl rfl ?_
        by_cases hc19 : v9 = v4
        · rw [if_pos hc19] at h
          refine zq_icmpF 220 235 (show zop 266 217 = some (.if_icmp .ne 18, 3) by decide +kernel) rfl rfl (decide_eq_false (fun h9 => h9 hc19)) ?_
          refine zq_aload_n 221 (show zop 266 220 = some (.aload_n 0, 1) by decide +kernel) rfl rfl ?_
          refine zq_iload 223 (show zop 266 221 = some (.iload 4, 2) by decide +kernel) rfl rfl ?_
          obtain ⟨g15, h⟩ := h
          obtain ⟨v13, s12, hD14, h⟩ := h
          refine zq_vi (v := some (.inl v13)) (σ' := s12) (nj := 2) (j := 198) (c := 1) (t := []) (as := [(.inr (.inr (some 0))), (.inl x4)]) 226 [(.inl v13)] (show zop 266 223 = some (.invokevirtual 196, 3) by decide +kernel) (by decide +kernel) rfl (by decide +kernel) rfl rfl rfl rfl rfl rfl (by decide +kernel) (by decide +kernel) (clS_0 rfl) hD14 rfl g15 ?_
          refine zq_iload 228 (show zop 266 226 = some (.iload 8, 2) by decide +kernel) rfl rfl ?_
          by_cases hc20 : v13 ≤ x8
          · rw [if_pos hc20] at h
            refine zq_icmpF 231 235 (show zop 266 228 = some (.if_icmp .gt 7, 3) by decide +kernel) rfl rfl (decide_eq_false (Int.not_lt.mpr hc20)) ?_
            refine zq_iconst 232 (show zop 266 231 = some (.iconst 1, 1) by decide +kernel) rfl rfl ?_
            refine zq_goto 236 (show zop 266 232 = some (.goto 4, 3) by decide +kernel) rfl ?_
            exact h
          · rw [if_neg hc20] at h
            refine zq_icmpT 235 (show zop 266 228 = some (.if_icmp .gt 7, 3) by decide +kernel) rfl (decide_eq_true (Int.not_le.mp hc20)) ?_
            exact h
        · rw [if_neg hc19] at h
          refine zq_icmpT 235 (show zop 266 217 = some (.if_icmp .ne 18, 3) by decide +kernel) rfl (decide_eq_true hc19) ?_
          exact h
      · rw [if_neg hc18] at h
        refine zq_icmpT 235 (show zop 266 206 = some (.if_icmp .gt 29, 3) by decide +kernel) rfl (decide_eq_true (Int.not_le.mp hc18)) ?_
        exact h
  · rw [if_neg hc16] at h
    refine zq_ifT 308 (show zop 266 170 = some (.ifCond .le 138, 3) by decide +kernel) rfl (decide_eq_true (Int.not_lt.mp hc16)) ?_
    exact h
theorem bK266_308 {d0 : Option AV} {d1 : Option AV} {d2 : Option AV} {d3 : Option AV} {d4 : Option AV} {d5 : Option AV} {x6 : Int} {d7 : Option AV} {d8 : Option AV} {d9 : Option AV} {d10 : Option AV} {w : WS} {r : Nat} {o : Ro} (h : (x6 = 0 ∨ x6 = 1) ∧ o = (.inl (some (.inl x6)), w)) : K266_308 d0 d1 d2 d3 d4 d5 x6 d7 d8 d9 d10 w r o := by
  show Lg 266 308 [d0, d1, d2, d3, d4, d5, (some (.inl x6)), d7, d8, d9, d10] [] w r o
  refine zq_iload 310 (show zop 266 308 = some (.iload 6, 2) by decide +kernel) rfl rfl ?_
  obtain ⟨g1, h⟩ := h
  exact (zq_zret (show zop 266 310 = some (.ireturn, 1) by decide +kernel) (by decide +kernel) g1 h)
theorem bK266_236 {d1 : Option AV} {x2 : Int} {x3 : Int} {x4 : Int} {x5 : Int} {d6 : Option AV} {d7 : Option AV} {x8 : Int} {d9 : Option AV} {x10 : Int} {y0 : Int} {w : WS} {r : Nat} {o : Ro} (h : (if y0 = 0 then K266_294 d1 x2 x3 x4 x5 (some (.inl y0)) d7 (some (.inl x8)) x10 (some (.inl x10)) w r o else (150 ≤ r) ∧ (∃ (v2 : Int) (w1 : WS), Lx 265 [(.inr (.inr (some 0))), (.inl x2)] w (.inl (some (.inl v2)), w1) ∧ (if v2 = 0 then (150 ≤ (r - 150)) ∧ (∃ (v6 : Int) (w5 : WS), Lx 265 [(.inr (.inr (some 0))), (.inl x3)] w1 (.inl (some (.inl v6)), w5) ∧ (if v6 = 0 then (1 ≤ ((r - 150) - 150)) ∧ (∃ (v10 : Int) (s9 : Sg), Dc 198 [(.inr (.inr (some 0))), (.inl x4)] w5.2.2 (.inl (some (.inl v10))) s9 ∧ (-2147483648 ≤ (x8 - 1) ∧ (x8 - 1) ≤ 2147483647) ∧ (if v10 = (x8 - 1) then K266_290 d1 x2 x3 x4 x5 (some (.inl y0)) d7 (some (.inl x8)) x10 (some (.inl x10)) (wS w5 s9) (((r - 150) - 150) - 1) o else K266_294 d1 x2 x3 x4 x5 (some (.inl y0)) d7 (some (.inl x8)) x10 (some (.inl x10)) (wS w5 s9) (((r - 150) - 150) - 1) o)) else K266_263 d1 x2 x3 x4 x5 (some (.inl y0)) d7 x8 x10 (some (.inl x10)) w5 ((r - 150) - 150) o)) else K266_263 d1 x2 x3 x4 x5 (some (.inl y0)) d7 x8 x10 (some (.inl x10)) w1 (r - 150) o)))) : K266_236 d1 x2 x3 x4 x5 d6 d7 x8 d9 x10 y0 w r o := by
  show Lg 266 236 [(some (.inr (.inr (some 0)))), d1, (some (.inl x2)), (some (.inl x3)), (some (.inl x4)), (some (.inl x5)), d6, d7, (some (.inl x8)), d9, (some (.inl x10))] [(.inl y0)] w r o
  refine zq_istore 238 [(some (.inr (.inr (some 0)))), d1, (some (.inl x2)), (some (.inl x3)), (some (.inl x4)), (some (.inl x5)), (some (.inl y0)), d7, (some (.inl x8)), d9, (some (.inl x10))] (show zop 266 236 = some (.istore 6, 2) by decide +kernel) rfl rfl rfl ?_
  refine zq_iload 240 (show zop 266 238 = some (.iload 10, 2) by decide +kernel) rfl rfl ?_
  refine zq_istore 242 [(some (.inr (.inr (some 0)))), d1, (some (.inl x2)), (some (.inl x3)), (some (.inl x4)), (some (.inl x5)), (some (.inl y0)), d7, (some (.inl x8)), (some (.inl x10)), (some (.inl x10))] (show zop 266 240 = some (.istore 9, 2) by decide +kernel) rfl rfl rfl ?_
  refine zq_iload 244 (show zop 266 242 = some (.iload 6, 2) by decide +kernel) rfl rfl ?_
  by_cases hc14 : y0 = 0
  · rw [if_pos hc14] at h
    refine zq_ifT 294 (show zop 266 244 = some (.ifCond .eq 50, 3) by decide +kernel) rfl (decide_eq_true hc14) ?_
    exact h
  · rw [if_neg hc14] at h
    refine zq_ifF 247 294 (show zop 266 244 = some (.ifCond .eq 50, 3) by decide +kernel) rfl rfl (decide_eq_false hc14) ?_
    refine zq_aload_n 248 (show zop 266 247 = some (.aload_n 0, 1) by decide +kernel) rfl rfl ?_
    refine zq_iload_n 249 (show zop 266 248 = some (.iload_n 2, 1) by decide +kernel) rfl rfl ?_
    obtain ⟨g4, h⟩ := h
    obtain ⟨v2, w1, hD3, h⟩ := h
    refine zq_lx (v := some (.inl v2)) (w' := w1) (nj := 2) (j := 265) (c := 150) (t := []) (as := [(.inr (.inr (some 0))), (.inl x2)]) 252 [(.inl v2)] (show zop 266 249 = some (.invokestatic 199, 3) by decide +kernel) (by decide +kernel) rfl (by decide +kernel) (by decide +kernel) rfl rfl rfl rfl rfl hD3 rfl g4 ?_
    by_cases hc15 : v2 = 0
    · rw [if_pos hc15] at h
      refine zq_ifF 255 263 (show zop 266 252 = some (.ifCond .ne 11, 3) by decide +kernel) rfl rfl (decide_eq_false (fun h9 => h9 hc15)) ?_
      refine zq_aload_n 256 (show zop 266 255 = some (.aload_n 0, 1) by decide +kernel) rfl rfl ?_
      refine zq_iload_n 257 (show zop 266 256 = some (.iload_n 3, 1) by decide +kernel) rfl rfl ?_
      obtain ⟨g8, h⟩ := h
      obtain ⟨v6, w5, hD7, h⟩ := h
      refine zq_lx (v := some (.inl v6)) (w' := w5) (nj := 2) (j := 265) (c := 150) (t := []) (as := [(.inr (.inr (some 0))), (.inl x3)]) 260 [(.inl v6)] (show zop 266 257 = some (.invokestatic 199, 3) by decide +kernel) (by decide +kernel) rfl (by decide +kernel) (by decide +kernel) rfl rfl rfl rfl rfl hD7 rfl g8 ?_
      by_cases hc16 : v6 = 0
      · rw [if_pos hc16] at h
        refine zq_ifT 277 (show zop 266 260 = some (.ifCond .eq 17, 3) by decide +kernel) rfl (decide_eq_true hc16) ?_
        refine zq_aload_n 278 (show zop 266 277 = some (.aload_n 0, 1) by decide +kernel) rfl rfl ?_
        refine zq_iload 280 (show zop 266 278 = some (.iload 4, 2) by decide +kernel) rfl rfl ?_
        obtain ⟨g12, h⟩ := h
        obtain ⟨v10, s9, hD11, h⟩ := h
        refine zq_vi (v := some (.inl v10)) (σ' := s9) (nj := 2) (j := 198) (c := 1) (t := []) (as := [(.inr (.inr (some 0))), (.inl x4)]) 283 [(.inl v10)] (show zop 266 280 = some (.invokevirtual 196, 3) by decide +kernel) (by decide +kernel) rfl (by decide +kernel) rfl rfl rfl rfl rfl rfl (by decide +kernel) (by decide +kernel) (clS_0 rfl) hD11 rfl g12 ?_
        refine zq_iload 285 (show zop 266 283 = some (.iload 8, 2) by decide +kernel) rfl rfl ?_
        refine zq_iconst 286 (show zop 266 285 = some (.iconst 1, 1) by decide +kernel) rfl rfl ?_
        obtain ⟨g13, h⟩ := h
        refine zq_isub 287 (show zop 266 286 = some (.isub, 1) by decide +kernel) rfl g13 ?_
        by_cases hc17 : v10 = (x8 - 1)
        · rw [if_pos hc17] at h
          refine zq_icmpF 290 294 (show zop 266 287 = some (.if_icmp .ne 7, 3) by decide +kernel) rfl rfl (decide_eq_false (fun h9 => h9 hc17)) ?_
          exact h
        · rw [if_neg hc17] at h
          refine zq_icmpT 294 (show zop 266 287 = some (.if_icmp .ne 7, 3) by decide +kernel) rfl (decide_eq_true hc17) ?_
          exact h
      · rw [if_neg hc16] at h
        refine zq_ifF 263 277 (show zop 266 260 = some (.ifCond .eq 17, 3) by decide +kernel) rfl rfl (decide_eq_false hc16) ?_
        exact h
    · rw [if_neg hc15] at h
      refine zq_ifT 263 (show zop 266 252 = some (.ifCond .ne 11, 3) by decide +kernel) rfl (decide_eq_true hc15) ?_
      exact h
theorem bK266_235 {d1 : Option AV} {x2 : Int} {x3 : Int} {x4 : Int} {x5 : Int} {d6 : Option AV} {d7 : Option AV} {x8 : Int} {d9 : Option AV} {x10 : Int} {w : WS} {r : Nat} {o : Ro} (h : K266_236 d1 x2 x3 x4 x5 d6 d7 x8 d9 x10 0 w r o) : K266_235 d1 x2 x3 x4 x5 d6 d7 x8 d9 x10 w r o := by
  show Lg 266 235 [(some (.inr (.inr (some 0)))), d1, (some (.inl x2)), (some (.inl x3)), (some (.inl x4)), (some (.inl x5)), d6, d7, (some (.inl x8)), d9, (some (.inl x10))] [] w r o
  refine zq_iconst 236 (show zop 266 235 = some (.iconst 0, 1) by decide +kernel) rfl rfl ?_
  exact h
theorem bK266_294 {d1 : Option AV} {x2 : Int} {x3 : Int} {x4 : Int} {x5 : Int} {d6 : Option AV} {d7 : Option AV} {d8 : Option AV} {x9 : Int} {d10 : Option AV} {w : WS} {r : Nat} {o : Ro} (h : K266_295 d1 x2 x3 x4 x5 d6 d7 d8 x9 d10 0 w r o) : K266_294 d1 x2 x3 x4 x5 d6 d7 d8 x9 d10 w r o := by
  show Lg 266 294 [(some (.inr (.inr (some 0)))), d1, (some (.inl x2)), (some (.inl x3)), (some (.inl x4)), (some (.inl x5)), d6, d7, d8, (some (.inl x9)), d10] [] w r o
  refine zq_iconst 295 (show zop 266 294 = some (.iconst 0, 1) by decide +kernel) rfl rfl ?_
  exact h
theorem bK266_290 {d1 : Option AV} {x2 : Int} {x3 : Int} {x4 : Int} {x5 : Int} {d6 : Option AV} {d7 : Option AV} {d8 : Option AV} {x9 : Int} {d10 : Option AV} {w : WS} {r : Nat} {o : Ro} (h : K266_295 d1 x2 x3 x4 x5 d6 d7 d8 x9 d10 1 w r o) : K266_290 d1 x2 x3 x4 x5 d6 d7 d8 x9 d10 w r o := by
  show Lg 266 290 [(some (.inr (.inr (some 0)))), d1, (some (.inl x2)), (some (.inl x3)), (some (.inl x4)), (some (.inl x5)), d6, d7, d8, (some (.inl x9)), d10] [] w r o
  refine zq_iconst 291 (show zop 266 290 = some (.iconst 1, 1) by decide +kernel) rfl rfl ?_
  refine zq_goto 295 (show zop 266 291 = some (.goto 4, 3) by decide +kernel) rfl ?_
  exact h
theorem bK266_263 {d1 : Option AV} {x2 : Int} {x3 : Int} {x4 : Int} {x5 : Int} {d6 : Option AV} {d7 : Option AV} {x8 : Int} {x9 : Int} {d10 : Option AV} {w : WS} {r : Nat} {o : Ro} (h : (1 ≤ r) ∧ (∃ (v2 : Int) (s1 : Sg), Dc 198 [(.inr (.inr (some 0))), (.inl x4)] w.2.2 (.inl (some (.inl v2))) s1 ∧ (if v2 ≤ x8 then K266_290 d1 x2 x3 x4 x5 d6 d7 (some (.inl x8)) x9 d10 (wS w s1) (r - 1) o else K266_294 d1 x2 x3 x4 x5 d6 d7 (some (.inl x8)) x9 d10 (wS w s1) (r - 1) o))) : K266_263 d1 x2 x3 x4 x5 d6 d7 x8 x9 d10 w r o := by
  show Lg 266 263 [(some (.inr (.inr (some 0)))), d1, (some (.inl x2)), (some (.inl x3)), (some (.inl x4)), (some (.inl x5)), d6, d7, (some (.inl x8)), (some (.inl x9)), d10] [] w r o
  refine zq_aload_n 264 (show zop 266 263 = some (.aload_n 0, 1) by decide +kernel) rfl rfl ?_
  refine zq_iload 266 (show zop 266 264 = some (.iload 4, 2) by decide +kernel) rfl rfl ?_
  obtain ⟨g4, h⟩ := h
  obtain ⟨v2, s1, hD3, h⟩ := h
  refine zq_vi (v := some (.inl v2)) (σ' := s1) (nj := 2) (j := 198) (c := 1) (t := []) (as := [(.inr (.inr (some 0))), (.inl x4)]) 269 [(.inl v2)] (show zop 266 266 = some (.invokevirtual 196, 3) by decide +kernel) (by decide +kernel) rfl (by decide +kernel) rfl rfl rfl rfl rfl rfl (by decide +kernel) (by decide +kernel) (clS_0 rfl) hD3 rfl g4 ?_
  refine zq_iload 271 (show zop 266 269 = some (.iload 8, 2) by decide +kernel) rfl rfl ?_
  by_cases hc5 : v2 ≤ x8
  · rw [if_pos hc5] at h
    refine zq_icmpF 274 294 (show zop 266 271 = some (.if_icmp .gt 23, 3) by decide +kernel) rfl rfl (decide_eq_false (Int.not_lt.mpr hc5)) ?_
    refine zq_goto 290 (show zop 266 274 = some (.goto 16, 3) by decide +kernel) rfl ?_
    exact h
  · rw [if_neg hc5] at h
    refine zq_icmpT 294 (show zop 266 271 = some (.if_icmp .gt 23, 3) by decide +kernel) rfl (decide_eq_true (Int.not_le.mp hc5)) ?_
    exact h
theorem bK266_295 {d1 : Option AV} {x2 : Int} {x3 : Int} {x4 : Int} {x5 : Int} {d6 : Option AV} {d7 : Option AV} {d8 : Option AV} {x9 : Int} {d10 : Option AV} {y0 : Int} {w : WS} {r : Nat} {o : Ro} (h : (1 ≤ r) ∧ (∃ (v2 : Int) (s1 : Sg), Dc 198 [(.inr (.inr (some 0))), (.inl x4)] w.2.2 (.inl (some (.inl v2))) s1 ∧ K266_168 d1 x2 x3 x4 x5 y0 d7 v2 x9 d10 (wS w s1) (r - 1) o)) : K266_295 d1 x2 x3 x4 x5 d6 d7 d8 x9 d10 y0 w r o := by
  show Lg 266 295 [(some (.inr (.inr (some 0)))), d1, (some (.inl x2)), (some (.inl x3)), (some (.inl x4)), (some (.inl x5)), d6, d7, d8, (some (.inl x9)), d10] [(.inl y0)] w r o
  refine zq_istore 297 [(some (.inr (.inr (some 0)))), d1, (some (.inl x2)), (some (.inl x3)), (some (.inl x4)), (some (.inl x5)), (some (.inl y0)), d7, d8, (some (.inl x9)), d10] (show zop 266 295 = some (.istore 6, 2) by decide +kernel) rfl rfl rfl ?_
  refine zq_aload_n 298 (show zop 266 297 = some (.aload_n 0, 1) by decide +kernel) rfl rfl ?_
  refine zq_iload 300 (show zop 266 298 = some (.iload 4, 2) by decide +kernel) rfl rfl ?_
  obtain ⟨g4, h⟩ := h
  obtain ⟨v2, s1, hD3, h⟩ := h
  refine zq_vi (v := some (.inl v2)) (σ' := s1) (nj := 2) (j := 198) (c := 1) (t := []) (as := [(.inr (.inr (some 0))), (.inl x4)]) 303 [(.inl v2)] (show zop 266 300 = some (.invokevirtual 196, 3) by decide +kernel) (by decide +kernel) rfl (by decide +kernel) rfl rfl rfl rfl rfl rfl (by decide +kernel) (by decide +kernel) (clS_0 rfl) hD3 rfl g4 ?_
  refine zq_istore 305 [(some (.inr (.inr (some 0)))), d1, (some (.inl x2)), (some (.inl x3)), (some (.inl x4)), (some (.inl x5)), (some (.inl y0)), d7, (some (.inl v2)), (some (.inl x9)), d10] (show zop 266 303 = some (.istore 8, 2) by decide +kernel) rfl rfl rfl ?_
  refine zq_goto 168 (show zop 266 305 = some (.goto (-137), 3) by decide +kernel) rfl ?_
  exact h
/-- PatchBenchLaw.merges (LPatchBench;[IIIII)Z -/
theorem lb266 {x2 : Int} {x3 : Int} {x4 : Int} {x5 : Int} {w : WS} {o : Ro} (h : (w.1[0]? = some (0, 12, [])) ∧ (0 ≤ (5 : Int) ∧ (5 : Int) < 12) ∧ (-2147483648 ≤ (x4 + 1) ∧ (x4 + 1) ≤ 2147483647) ∧ (¬ ((w.2.1 682 ((5 : Int)).toNat) = (x4 + 1)) → w.1[0]? = some (0, 12, [])) ∧ (¬ ((w.2.1 682 ((5 : Int)).toNat) = (x4 + 1)) → 0 ≤ (5 : Int) ∧ (5 : Int) < 12) ∧ K266_19 (some (.inr (.inr (some 682)))) x2 x3 x4 x5 none none none none none 5 (if (w.2.1 682 ((5 : Int)).toNat) = (x4 + 1) then 0 else (w.2.1 682 ((5 : Int)).toNat)) w 2900 o) : Lx 266 [(.inr (.inr (some 0))), (.inr (.inr (some 682))), (.inl x2), (.inl x3), (.inl x4), (.inl x5)] w o := by
  refine Lx_of (l := 11) (r := 2900) (by decide +kernel) (by decide +kernel) ?_
  show Lg 266 0 [(some (.inr (.inr (some 0)))), (some (.inr (.inr (some 682)))), (some (.inl x2)), (some (.inl x3)), (some (.inl x4)), (some (.inl x5)), none, none, none, none, none] [] w 2900 o
  refine zq_aload_n 1 (show zop 266 0 = some (.aload_n 1, 1) by decide +kernel) rfl rfl ?_
  refine zq_iconst 2 (show zop 266 1 = some (.iconst 5, 1) by decide +kernel) rfl rfl ?_
  refine zq_aload_n 3 (show zop 266 2 = some (.aload_n 1, 1) by decide +kernel) rfl rfl ?_
  refine zq_iconst 4 (show zop 266 3 = some (.iconst 5, 1) by decide +kernel) rfl rfl ?_
  obtain ⟨g3, h⟩ := h
  obtain ⟨g1, h⟩ := h
  refine zq_iaload 5 12 (show zop 266 4 = some (.iaload, 1) by decide +kernel) rfl (by decide) g3 g1 ?_
  refine zq_iload 7 (show zop 266 5 = some (.iload 4, 2) by decide +kernel) rfl rfl ?_
  refine zq_iconst 8 (show zop 266 7 = some (.iconst 1, 1) by decide +kernel) rfl rfl ?_
  obtain ⟨g4, h⟩ := h
  refine zq_iadd 9 (show zop 266 8 = some (.iadd, 1) by decide +kernel) rfl g4 ?_
  obtain ⟨G9, G10, h⟩ := h
  by_cases hc8 : (w.2.1 682 ((5 : Int)).toNat) = (x4 + 1)
  · refine zq_icmpF 12 16 (show zop 266 9 = some (.if_icmp .ne 7, 3) by decide +kernel) rfl rfl (decide_eq_false (fun h9 => h9 hc8)) ?_
    refine zq_iconst 13 (show zop 266 12 = some (.iconst 0, 1) by decide +kernel) rfl rfl ?_
    refine zq_goto 19 (show zop 266 13 = some (.goto 6, 3) by decide +kernel) rfl ?_
    have h9 := h; simp only [if_pos hc8] at h9; exact h9
  · refine zq_icmpT 16 (show zop 266 9 = some (.if_icmp .ne 7, 3) by decide +kernel) rfl (decide_eq_true hc8) ?_
    refine zq_aload_n 17 (show zop 266 16 = some (.aload_n 1, 1) by decide +kernel) rfl rfl ?_
    refine zq_iconst 18 (show zop 266 17 = some (.iconst 5, 1) by decide +kernel) rfl rfl ?_
    have g7 := G9 hc8
    have g5 := G10 hc8
    refine zq_iaload 19 12 (show zop 266 18 = some (.iaload, 1) by decide +kernel) rfl (by decide) g7 g5 ?_
    have h9 := h; simp only [if_neg hc8] at h9; exact h9
end
