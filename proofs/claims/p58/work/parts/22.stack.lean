noncomputable section
def C127_36 (σ : Sg) (o : Rs) : Prop := Gd 127 36 [(some (.inr (.inr (some 402))))] [] σ 0 0 o
theorem b127_36 {σ : Sg} {o : Rs}   (h : o = (.inl (some (.inr (.inr (some 403)))), σ)) : C127_36  σ o := by
  show Gd 127 36 [(some (.inr (.inr (some 402))))] [] σ 0 0 o
  refine g_aload_n 37 (show op 127 36 = some (.aload_n 0, 1) by decide +kernel) rfl rfl ?_
  refine g_getR (ci := 6) (f := 0) (fin := true) (isR := true) 40 403 (show op 127 37 = some (.getfield 14, 3) by decide +kernel) rfl (by decide +kernel) (by decide +kernel) ?_
  exact g_aret (show op 127 40 = some (.areturn, 1) by decide +kernel) (by decide +kernel) h
/-- PatchBench$Pile.text ()LPatchBench$Row; -/
theorem b127 {σ : Sg} {o : Rs}   (h : (if 0 < (σ 402 3) then (if (σ 402 3) ≤ 5 then (-2147483648 ≤ ((σ 402 3) - 1) ∧ ((σ 402 3) - 1) ≤ 2147483647) ∧ (0 ≤ ((σ 402 3) - 1)) ∧ (∃ e2 : Nat, qE 405 (((σ 402 3) - 1)).toNat e2 = true ∧ isPatch e2 = true ∧ o = (.inl (some (.inr (.inr (some (e2 + 3))))), σ)) else C127_36  σ o) else C127_36  σ o)) : Dd 127 [(.inr (.inr (some 402)))] σ o := by
  refine Dd_of (l := 1) (by decide +kernel) ?_
  show Gd 127 0 [(some (.inr (.inr (some 402))))] [] σ 0 0 o
  refine g_aload_n 1 (show op 127 0 = some (.aload_n 0, 1) by decide +kernel) rfl rfl ?_
  refine g_getI (ci := 6) (f := 3) (fin := false) (isR := false) 4 (show op 127 1 = some (.getfield 33, 3) by decide +kernel) rfl (by decide +kernel) (by decide +kernel) ?_
  by_cases hc6 : 0 < (σ 402 3)
  · rw [if_pos hc6] at h
    refine g_ifF 7 36 (show op 127 4 = some (.ifCond .le 32, 3) by decide +kernel) rfl rfl (decide_eq_false (Int.not_le.mpr hc6)) ?_
    refine g_aload_n 8 (show op 127 7 = some (.aload_n 0, 1) by decide +kernel) rfl rfl ?_
    refine g_getI (ci := 6) (f := 3) (fin := false) (isR := false) 11 (show op 127 8 = some (.getfield 33, 3) by decide +kernel) rfl (by decide +kernel) (by decide +kernel) ?_
    refine g_aload_n 12 (show op 127 11 = some (.aload_n 0, 1) by decide +kernel) rfl rfl ?_
    refine g_getR (ci := 6) (f := 1) (fin := true) (isR := true) 15 405 (show op 127 12 = some (.getfield 26, 3) by decide +kernel) rfl (by decide +kernel) (by decide +kernel) ?_
    refine g_alenR 16 5 (show op 127 15 = some (.arraylength, 1) by decide +kernel) rfl (by decide +kernel) (by decide) ?_
    by_cases hc7 : (σ 402 3) ≤ 5
    · rw [if_pos hc7] at h
      refine g_icmpF 19 36 (show op 127 16 = some (.if_icmp .gt 20, 3) by decide +kernel) rfl rfl (decide_eq_false (Int.not_lt.mpr hc7)) ?_
      refine g_aload_n 20 (show op 127 19 = some (.aload_n 0, 1) by decide +kernel) rfl rfl ?_
      refine g_getR (ci := 6) (f := 1) (fin := true) (isR := true) 23 405 (show op 127 20 = some (.getfield 26, 3) by decide +kernel) rfl (by decide +kernel) (by decide +kernel) ?_
      refine g_aload_n 24 (show op 127 23 = some (.aload_n 0, 1) by decide +kernel) rfl rfl ?_
      refine g_getI (ci := 6) (f := 3) (fin := false) (isR := false) 27 (show op 127 24 = some (.getfield 33, 3) by decide +kernel) rfl (by decide +kernel) (by decide +kernel) ?_
      refine g_iconst 28 (show op 127 27 = some (.iconst 1, 1) by decide +kernel) rfl rfl ?_
      obtain ⟨g1, h⟩ := h
      refine g_isub 29 (show op 127 28 = some (.isub, 1) by decide +kernel) rfl g1 ?_
      obtain ⟨g3, h⟩ := h
      obtain ⟨e2, q4, q5, h⟩ := h
      refine g_aaload 30 e2 (show op 127 29 = some (.aaload, 1) by decide +kernel) rfl g3 q4 ?_
      refine g_getR (ci := 5) (f := 1) (fin := true) (isR := true) 33 (e2 + 3) (show op 127 30 = some (.getfield 37, 3) by decide +kernel) rfl (by decide +kernel) (pat_R q5 rfl) ?_
      refine g_goto 40 (show op 127 33 = some (.goto 7, 3) by decide +kernel) rfl ?_
      exact g_aret (show op 127 40 = some (.areturn, 1) by decide +kernel) (by decide +kernel) h
    · rw [if_neg hc7] at h
      refine g_icmpT 36 (show op 127 16 = some (.if_icmp .gt 20, 3) by decide +kernel) rfl (decide_eq_true (Int.not_le.mp hc7)) ?_
      exact h
  · rw [if_neg hc6] at h
    refine g_ifT 36 (show op 127 4 = some (.ifCond .le 32, 3) by decide +kernel) rfl (decide_eq_true (Int.not_lt.mp hc6)) ?_
    exact h
def C128_56 (d1 : Option AV) (σ : Sg) (o : Rs) : Prop := Gd 128 56 [(some (.inr (.inr (some 402)))), d1] [] σ 0 0 o
theorem b128_56 {d1 : Option AV} {σ : Sg} {o : Rs}   (h : (-2147483648 ≤ ((σ 402 4) - 1) ∧ ((σ 402 4) - 1) ≤ 2147483647) ∧ o = (.inl (some (.inl ((σ 402 4) - 1))), σ)) : C128_56 d1 σ o := by
  show Gd 128 56 [(some (.inr (.inr (some 402)))), d1] [] σ 0 0 o
  refine g_aload_n 57 (show op 128 56 = some (.aload_n 0, 1) by decide +kernel) rfl rfl ?_
  refine g_getI (ci := 6) (f := 4) (fin := false) (isR := false) 60 (show op 128 57 = some (.getfield 44, 3) by decide +kernel) rfl (by decide +kernel) (by decide +kernel) ?_
  refine g_iconst 61 (show op 128 60 = some (.iconst 1, 1) by decide +kernel) rfl rfl ?_
  obtain ⟨g1, h⟩ := h
  refine g_isub 62 (show op 128 61 = some (.isub, 1) by decide +kernel) rfl g1 ?_
  exact (g_iret (show op 128 62 = some (.ireturn, 1) by decide +kernel) (by decide +kernel) h)
/-- PatchBench$Pile.layOn (LPatchBench$Patch;)I -/
theorem b128 {x1 : Nat} {σ : Sg} {o : Rs}   (h : (if (σ 402 3) < 5 then (0 ≤ (σ 402 3)) ∧ (∃ e1 : Nat, qE 405 ((σ 402 3)).toNat e1 = true ∧ isPatch e1 = true ∧ (∃ (s5 : Sg), Dd 96 [(.inr (.inr (some e1))), (.inr (.inr (some x1)))] σ (.inl none, s5) ∧ (∃ (s7 : Sg), Dd 149 [(.inr (.inr (some 471))), (.inl (s5 402 4))] s5 (.inl none, s7) ∧ (-2147483648 ≤ ((s7 402 3) + 1) ∧ ((s7 402 3) + 1) ≤ 2147483647) ∧ (-2147483648 ≤ (((upS s7 402 3 ((s7 402 3) + 1)) 402 4) + 1) ∧ (((upS s7 402 3 ((s7 402 3) + 1)) 402 4) + 1) ≤ 2147483647) ∧ C128_56 (some (.inr (.inr (some x1)))) (upS (upS s7 402 3 ((s7 402 3) + 1)) 402 4 (((upS s7 402 3 ((s7 402 3) + 1)) 402 4) + 1)) o))) else C128_56 (some (.inr (.inr (some x1)))) σ o)) : Dd 128 [(.inr (.inr (some 402))), (.inr (.inr (some x1)))] σ o := by
  refine Dd_of (l := 2) (by decide +kernel) ?_
  show Gd 128 0 [(some (.inr (.inr (some 402)))), (some (.inr (.inr (some x1))))] [] σ 0 0 o
  refine g_aload_n 1 (show op 128 0 = some (.aload_n 0, 1) by decide +kernel) rfl rfl ?_
  refine g_getI (ci := 6) (f := 3) (fin := false) (isR := false) 4 (show op 128 1 = some (.getfield 33, 3) by decide +kernel) rfl (by decide +kernel) (by decide +kernel) ?_
  refine g_aload_n 5 (show op 128 4 = some (.aload_n 0, 1) by decide +kernel) rfl rfl ?_
  refine g_getR (ci := 6) (f := 1) (fin := true) (isR := true) 8 405 (show op 128 5 = some (.getfield 26, 3) by decide +kernel) rfl (by decide +kernel) (by decide +kernel) ?_
  refine g_alenR 9 5 (show op 128 8 = some (.arraylength, 1) by decide +kernel) rfl (by decide +kernel) (by decide) ?_
  by_cases hc11 : (σ 402 3) < 5
  · rw [if_pos hc11] at h
    refine g_icmpF 12 56 (show op 128 9 = some (.if_icmp .ge 47, 3) by decide +kernel) rfl rfl (decide_eq_false (Int.not_le.mpr hc11)) ?_
    refine g_aload_n 13 (show op 128 12 = some (.aload_n 0, 1) by decide +kernel) rfl rfl ?_
    refine g_getR (ci := 6) (f := 1) (fin := true) (isR := true) 16 405 (show op 128 13 = some (.getfield 26, 3) by decide +kernel) rfl (by decide +kernel) (by decide +kernel) ?_
    refine g_aload_n 17 (show op 128 16 = some (.aload_n 0, 1) by decide +kernel) rfl rfl ?_
    refine g_getI (ci := 6) (f := 3) (fin := false) (isR := false) 20 (show op 128 17 = some (.getfield 33, 3) by decide +kernel) rfl (by decide +kernel) (by decide +kernel) ?_
    obtain ⟨g2, h⟩ := h
    obtain ⟨e1, q3, q4, h⟩ := h
    refine g_aaload 21 e1 (show op 128 20 = some (.aaload, 1) by decide +kernel) rfl g2 q3 ?_
    refine g_aload_n 22 (show op 128 21 = some (.aload_n 1, 1) by decide +kernel) rfl rfl ?_
    obtain ⟨s5, hD6, h⟩ := h
    refine g_call 25 [] (show op 128 22 = some (.invokevirtual 40, 3) by decide +kernel) (call_vi' (k' := 0) (n' := 0) (nj := 2) (j := 96) (k9 := 15) (t := []) (as := [(.inr (.inr (some e1))), (.inr (.inr (some x1)))]) (by decide +kernel) rfl (by decide +kernel) rfl rfl rfl rfl rfl rfl (by decide +kernel) (pat_C q4)) hD6 rfl ?_
    refine g_aload_n 26 (show op 128 25 = some (.aload_n 0, 1) by decide +kernel) rfl rfl ?_
    refine g_getR (ci := 6) (f := 2) (fin := true) (isR := true) 29 471 (show op 128 26 = some (.getfield 30, 3) by decide +kernel) rfl (by decide +kernel) (by decide +kernel) ?_
    refine g_aload_n 30 (show op 128 29 = some (.aload_n 0, 1) by decide +kernel) rfl rfl ?_
    refine g_getI (ci := 6) (f := 4) (fin := false) (isR := false) 33 (show op 128 30 = some (.getfield 44, 3) by decide +kernel) rfl (by decide +kernel) (by decide +kernel) ?_
    obtain ⟨s7, hD8, h⟩ := h
    refine g_call 36 [] (show op 128 33 = some (.invokevirtual 47, 3) by decide +kernel) (call_vi' (k' := 0) (n' := 0) (nj := 2) (j := 149) (k9 := 18) (t := []) (as := [(.inr (.inr (some 471))), (.inl (s5 402 4))]) (by decide +kernel) rfl (by decide +kernel) rfl rfl rfl rfl rfl rfl (by decide +kernel) (by decide +kernel)) hD8 rfl ?_
    refine g_aload_n 37 (show op 128 36 = some (.aload_n 0, 1) by decide +kernel) rfl rfl ?_
    refine g_dup 38 (show op 128 37 = some (.dup, 1) by decide +kernel) rfl rfl ?_
    refine g_getI (ci := 6) (f := 3) (fin := false) (isR := false) 41 (show op 128 38 = some (.getfield 33, 3) by decide +kernel) rfl (by decide +kernel) (by decide +kernel) ?_
    refine g_iconst 42 (show op 128 41 = some (.iconst 1, 1) by decide +kernel) rfl rfl ?_
    obtain ⟨g9, h⟩ := h
    refine g_iadd 43 (show op 128 42 = some (.iadd, 1) by decide +kernel) rfl g9 ?_
    refine g_putI (ci := 6) (f := 3) 46 (show op 128 43 = some (.putfield 33, 3) by decide +kernel) rfl (by decide +kernel) (by decide +kernel) ?_
    refine g_aload_n 47 (show op 128 46 = some (.aload_n 0, 1) by decide +kernel) rfl rfl ?_
    refine g_dup 48 (show op 128 47 = some (.dup, 1) by decide +kernel) rfl rfl ?_
    refine g_getI (ci := 6) (f := 4) (fin := false) (isR := false) 51 (show op 128 48 = some (.getfield 44, 3) by decide +kernel) rfl (by decide +kernel) (by decide +kernel) ?_
    refine g_iconst 52 (show op 128 51 = some (.iconst 1, 1) by decide +kernel) rfl rfl ?_
    obtain ⟨g10, h⟩ := h
    refine g_iadd 53 (show op 128 52 = some (.iadd, 1) by decide +kernel) rfl g10 ?_
    refine g_putI (ci := 6) (f := 4) 56 (show op 128 53 = some (.putfield 44, 3) by decide +kernel) rfl (by decide +kernel) (by decide +kernel) ?_
    exact h
  · rw [if_neg hc11] at h
    refine g_icmpT 56 (show op 128 9 = some (.if_icmp .ge 47, 3) by decide +kernel) rfl (decide_eq_true (Int.not_lt.mp hc11)) ?_
    exact h
/-- PatchBench$Pile.takeOff ()I -/
theorem b129 {σ : Sg} {o : Rs}   (h : (-2147483648 ≤ ((σ 402 3) - 1) ∧ ((σ 402 3) - 1) ≤ 2147483647) ∧ (∃ (v3 : Int) (s2 : Sg), Dd 147 [(.inr (.inr (some 471))), (.inl ((σ 402 3) - 1))] σ (.inl (some (.inl v3)), s2) ∧ (-2147483648 ≤ ((s2 402 3) - 1) ∧ ((s2 402 3) - 1) ≤ 2147483647) ∧ (∃ (s6 : Sg), Dd 130 [(.inr (.inr (some 402))), (.inl ((s2 402 3) - 1))] s2 (.inl none, s6) ∧ o = (.inl (some (.inl v3)), s6)))) : Dd 129 [(.inr (.inr (some 402)))] σ o := by
  refine Dd_of (l := 2) (by decide +kernel) ?_
  show Gd 129 0 [(some (.inr (.inr (some 402)))), none] [] σ 0 0 o
  refine g_aload_n 1 (show op 129 0 = some (.aload_n 0, 1) by decide +kernel) rfl rfl ?_
  refine g_getR (ci := 6) (f := 2) (fin := true) (isR := true) 4 471 (show op 129 1 = some (.getfield 30, 3) by decide +kernel) rfl (by decide +kernel) (by decide +kernel) ?_
  refine g_aload_n 5 (show op 129 4 = some (.aload_n 0, 1) by decide +kernel) rfl rfl ?_
  refine g_getI (ci := 6) (f := 3) (fin := false) (isR := false) 8 (show op 129 5 = some (.getfield 33, 3) by decide +kernel) rfl (by decide +kernel) (by decide +kernel) ?_
  refine g_iconst 9 (show op 129 8 = some (.iconst 1, 1) by decide +kernel) rfl rfl ?_
  obtain ⟨g1, h⟩ := h
  refine g_isub 10 (show op 129 9 = some (.isub, 1) by decide +kernel) rfl g1 ?_
  obtain ⟨v3, s2, hD4, h⟩ := h
  refine g_call 13 [(.inl v3)] (show op 129 10 = some (.invokevirtual 50, 3) by decide +kernel) (call_vi' (k' := 0) (n' := 0) (nj := 2) (j := 147) (k9 := 18) (t := []) (as := [(.inr (.inr (some 471))), (.inl ((σ 402 3) - 1))]) (by decide +kernel) rfl (by decide +kernel) rfl rfl rfl rfl rfl rfl (by decide +kernel) (by decide +kernel)) hD4 rfl ?_
  refine g_istore_n 14 [(some (.inr (.inr (some 402)))), (some (.inl v3))] (show op 129 13 = some (.istore_n 1, 1) by decide +kernel) rfl rfl rfl ?_
  refine g_aload_n 15 (show op 129 14 = some (.aload_n 0, 1) by decide +kernel) rfl rfl ?_
  refine g_aload_n 16 (show op 129 15 = some (.aload_n 0, 1) by decide +kernel) rfl rfl ?_
  refine g_getI (ci := 6) (f := 3) (fin := false) (isR := false) 19 (show op 129 16 = some (.getfield 33, 3) by decide +kernel) rfl (by decide +kernel) (by decide +kernel) ?_
  refine g_iconst 20 (show op 129 19 = some (.iconst 1, 1) by decide +kernel) rfl rfl ?_
  obtain ⟨g5, h⟩ := h
  refine g_isub 21 (show op 129 20 = some (.isub, 1) by decide +kernel) rfl g5 ?_
  obtain ⟨s6, hD7, h⟩ := h
  refine g_call 24 [] (show op 129 21 = some (.invokevirtual 54, 3) by decide +kernel) (call_vi' (k' := 0) (n' := 0) (nj := 2) (j := 130) (k9 := 16) (t := []) (as := [(.inr (.inr (some 402))), (.inl ((s2 402 3) - 1))]) (by decide +kernel) rfl (by decide +kernel) rfl rfl rfl rfl rfl rfl (by decide +kernel) (by decide +kernel)) hD7 rfl ?_
  refine g_iload_n 25 (show op 129 24 = some (.iload_n 1, 1) by decide +kernel) rfl rfl ?_
  exact (g_iret (show op 129 25 = some (.ireturn, 1) by decide +kernel) (by decide +kernel) h)
def C130_15 (x1 : Int) (x2 : Int) (σ : Sg) (o : Rs) : Prop := Gd 130 15 [(some (.inr (.inr (some 402)))), (some (.inl x1)), (some (.inl x2))] [] σ 0 0 o
def C130_59 (x1 : Int) (d2 : Option AV) (σ : Sg) (o : Rs) : Prop := Gd 130 59 [(some (.inr (.inr (some 402)))), (some (.inl x1)), d2] [] σ 0 0 o
theorem b130_15 {x1 : Int} {x2 : Int} {σ : Sg} {o : Rs}   (h : (-2147483648 ≤ (x2 + 1) ∧ (x2 + 1) ≤ 2147483647) ∧ (if (x2 + 1) < (σ 402 3) then (-2147483648 ≤ (x2 + 1) ∧ (x2 + 1) ≤ 2147483647) ∧ (if (x2 + 1) < 5 then (0 ≤ x2) ∧ (∃ e3 : Nat, qE 405 (x2).toNat e3 = true ∧ isPatch e3 = true ∧ (-2147483648 ≤ (x2 + 1) ∧ (x2 + 1) ≤ 2147483647) ∧ (0 ≤ (x2 + 1)) ∧ (∃ e8 : Nat, qE 405 ((x2 + 1)).toNat e8 = true ∧ isPatch e8 = true ∧ (∃ (s12 : Sg), Dd 96 [(.inr (.inr (some e3))), (.inr (.inr (some e8)))] σ (.inl none, s12) ∧ (-2147483648 ≤ (x2 + 1) ∧ (x2 + 1) ≤ 2147483647) ∧ C130_15 x1 (x2 + 1) s12 o))) else C130_59 x1 (some (.inl x2)) σ o) else C130_59 x1 (some (.inl x2)) σ o)) : C130_15 x1 x2 σ o := by
  show Gd 130 15 [(some (.inr (.inr (some 402)))), (some (.inl x1)), (some (.inl x2))] [] σ 0 0 o
  refine g_iload_n 16 (show op 130 15 = some (.iload_n 2, 1) by decide +kernel) rfl rfl ?_
  refine g_iconst 17 (show op 130 16 = some (.iconst 1, 1) by decide +kernel) rfl rfl ?_
  obtain ⟨g1, h⟩ := h
  refine g_iadd 18 (show op 130 17 = some (.iadd, 1) by decide +kernel) rfl g1 ?_
  refine g_aload_n 19 (show op 130 18 = some (.aload_n 0, 1) by decide +kernel) rfl rfl ?_
  refine g_getI (ci := 6) (f := 3) (fin := false) (isR := false) 22 (show op 130 19 = some (.getfield 33, 3) by decide +kernel) rfl (by decide +kernel) (by decide +kernel) ?_
  by_cases hc15 : (x2 + 1) < (σ 402 3)
  · rw [if_pos hc15] at h
    refine g_icmpF 25 59 (show op 130 22 = some (.if_icmp .ge 37, 3) by decide +kernel) rfl rfl (decide_eq_false (Int.not_le.mpr hc15)) ?_
    refine g_iload_n 26 (show op 130 25 = some (.iload_n 2, 1) by decide +kernel) rfl rfl ?_
    refine g_iconst 27 (show op 130 26 = some (.iconst 1, 1) by decide +kernel) rfl rfl ?_
    obtain ⟨g2, h⟩ := h
    refine g_iadd 28 (show op 130 27 = some (.iadd, 1) by decide +kernel) rfl g2 ?_
    refine g_aload_n 29 (show op 130 28 = some (.aload_n 0, 1) by decide +kernel) rfl rfl ?_
    refine g_getR (ci := 6) (f := 1) (fin := true) (isR := true) 32 405 (show op 130 29 = some (.getfield 26, 3) by decide +kernel) rfl (by decide +kernel) (by decide +kernel) ?_
    refine g_alenR 33 5 (show op 130 32 = some (.arraylength, 1) by decide +kernel) rfl (by decide +kernel) (by decide) ?_
    by_cases hc16 : (x2 + 1) < 5
    · rw [if_pos hc16] at h
      refine g_icmpF 36 59 (show op 130 33 = some (.if_icmp .ge 26, 3) by decide +kernel) rfl rfl (decide_eq_false (Int.not_le.mpr hc16)) ?_
      refine g_aload_n 37 (show op 130 36 = some (.aload_n 0, 1) by decide +kernel) rfl rfl ?_
      refine g_getR (ci := 6) (f := 1) (fin := true) (isR := true) 40 405 (show op 130 37 = some (.getfield 26, 3) by decide +kernel) rfl (by decide +kernel) (by decide +kernel) ?_
      refine g_iload_n 41 (show op 130 40 = some (.iload_n 2, 1) by decide +kernel) rfl rfl ?_
      obtain ⟨g4, h⟩ := h
      obtain ⟨e3, q5, q6, h⟩ := h
      refine g_aaload 42 e3 (show op 130 41 = some (.aaload, 1) by decide +kernel) rfl g4 q5 ?_
      refine g_aload_n 43 (show op 130 42 = some (.aload_n 0, 1) by decide +kernel) rfl rfl ?_
      refine g_getR (ci := 6) (f := 1) (fin := true) (isR := true) 46 405 (show op 130 43 = some (.getfield 26, 3) by decide +kernel) rfl (by decide +kernel) (by decide +kernel) ?_
      refine g_iload_n 47 (show op 130 46 = some (.iload_n 2, 1) by decide +kernel) rfl rfl ?_
      refine g_iconst 48 (show op 130 47 = some (.iconst 1, 1) by decide +kernel) rfl rfl ?_
      obtain ⟨g7, h⟩ := h
      refine g_iadd 49 (show op 130 48 = some (.iadd, 1) by decide +kernel) rfl g7 ?_
      obtain ⟨g9, h⟩ := h
      obtain ⟨e8, q10, q11, h⟩ := h
      refine g_aaload 50 e8 (show op 130 49 = some (.aaload, 1) by decide +kernel) rfl g9 q10 ?_
      obtain ⟨s12, hD13, h⟩ := h
      refine g_call 53 [] (show op 130 50 = some (.invokevirtual 40, 3) by decide +kernel) (call_vi' (k' := 0) (n' := 0) (nj := 2) (j := 96) (k9 := 15) (t := []) (as := [(.inr (.inr (some e3))), (.inr (.inr (some e8)))]) (by decide +kernel) rfl (by decide +kernel) rfl rfl rfl rfl rfl rfl (by decide +kernel) (pat_C q6)) hD13 rfl ?_
      obtain ⟨g14, h⟩ := h
      refine g_iinc 56 [(some (.inr (.inr (some 402)))), (some (.inl x1)), (some (.inl (x2 + 1)))] (show op 130 53 = some (.iinc 2 1, 3) by decide +kernel) rfl rfl g14 rfl ?_
      refine g_goto 15 (show op 130 56 = some (.goto (-41), 3) by decide +kernel) rfl ?_
      exact h
    · rw [if_neg hc16] at h
      refine g_icmpT 59 (show op 130 33 = some (.if_icmp .ge 26, 3) by decide +kernel) rfl (decide_eq_true (Int.not_lt.mp hc16)) ?_
      exact h
  · rw [if_neg hc15] at h
    refine g_icmpT 59 (show op 130 22 = some (.if_icmp .ge 37, 3) by decide +kernel) rfl (decide_eq_true (Int.not_lt.mp hc15)) ?_
    exact h
theorem b130_59 {x1 : Int} {d2 : Option AV} {σ : Sg} {o : Rs}   (h : (∃ (s1 : Sg), Dd 151 [(.inr (.inr (some 471))), (.inl x1)] σ (.inl none, s1) ∧ (-2147483648 ≤ ((s1 402 3) - 1) ∧ ((s1 402 3) - 1) ≤ 2147483647) ∧ o = (.inl none, (upS s1 402 3 ((s1 402 3) - 1))))) : C130_59 x1 d2 σ o := by
  show Gd 130 59 [(some (.inr (.inr (some 402)))), (some (.inl x1)), d2] [] σ 0 0 o
  refine g_aload_n 60 (show op 130 59 = some (.aload_n 0, 1) by decide +kernel) rfl rfl ?_
  refine g_getR (ci := 6) (f := 2) (fin := true) (isR := true) 63 471 (show op 130 60 = some (.getfield 30, 3) by decide +kernel) rfl (by decide +kernel) (by decide +kernel) ?_
  refine g_iload_n 64 (show op 130 63 = some (.iload_n 1, 1) by decide +kernel) rfl rfl ?_
  obtain ⟨s1, hD2, h⟩ := h
  refine g_call 67 [] (show op 130 64 = some (.invokevirtual 57, 3) by decide +kernel) (call_vi' (k' := 0) (n' := 0) (nj := 2) (j := 151) (k9 := 18) (t := []) (as := [(.inr (.inr (some 471))), (.inl x1)]) (by decide +kernel) rfl (by decide +kernel) rfl rfl rfl rfl rfl rfl (by decide +kernel) (by decide +kernel)) hD2 rfl ?_
  refine g_aload_n 68 (show op 130 67 = some (.aload_n 0, 1) by decide +kernel) rfl rfl ?_
  refine g_dup 69 (show op 130 68 = some (.dup, 1) by decide +kernel) rfl rfl ?_
  refine g_getI (ci := 6) (f := 3) (fin := false) (isR := false) 72 (show op 130 69 = some (.getfield 33, 3) by decide +kernel) rfl (by decide +kernel) (by decide +kernel) ?_
  refine g_iconst 73 (show op 130 72 = some (.iconst 1, 1) by decide +kernel) rfl rfl ?_
  obtain ⟨g3, h⟩ := h
  refine g_isub 74 (show op 130 73 = some (.isub, 1) by decide +kernel) rfl g3 ?_
  refine g_putI (ci := 6) (f := 3) 77 (show op 130 74 = some (.putfield 33, 3) by decide +kernel) rfl (by decide +kernel) (by decide +kernel) ?_
  exact g_vret (show op 130 77 = some (.return_, 1) by decide +kernel) (by decide +kernel) h
/-- PatchBench$Pile.closeGap (I)V -/
theorem b130 {x1 : Int} {σ : Sg} {o : Rs}   (h : (if 0 ≤ x1 then (if (σ 402 3) ≤ x1 then o = (.inl none, σ) else C130_15 x1 x1 σ o) else o = (.inl none, σ))) : Dd 130 [(.inr (.inr (some 402))), (.inl x1)] σ o := by
  refine Dd_of (l := 3) (by decide +kernel) ?_
  show Gd 130 0 [(some (.inr (.inr (some 402)))), (some (.inl x1)), none] [] σ 0 0 o
  refine g_iload_n 1 (show op 130 0 = some (.iload_n 1, 1) by decide +kernel) rfl rfl ?_
  by_cases hc1 : 0 ≤ x1
  · rw [if_pos hc1] at h
    refine g_ifF 4 12 (show op 130 1 = some (.ifCond .lt 11, 3) by decide +kernel) rfl rfl (decide_eq_false (Int.not_lt.mpr hc1)) ?_
    refine g_iload_n 5 (show op 130 4 = some (.iload_n 1, 1) by decide +kernel) rfl rfl ?_
    refine g_aload_n 6 (show op 130 5 = some (.aload_n 0, 1) by decide +kernel) rfl rfl ?_
    refine g_getI (ci := 6) (f := 3) (fin := false) (isR := false) 9 (show op 130 6 = some (.getfield 33, 3) by decide +kernel) rfl (by decide +kernel) (by decide +kernel) ?_
    by_cases hc2 : (σ 402 3) ≤ x1
    · rw [if_pos hc2] at h
      refine g_icmpF 12 13 (show op 130 9 = some (.if_icmp .lt 4, 3) by decide +kernel) rfl rfl (decide_eq_false (Int.not_lt.mpr hc2)) ?_
      exact g_vret (show op 130 12 = some (.return_, 1) by decide +kernel) (by decide +kernel) h
    · rw [if_neg hc2] at h
      refine g_icmpT 13 (show op 130 9 = some (.if_icmp .lt 4, 3) by decide +kernel) rfl (decide_eq_true (Int.not_le.mp hc2)) ?_
      refine g_iload_n 14 (show op 130 13 = some (.iload_n 1, 1) by decide +kernel) rfl rfl ?_
      refine g_istore_n 15 [(some (.inr (.inr (some 402)))), (some (.inl x1)), (some (.inl x1))] (show op 130 14 = some (.istore_n 2, 1) by decide +kernel) rfl rfl rfl ?_
      exact h
  · rw [if_neg hc1] at h
    refine g_ifT 12 (show op 130 1 = some (.ifCond .lt 11, 3) by decide +kernel) rfl (decide_eq_true (Int.not_le.mp hc1)) ?_
    exact g_vret (show op 130 12 = some (.return_, 1) by decide +kernel) (by decide +kernel) h
def C131_10 (x1 : Int) (d2 : Option AV) (x3 : Int) (x4 : Int) (x5 : Int) (σ : Sg) (o : Rs) : Prop := Gd 131 10 [(some (.inr (.inr (some 402)))), (some (.inl x1)), d2, (some (.inl x3)), (some (.inl x4)), (some (.inl x5))] [] σ 0 0 o
def C131_74 (x1 : Int) (d2 : Option AV) (x3 : Int) (x4 : Int) (x5 : Int) (σ : Sg) (o : Rs) : Prop := Gd 131 74 [(some (.inr (.inr (some 402)))), (some (.inl x1)), d2, (some (.inl x3)), (some (.inl x4)), (some (.inl x5))] [] σ 0 0 o
theorem b131_10 {x1 : Int} {d2 : Option AV} {x3 : Int} {x4 : Int} {x5 : Int} {σ : Sg} {o : Rs}   (h : (if x5 < (σ 402 3) then (if x5 < 5 then (if x4 = (-1) then o = (.inl none, σ) else (if x1 < x5 then (0 ≤ x5) ∧ (∃ e1 : Nat, qE 405 (x5).toNat e1 = true ∧ isPatch e1 = true ∧ (∃ (s5 : Sg), Dd 148 [(.inr (.inr (some (e1 + 1)))), (.inl x4), (.inl x3)] σ (.inl none, s5) ∧ (0 ≤ x5) ∧ (∃ e7 : Nat, qE 405 (x5).toNat e7 = true ∧ isPatch e7 = true ∧ (∃ (v12 : Int) (s11 : Sg), Dd 147 [(.inr (.inr (some (e7 + 5)))), (.inl x4)] s5 (.inl (some (.inl v12)), s11) ∧ C131_74 x1 d2 x3 v12 x5 s11 o)))) else C131_74 x1 d2 x3 x4 x5 σ o)) else o = (.inl none, σ)) else o = (.inl none, σ))) : C131_10 x1 d2 x3 x4 x5 σ o := by
  show Gd 131 10 [(some (.inr (.inr (some 402)))), (some (.inl x1)), d2, (some (.inl x3)), (some (.inl x4)), (some (.inl x5))] [] σ 0 0 o
  refine g_iload 12 (show op 131 10 = some (.iload 5, 2) by decide +kernel) rfl rfl ?_
  refine g_aload_n 13 (show op 131 12 = some (.aload_n 0, 1) by decide +kernel) rfl rfl ?_
  refine g_getI (ci := 6) (f := 3) (fin := false) (isR := false) 16 (show op 131 13 = some (.getfield 33, 3) by decide +kernel) rfl (by decide +kernel) (by decide +kernel) ?_
  by_cases hc14 : x5 < (σ 402 3)
  · rw [if_pos hc14] at h
    refine g_icmpF 19 96 (show op 131 16 = some (.if_icmp .ge 80, 3) by decide +kernel) rfl rfl (decide_eq_false (Int.not_le.mpr hc14)) ?_
    refine g_iload 21 (show op 131 19 = some (.iload 5, 2) by decide +kernel) rfl rfl ?_
    refine g_aload_n 22 (show op 131 21 = some (.aload_n 0, 1) by decide +kernel) rfl rfl ?_
    refine g_getR (ci := 6) (f := 1) (fin := true) (isR := true) 25 405 (show op 131 22 = some (.getfield 26, 3) by decide +kernel) rfl (by decide +kernel) (by decide +kernel) ?_
    refine g_alenR 26 5 (show op 131 25 = some (.arraylength, 1) by decide +kernel) rfl (by decide +kernel) (by decide) ?_
    by_cases hc15 : x5 < 5
    · rw [if_pos hc15] at h
      refine g_icmpF 29 96 (show op 131 26 = some (.if_icmp .ge 70, 3) by decide +kernel) rfl rfl (decide_eq_false (Int.not_le.mpr hc15)) ?_
      refine g_iload 31 (show op 131 29 = some (.iload 4, 2) by decide +kernel) rfl rfl ?_
      refine g_iconst 32 (show op 131 31 = some (.iconst (-1), 1) by decide +kernel) rfl rfl ?_
      by_cases hc16 : x4 = (-1)
      · rw [if_pos hc16] at h
        refine g_icmpT 96 (show op 131 32 = some (.if_icmp .eq 64, 3) by decide +kernel) rfl (decide_eq_true hc16) ?_
        exact g_vret (show op 131 96 = some (.return_, 1) by decide +kernel) (by decide +kernel) h
      · rw [if_neg hc16] at h
        refine g_icmpF 35 96 (show op 131 32 = some (.if_icmp .eq 64, 3) by decide +kernel) rfl rfl (decide_eq_false hc16) ?_
        refine g_iload 37 (show op 131 35 = some (.iload 5, 2) by decide +kernel) rfl rfl ?_
        refine g_iload_n 38 (show op 131 37 = some (.iload_n 1, 1) by decide +kernel) rfl rfl ?_
        by_cases hc17 : x1 < x5
        · rw [if_pos hc17] at h
          refine g_icmpF 41 74 (show op 131 38 = some (.if_icmp .le 36, 3) by decide +kernel) rfl rfl (decide_eq_false (Int.not_le.mpr hc17)) ?_
          refine g_aload_n 42 (show op 131 41 = some (.aload_n 0, 1) by decide +kernel) rfl rfl ?_
          refine g_getR (ci := 6) (f := 1) (fin := true) (isR := true) 45 405 (show op 131 42 = some (.getfield 26, 3) by decide +kernel) rfl (by decide +kernel) (by decide +kernel) ?_
          refine g_iload 47 (show op 131 45 = some (.iload 5, 2) by decide +kernel) rfl rfl ?_
          obtain ⟨g2, h⟩ := h
          obtain ⟨e1, q3, q4, h⟩ := h
          refine g_aaload 48 e1 (show op 131 47 = some (.aaload, 1) by decide +kernel) rfl g2 q3 ?_
          refine g_getR (ci := 5) (f := 0) (fin := true) (isR := true) 51 (e1 + 1) (show op 131 48 = some (.getfield 66, 3) by decide +kernel) rfl (by decide +kernel) (pat_R q4 rfl) ?_
          refine g_iload 53 (show op 131 51 = some (.iload 4, 2) by decide +kernel) rfl rfl ?_
          refine g_iload_n 54 (show op 131 53 = some (.iload_n 3, 1) by decide +kernel) rfl rfl ?_
          obtain ⟨s5, hD6, h⟩ := h
          refine g_call 57 [] (show op 131 54 = some (.invokevirtual 69, 3) by decide +kernel) (call_vi' (k' := 0) (n' := 0) (nj := 3) (j := 148) (k9 := 18) (t := []) (as := [(.inr (.inr (some (e1 + 1)))), (.inl x4), (.inl x3)]) (by decide +kernel) rfl (by decide +kernel) rfl rfl rfl rfl rfl rfl (by decide +kernel) (row_C (pat_1 q4))) hD6 rfl ?_
          refine g_aload_n 58 (show op 131 57 = some (.aload_n 0, 1) by decide +kernel) rfl rfl ?_
          refine g_getR (ci := 6) (f := 1) (fin := true) (isR := true) 61 405 (show op 131 58 = some (.getfield 26, 3) by decide +kernel) rfl (by decide +kernel) (by decide +kernel) ?_
          refine g_iload 63 (show op 131 61 = some (.iload 5, 2) by decide +kernel) rfl rfl ?_
          obtain ⟨g8, h⟩ := h
          obtain ⟨e7, q9, q10, h⟩ := h
          refine g_aaload 64 e7 (show op 131 63 = some (.aaload, 1) by decide +kernel) rfl g8 q9 ?_
          refine g_getR (ci := 5) (f := 2) (fin := true) (isR := true) 67 (e7 + 5) (show op 131 64 = some (.getfield 73, 3) by decide +kernel) rfl (by decide +kernel) (pat_R q10 rfl) ?_
          refine g_iload 69 (show op 131 67 = some (.iload 4, 2) by decide +kernel) rfl rfl ?_
          obtain ⟨v12, s11, hD13, h⟩ := h
          refine g_call 72 [(.inl v12)] (show op 131 69 = some (.invokevirtual 50, 3) by decide +kernel) (call_vi' (k' := 0) (n' := 0) (nj := 2) (j := 147) (k9 := 18) (t := []) (as := [(.inr (.inr (some (e7 + 5)))), (.inl x4)]) (by decide +kernel) rfl (by decide +kernel) rfl rfl rfl rfl rfl rfl (by decide +kernel) (row_C (pat_5 q10))) hD13 rfl ?_
          refine g_istore 74 [(some (.inr (.inr (some 402)))), (some (.inl x1)), d2, (some (.inl x3)), (some (.inl v12)), (some (.inl x5))] (show op 131 72 = some (.istore 4, 2) by decide +kernel) rfl rfl rfl ?_
          exact h
        · rw [if_neg hc17] at h
          refine g_icmpT 74 (show op 131 38 = some (.if_icmp .le 36, 3) by decide +kernel) rfl (decide_eq_true (Int.not_lt.mp hc17)) ?_
          exact h
    · rw [if_neg hc15] at h
      refine g_icmpT 96 (show op 131 26 = some (.if_icmp .ge 70, 3) by decide +kernel) rfl (decide_eq_true (Int.not_lt.mp hc15)) ?_
      exact g_vret (show op 131 96 = some (.return_, 1) by decide +kernel) (by decide +kernel) h
  · rw [if_neg hc14] at h
    refine g_icmpT 96 (show op 131 16 = some (.if_icmp .ge 80, 3) by decide +kernel) rfl (decide_eq_true (Int.not_lt.mp hc14)) ?_
    exact g_vret (show op 131 96 = some (.return_, 1) by decide +kernel) (by decide +kernel) h
theorem b131_74 {x1 : Int} {d2 : Option AV} {x3 : Int} {x4 : Int} {x5 : Int} {σ : Sg} {o : Rs}   (h : (0 ≤ x5) ∧ (∃ e1 : Nat, qE 405 (x5).toNat e1 = true ∧ isPatch e1 = true ∧ (∃ (s5 : Sg), Dd 148 [(.inr (.inr (some (e1 + 3)))), (.inl x4), (.inl x3)] σ (.inl none, s5) ∧ (-2147483648 ≤ (x5 + 1) ∧ (x5 + 1) ≤ 2147483647) ∧ C131_10 x1 d2 x3 x4 (x5 + 1) s5 o))) : C131_74 x1 d2 x3 x4 x5 σ o := by
  show Gd 131 74 [(some (.inr (.inr (some 402)))), (some (.inl x1)), d2, (some (.inl x3)), (some (.inl x4)), (some (.inl x5))] [] σ 0 0 o
  refine g_aload_n 75 (show op 131 74 = some (.aload_n 0, 1) by decide +kernel) rfl rfl ?_
  refine g_getR (ci := 6) (f := 1) (fin := true) (isR := true) 78 405 (show op 131 75 = some (.getfield 26, 3) by decide +kernel) rfl (by decide +kernel) (by decide +kernel) ?_
  refine g_iload 80 (show op 131 78 = some (.iload 5, 2) by decide +kernel) rfl rfl ?_
  obtain ⟨g2, h⟩ := h
  obtain ⟨e1, q3, q4, h⟩ := h
  refine g_aaload 81 e1 (show op 131 80 = some (.aaload, 1) by decide +kernel) rfl g2 q3 ?_
  refine g_getR (ci := 5) (f := 1) (fin := true) (isR := true) 84 (e1 + 3) (show op 131 81 = some (.getfield 37, 3) by decide +kernel) rfl (by decide +kernel) (pat_R q4 rfl) ?_
  refine g_iload 86 (show op 131 84 = some (.iload 4, 2) by decide +kernel) rfl rfl ?_
  refine g_iload_n 87 (show op 131 86 = some (.iload_n 3, 1) by decide +kernel) rfl rfl ?_
  obtain ⟨s5, hD6, h⟩ := h
  refine g_call 90 [] (show op 131 87 = some (.invokevirtual 69, 3) by decide +kernel) (call_vi' (k' := 0) (n' := 0) (nj := 3) (j := 148) (k9 := 18) (t := []) (as := [(.inr (.inr (some (e1 + 3)))), (.inl x4), (.inl x3)]) (by decide +kernel) rfl (by decide +kernel) rfl rfl rfl rfl rfl rfl (by decide +kernel) (row_C (pat_3 q4))) hD6 rfl ?_
  obtain ⟨g7, h⟩ := h
  refine g_iinc 93 [(some (.inr (.inr (some 402)))), (some (.inl x1)), d2, (some (.inl x3)), (some (.inl x4)), (some (.inl (x5 + 1)))] (show op 131 90 = some (.iinc 5 1, 3) by decide +kernel) rfl rfl g7 rfl ?_
  refine g_goto 10 (show op 131 93 = some (.goto (-83), 3) by decide +kernel) rfl ?_
  exact h
/-- PatchBench$Pile.rewrite (III)V -/
theorem b131 {x1 : Int} {x2 : Int} {x3 : Int} {σ : Sg} {o : Rs}   (h : C131_10 x1 (some (.inl x2)) x3 x2 (if 0 < x1 then x1 else 0) σ o) : Dd 131 [(.inr (.inr (some 402))), (.inl x1), (.inl x2), (.inl x3)] σ o := by
  refine Dd_of (l := 6) (by decide +kernel) ?_
  show Gd 131 0 [(some (.inr (.inr (some 402)))), (some (.inl x1)), (some (.inl x2)), (some (.inl x3)), none, none] [] σ 0 0 o
  refine g_iload_n 1 (show op 131 0 = some (.iload_n 2, 1) by decide +kernel) rfl rfl ?_
  refine g_istore 3 [(some (.inr (.inr (some 402)))), (some (.inl x1)), (some (.inl x2)), (some (.inl x3)), (some (.inl x2)), none] (show op 131 1 = some (.istore 4, 2) by decide +kernel) rfl rfl rfl ?_
  refine g_iconst 4 (show op 131 3 = some (.iconst 0, 1) by decide +kernel) rfl rfl ?_
  refine g_iload_n 5 (show op 131 4 = some (.iload_n 1, 1) by decide +kernel) rfl rfl ?_
  refine g_max 8 (show op 131 5 = some (.invokestatic 60, 3) by decide +kernel) rfl (by decide +kernel) (by decide +kernel) rfl ?_
  refine g_istore 10 [(some (.inr (.inr (some 402)))), (some (.inl x1)), (some (.inl x2)), (some (.inl x3)), (some (.inl x2)), (some (.inl (if 0 < x1 then x1 else 0)))] (show op 131 8 = some (.istore 5, 2) by decide +kernel) rfl rfl rfl ?_
  exact h
def C132_17 (d1 : Option AV) (x2 : Int) (x3 : Int) (d4 : Option AV) (σ : Sg) (o : Rs) : Prop := Gd 132 17 [(some (.inr (.inr (some 402)))), d1, (some (.inl x2)), (some (.inl x3)), d4] [] σ 0 0 o
theorem b132_17 {d1 : Option AV} {x2 : Int} {x3 : Int} {d4 : Option AV} {σ : Sg} {o : Rs}   (h : (if 0 ≤ x3 then (0 ≤ x3) ∧ (∃ e1 : Nat, qE 405 (x3).toNat e1 = true ∧ isPatch e1 = true ∧ (∃ (v6 : Int) (s5 : Sg), Dd 122 [(.inr (.inr (some e1))), (.inl x2)] σ (.inl (some (.inl v6)), s5) ∧ (if v6 = (-1) then (-2147483648 ≤ (x3 + 1) ∧ (x3 + 1) ≤ 2147483647) ∧ (-2147483648 ≤ (100 * (x3 + 1)) ∧ (100 * (x3 + 1)) ≤ 2147483647) ∧ (-2147483648 ≤ ((100 * (x3 + 1)) + x2) ∧ ((100 * (x3 + 1)) + x2) ≤ 2147483647) ∧ o = (.inl (some (.inl ((100 * (x3 + 1)) + x2))), s5) else (-2147483648 ≤ (x3 + (-1)) ∧ (x3 + (-1)) ≤ 2147483647) ∧ C132_17 d1 v6 (x3 + (-1)) (some (.inl v6)) s5 o))) else o = (.inl (some (.inl x2)), σ))) : C132_17 d1 x2 x3 d4 σ o := by
  show Gd 132 17 [(some (.inr (.inr (some 402)))), d1, (some (.inl x2)), (some (.inl x3)), d4] [] σ 0 0 o
  refine g_iload_n 18 (show op 132 17 = some (.iload_n 3, 1) by decide +kernel) rfl rfl ?_
  by_cases hc12 : 0 ≤ x3
  · rw [if_pos hc12] at h
    refine g_ifF 21 57 (show op 132 18 = some (.ifCond .lt 39, 3) by decide +kernel) rfl rfl (decide_eq_false (Int.not_lt.mpr hc12)) ?_
    refine g_aload_n 22 (show op 132 21 = some (.aload_n 0, 1) by decide +kernel) rfl rfl ?_
    refine g_getR (ci := 6) (f := 1) (fin := true) (isR := true) 25 405 (show op 132 22 = some (.getfield 26, 3) by decide +kernel) rfl (by decide +kernel) (by decide +kernel) ?_
    refine g_iload_n 26 (show op 132 25 = some (.iload_n 3, 1) by decide +kernel) rfl rfl ?_
    obtain ⟨g2, h⟩ := h
    obtain ⟨e1, q3, q4, h⟩ := h
    refine g_aaload 27 e1 (show op 132 26 = some (.aaload, 1) by decide +kernel) rfl g2 q3 ?_
    refine g_iload_n 28 (show op 132 27 = some (.iload_n 2, 1) by decide +kernel) rfl rfl ?_
    obtain ⟨v6, s5, hD7, h⟩ := h
    refine g_call 31 [(.inl v6)] (show op 132 28 = some (.invokevirtual 79, 3) by decide +kernel) (call_vi' (k' := 0) (n' := 0) (nj := 2) (j := 122) (k9 := 15) (t := []) (as := [(.inr (.inr (some e1))), (.inl x2)]) (by decide +kernel) rfl (by decide +kernel) rfl rfl rfl rfl rfl rfl (by decide +kernel) (pat_C q4)) hD7 rfl ?_
    refine g_istore 33 [(some (.inr (.inr (some 402)))), d1, (some (.inl x2)), (some (.inl x3)), (some (.inl v6))] (show op 132 31 = some (.istore 4, 2) by decide +kernel) rfl rfl rfl ?_
    refine g_iload 35 (show op 132 33 = some (.iload 4, 2) by decide +kernel) rfl rfl ?_
    refine g_iconst 36 (show op 132 35 = some (.iconst (-1), 1) by decide +kernel) rfl rfl ?_
    by_cases hc13 : v6 = (-1)
    · rw [if_pos hc13] at h
      refine g_icmpF 39 48 (show op 132 36 = some (.if_icmp .ne 12, 3) by decide +kernel) rfl rfl (decide_eq_false (fun h9 => h9 hc13)) ?_
      refine g_bipush 41 (show op 132 39 = some (.bipush 100, 2) by decide +kernel) rfl (by decide) ?_
      refine g_iload_n 42 (show op 132 41 = some (.iload_n 3, 1) by decide +kernel) rfl rfl ?_
      refine g_iconst 43 (show op 132 42 = some (.iconst 1, 1) by decide +kernel) rfl rfl ?_
      obtain ⟨g8, h⟩ := h
      refine g_iadd 44 (show op 132 43 = some (.iadd, 1) by decide +kernel) rfl g8 ?_
      obtain ⟨g9, h⟩ := h
      refine g_imul 45 (show op 132 44 = some (.imul, 1) by decide +kernel) rfl g9 ?_
      refine g_iload_n 46 (show op 132 45 = some (.iload_n 2, 1) by decide +kernel) rfl rfl ?_
      obtain ⟨g10, h⟩ := h
      refine g_iadd 47 (show op 132 46 = some (.iadd, 1) by decide +kernel) rfl g10 ?_
      exact (g_iret (show op 132 47 = some (.ireturn, 1) by decide +kernel) (by decide +kernel) h)
    · rw [if_neg hc13] at h
      refine g_icmpT 48 (show op 132 36 = some (.if_icmp .ne 12, 3) by decide +kernel) rfl (decide_eq_true hc13) ?_
      refine g_iload 50 (show op 132 48 = some (.iload 4, 2) by decide +kernel) rfl rfl ?_
      refine g_istore_n 51 [(some (.inr (.inr (some 402)))), d1, (some (.inl v6)), (some (.inl x3)), (some (.inl v6))] (show op 132 50 = some (.istore_n 2, 1) by decide +kernel) rfl rfl rfl ?_
      obtain ⟨g11, h⟩ := h
      refine g_iinc 54 [(some (.inr (.inr (some 402)))), d1, (some (.inl v6)), (some (.inl (x3 + (-1)))), (some (.inl v6))] (show op 132 51 = some (.iinc 3 (-1), 3) by decide +kernel) rfl rfl g11 rfl ?_
      refine g_goto 17 (show op 132 54 = some (.goto (-37), 3) by decide +kernel) rfl ?_
      exact h
  · rw [if_neg hc12] at h
    refine g_ifT 57 (show op 132 18 = some (.ifCond .lt 39, 3) by decide +kernel) rfl (decide_eq_true (Int.not_le.mp hc12)) ?_
    refine g_iload_n 58 (show op 132 57 = some (.iload_n 2, 1) by decide +kernel) rfl rfl ?_
    exact (g_iret (show op 132 58 = some (.ireturn, 1) by decide +kernel) (by decide +kernel) h)
/-- PatchBench$Pile.origin (I)I -/
theorem b132 {x1 : Int} {σ : Sg} {o : Rs}   (h : (-2147483648 ≤ ((if 5 < (σ 402 3) then 5 else (σ 402 3)) - 1) ∧ ((if 5 < (σ 402 3) then 5 else (σ 402 3)) - 1) ≤ 2147483647) ∧ C132_17 (some (.inl x1)) x1 ((if 5 < (σ 402 3) then 5 else (σ 402 3)) - 1) none σ o) : Dd 132 [(.inr (.inr (some 402))), (.inl x1)] σ o := by
  refine Dd_of (l := 5) (by decide +kernel) ?_
  show Gd 132 0 [(some (.inr (.inr (some 402)))), (some (.inl x1)), none, none, none] [] σ 0 0 o
  refine g_iload_n 1 (show op 132 0 = some (.iload_n 1, 1) by decide +kernel) rfl rfl ?_
  refine g_istore_n 2 [(some (.inr (.inr (some 402)))), (some (.inl x1)), (some (.inl x1)), none, none] (show op 132 1 = some (.istore_n 2, 1) by decide +kernel) rfl rfl rfl ?_
  refine g_aload_n 3 (show op 132 2 = some (.aload_n 0, 1) by decide +kernel) rfl rfl ?_
  refine g_getI (ci := 6) (f := 3) (fin := false) (isR := false) 6 (show op 132 3 = some (.getfield 33, 3) by decide +kernel) rfl (by decide +kernel) (by decide +kernel) ?_
  refine g_aload_n 7 (show op 132 6 = some (.aload_n 0, 1) by decide +kernel) rfl rfl ?_
  refine g_getR (ci := 6) (f := 1) (fin := true) (isR := true) 10 405 (show op 132 7 = some (.getfield 26, 3) by decide +kernel) rfl (by decide +kernel) (by decide +kernel) ?_
  refine g_alenR 11 5 (show op 132 10 = some (.arraylength, 1) by decide +kernel) rfl (by decide +kernel) (by decide) ?_
  refine g_min 14 (show op 132 11 = some (.invokestatic 76, 3) by decide +kernel) rfl (by decide +kernel) (by decide +kernel) rfl ?_
  refine g_iconst 15 (show op 132 14 = some (.iconst 1, 1) by decide +kernel) rfl rfl ?_
  obtain ⟨g1, h⟩ := h
  refine g_isub 16 (show op 132 15 = some (.isub, 1) by decide +kernel) rfl g1 ?_
  refine g_istore_n 17 [(some (.inr (.inr (some 402)))), (some (.inl x1)), (some (.inl x1)), (some (.inl ((if 5 < (σ 402 3) then 5 else (σ 402 3)) - 1))), none] (show op 132 16 = some (.istore_n 3, 1) by decide +kernel) rfl rfl rfl ?_
  exact h
/-- PatchBench$Pile.originLayer (I)I -/
theorem b133 {x1 : Int} {σ : Sg} {o : Rs}   (h : (-2147483648 ≤ ((Int.tdiv x1 100) - 1) ∧ ((Int.tdiv x1 100) - 1) ≤ 2147483647) ∧ o = (.inl (some (.inl ((Int.tdiv x1 100) - 1))), σ)) : Dd 133 [(.inr (.inr (some 402))), (.inl x1)] σ o := by
  refine Dd_of (l := 2) (by decide +kernel) ?_
  show Gd 133 0 [(some (.inr (.inr (some 402)))), (some (.inl x1))] [] σ 0 0 o
  refine g_iload_n 1 (show op 133 0 = some (.iload_n 1, 1) by decide +kernel) rfl rfl ?_
  refine g_bipush 3 (show op 133 1 = some (.bipush 100, 2) by decide +kernel) rfl (by decide) ?_
  refine g_idiv 4 (show op 133 3 = some (.idiv, 1) by decide +kernel) rfl (by decide) ?_
  refine g_iconst 5 (show op 133 4 = some (.iconst 1, 1) by decide +kernel) rfl rfl ?_
  obtain ⟨g1, h⟩ := h
  refine g_isub 6 (show op 133 5 = some (.isub, 1) by decide +kernel) rfl g1 ?_
  exact (g_iret (show op 133 6 = some (.ireturn, 1) by decide +kernel) (by decide +kernel) h)
/-- PatchBench$Pile.originPlace (I)I -/
theorem b134 {x1 : Int} {σ : Sg} {o : Rs}   (h : o = (.inl (some (.inl (Int.tmod x1 100))), σ)) : Dd 134 [(.inr (.inr (some 402))), (.inl x1)] σ o := by
  refine Dd_of (l := 2) (by decide +kernel) ?_
  show Gd 134 0 [(some (.inr (.inr (some 402)))), (some (.inl x1))] [] σ 0 0 o
  refine g_iload_n 1 (show op 134 0 = some (.iload_n 1, 1) by decide +kernel) rfl rfl ?_
  refine g_bipush 3 (show op 134 1 = some (.bipush 100, 2) by decide +kernel) rfl (by decide) ?_
  refine g_irem 4 (show op 134 3 = some (.irem, 1) by decide +kernel) rfl (by decide) ?_
  exact (g_iret (show op 134 4 = some (.ireturn, 1) by decide +kernel) (by decide +kernel) h)
def C162_49 (d2 : Option AV) (x3 : Int) (x4 : Int) (x5 : Int) (σ : Sg) (o : Rs) : Prop := Gd 162 49 [(some (.inr (.inr (some 473)))), (some (.inr (.inr (some 402)))), d2, (some (.inl x3)), (some (.inl x4)), (some (.inl x5))] [] σ 0 0 o
def C162_93 (d2 : Option AV) (x3 : Int) (x4 : Int) (x5 : Int) (σ : Sg) (o : Rs) : Prop := Gd 162 93 [(some (.inr (.inr (some 473)))), (some (.inr (.inr (some 402)))), d2, (some (.inl x3)), (some (.inl x4)), (some (.inl x5))] [] σ 0 0 o
theorem b162_49 {d2 : Option AV} {x3 : Int} {x4 : Int} {x5 : Int} {σ : Sg} {o : Rs}   (h : (if 0 ≤ x5 then (0 ≤ x5) ∧ (∃ e1 : Nat, qE 405 (x5).toNat e1 = true ∧ isPatch e1 = true ∧ (∃ (v6 : Int) (s5 : Sg), Dd 163 [(.inr (.inr (some 473))), (.inr (.inr (some e1))), (.inl x3)] σ (.inl (some (.inl v6)), s5) ∧ (if v6 = 0 then (0 ≤ x5) ∧ (∃ e8 : Nat, qE 405 (x5).toNat e8 = true ∧ isPatch e8 = true ∧ (∃ (s12 : Sg), Dd 164 [(.inr (.inr (some 473))), (.inr (.inr (some e8))), (.inl x3)] s5 (.inl none, s12) ∧ (-2147483648 ≤ (x3 + 1) ∧ (x3 + 1) ≤ 2147483647) ∧ C162_93 d2 (x3 + 1) (iOr x4 (iShl 1 x5)) x5 s12 o)) else C162_93 d2 x3 x4 x5 s5 o))) else o = (.inl (some (.inl x4)), σ))) : C162_49 d2 x3 x4 x5 σ o := by
  show Gd 162 49 [(some (.inr (.inr (some 473)))), (some (.inr (.inr (some 402)))), d2, (some (.inl x3)), (some (.inl x4)), (some (.inl x5))] [] σ 0 0 o
  refine g_iload 51 (show op 162 49 = some (.iload 5, 2) by decide +kernel) rfl rfl ?_
  by_cases hc15 : 0 ≤ x5
  · rw [if_pos hc15] at h
    refine g_ifF 54 99 (show op 162 51 = some (.ifCond .lt 48, 3) by decide +kernel) rfl rfl (decide_eq_false (Int.not_lt.mpr hc15)) ?_
    refine g_aload_n 55 (show op 162 54 = some (.aload_n 0, 1) by decide +kernel) rfl rfl ?_
    refine g_aload_n 56 (show op 162 55 = some (.aload_n 1, 1) by decide +kernel) rfl rfl ?_
    refine g_getR (ci := 6) (f := 1) (fin := true) (isR := true) 59 405 (show op 162 56 = some (.getfield 46, 3) by decide +kernel) rfl (by decide +kernel) (by decide +kernel) ?_
    refine g_iload 61 (show op 162 59 = some (.iload 5, 2) by decide +kernel) rfl rfl ?_
    obtain ⟨g2, h⟩ := h
    obtain ⟨e1, q3, q4, h⟩ := h
    refine g_aaload 62 e1 (show op 162 61 = some (.aaload, 1) by decide +kernel) rfl g2 q3 ?_
    refine g_iload_n 63 (show op 162 62 = some (.iload_n 3, 1) by decide +kernel) rfl rfl ?_
    obtain ⟨v6, s5, hD7, h⟩ := h
    refine g_call 66 [(.inl v6)] (show op 162 63 = some (.invokevirtual 55, 3) by decide +kernel) (call_vi' (k' := 0) (n' := 0) (nj := 3) (j := 163) (k9 := 19) (t := []) (as := [(.inr (.inr (some 473))), (.inr (.inr (some e1))), (.inl x3)]) (by decide +kernel) rfl (by decide +kernel) rfl rfl rfl rfl rfl rfl (by decide +kernel) (by decide +kernel)) hD7 rfl ?_
    by_cases hc16 : v6 = 0
    · rw [if_pos hc16] at h
      refine g_ifF 69 93 (show op 162 66 = some (.ifCond .ne 27, 3) by decide +kernel) rfl rfl (decide_eq_false (fun h9 => h9 hc16)) ?_
      refine g_aload_n 70 (show op 162 69 = some (.aload_n 0, 1) by decide +kernel) rfl rfl ?_
      refine g_aload_n 71 (show op 162 70 = some (.aload_n 1, 1) by decide +kernel) rfl rfl ?_
      refine g_getR (ci := 6) (f := 1) (fin := true) (isR := true) 74 405 (show op 162 71 = some (.getfield 46, 3) by decide +kernel) rfl (by decide +kernel) (by decide +kernel) ?_
      refine g_iload 76 (show op 162 74 = some (.iload 5, 2) by decide +kernel) rfl rfl ?_
      obtain ⟨g9, h⟩ := h
      obtain ⟨e8, q10, q11, h⟩ := h
      refine g_aaload 77 e8 (show op 162 76 = some (.aaload, 1) by decide +kernel) rfl g9 q10 ?_
      refine g_iload_n 78 (show op 162 77 = some (.iload_n 3, 1) by decide +kernel) rfl rfl ?_
      obtain ⟨s12, hD13, h⟩ := h
      refine g_call 81 [] (show op 162 78 = some (.invokevirtual 59, 3) by decide +kernel) (call_vi' (k' := 0) (n' := 0) (nj := 3) (j := 164) (k9 := 19) (t := []) (as := [(.inr (.inr (some 473))), (.inr (.inr (some e8))), (.inl x3)]) (by decide +kernel) rfl (by decide +kernel) rfl rfl rfl rfl rfl rfl (by decide +kernel) (by decide +kernel)) hD13 rfl ?_
      obtain ⟨g14, h⟩ := h
      refine g_iinc 84 [(some (.inr (.inr (some 473)))), (some (.inr (.inr (some 402)))), d2, (some (.inl (x3 + 1))), (some (.inl x4)), (some (.inl x5))] (show op 162 81 = some (.iinc 3 1, 3) by decide +kernel) rfl rfl g14 rfl ?_
      refine g_iload 86 (show op 162 84 = some (.iload 4, 2) by decide +kernel) rfl rfl ?_
      refine g_iconst 87 (show op 162 86 = some (.iconst 1, 1) by decide +kernel) rfl rfl ?_
      refine g_iload 89 (show op 162 87 = some (.iload 5, 2) by decide +kernel) rfl rfl ?_
      refine g_ishl 90 (show op 162 89 = some (.ishl, 1) by decide +kernel) rfl ?_
      refine g_ior 91 (show op 162 90 = some (.ior, 1) by decide +kernel) rfl ?_
      refine g_istore 93 [(some (.inr (.inr (some 473)))), (some (.inr (.inr (some 402)))), d2, (some (.inl (x3 + 1))), (some (.inl (iOr x4 (iShl 1 x5)))), (some (.inl x5))] (show op 162 91 = some (.istore 4, 2) by decide +kernel) rfl rfl rfl ?_
      exact h
    · rw [if_neg hc16] at h
      refine g_ifT 93 (show op 162 66 = some (.ifCond .ne 27, 3) by decide +kernel) rfl (decide_eq_true hc16) ?_
      exact h
  · rw [if_neg hc15] at h
    refine g_ifT 99 (show op 162 51 = some (.ifCond .lt 48, 3) by decide +kernel) rfl (decide_eq_true (Int.not_le.mp hc15)) ?_
    refine g_iload 101 (show op 162 99 = some (.iload 4, 2) by decide +kernel) rfl rfl ?_
    exact (g_iret (show op 162 101 = some (.ireturn, 1) by decide +kernel) (by decide +kernel) h)
theorem b162_93 {d2 : Option AV} {x3 : Int} {x4 : Int} {x5 : Int} {σ : Sg} {o : Rs}   (h : (-2147483648 ≤ (x5 + (-1)) ∧ (x5 + (-1)) ≤ 2147483647) ∧ C162_49 d2 x3 x4 (x5 + (-1)) σ o) : C162_93 d2 x3 x4 x5 σ o := by
  show Gd 162 93 [(some (.inr (.inr (some 473)))), (some (.inr (.inr (some 402)))), d2, (some (.inl x3)), (some (.inl x4)), (some (.inl x5))] [] σ 0 0 o
  obtain ⟨g1, h⟩ := h
  refine g_iinc 96 [(some (.inr (.inr (some 473)))), (some (.inr (.inr (some 402)))), d2, (some (.inl x3)), (some (.inl x4)), (some (.inl (x5 + (-1))))] (show op 162 93 = some (.iinc 5 (-1), 3) by decide +kernel) rfl rfl g1 rfl ?_
  refine g_goto 49 (show op 162 96 = some (.goto (-47), 3) by decide +kernel) rfl ?_
  exact h
/-- PatchBench$Trials.neededSet (LPatchBench$Pile;I)I -/
theorem b162 {x2 : Int} {σ : Sg} {o : Rs}   (h : (if 0 ≤ x2 then (if x2 < 5 then (if 5 ≤ x2 then o = (.inl (some (.inl 0)), σ) else (∃ e1 : Nat, qE 474 ((0 : Int)).toNat e1 = true ∧ isPatch e1 = true ∧ (0 ≤ x2) ∧ (∃ e5 : Nat, qE 405 (x2).toNat e5 = true ∧ isPatch e5 = true ∧ (∃ (s9 : Sg), Dd 96 [(.inr (.inr (some e1))), (.inr (.inr (some e5)))] σ (.inl none, s9) ∧ (-2147483648 ≤ (x2 - 1) ∧ (x2 - 1) ≤ 2147483647) ∧ C162_49 (some (.inl x2)) 1 0 (x2 - 1) s9 o)))) else o = (.inl (some (.inl 0)), σ)) else o = (.inl (some (.inl 0)), σ))) : Dd 162 [(.inr (.inr (some 473))), (.inr (.inr (some 402))), (.inl x2)] σ o := by
  refine Dd_of (l := 6) (by decide +kernel) ?_
  show Gd 162 0 [(some (.inr (.inr (some 473)))), (some (.inr (.inr (some 402)))), (some (.inl x2)), none, none, none] [] σ 0 0 o
  refine g_iload_n 1 (show op 162 0 = some (.iload_n 2, 1) by decide +kernel) rfl rfl ?_
  by_cases hc12 : 0 ≤ x2
  · rw [if_pos hc12] at h
    refine g_ifF 4 22 (show op 162 1 = some (.ifCond .lt 21, 3) by decide +kernel) rfl rfl (decide_eq_false (Int.not_lt.mpr hc12)) ?_
    refine g_iload_n 5 (show op 162 4 = some (.iload_n 2, 1) by decide +kernel) rfl rfl ?_
    refine g_aload_n 6 (show op 162 5 = some (.aload_n 1, 1) by decide +kernel) rfl rfl ?_
    refine g_getR (ci := 6) (f := 1) (fin := true) (isR := true) 9 405 (show op 162 6 = some (.getfield 46, 3) by decide +kernel) rfl (by decide +kernel) (by decide +kernel) ?_
    refine g_alenR 10 5 (show op 162 9 = some (.arraylength, 1) by decide +kernel) rfl (by decide +kernel) (by decide) ?_
    by_cases hc13 : x2 < 5
    · rw [if_pos hc13] at h
      refine g_icmpF 13 22 (show op 162 10 = some (.if_icmp .ge 12, 3) by decide +kernel) rfl rfl (decide_eq_false (Int.not_le.mpr hc13)) ?_
      refine g_iload_n 14 (show op 162 13 = some (.iload_n 2, 1) by decide +kernel) rfl rfl ?_
      refine g_aload_n 15 (show op 162 14 = some (.aload_n 0, 1) by decide +kernel) rfl rfl ?_
      refine g_getR (ci := 9) (f := 1) (fin := true) (isR := true) 18 474 (show op 162 15 = some (.getfield 21, 3) by decide +kernel) rfl (by decide +kernel) (by decide +kernel) ?_
      refine g_alenR 19 5 (show op 162 18 = some (.arraylength, 1) by decide +kernel) rfl (by decide +kernel) (by decide) ?_
      by_cases hc14 : 5 ≤ x2
      · rw [if_pos hc14] at h
        refine g_icmpF 22 24 (show op 162 19 = some (.if_icmp .lt 5, 3) by decide +kernel) rfl rfl (decide_eq_false (Int.not_lt.mpr hc14)) ?_
        refine g_iconst 23 (show op 162 22 = some (.iconst 0, 1) by decide +kernel) rfl rfl ?_
        exact (g_iret (show op 162 23 = some (.ireturn, 1) by decide +kernel) (by decide +kernel) h)
      · rw [if_neg hc14] at h
        refine g_icmpT 24 (show op 162 19 = some (.if_icmp .lt 5, 3) by decide +kernel) rfl (decide_eq_true (Int.not_le.mp hc14)) ?_
        refine g_aload_n 25 (show op 162 24 = some (.aload_n 0, 1) by decide +kernel) rfl rfl ?_
        refine g_getR (ci := 9) (f := 1) (fin := true) (isR := true) 28 474 (show op 162 25 = some (.getfield 21, 3) by decide +kernel) rfl (by decide +kernel) (by decide +kernel) ?_
        refine g_iconst 29 (show op 162 28 = some (.iconst 0, 1) by decide +kernel) rfl rfl ?_
        obtain ⟨e1, q3, q4, h⟩ := h
        refine g_aaload 30 e1 (show op 162 29 = some (.aaload, 1) by decide +kernel) rfl (by decide) q3 ?_
        refine g_aload_n 31 (show op 162 30 = some (.aload_n 1, 1) by decide +kernel) rfl rfl ?_
        refine g_getR (ci := 6) (f := 1) (fin := true) (isR := true) 34 405 (show op 162 31 = some (.getfield 46, 3) by decide +kernel) rfl (by decide +kernel) (by decide +kernel) ?_
        refine g_iload_n 35 (show op 162 34 = some (.iload_n 2, 1) by decide +kernel) rfl rfl ?_
        obtain ⟨g6, h⟩ := h
        obtain ⟨e5, q7, q8, h⟩ := h
        refine g_aaload 36 e5 (show op 162 35 = some (.aaload, 1) by decide +kernel) rfl g6 q7 ?_
        obtain ⟨s9, hD10, h⟩ := h
        refine g_call 39 [] (show op 162 36 = some (.invokevirtual 51, 3) by decide +kernel) (call_vi' (k' := 0) (n' := 0) (nj := 2) (j := 96) (k9 := 15) (t := []) (as := [(.inr (.inr (some e1))), (.inr (.inr (some e5)))]) (by decide +kernel) rfl (by decide +kernel) rfl rfl rfl rfl rfl rfl (by decide +kernel) (pat_C q4)) hD10 rfl ?_
        refine g_iconst 40 (show op 162 39 = some (.iconst 1, 1) by decide +kernel) rfl rfl ?_
        refine g_istore_n 41 [(some (.inr (.inr (some 473)))), (some (.inr (.inr (some 402)))), (some (.inl x2)), (some (.inl 1)), none, none] (show op 162 40 = some (.istore_n 3, 1) by decide +kernel) rfl rfl rfl ?_
        refine g_iconst 42 (show op 162 41 = some (.iconst 0, 1) by decide +kernel) rfl rfl ?_
        refine g_istore 44 [(some (.inr (.inr (some 473)))), (some (.inr (.inr (some 402)))), (some (.inl x2)), (some (.inl 1)), (some (.inl 0)), none] (show op 162 42 = some (.istore 4, 2) by decide +kernel) rfl rfl rfl ?_
        refine g_iload_n 45 (show op 162 44 = some (.iload_n 2, 1) by decide +kernel) rfl rfl ?_
        refine g_iconst 46 (show op 162 45 = some (.iconst 1, 1) by decide +kernel) rfl rfl ?_
        obtain ⟨g11, h⟩ := h
        refine g_isub 47 (show op 162 46 = some (.isub, 1) by decide +kernel) rfl g11 ?_
        refine g_istore 49 [(some (.inr (.inr (some 473)))), (some (.inr (.inr (some 402)))), (some (.inl x2)), (some (.inl 1)), (some (.inl 0)), (some (.inl (x2 - 1)))] (show op 162 47 = some (.istore 5, 2) by decide +kernel) rfl rfl rfl ?_
        exact h
    · rw [if_neg hc13] at h
      refine g_icmpT 22 (show op 162 10 = some (.if_icmp .ge 12, 3) by decide +kernel) rfl (decide_eq_true (Int.not_lt.mp hc13)) ?_
      refine g_iconst 23 (show op 162 22 = some (.iconst 0, 1) by decide +kernel) rfl rfl ?_
      exact (g_iret (show op 162 23 = some (.ireturn, 1) by decide +kernel) (by decide +kernel) h)
  · rw [if_neg hc12] at h
    refine g_ifT 22 (show op 162 1 = some (.ifCond .lt 21, 3) by decide +kernel) rfl (decide_eq_true (Int.not_le.mp hc12)) ?_
    refine g_iconst 23 (show op 162 22 = some (.iconst 0, 1) by decide +kernel) rfl rfl ?_
    exact (g_iret (show op 162 23 = some (.ireturn, 1) by decide +kernel) (by decide +kernel) h)
def C163_12 (d1 : Option AV) (x2 : Int) (x3 : Int) (σ : Sg) (o : Rs) : Prop := Gd 163 12 [(some (.inr (.inr (some 473)))), d1, (some (.inl x2)), (some (.inl x3))] [] σ 0 0 o
def C163_70 (d1 : Option AV) (x2 : Int) (d3 : Option AV) (σ : Sg) (o : Rs) : Prop := Gd 163 70 [(some (.inr (.inr (some 473)))), d1, (some (.inl x2)), d3] [] σ 0 0 o
def C163_72 (d1 : Option AV) (x2 : Int) (x3 : Int) (σ : Sg) (o : Rs) : Prop := Gd 163 72 [(some (.inr (.inr (some 473)))), d1, (some (.inl x2)), (some (.inl x3))] [] σ 0 0 o
theorem b163_12 {d1 : Option AV} {x2 : Int} {x3 : Int} {σ : Sg} {o : Rs}   (h : (if x3 < x2 then (-2147483648 ≤ (x3 + 1) ∧ (x3 + 1) ≤ 2147483647) ∧ (if (x3 + 1) < 5 then (-2147483648 ≤ (x3 + 1) ∧ (x3 + 1) ≤ 2147483647) ∧ (0 ≤ (x3 + 1)) ∧ (∃ e3 : Nat, qE 540 ((x3 + 1)).toNat e3 = true ∧ isPatch e3 = true ∧ (0 ≤ x3) ∧ (∃ e7 : Nat, qE 474 (x3).toNat e7 = true ∧ isPatch e7 = true ∧ (∃ (s11 : Sg), Dd 96 [(.inr (.inr (some e3))), (.inr (.inr (some e7)))] σ (.inl none, s11) ∧ (∃ (v14 : Int) (s13 : Sg), Dd 10 [(.inr (.inr (some 350))), (.inr (.inr (some 540))), (.inl x3), (.inl 96)] s11 (.inl (some (.inl v14)), s13) ∧ (if v14 = 0 then o = (.inl (some (.inl 0)), s13) else (-2147483648 ≤ (x3 + 1) ∧ (x3 + 1) ≤ 2147483647) ∧ C163_12 d1 x2 (x3 + 1) s13 o))))) else C163_70 d1 x2 (some (.inl x3)) σ o) else C163_70 d1 x2 (some (.inl x3)) σ o)) : C163_12 d1 x2 x3 σ o := by
  show Gd 163 12 [(some (.inr (.inr (some 473)))), d1, (some (.inl x2)), (some (.inl x3))] [] σ 0 0 o
  refine g_iload_n 13 (show op 163 12 = some (.iload_n 3, 1) by decide +kernel) rfl rfl ?_
  refine g_iload_n 14 (show op 163 13 = some (.iload_n 2, 1) by decide +kernel) rfl rfl ?_
  by_cases hc17 : x3 < x2
  · rw [if_pos hc17] at h
    refine g_icmpF 17 70 (show op 163 14 = some (.if_icmp .ge 56, 3) by decide +kernel) rfl rfl (decide_eq_false (Int.not_le.mpr hc17)) ?_
    refine g_iload_n 18 (show op 163 17 = some (.iload_n 3, 1) by decide +kernel) rfl rfl ?_
    refine g_iconst 19 (show op 163 18 = some (.iconst 1, 1) by decide +kernel) rfl rfl ?_
    obtain ⟨g1, h⟩ := h
    refine g_iadd 20 (show op 163 19 = some (.iadd, 1) by decide +kernel) rfl g1 ?_
    refine g_aload_n 21 (show op 163 20 = some (.aload_n 0, 1) by decide +kernel) rfl rfl ?_
    refine g_getR (ci := 9) (f := 2) (fin := true) (isR := true) 24 540 (show op 163 21 = some (.getfield 25, 3) by decide +kernel) rfl (by decide +kernel) (by decide +kernel) ?_
    refine g_alenR 25 5 (show op 163 24 = some (.arraylength, 1) by decide +kernel) rfl (by decide +kernel) (by decide) ?_
    by_cases hc18 : (x3 + 1) < 5
    · rw [if_pos hc18] at h
      refine g_icmpF 28 70 (show op 163 25 = some (.if_icmp .ge 45, 3) by decide +kernel) rfl rfl (decide_eq_false (Int.not_le.mpr hc18)) ?_
      refine g_aload_n 29 (show op 163 28 = some (.aload_n 0, 1) by decide +kernel) rfl rfl ?_
      refine g_getR (ci := 9) (f := 2) (fin := true) (isR := true) 32 540 (show op 163 29 = some (.getfield 25, 3) by decide +kernel) rfl (by decide +kernel) (by decide +kernel) ?_
      refine g_iload_n 33 (show op 163 32 = some (.iload_n 3, 1) by decide +kernel) rfl rfl ?_
      refine g_iconst 34 (show op 163 33 = some (.iconst 1, 1) by decide +kernel) rfl rfl ?_
      obtain ⟨g2, h⟩ := h
      refine g_iadd 35 (show op 163 34 = some (.iadd, 1) by decide +kernel) rfl g2 ?_
      obtain ⟨g4, h⟩ := h
      obtain ⟨e3, q5, q6, h⟩ := h
      refine g_aaload 36 e3 (show op 163 35 = some (.aaload, 1) by decide +kernel) rfl g4 q5 ?_
      refine g_aload_n 37 (show op 163 36 = some (.aload_n 0, 1) by decide +kernel) rfl rfl ?_
      refine g_getR (ci := 9) (f := 1) (fin := true) (isR := true) 40 474 (show op 163 37 = some (.getfield 21, 3) by decide +kernel) rfl (by decide +kernel) (by decide +kernel) ?_
      refine g_iload_n 41 (show op 163 40 = some (.iload_n 3, 1) by decide +kernel) rfl rfl ?_
      obtain ⟨g8, h⟩ := h
      obtain ⟨e7, q9, q10, h⟩ := h
      refine g_aaload 42 e7 (show op 163 41 = some (.aaload, 1) by decide +kernel) rfl g8 q9 ?_
      obtain ⟨s11, hD12, h⟩ := h
      refine g_call 45 [] (show op 163 42 = some (.invokevirtual 51, 3) by decide +kernel) (call_vi' (k' := 0) (n' := 0) (nj := 2) (j := 96) (k9 := 15) (t := []) (as := [(.inr (.inr (some e3))), (.inr (.inr (some e7)))]) (by decide +kernel) rfl (by decide +kernel) rfl rfl rfl rfl rfl rfl (by decide +kernel) (pat_C q6)) hD12 rfl ?_
      refine g_aload_n 46 (show op 163 45 = some (.aload_n 0, 1) by decide +kernel) rfl rfl ?_
      refine g_getR (ci := 9) (f := 0) (fin := true) (isR := true) 49 350 (show op 163 46 = some (.getfield 11, 3) by decide +kernel) rfl (by decide +kernel) (by decide +kernel) ?_
      refine g_aload_n 50 (show op 163 49 = some (.aload_n 0, 1) by decide +kernel) rfl rfl ?_
      refine g_getR (ci := 9) (f := 2) (fin := true) (isR := true) 53 540 (show op 163 50 = some (.getfield 25, 3) by decide +kernel) rfl (by decide +kernel) (by decide +kernel) ?_
      refine g_iload_n 54 (show op 163 53 = some (.iload_n 3, 1) by decide +kernel) rfl rfl ?_
      refine g_bipush 56 (show op 163 54 = some (.bipush 96, 2) by decide +kernel) rfl (by decide) ?_
      obtain ⟨v14, s13, hD15, h⟩ := h
      refine g_call 59 [(.inl v14)] (show op 163 56 = some (.invokevirtual 63, 3) by decide +kernel) (call_vi' (k' := 0) (n' := 0) (nj := 4) (j := 10) (k9 := 10) (t := []) (as := [(.inr (.inr (some 350))), (.inr (.inr (some 540))), (.inl x3), (.inl 96)]) (by decide +kernel) rfl (by decide +kernel) rfl rfl rfl rfl rfl rfl (by decide +kernel) (by decide +kernel)) hD15 rfl ?_
      by_cases hc19 : v14 = 0
      · rw [if_pos hc19] at h
        refine g_ifF 62 64 (show op 163 59 = some (.ifCond .ne 5, 3) by decide +kernel) rfl rfl (decide_eq_false (fun h9 => h9 hc19)) ?_
        refine g_iconst 63 (show op 163 62 = some (.iconst 0, 1) by decide +kernel) rfl rfl ?_
        exact (g_zret (show op 163 63 = some (.ireturn, 1) by decide +kernel) (by decide +kernel) (by decide) h)
      · rw [if_neg hc19] at h
        refine g_ifT 64 (show op 163 59 = some (.ifCond .ne 5, 3) by decide +kernel) rfl (decide_eq_true hc19) ?_
        obtain ⟨g16, h⟩ := h
        refine g_iinc 67 [(some (.inr (.inr (some 473)))), d1, (some (.inl x2)), (some (.inl (x3 + 1)))] (show op 163 64 = some (.iinc 3 1, 3) by decide +kernel) rfl rfl g16 rfl ?_
        refine g_goto 12 (show op 163 67 = some (.goto (-55), 3) by decide +kernel) rfl ?_
        exact h
    · rw [if_neg hc18] at h
      refine g_icmpT 70 (show op 163 25 = some (.if_icmp .ge 45, 3) by decide +kernel) rfl (decide_eq_true (Int.not_lt.mp hc18)) ?_
      exact h
  · rw [if_neg hc17] at h
    refine g_icmpT 70 (show op 163 14 = some (.if_icmp .ge 56, 3) by decide +kernel) rfl (decide_eq_true (Int.not_lt.mp hc17)) ?_
    exact h
theorem b163_70 {d1 : Option AV} {x2 : Int} {d3 : Option AV} {σ : Sg} {o : Rs}   (h : C163_72 d1 x2 0 σ o) : C163_70 d1 x2 d3 σ o := by
  show Gd 163 70 [(some (.inr (.inr (some 473)))), d1, (some (.inl x2)), d3] [] σ 0 0 o
  refine g_iconst 71 (show op 163 70 = some (.iconst 0, 1) by decide +kernel) rfl rfl ?_
  refine g_istore_n 72 [(some (.inr (.inr (some 473)))), d1, (some (.inl x2)), (some (.inl 0))] (show op 163 71 = some (.istore_n 3, 1) by decide +kernel) rfl rfl rfl ?_
  exact h
theorem b163_72 {d1 : Option AV} {x2 : Int} {x3 : Int} {σ : Sg} {o : Rs}   (h : (if x3 < x2 then (if x3 < 5 then (0 ≤ x3) ∧ (∃ e1 : Nat, qE 474 (x3).toNat e1 = true ∧ isPatch e1 = true ∧ (0 ≤ x3) ∧ (∃ e5 : Nat, qE 540 (x3).toNat e5 = true ∧ isPatch e5 = true ∧ (∃ (s9 : Sg), Dd 96 [(.inr (.inr (some e1))), (.inr (.inr (some e5)))] σ (.inl none, s9) ∧ (-2147483648 ≤ (x3 + 1) ∧ (x3 + 1) ≤ 2147483647) ∧ C163_72 d1 x2 (x3 + 1) s9 o))) else o = (.inl (some (.inl 1)), σ)) else o = (.inl (some (.inl 1)), σ))) : C163_72 d1 x2 x3 σ o := by
  show Gd 163 72 [(some (.inr (.inr (some 473)))), d1, (some (.inl x2)), (some (.inl x3))] [] σ 0 0 o
  refine g_iload_n 73 (show op 163 72 = some (.iload_n 3, 1) by decide +kernel) rfl rfl ?_
  refine g_iload_n 74 (show op 163 73 = some (.iload_n 2, 1) by decide +kernel) rfl rfl ?_
  by_cases hc12 : x3 < x2
  · rw [if_pos hc12] at h
    refine g_icmpF 77 107 (show op 163 74 = some (.if_icmp .ge 33, 3) by decide +kernel) rfl rfl (decide_eq_false (Int.not_le.mpr hc12)) ?_
    refine g_iload_n 78 (show op 163 77 = some (.iload_n 3, 1) by decide +kernel) rfl rfl ?_
    refine g_aload_n 79 (show op 163 78 = some (.aload_n 0, 1) by decide +kernel) rfl rfl ?_
    refine g_getR (ci := 9) (f := 1) (fin := true) (isR := true) 82 474 (show op 163 79 = some (.getfield 21, 3) by decide +kernel) rfl (by decide +kernel) (by decide +kernel) ?_
    refine g_alenR 83 5 (show op 163 82 = some (.arraylength, 1) by decide +kernel) rfl (by decide +kernel) (by decide) ?_
    by_cases hc13 : x3 < 5
    · rw [if_pos hc13] at h
      refine g_icmpF 86 107 (show op 163 83 = some (.if_icmp .ge 24, 3) by decide +kernel) rfl rfl (decide_eq_false (Int.not_le.mpr hc13)) ?_
      refine g_aload_n 87 (show op 163 86 = some (.aload_n 0, 1) by decide +kernel) rfl rfl ?_
      refine g_getR (ci := 9) (f := 1) (fin := true) (isR := true) 90 474 (show op 163 87 = some (.getfield 21, 3) by decide +kernel) rfl (by decide +kernel) (by decide +kernel) ?_
      refine g_iload_n 91 (show op 163 90 = some (.iload_n 3, 1) by decide +kernel) rfl rfl ?_
      obtain ⟨g2, h⟩ := h
      obtain ⟨e1, q3, q4, h⟩ := h
      refine g_aaload 92 e1 (show op 163 91 = some (.aaload, 1) by decide +kernel) rfl g2 q3 ?_
      refine g_aload_n 93 (show op 163 92 = some (.aload_n 0, 1) by decide +kernel) rfl rfl ?_
      refine g_getR (ci := 9) (f := 2) (fin := true) (isR := true) 96 540 (show op 163 93 = some (.getfield 25, 3) by decide +kernel) rfl (by decide +kernel) (by decide +kernel) ?_
      refine g_iload_n 97 (show op 163 96 = some (.iload_n 3, 1) by decide +kernel) rfl rfl ?_
      obtain ⟨g6, h⟩ := h
      obtain ⟨e5, q7, q8, h⟩ := h
      refine g_aaload 98 e5 (show op 163 97 = some (.aaload, 1) by decide +kernel) rfl g6 q7 ?_
      obtain ⟨s9, hD10, h⟩ := h
      refine g_call 101 [] (show op 163 98 = some (.invokevirtual 51, 3) by decide +kernel) (call_vi' (k' := 0) (n' := 0) (nj := 2) (j := 96) (k9 := 15) (t := []) (as := [(.inr (.inr (some e1))), (.inr (.inr (some e5)))]) (by decide +kernel) rfl (by decide +kernel) rfl rfl rfl rfl rfl rfl (by decide +kernel) (pat_C q4)) hD10 rfl ?_
      obtain ⟨g11, h⟩ := h
      refine g_iinc 104 [(some (.inr (.inr (some 473)))), d1, (some (.inl x2)), (some (.inl (x3 + 1)))] (show op 163 101 = some (.iinc 3 1, 3) by decide +kernel) rfl rfl g11 rfl ?_
      refine g_goto 72 (show op 163 104 = some (.goto (-32), 3) by decide +kernel) rfl ?_
      exact h
    · rw [if_neg hc13] at h
      refine g_icmpT 107 (show op 163 83 = some (.if_icmp .ge 24, 3) by decide +kernel) rfl (decide_eq_true (Int.not_lt.mp hc13)) ?_
      refine g_iconst 108 (show op 163 107 = some (.iconst 1, 1) by decide +kernel) rfl rfl ?_
      exact (g_zret (show op 163 108 = some (.ireturn, 1) by decide +kernel) (by decide +kernel) (by decide) h)
  · rw [if_neg hc12] at h
    refine g_icmpT 107 (show op 163 74 = some (.if_icmp .ge 33, 3) by decide +kernel) rfl (decide_eq_true (Int.not_lt.mp hc12)) ?_
    refine g_iconst 108 (show op 163 107 = some (.iconst 1, 1) by decide +kernel) rfl rfl ?_
    exact (g_zret (show op 163 108 = some (.ireturn, 1) by decide +kernel) (by decide +kernel) (by decide) h)
/-- PatchBench$Trials.sinkGroup (LPatchBench$Patch;I)Z -/
theorem b163 {x1 : Nat} {x2 : Int} {σ : Sg} {o : Rs}   (h : (∃ e1 : Nat, qE 540 ((0 : Int)).toNat e1 = true ∧ isPatch e1 = true ∧ (∃ (s5 : Sg), Dd 96 [(.inr (.inr (some e1))), (.inr (.inr (some x1)))] σ (.inl none, s5) ∧ C163_12 (some (.inr (.inr (some x1)))) x2 0 s5 o))) : Dd 163 [(.inr (.inr (some 473))), (.inr (.inr (some x1))), (.inl x2)] σ o := by
  refine Dd_of (l := 4) (by decide +kernel) ?_
  show Gd 163 0 [(some (.inr (.inr (some 473)))), (some (.inr (.inr (some x1)))), (some (.inl x2)), none] [] σ 0 0 o
  refine g_aload_n 1 (show op 163 0 = some (.aload_n 0, 1) by decide +kernel) rfl rfl ?_
  refine g_getR (ci := 9) (f := 2) (fin := true) (isR := true) 4 540 (show op 163 1 = some (.getfield 25, 3) by decide +kernel) rfl (by decide +kernel) (by decide +kernel) ?_
  refine g_iconst 5 (show op 163 4 = some (.iconst 0, 1) by decide +kernel) rfl rfl ?_
  obtain ⟨e1, q3, q4, h⟩ := h
  refine g_aaload 6 e1 (show op 163 5 = some (.aaload, 1) by decide +kernel) rfl (by decide) q3 ?_
  refine g_aload_n 7 (show op 163 6 = some (.aload_n 1, 1) by decide +kernel) rfl rfl ?_
  obtain ⟨s5, hD6, h⟩ := h
  refine g_call 10 [] (show op 163 7 = some (.invokevirtual 51, 3) by decide +kernel) (call_vi' (k' := 0) (n' := 0) (nj := 2) (j := 96) (k9 := 15) (t := []) (as := [(.inr (.inr (some e1))), (.inr (.inr (some x1)))]) (by decide +kernel) rfl (by decide +kernel) rfl rfl rfl rfl rfl rfl (by decide +kernel) (pat_C q4)) hD6 rfl ?_
  refine g_iconst 11 (show op 163 10 = some (.iconst 0, 1) by decide +kernel) rfl rfl ?_
  refine g_istore_n 12 [(some (.inr (.inr (some 473)))), (some (.inr (.inr (some x1)))), (some (.inl x2)), (some (.inl 0))] (show op 163 11 = some (.istore_n 3, 1) by decide +kernel) rfl rfl rfl ?_
  exact h
def C164_12 (x1 : Nat) (d2 : Option AV) (x3 : Int) (σ : Sg) (o : Rs) : Prop := Gd 164 12 [(some (.inr (.inr (some 473)))), (some (.inr (.inr (some x1)))), d2, (some (.inl x3))] [] σ 0 0 o
theorem b164_12 {x1 : Nat} {d2 : Option AV} {x3 : Int} {σ : Sg} {o : Rs}   (h : (if 0 < x3 then (0 ≤ x3) ∧ (∃ e1 : Nat, qE 474 (x3).toNat e1 = true ∧ isPatch e1 = true ∧ (-2147483648 ≤ (x3 - 1) ∧ (x3 - 1) ≤ 2147483647) ∧ (0 ≤ (x3 - 1)) ∧ (∃ e6 : Nat, qE 474 ((x3 - 1)).toNat e6 = true ∧ isPatch e6 = true ∧ (∃ (s10 : Sg), Dd 96 [(.inr (.inr (some e1))), (.inr (.inr (some e6)))] σ (.inl none, s10) ∧ (-2147483648 ≤ (x3 + (-1)) ∧ (x3 + (-1)) ≤ 2147483647) ∧ C164_12 x1 d2 (x3 + (-1)) s10 o))) else (∃ e13 : Nat, qE 474 ((0 : Int)).toNat e13 = true ∧ isPatch e13 = true ∧ (∃ (s17 : Sg), Dd 96 [(.inr (.inr (some e13))), (.inr (.inr (some x1)))] σ (.inl none, s17) ∧ o = (.inl none, s17))))) : C164_12 x1 d2 x3 σ o := by
  show Gd 164 12 [(some (.inr (.inr (some 473)))), (some (.inr (.inr (some x1)))), d2, (some (.inl x3))] [] σ 0 0 o
  refine g_iload_n 13 (show op 164 12 = some (.iload_n 3, 1) by decide +kernel) rfl rfl ?_
  by_cases hc19 : 0 < x3
  · rw [if_pos hc19] at h
    refine g_ifF 16 39 (show op 164 13 = some (.ifCond .le 26, 3) by decide +kernel) rfl rfl (decide_eq_false (Int.not_le.mpr hc19)) ?_
    refine g_aload_n 17 (show op 164 16 = some (.aload_n 0, 1) by decide +kernel) rfl rfl ?_
    refine g_getR (ci := 9) (f := 1) (fin := true) (isR := true) 20 474 (show op 164 17 = some (.getfield 21, 3) by decide +kernel) rfl (by decide +kernel) (by decide +kernel) ?_
    refine g_iload_n 21 (show op 164 20 = some (.iload_n 3, 1) by decide +kernel) rfl rfl ?_
    obtain ⟨g2, h⟩ := h
    obtain ⟨e1, q3, q4, h⟩ := h
    refine g_aaload 22 e1 (show op 164 21 = some (.aaload, 1) by decide +kernel) rfl g2 q3 ?_
    refine g_aload_n 23 (show op 164 22 = some (.aload_n 0, 1) by decide +kernel) rfl rfl ?_
    refine g_getR (ci := 9) (f := 1) (fin := true) (isR := true) 26 474 (show op 164 23 = some (.getfield 21, 3) by decide +kernel) rfl (by decide +kernel) (by decide +kernel) ?_
    refine g_iload_n 27 (show op 164 26 = some (.iload_n 3, 1) by decide +kernel) rfl rfl ?_
    refine g_iconst 28 (show op 164 27 = some (.iconst 1, 1) by decide +kernel) rfl rfl ?_
    obtain ⟨g5, h⟩ := h
    refine g_isub 29 (show op 164 28 = some (.isub, 1) by decide +kernel) rfl g5 ?_
    obtain ⟨g7, h⟩ := h
    obtain ⟨e6, q8, q9, h⟩ := h
    refine g_aaload 30 e6 (show op 164 29 = some (.aaload, 1) by decide +kernel) rfl g7 q8 ?_
    obtain ⟨s10, hD11, h⟩ := h
    refine g_call 33 [] (show op 164 30 = some (.invokevirtual 51, 3) by decide +kernel) (call_vi' (k' := 0) (n' := 0) (nj := 2) (j := 96) (k9 := 15) (t := []) (as := [(.inr (.inr (some e1))), (.inr (.inr (some e6)))]) (by decide +kernel) rfl (by decide +kernel) rfl rfl rfl rfl rfl rfl (by decide +kernel) (pat_C q4)) hD11 rfl ?_
    obtain ⟨g12, h⟩ := h
    refine g_iinc 36 [(some (.inr (.inr (some 473)))), (some (.inr (.inr (some x1)))), d2, (some (.inl (x3 + (-1))))] (show op 164 33 = some (.iinc 3 (-1), 3) by decide +kernel) rfl rfl g12 rfl ?_
    refine g_goto 12 (show op 164 36 = some (.goto (-24), 3) by decide +kernel) rfl ?_
    exact h
  · rw [if_neg hc19] at h
    refine g_ifT 39 (show op 164 13 = some (.ifCond .le 26, 3) by decide +kernel) rfl (decide_eq_true (Int.not_lt.mp hc19)) ?_
    refine g_aload_n 40 (show op 164 39 = some (.aload_n 0, 1) by decide +kernel) rfl rfl ?_
    refine g_getR (ci := 9) (f := 1) (fin := true) (isR := true) 43 474 (show op 164 40 = some (.getfield 21, 3) by decide +kernel) rfl (by decide +kernel) (by decide +kernel) ?_
    refine g_iconst 44 (show op 164 43 = some (.iconst 0, 1) by decide +kernel) rfl rfl ?_
    obtain ⟨e13, q15, q16, h⟩ := h
    refine g_aaload 45 e13 (show op 164 44 = some (.aaload, 1) by decide +kernel) rfl (by decide) q15 ?_
    refine g_aload_n 46 (show op 164 45 = some (.aload_n 1, 1) by decide +kernel) rfl rfl ?_
    obtain ⟨s17, hD18, h⟩ := h
    refine g_call 49 [] (show op 164 46 = some (.invokevirtual 51, 3) by decide +kernel) (call_vi' (k' := 0) (n' := 0) (nj := 2) (j := 96) (k9 := 15) (t := []) (as := [(.inr (.inr (some e13))), (.inr (.inr (some x1)))]) (by decide +kernel) rfl (by decide +kernel) rfl rfl rfl rfl rfl rfl (by decide +kernel) (pat_C q16)) hD18 rfl ?_
    exact g_vret (show op 164 49 = some (.return_, 1) by decide +kernel) (by decide +kernel) h
/-- PatchBench$Trials.takeIn (LPatchBench$Patch;I)V -/
theorem b164 {x1 : Nat} {x2 : Int} {σ : Sg} {o : Rs}   (h : C164_12 x1 (some (.inl x2)) (if (5 - 1) < x2 then (5 - 1) else x2) σ o) : Dd 164 [(.inr (.inr (some 473))), (.inr (.inr (some x1))), (.inl x2)] σ o := by
  refine Dd_of (l := 4) (by decide +kernel) ?_
  show Gd 164 0 [(some (.inr (.inr (some 473)))), (some (.inr (.inr (some x1)))), (some (.inl x2)), none] [] σ 0 0 o
  refine g_iload_n 1 (show op 164 0 = some (.iload_n 2, 1) by decide +kernel) rfl rfl ?_
  refine g_aload_n 2 (show op 164 1 = some (.aload_n 0, 1) by decide +kernel) rfl rfl ?_
  refine g_getR (ci := 9) (f := 1) (fin := true) (isR := true) 5 474 (show op 164 2 = some (.getfield 21, 3) by decide +kernel) rfl (by decide +kernel) (by decide +kernel) ?_
  refine g_alenR 6 5 (show op 164 5 = some (.arraylength, 1) by decide +kernel) rfl (by decide +kernel) (by decide) ?_
  refine g_iconst 7 (show op 164 6 = some (.iconst 1, 1) by decide +kernel) rfl rfl ?_
  refine g_isub 8 (show op 164 7 = some (.isub, 1) by decide +kernel) rfl (by decide) ?_
  refine g_min 11 (show op 164 8 = some (.invokestatic 69, 3) by decide +kernel) rfl (by decide +kernel) (by decide +kernel) rfl ?_
  refine g_istore_n 12 [(some (.inr (.inr (some 473)))), (some (.inr (.inr (some x1)))), (some (.inl x2)), (some (.inl (if (5 - 1) < x2 then (5 - 1) else x2)))] (show op 164 11 = some (.istore_n 3, 1) by decide +kernel) rfl rfl rfl ?_
  exact h
def C165_36 (x2 : Int) (d3 : Option AV) (d4 : Option AV) (σ : Sg) (o : Rs) : Prop := Gd 165 36 [(some (.inr (.inr (some 473)))), (some (.inr (.inr (some 402)))), (some (.inl x2)), d3, d4] [] σ 0 0 o
def C165_55 (x2 : Int) (x3 : Int) (d4 : Option AV) (σ : Sg) (o : Rs) : Prop := Gd 165 55 [(some (.inr (.inr (some 473)))), (some (.inr (.inr (some 402)))), (some (.inl x2)), (some (.inl x3)), d4] [] σ 0 0 o
def C165_152 (d1 : Option AV) (d2 : Option AV) (d3 : Option AV) (d4 : Option AV) (σ : Sg) (o : Rs) : Prop := Gd 165 152 [(some (.inr (.inr (some 473)))), d1, d2, d3, d4] [] σ 0 0 o
def C165_140 (x2 : Int) (x3 : Int) (d4 : Option AV) (σ : Sg) (o : Rs) : Prop := Gd 165 140 [(some (.inr (.inr (some 473)))), (some (.inr (.inr (some 402)))), (some (.inl x2)), (some (.inl x3)), d4] [] σ 0 0 o
theorem b165_36 {x2 : Int} {d3 : Option AV} {d4 : Option AV} {σ : Sg} {o : Rs}   (h : (if x2 < 24 then (∃ (v2 : Int) (s1 : Sg), Dd 146 [(.inr (.inr (some 606)))] σ (.inl (some (.inl v2)), s1) ∧ (if x2 < v2 then C165_55 x2 0 d4 s1 o else C165_152 (some (.inr (.inr (some 402)))) (some (.inl x2)) d3 d4 s1 o)) else C165_152 (some (.inr (.inr (some 402)))) (some (.inl x2)) d3 d4 σ o)) : C165_36 x2 d3 d4 σ o := by
  show Gd 165 36 [(some (.inr (.inr (some 473)))), (some (.inr (.inr (some 402)))), (some (.inl x2)), d3, d4] [] σ 0 0 o
  refine g_iload_n 37 (show op 165 36 = some (.iload_n 2, 1) by decide +kernel) rfl rfl ?_
  refine g_bipush 39 (show op 165 37 = some (.bipush 24, 2) by decide +kernel) rfl (by decide) ?_
  by_cases hc4 : x2 < 24
  · rw [if_pos hc4] at h
    refine g_icmpF 42 152 (show op 165 39 = some (.if_icmp .ge 113, 3) by decide +kernel) rfl rfl (decide_eq_false (Int.not_le.mpr hc4)) ?_
    refine g_iload_n 43 (show op 165 42 = some (.iload_n 2, 1) by decide +kernel) rfl rfl ?_
    refine g_aload_n 44 (show op 165 43 = some (.aload_n 0, 1) by decide +kernel) rfl rfl ?_
    refine g_getR (ci := 9) (f := 3) (fin := true) (isR := true) 47 606 (show op 165 44 = some (.getfield 33, 3) by decide +kernel) rfl (by decide +kernel) (by decide +kernel) ?_
    obtain ⟨v2, s1, hD3, h⟩ := h
    refine g_call 50 [(.inl v2), (.inl x2)] (show op 165 47 = some (.invokevirtual 90, 3) by decide +kernel) (call_vi' (k' := 0) (n' := 0) (nj := 1) (j := 146) (k9 := 18) (t := [(.inl x2)]) (as := [(.inr (.inr (some 606)))]) (by decide +kernel) rfl (by decide +kernel) rfl rfl rfl rfl rfl rfl (by decide +kernel) (by decide +kernel)) hD3 rfl ?_
    by_cases hc5 : x2 < v2
    · rw [if_pos hc5] at h
      refine g_icmpF 53 152 (show op 165 50 = some (.if_icmp .ge 102, 3) by decide +kernel) rfl rfl (decide_eq_false (Int.not_le.mpr hc5)) ?_
      refine g_iconst 54 (show op 165 53 = some (.iconst 0, 1) by decide +kernel) rfl rfl ?_
      refine g_istore_n 55 [(some (.inr (.inr (some 473)))), (some (.inr (.inr (some 402)))), (some (.inl x2)), (some (.inl 0)), d4] (show op 165 54 = some (.istore_n 3, 1) by decide +kernel) rfl rfl rfl ?_
      exact h
    · rw [if_neg hc5] at h
      refine g_icmpT 152 (show op 165 50 = some (.if_icmp .ge 102, 3) by decide +kernel) rfl (decide_eq_true (Int.not_lt.mp hc5)) ?_
      exact h
  · rw [if_neg hc4] at h
    refine g_icmpT 152 (show op 165 39 = some (.if_icmp .ge 113, 3) by decide +kernel) rfl (decide_eq_true (Int.not_lt.mp hc4)) ?_
    exact h
theorem b165_55 {x2 : Int} {x3 : Int} {d4 : Option AV} {σ : Sg} {o : Rs}   (h : (-2147483648 ≤ (x3 + 1) ∧ (x3 + 1) ≤ 2147483647) ∧ (if (x3 + 1) < (σ 402 3) then (∃ (v3 : Int) (s2 : Sg), Dd 147 [(.inr (.inr (some 606))), (.inl x2)] σ (.inl (some (.inl v3)), s2) ∧ (∃ (v6 : Int) (s5 : Sg), Dd 167 [(.inl v3), (.inl x3)] s2 (.inl (some (.inl v6)), s5) ∧ (∃ (v9 : Int) (s8 : Sg), Dd 160 [(.inr (.inr (some 606))), (.inl v6), (.inl 0)] s5 (.inl (some (.inl v9)), s8) ∧ (if v9 = (-1) then (∃ (s11 : Sg), Dd 170 [(.inr (.inr (some 473))), (.inr (.inr (some 402))), (.inl x2)] s8 (.inl none, s11) ∧ (∃ (v14 : Int) (s13 : Sg), Dd 10 [(.inr (.inr (some 350))), (.inr (.inr (some 540))), (.inl x3), (.inl 96)] s11 (.inl (some (.inl v14)), s13) ∧ (if v14 = 0 then C165_140 x2 x3 (some (.inl v6)) s13 o else (∃ (v17 : Int) (s16 : Sg), Dd 169 [(.inr (.inr (some 473))), (.inr (.inr (some 402)))] s13 (.inl (some (.inl v17)), s16) ∧ (if v17 = 0 then o = (.inl (some (.inl (-1))), s16) else (∃ (s19 : Sg), Dd 168 [(.inr (.inr (some 473))), (.inl v6), (.inl x2), (.inl x3)] s16 (.inl none, s19) ∧ C165_140 x2 x3 (some (.inl v6)) s19 o)))))) else C165_140 x2 x3 (some (.inl v6)) s8 o)))) else (-2147483648 ≤ (x2 + 1) ∧ (x2 + 1) ≤ 2147483647) ∧ C165_36 (x2 + 1) (some (.inl x3)) d4 σ o)) : C165_55 x2 x3 d4 σ o := by
  show Gd 165 55 [(some (.inr (.inr (some 473)))), (some (.inr (.inr (some 402)))), (some (.inl x2)), (some (.inl x3)), d4] [] σ 0 0 o
  refine g_iload_n 56 (show op 165 55 = some (.iload_n 3, 1) by decide +kernel) rfl rfl ?_
  refine g_iconst 57 (show op 165 56 = some (.iconst 1, 1) by decide +kernel) rfl rfl ?_
  obtain ⟨g1, h⟩ := h
  refine g_iadd 58 (show op 165 57 = some (.iadd, 1) by decide +kernel) rfl g1 ?_
  refine g_aload_n 59 (show op 165 58 = some (.aload_n 1, 1) by decide +kernel) rfl rfl ?_
  refine g_getI (ci := 6) (f := 3) (fin := false) (isR := false) 62 (show op 165 59 = some (.getfield 78, 3) by decide +kernel) rfl (by decide +kernel) (by decide +kernel) ?_
  by_cases hc22 : (x3 + 1) < (σ 402 3)
  · rw [if_pos hc22] at h
    refine g_icmpF 65 146 (show op 165 62 = some (.if_icmp .ge 84, 3) by decide +kernel) rfl rfl (decide_eq_false (Int.not_le.mpr hc22)) ?_
    refine g_aload_n 66 (show op 165 65 = some (.aload_n 0, 1) by decide +kernel) rfl rfl ?_
    refine g_getR (ci := 9) (f := 3) (fin := true) (isR := true) 69 606 (show op 165 66 = some (.getfield 33, 3) by decide +kernel) rfl (by decide +kernel) (by decide +kernel) ?_
    refine g_iload_n 70 (show op 165 69 = some (.iload_n 2, 1) by decide +kernel) rfl rfl ?_
    obtain ⟨v3, s2, hD4, h⟩ := h
    refine g_call 73 [(.inl v3)] (show op 165 70 = some (.invokevirtual 94, 3) by decide +kernel) (call_vi' (k' := 0) (n' := 0) (nj := 2) (j := 147) (k9 := 18) (t := []) (as := [(.inr (.inr (some 606))), (.inl x2)]) (by decide +kernel) rfl (by decide +kernel) rfl rfl rfl rfl rfl rfl (by decide +kernel) (by decide +kernel)) hD4 rfl ?_
    refine g_iload_n 74 (show op 165 73 = some (.iload_n 3, 1) by decide +kernel) rfl rfl ?_
    obtain ⟨v6, s5, hD7, h⟩ := h
    refine g_call 77 [(.inl v6)] (show op 165 74 = some (.invokestatic 97, 3) by decide +kernel) (call_st' (k' := 0) (n' := 0) (nj := 2) (j := 167) (t := []) (as := [(.inl v3), (.inl x3)]) (by decide +kernel) rfl (by decide +kernel) rfl rfl rfl rfl rfl) hD7 rfl ?_
    refine g_istore 79 [(some (.inr (.inr (some 473)))), (some (.inr (.inr (some 402)))), (some (.inl x2)), (some (.inl x3)), (some (.inl v6))] (show op 165 77 = some (.istore 4, 2) by decide +kernel) rfl rfl rfl ?_
    refine g_aload_n 80 (show op 165 79 = some (.aload_n 0, 1) by decide +kernel) rfl rfl ?_
    refine g_getR (ci := 9) (f := 3) (fin := true) (isR := true) 83 606 (show op 165 80 = some (.getfield 33, 3) by decide +kernel) rfl (by decide +kernel) (by decide +kernel) ?_
    refine g_iload 85 (show op 165 83 = some (.iload 4, 2) by decide +kernel) rfl rfl ?_
    refine g_iconst 86 (show op 165 85 = some (.iconst 0, 1) by decide +kernel) rfl rfl ?_
    obtain ⟨v9, s8, hD10, h⟩ := h
    refine g_call 89 [(.inl v9)] (show op 165 86 = some (.invokevirtual 100, 3) by decide +kernel) (call_vi' (k' := 0) (n' := 0) (nj := 3) (j := 160) (k9 := 18) (t := []) (as := [(.inr (.inr (some 606))), (.inl v6), (.inl 0)]) (by decide +kernel) rfl (by decide +kernel) rfl rfl rfl rfl rfl rfl (by decide +kernel) (by decide +kernel)) hD10 rfl ?_
    refine g_iconst 90 (show op 165 89 = some (.iconst (-1), 1) by decide +kernel) rfl rfl ?_
    by_cases hc23 : v9 = (-1)
    · rw [if_pos hc23] at h
      refine g_icmpT 96 (show op 165 90 = some (.if_icmp .eq 6, 3) by decide +kernel) rfl (decide_eq_true hc23) ?_
      refine g_aload_n 97 (show op 165 96 = some (.aload_n 0, 1) by decide +kernel) rfl rfl ?_
      refine g_aload_n 98 (show op 165 97 = some (.aload_n 1, 1) by decide +kernel) rfl rfl ?_
      refine g_iload_n 99 (show op 165 98 = some (.iload_n 2, 1) by decide +kernel) rfl rfl ?_
      obtain ⟨s11, hD12, h⟩ := h
      refine g_call 102 [] (show op 165 99 = some (.invokevirtual 103, 3) by decide +kernel) (call_vi' (k' := 0) (n' := 0) (nj := 3) (j := 170) (k9 := 19) (t := []) (as := [(.inr (.inr (some 473))), (.inr (.inr (some 402))), (.inl x2)]) (by decide +kernel) rfl (by decide +kernel) rfl rfl rfl rfl rfl rfl (by decide +kernel) (by decide +kernel)) hD12 rfl ?_
      refine g_aload_n 103 (show op 165 102 = some (.aload_n 0, 1) by decide +kernel) rfl rfl ?_
      refine g_getR (ci := 9) (f := 0) (fin := true) (isR := true) 106 350 (show op 165 103 = some (.getfield 11, 3) by decide +kernel) rfl (by decide +kernel) (by decide +kernel) ?_
      refine g_aload_n 107 (show op 165 106 = some (.aload_n 0, 1) by decide +kernel) rfl rfl ?_
      refine g_getR (ci := 9) (f := 2) (fin := true) (isR := true) 110 540 (show op 165 107 = some (.getfield 25, 3) by decide +kernel) rfl (by decide +kernel) (by decide +kernel) ?_
      refine g_iload_n 111 (show op 165 110 = some (.iload_n 3, 1) by decide +kernel) rfl rfl ?_
      refine g_bipush 113 (show op 165 111 = some (.bipush 96, 2) by decide +kernel) rfl (by decide) ?_
      obtain ⟨v14, s13, hD15, h⟩ := h
      refine g_call 116 [(.inl v14)] (show op 165 113 = some (.invokevirtual 63, 3) by decide +kernel) (call_vi' (k' := 0) (n' := 0) (nj := 4) (j := 10) (k9 := 10) (t := []) (as := [(.inr (.inr (some 350))), (.inr (.inr (some 540))), (.inl x3), (.inl 96)]) (by decide +kernel) rfl (by decide +kernel) rfl rfl rfl rfl rfl rfl (by decide +kernel) (by decide +kernel)) hD15 rfl ?_
      by_cases hc24 : v14 = 0
      · rw [if_pos hc24] at h
        refine g_ifF 119 122 (show op 165 116 = some (.ifCond .ne 6, 3) by decide +kernel) rfl rfl (decide_eq_false (fun h9 => h9 hc24)) ?_
        refine g_goto 140 (show op 165 119 = some (.goto 21, 3) by decide +kernel) rfl ?_
        exact h
      · rw [if_neg hc24] at h
        refine g_ifT 122 (show op 165 116 = some (.ifCond .ne 6, 3) by decide +kernel) rfl (decide_eq_true hc24) ?_
        refine g_aload_n 123 (show op 165 122 = some (.aload_n 0, 1) by decide +kernel) rfl rfl ?_
        refine g_aload_n 124 (show op 165 123 = some (.aload_n 1, 1) by decide +kernel) rfl rfl ?_
        obtain ⟨v17, s16, hD18, h⟩ := h
        refine g_call 127 [(.inl v17)] (show op 165 124 = some (.invokevirtual 107, 3) by decide +kernel) (call_vi' (k' := 0) (n' := 0) (nj := 2) (j := 169) (k9 := 19) (t := []) (as := [(.inr (.inr (some 473))), (.inr (.inr (some 402)))]) (by decide +kernel) rfl (by decide +kernel) rfl rfl rfl rfl rfl rfl (by decide +kernel) (by decide +kernel)) hD18 rfl ?_
        by_cases hc25 : v17 = 0
        · rw [if_pos hc25] at h
          refine g_ifF 130 132 (show op 165 127 = some (.ifCond .ne 5, 3) by decide +kernel) rfl rfl (decide_eq_false (fun h9 => h9 hc25)) ?_
          refine g_iconst 131 (show op 165 130 = some (.iconst (-1), 1) by decide +kernel) rfl rfl ?_
          exact (g_iret (show op 165 131 = some (.ireturn, 1) by decide +kernel) (by decide +kernel) h)
        · rw [if_neg hc25] at h
          refine g_ifT 132 (show op 165 127 = some (.ifCond .ne 5, 3) by decide +kernel) rfl (decide_eq_true hc25) ?_
          refine g_aload_n 133 (show op 165 132 = some (.aload_n 0, 1) by decide +kernel) rfl rfl ?_
          refine g_iload 135 (show op 165 133 = some (.iload 4, 2) by decide +kernel) rfl rfl ?_
          refine g_iload_n 136 (show op 165 135 = some (.iload_n 2, 1) by decide +kernel) rfl rfl ?_
          refine g_iload_n 137 (show op 165 136 = some (.iload_n 3, 1) by decide +kernel) rfl rfl ?_
          obtain ⟨s19, hD20, h⟩ := h
          refine g_call 140 [] (show op 165 137 = some (.invokevirtual 86, 3) by decide +kernel) (call_vi' (k' := 0) (n' := 0) (nj := 4) (j := 168) (k9 := 19) (t := []) (as := [(.inr (.inr (some 473))), (.inl v6), (.inl x2), (.inl x3)]) (by decide +kernel) rfl (by decide +kernel) rfl rfl rfl rfl rfl rfl (by decide +kernel) (by decide +kernel)) hD20 rfl ?_
          exact h
    · rw [if_neg hc23] at h
      refine g_icmpF 93 96 (show op 165 90 = some (.if_icmp .eq 6, 3) by decide +kernel) rfl rfl (decide_eq_false hc23) ?_
      refine g_goto 140 (show op 165 93 = some (.goto 47, 3) by decide +kernel) rfl ?_
      exact h
  · rw [if_neg hc22] at h
    refine g_icmpT 146 (show op 165 62 = some (.if_icmp .ge 84, 3) by decide +kernel) rfl (decide_eq_true (Int.not_lt.mp hc22)) ?_
    obtain ⟨g21, h⟩ := h
    refine g_iinc 149 [(some (.inr (.inr (some 473)))), (some (.inr (.inr (some 402)))), (some (.inl (x2 + 1))), (some (.inl x3)), d4] (show op 165 146 = some (.iinc 2 1, 3) by decide +kernel) rfl rfl g21 rfl ?_
    refine g_goto 36 (show op 165 149 = some (.goto (-113), 3) by decide +kernel) rfl ?_
    exact h
theorem b165_152 {d1 : Option AV} {d2 : Option AV} {d3 : Option AV} {d4 : Option AV} {σ : Sg} {o : Rs}   (h : (∃ (v2 : Int) (s1 : Sg), Dd 146 [(.inr (.inr (some 606)))] σ (.inl (some (.inl v2)), s1) ∧ o = (.inl (some (.inl v2)), s1))) : C165_152 d1 d2 d3 d4 σ o := by
  show Gd 165 152 [(some (.inr (.inr (some 473)))), d1, d2, d3, d4] [] σ 0 0 o
  refine g_aload_n 153 (show op 165 152 = some (.aload_n 0, 1) by decide +kernel) rfl rfl ?_
  refine g_getR (ci := 9) (f := 3) (fin := true) (isR := true) 156 606 (show op 165 153 = some (.getfield 33, 3) by decide +kernel) rfl (by decide +kernel) (by decide +kernel) ?_
  obtain ⟨v2, s1, hD3, h⟩ := h
  refine g_call 159 [(.inl v2)] (show op 165 156 = some (.invokevirtual 90, 3) by decide +kernel) (call_vi' (k' := 0) (n' := 0) (nj := 1) (j := 146) (k9 := 18) (t := []) (as := [(.inr (.inr (some 606)))]) (by decide +kernel) rfl (by decide +kernel) rfl rfl rfl rfl rfl rfl (by decide +kernel) (by decide +kernel)) hD3 rfl ?_
  exact (g_iret (show op 165 159 = some (.ireturn, 1) by decide +kernel) (by decide +kernel) h)
theorem b165_140 {x2 : Int} {x3 : Int} {d4 : Option AV} {σ : Sg} {o : Rs}   (h : (-2147483648 ≤ (x3 + 1) ∧ (x3 + 1) ≤ 2147483647) ∧ C165_55 x2 (x3 + 1) d4 σ o) : C165_140 x2 x3 d4 σ o := by
  show Gd 165 140 [(some (.inr (.inr (some 473)))), (some (.inr (.inr (some 402)))), (some (.inl x2)), (some (.inl x3)), d4] [] σ 0 0 o
  obtain ⟨g1, h⟩ := h
  refine g_iinc 143 [(some (.inr (.inr (some 473)))), (some (.inr (.inr (some 402)))), (some (.inl x2)), (some (.inl (x3 + 1))), d4] (show op 165 140 = some (.iinc 3 1, 3) by decide +kernel) rfl rfl g1 rfl ?_
  refine g_goto 55 (show op 165 143 = some (.goto (-88), 3) by decide +kernel) rfl ?_
  exact h
/-- PatchBench$Trials.countOrders (LPatchBench$Pile;)I -/
theorem b165 {σ : Sg} {o : Rs}   (h : (∃ (s1 : Sg), Dd 152 [(.inr (.inr (some 606)))] σ (.inl none, s1) ∧ (∃ (s3 : Sg), Dd 152 [(.inr (.inr (some 608)))] s1 (.inl none, s3) ∧ (∃ (s5 : Sg), Dd 152 [(.inr (.inr (some 610)))] s3 (.inl none, s5) ∧ (∃ (v8 : Int) (s7 : Sg), Dd 166 [(.inl (s5 402 3))] s5 (.inl (some (.inl v8)), s7) ∧ (∃ (s10 : Sg), Dd 168 [(.inr (.inr (some 473))), (.inl v8), (.inl (-1)), (.inl (-1))] s7 (.inl none, s10) ∧ C165_36 0 none none s10 o)))))) : Dd 165 [(.inr (.inr (some 473))), (.inr (.inr (some 402)))] σ o := by
  refine Dd_of (l := 5) (by decide +kernel) ?_
  show Gd 165 0 [(some (.inr (.inr (some 473)))), (some (.inr (.inr (some 402)))), none, none, none] [] σ 0 0 o
  refine g_aload_n 1 (show op 165 0 = some (.aload_n 0, 1) by decide +kernel) rfl rfl ?_
  refine g_getR (ci := 9) (f := 3) (fin := true) (isR := true) 4 606 (show op 165 1 = some (.getfield 33, 3) by decide +kernel) rfl (by decide +kernel) (by decide +kernel) ?_
  obtain ⟨s1, hD2, h⟩ := h
  refine g_call 7 [] (show op 165 4 = some (.invokevirtual 75, 3) by decide +kernel) (call_vi' (k' := 0) (n' := 0) (nj := 1) (j := 152) (k9 := 18) (t := []) (as := [(.inr (.inr (some 606)))]) (by decide +kernel) rfl (by decide +kernel) rfl rfl rfl rfl rfl rfl (by decide +kernel) (by decide +kernel)) hD2 rfl ?_
  refine g_aload_n 8 (show op 165 7 = some (.aload_n 0, 1) by decide +kernel) rfl rfl ?_
  refine g_getR (ci := 9) (f := 4) (fin := true) (isR := true) 11 608 (show op 165 8 = some (.getfield 37, 3) by decide +kernel) rfl (by decide +kernel) (by decide +kernel) ?_
  obtain ⟨s3, hD4, h⟩ := h
  refine g_call 14 [] (show op 165 11 = some (.invokevirtual 75, 3) by decide +kernel) (call_vi' (k' := 0) (n' := 0) (nj := 1) (j := 152) (k9 := 18) (t := []) (as := [(.inr (.inr (some 608)))]) (by decide +kernel) rfl (by decide +kernel) rfl rfl rfl rfl rfl rfl (by decide +kernel) (by decide +kernel)) hD4 rfl ?_
  refine g_aload_n 15 (show op 165 14 = some (.aload_n 0, 1) by decide +kernel) rfl rfl ?_
  refine g_getR (ci := 9) (f := 5) (fin := true) (isR := true) 18 610 (show op 165 15 = some (.getfield 40, 3) by decide +kernel) rfl (by decide +kernel) (by decide +kernel) ?_
  obtain ⟨s5, hD6, h⟩ := h
  refine g_call 21 [] (show op 165 18 = some (.invokevirtual 75, 3) by decide +kernel) (call_vi' (k' := 0) (n' := 0) (nj := 1) (j := 152) (k9 := 18) (t := []) (as := [(.inr (.inr (some 610)))]) (by decide +kernel) rfl (by decide +kernel) rfl rfl rfl rfl rfl rfl (by decide +kernel) (by decide +kernel)) hD6 rfl ?_
  refine g_aload_n 22 (show op 165 21 = some (.aload_n 0, 1) by decide +kernel) rfl rfl ?_
  refine g_aload_n 23 (show op 165 22 = some (.aload_n 1, 1) by decide +kernel) rfl rfl ?_
  refine g_getI (ci := 6) (f := 3) (fin := false) (isR := false) 26 (show op 165 23 = some (.getfield 78, 3) by decide +kernel) rfl (by decide +kernel) (by decide +kernel) ?_
  obtain ⟨v8, s7, hD9, h⟩ := h
  refine g_call 29 [(.inl v8), (.inr (.inr (some 473)))] (show op 165 26 = some (.invokestatic 82, 3) by decide +kernel) (call_st' (k' := 0) (n' := 0) (nj := 1) (j := 166) (t := [(.inr (.inr (some 473)))]) (as := [(.inl (s5 402 3))]) (by decide +kernel) rfl (by decide +kernel) rfl rfl rfl rfl rfl) hD9 rfl ?_
  refine g_iconst 30 (show op 165 29 = some (.iconst (-1), 1) by decide +kernel) rfl rfl ?_
  refine g_iconst 31 (show op 165 30 = some (.iconst (-1), 1) by decide +kernel) rfl rfl ?_
  obtain ⟨s10, hD11, h⟩ := h
  refine g_call 34 [] (show op 165 31 = some (.invokevirtual 86, 3) by decide +kernel) (call_vi' (k' := 0) (n' := 0) (nj := 4) (j := 168) (k9 := 19) (t := []) (as := [(.inr (.inr (some 473))), (.inl v8), (.inl (-1)), (.inl (-1))]) (by decide +kernel) rfl (by decide +kernel) rfl rfl rfl rfl rfl rfl (by decide +kernel) (by decide +kernel)) hD11 rfl ?_
  refine g_iconst 35 (show op 165 34 = some (.iconst 0, 1) by decide +kernel) rfl rfl ?_
  refine g_istore_n 36 [(some (.inr (.inr (some 473)))), (some (.inr (.inr (some 402)))), (some (.inl 0)), none, none] (show op 165 35 = some (.istore_n 2, 1) by decide +kernel) rfl rfl rfl ?_
  exact h
def C166_4 (x0 : Int) (x1 : Int) (x2 : Int) (σ : Sg) (o : Rs) : Prop := Gd 166 4 [(some (.inl x0)), (some (.inl x1)), (some (.inl x2))] [] σ 0 0 o
theorem b166_4 {x0 : Int} {x1 : Int} {x2 : Int} {σ : Sg} {o : Rs}   (h : (if x2 < x0 then (-2147483648 ≤ (3 * x2) ∧ (3 * x2) ≤ 2147483647) ∧ (-2147483648 ≤ (x2 + 1) ∧ (x2 + 1) ≤ 2147483647) ∧ C166_4 x0 (iOr x1 (iShl x2 (3 * x2))) (x2 + 1) σ o else o = (.inl (some (.inl x1)), σ))) : C166_4 x0 x1 x2 σ o := by
  show Gd 166 4 [(some (.inl x0)), (some (.inl x1)), (some (.inl x2))] [] σ 0 0 o
  refine g_iload_n 5 (show op 166 4 = some (.iload_n 2, 1) by decide +kernel) rfl rfl ?_
  refine g_iload_n 6 (show op 166 5 = some (.iload_n 0, 1) by decide +kernel) rfl rfl ?_
  by_cases hc3 : x2 < x0
  · rw [if_pos hc3] at h
    refine g_icmpF 9 23 (show op 166 6 = some (.if_icmp .ge 17, 3) by decide +kernel) rfl rfl (decide_eq_false (Int.not_le.mpr hc3)) ?_
    refine g_iload_n 10 (show op 166 9 = some (.iload_n 1, 1) by decide +kernel) rfl rfl ?_
    refine g_iload_n 11 (show op 166 10 = some (.iload_n 2, 1) by decide +kernel) rfl rfl ?_
    refine g_iconst 12 (show op 166 11 = some (.iconst 3, 1) by decide +kernel) rfl rfl ?_
    refine g_iload_n 13 (show op 166 12 = some (.iload_n 2, 1) by decide +kernel) rfl rfl ?_
    obtain ⟨g1, h⟩ := h
    refine g_imul 14 (show op 166 13 = some (.imul, 1) by decide +kernel) rfl g1 ?_
    refine g_ishl 15 (show op 166 14 = some (.ishl, 1) by decide +kernel) rfl ?_
    refine g_ior 16 (show op 166 15 = some (.ior, 1) by decide +kernel) rfl ?_
    refine g_istore_n 17 [(some (.inl x0)), (some (.inl (iOr x1 (iShl x2 (3 * x2))))), (some (.inl x2))] (show op 166 16 = some (.istore_n 1, 1) by decide +kernel) rfl rfl rfl ?_
    obtain ⟨g2, h⟩ := h
    refine g_iinc 20 [(some (.inl x0)), (some (.inl (iOr x1 (iShl x2 (3 * x2))))), (some (.inl (x2 + 1)))] (show op 166 17 = some (.iinc 2 1, 3) by decide +kernel) rfl rfl g2 rfl ?_
    refine g_goto 4 (show op 166 20 = some (.goto (-16), 3) by decide +kernel) rfl ?_
    exact h
  · rw [if_neg hc3] at h
    refine g_icmpT 23 (show op 166 6 = some (.if_icmp .ge 17, 3) by decide +kernel) rfl (decide_eq_true (Int.not_lt.mp hc3)) ?_
    refine g_iload_n 24 (show op 166 23 = some (.iload_n 1, 1) by decide +kernel) rfl rfl ?_
    exact (g_iret (show op 166 24 = some (.ireturn, 1) by decide +kernel) (by decide +kernel) h)
/-- PatchBench$Trials.firstCode (I)I -/
theorem b166 {x0 : Int} {σ : Sg} {o : Rs}   (h : C166_4 x0 0 0 σ o) : Dd 166 [(.inl x0)] σ o := by
  refine Dd_of (l := 3) (by decide +kernel) ?_
  show Gd 166 0 [(some (.inl x0)), none, none] [] σ 0 0 o
  refine g_iconst 1 (show op 166 0 = some (.iconst 0, 1) by decide +kernel) rfl rfl ?_
  refine g_istore_n 2 [(some (.inl x0)), (some (.inl 0)), none] (show op 166 1 = some (.istore_n 1, 1) by decide +kernel) rfl rfl rfl ?_
  refine g_iconst 3 (show op 166 2 = some (.iconst 0, 1) by decide +kernel) rfl rfl ?_
  refine g_istore_n 4 [(some (.inl x0)), (some (.inl 0)), (some (.inl 0))] (show op 166 3 = some (.istore_n 2, 1) by decide +kernel) rfl rfl rfl ?_
  exact h
/-- PatchBench$Trials.exchangedCode (II)I -/
theorem b167 {x0 : Int} {x1 : Int} {σ : Sg} {o : Rs}   (h : (-2147483648 ≤ (3 * x1) ∧ (3 * x1) ≤ 2147483647) ∧ (-2147483648 ≤ (x1 + 1) ∧ (x1 + 1) ≤ 2147483647) ∧ (-2147483648 ≤ (3 * (x1 + 1)) ∧ (3 * (x1 + 1)) ≤ 2147483647) ∧ (-2147483648 ≤ (3 * x1) ∧ (3 * x1) ≤ 2147483647) ∧ (-2147483648 ≤ (x1 + 1) ∧ (x1 + 1) ≤ 2147483647) ∧ (-2147483648 ≤ (3 * (x1 + 1)) ∧ (3 * (x1 + 1)) ≤ 2147483647) ∧ o = (.inl (some (.inl (iXor (iXor x0 (iShl (iAnd (iXor (iShr x0 (3 * x1)) (iShr x0 (3 * (x1 + 1)))) 7) (3 * x1))) (iShl (iAnd (iXor (iShr x0 (3 * x1)) (iShr x0 (3 * (x1 + 1)))) 7) (3 * (x1 + 1)))))), σ)) : Dd 167 [(.inl x0), (.inl x1)] σ o := by
  refine Dd_of (l := 5) (by decide +kernel) ?_
  show Gd 167 0 [(some (.inl x0)), (some (.inl x1)), none, none, none] [] σ 0 0 o
  refine g_iload_n 1 (show op 167 0 = some (.iload_n 0, 1) by decide +kernel) rfl rfl ?_
  refine g_iconst 2 (show op 167 1 = some (.iconst 3, 1) by decide +kernel) rfl rfl ?_
  refine g_iload_n 3 (show op 167 2 = some (.iload_n 1, 1) by decide +kernel) rfl rfl ?_
  obtain ⟨g1, h⟩ := h
  refine g_imul 4 (show op 167 3 = some (.imul, 1) by decide +kernel) rfl g1 ?_
  refine g_ishr 5 (show op 167 4 = some (.ishr, 1) by decide +kernel) rfl ?_
  refine g_istore_n 6 [(some (.inl x0)), (some (.inl x1)), (some (.inl (iShr x0 (3 * x1)))), none, none] (show op 167 5 = some (.istore_n 2, 1) by decide +kernel) rfl rfl rfl ?_
  refine g_iload_n 7 (show op 167 6 = some (.iload_n 0, 1) by decide +kernel) rfl rfl ?_
  refine g_iconst 8 (show op 167 7 = some (.iconst 3, 1) by decide +kernel) rfl rfl ?_
  refine g_iload_n 9 (show op 167 8 = some (.iload_n 1, 1) by decide +kernel) rfl rfl ?_
  refine g_iconst 10 (show op 167 9 = some (.iconst 1, 1) by decide +kernel) rfl rfl ?_
  obtain ⟨g2, h⟩ := h
  refine g_iadd 11 (show op 167 10 = some (.iadd, 1) by decide +kernel) rfl g2 ?_
  obtain ⟨g3, h⟩ := h
  refine g_imul 12 (show op 167 11 = some (.imul, 1) by decide +kernel) rfl g3 ?_
  refine g_ishr 13 (show op 167 12 = some (.ishr, 1) by decide +kernel) rfl ?_
  refine g_istore_n 14 [(some (.inl x0)), (some (.inl x1)), (some (.inl (iShr x0 (3 * x1)))), (some (.inl (iShr x0 (3 * (x1 + 1))))), none] (show op 167 13 = some (.istore_n 3, 1) by decide +kernel) rfl rfl rfl ?_
  refine g_iload_n 15 (show op 167 14 = some (.iload_n 2, 1) by decide +kernel) rfl rfl ?_
  refine g_iload_n 16 (show op 167 15 = some (.iload_n 3, 1) by decide +kernel) rfl rfl ?_
  refine g_ixor 17 (show op 167 16 = some (.ixor, 1) by decide +kernel) rfl ?_
  refine g_bipush 19 (show op 167 17 = some (.bipush 7, 2) by decide +kernel) rfl (by decide) ?_
  refine g_iand 20 (show op 167 19 = some (.iand, 1) by decide +kernel) rfl ?_
  refine g_istore 22 [(some (.inl x0)), (some (.inl x1)), (some (.inl (iShr x0 (3 * x1)))), (some (.inl (iShr x0 (3 * (x1 + 1))))), (some (.inl (iAnd (iXor (iShr x0 (3 * x1)) (iShr x0 (3 * (x1 + 1)))) 7)))] (show op 167 20 = some (.istore 4, 2) by decide +kernel) rfl rfl rfl ?_
  refine g_iload_n 23 (show op 167 22 = some (.iload_n 0, 1) by decide +kernel) rfl rfl ?_
  refine g_iload 25 (show op 167 23 = some (.iload 4, 2) by decide +kernel) rfl rfl ?_
  refine g_iconst 26 (show op 167 25 = some (.iconst 3, 1) by decide +kernel) rfl rfl ?_
  refine g_iload_n 27 (show op 167 26 = some (.iload_n 1, 1) by decide +kernel) rfl rfl ?_
  obtain ⟨g4, h⟩ := h
  refine g_imul 28 (show op 167 27 = some (.imul, 1) by decide +kernel) rfl g4 ?_
  refine g_ishl 29 (show op 167 28 = some (.ishl, 1) by decide +kernel) rfl ?_
  refine g_ixor 30 (show op 167 29 = some (.ixor, 1) by decide +kernel) rfl ?_
  refine g_iload 32 (show op 167 30 = some (.iload 4, 2) by decide +kernel) rfl rfl ?_
  refine g_iconst 33 (show op 167 32 = some (.iconst 3, 1) by decide +kernel) rfl rfl ?_
  refine g_iload_n 34 (show op 167 33 = some (.iload_n 1, 1) by decide +kernel) rfl rfl ?_
  refine g_iconst 35 (show op 167 34 = some (.iconst 1, 1) by decide +kernel) rfl rfl ?_
  obtain ⟨g5, h⟩ := h
  refine g_iadd 36 (show op 167 35 = some (.iadd, 1) by decide +kernel) rfl g5 ?_
  obtain ⟨g6, h⟩ := h
  refine g_imul 37 (show op 167 36 = some (.imul, 1) by decide +kernel) rfl g6 ?_
  refine g_ishl 38 (show op 167 37 = some (.ishl, 1) by decide +kernel) rfl ?_
  refine g_ixor 39 (show op 167 38 = some (.ixor, 1) by decide +kernel) rfl ?_
  exact (g_iret (show op 167 39 = some (.ireturn, 1) by decide +kernel) (by decide +kernel) h)
/-- PatchBench$Trials.noteOrder (III)V -/
theorem b168 {x1 : Int} {x2 : Int} {x3 : Int} {σ : Sg} {o : Rs}   (h : (∃ (s1 : Sg), Dd 149 [(.inr (.inr (some 606))), (.inl x1)] σ (.inl none, s1) ∧ (∃ (s3 : Sg), Dd 149 [(.inr (.inr (some 608))), (.inl x2)] s1 (.inl none, s3) ∧ (∃ (s5 : Sg), Dd 149 [(.inr (.inr (some 610))), (.inl x3)] s3 (.inl none, s5) ∧ o = (.inl none, s5))))) : Dd 168 [(.inr (.inr (some 473))), (.inl x1), (.inl x2), (.inl x3)] σ o := by
  refine Dd_of (l := 4) (by decide +kernel) ?_
  show Gd 168 0 [(some (.inr (.inr (some 473)))), (some (.inl x1)), (some (.inl x2)), (some (.inl x3))] [] σ 0 0 o
  refine g_aload_n 1 (show op 168 0 = some (.aload_n 0, 1) by decide +kernel) rfl rfl ?_
  refine g_getR (ci := 9) (f := 3) (fin := true) (isR := true) 4 606 (show op 168 1 = some (.getfield 33, 3) by decide +kernel) rfl (by decide +kernel) (by decide +kernel) ?_
  refine g_iload_n 5 (show op 168 4 = some (.iload_n 1, 1) by decide +kernel) rfl rfl ?_
  obtain ⟨s1, hD2, h⟩ := h
  refine g_call 8 [] (show op 168 5 = some (.invokevirtual 111, 3) by decide +kernel) (call_vi' (k' := 0) (n' := 0) (nj := 2) (j := 149) (k9 := 18) (t := []) (as := [(.inr (.inr (some 606))), (.inl x1)]) (by decide +kernel) rfl (by decide +kernel) rfl rfl rfl rfl rfl rfl (by decide +kernel) (by decide +kernel)) hD2 rfl ?_
  refine g_aload_n 9 (show op 168 8 = some (.aload_n 0, 1) by decide +kernel) rfl rfl ?_
  refine g_getR (ci := 9) (f := 4) (fin := true) (isR := true) 12 608 (show op 168 9 = some (.getfield 37, 3) by decide +kernel) rfl (by decide +kernel) (by decide +kernel) ?_
  refine g_iload_n 13 (show op 168 12 = some (.iload_n 2, 1) by decide +kernel) rfl rfl ?_
  obtain ⟨s3, hD4, h⟩ := h
  refine g_call 16 [] (show op 168 13 = some (.invokevirtual 111, 3) by decide +kernel) (call_vi' (k' := 0) (n' := 0) (nj := 2) (j := 149) (k9 := 18) (t := []) (as := [(.inr (.inr (some 608))), (.inl x2)]) (by decide +kernel) rfl (by decide +kernel) rfl rfl rfl rfl rfl rfl (by decide +kernel) (by decide +kernel)) hD4 rfl ?_
  refine g_aload_n 17 (show op 168 16 = some (.aload_n 0, 1) by decide +kernel) rfl rfl ?_
  refine g_getR (ci := 9) (f := 5) (fin := true) (isR := true) 20 610 (show op 168 17 = some (.getfield 40, 3) by decide +kernel) rfl (by decide +kernel) (by decide +kernel) ?_
  refine g_iload_n 21 (show op 168 20 = some (.iload_n 3, 1) by decide +kernel) rfl rfl ?_
  obtain ⟨s5, hD6, h⟩ := h
  refine g_call 24 [] (show op 168 21 = some (.invokevirtual 111, 3) by decide +kernel) (call_vi' (k' := 0) (n' := 0) (nj := 2) (j := 149) (k9 := 18) (t := []) (as := [(.inr (.inr (some 610))), (.inl x3)]) (by decide +kernel) rfl (by decide +kernel) rfl rfl rfl rfl rfl rfl (by decide +kernel) (by decide +kernel)) hD6 rfl ?_
  exact g_vret (show op 168 24 = some (.return_, 1) by decide +kernel) (by decide +kernel) h
/-- PatchBench$Trials.hasTextOf (LPatchBench$Pile;)Z -/
theorem b169 {σ : Sg} {o : Rs}   (h : (-2147483648 ≤ ((σ 402 3) - 1) ∧ ((σ 402 3) - 1) ≤ 2147483647) ∧ (∃ (r3 : Option Nat) (s2 : Sg), Dd 89 [(.inr (.inr (some 540))), (.inl ((σ 402 3) - 1)), (.inl (σ 402 3))] σ (.inl (some (.inr (.inr r3))), s2) ∧ ((r3 = none → o = (.inl (some (.inl 0)), s2)) ∧ (∀ a5, r3 = some a5 → (isPatch a5 = true) ∧ (∃ (a8 : Nat) (s7 : Sg), Dd 127 [(.inr (.inr (some 402)))] s2 (.inl (some (.inr (.inr (some a8)))), s7) ∧ (isRow a8 = true) ∧ (∃ (v12 : Int) (s11 : Sg), Dd 156 [(.inr (.inr (some (a5 + 3)))), (.inr (.inr (some a8)))] s7 (.inl (some (.inl v12)), s11) ∧ o = (.inl (some (.inl (if v12 = 0 then 0 else 1))), s11))))))) : Dd 169 [(.inr (.inr (some 473))), (.inr (.inr (some 402)))] σ o := by
  refine Dd_of (l := 3) (by decide +kernel) ?_
  show Gd 169 0 [(some (.inr (.inr (some 473)))), (some (.inr (.inr (some 402)))), none] [] σ 0 0 o
  refine g_aload_n 1 (show op 169 0 = some (.aload_n 0, 1) by decide +kernel) rfl rfl ?_
  refine g_getR (ci := 9) (f := 2) (fin := true) (isR := true) 4 540 (show op 169 1 = some (.getfield 25, 3) by decide +kernel) rfl (by decide +kernel) (by decide +kernel) ?_
  refine g_aload_n 5 (show op 169 4 = some (.aload_n 1, 1) by decide +kernel) rfl rfl ?_
  refine g_getI (ci := 6) (f := 3) (fin := false) (isR := false) 8 (show op 169 5 = some (.getfield 78, 3) by decide +kernel) rfl (by decide +kernel) (by decide +kernel) ?_
  refine g_iconst 9 (show op 169 8 = some (.iconst 1, 1) by decide +kernel) rfl rfl ?_
  obtain ⟨g1, h⟩ := h
  refine g_isub 10 (show op 169 9 = some (.isub, 1) by decide +kernel) rfl g1 ?_
  refine g_aload_n 11 (show op 169 10 = some (.aload_n 1, 1) by decide +kernel) rfl rfl ?_
  refine g_getI (ci := 6) (f := 3) (fin := false) (isR := false) 14 (show op 169 11 = some (.getfield 78, 3) by decide +kernel) rfl (by decide +kernel) (by decide +kernel) ?_
  obtain ⟨r3, s2, hD4, h⟩ := h
  refine g_call 17 [(.inr (.inr r3))] (show op 169 14 = some (.invokestatic 114, 3) by decide +kernel) (call_st' (k' := 0) (n' := 0) (nj := 3) (j := 89) (t := []) (as := [(.inr (.inr (some 540))), (.inl ((σ 402 3) - 1)), (.inl (σ 402 3))]) (by decide +kernel) rfl (by decide +kernel) rfl rfl rfl rfl rfl) hD4 rfl ?_
  refine g_astore_n 18 [(some (.inr (.inr (some 473)))), (some (.inr (.inr (some 402)))), (some (.inr (.inr r3)))] (show op 169 17 = some (.astore_n 2, 1) by decide +kernel) rfl rfl rfl ?_
  refine g_aload_n 19 (show op 169 18 = some (.aload_n 2, 1) by decide +kernel) rfl rfl ?_
  cases hn14 : r3 with
  | none =>
    have h := h.1 hn14
    refine g_nulT 40 (show op 169 19 = some (.ifnull 21, 3) by decide +kernel) rfl ?_
    refine g_iconst 41 (show op 169 40 = some (.iconst 0, 1) by decide +kernel) rfl rfl ?_
    exact (g_zret (show op 169 41 = some (.ireturn, 1) by decide +kernel) (by decide +kernel) (by decide) h)
  | some a5 =>
    have h := h.2 a5 hn14
    obtain ⟨q6, h⟩ := h
    refine g_nulF 22 (show op 169 19 = some (.ifnull 21, 3) by decide +kernel) rfl ?_
    refine g_aload_n 23 (show op 169 22 = some (.aload_n 2, 1) by decide +kernel) rfl rfl ?_
    refine g_getR (ci := 5) (f := 1) (fin := true) (isR := true) 26 (a5 + 3) (show op 169 23 = some (.getfield 118, 3) by decide +kernel) rfl (by decide +kernel) (pat_R q6 rfl) ?_
    refine g_aload_n 27 (show op 169 26 = some (.aload_n 1, 1) by decide +kernel) rfl rfl ?_
    obtain ⟨a8, s7, hD10, q9, h⟩ := h
    refine g_call 30 [(.inr (.inr (some a8))), (.inr (.inr (some (a5 + 3))))] (show op 169 27 = some (.invokevirtual 121, 3) by decide +kernel) (call_vi' (k' := 0) (n' := 0) (nj := 1) (j := 127) (k9 := 16) (t := [(.inr (.inr (some (a5 + 3))))]) (as := [(.inr (.inr (some 402)))]) (by decide +kernel) rfl (by decide +kernel) rfl rfl rfl rfl rfl rfl (by decide +kernel) (by decide +kernel)) hD10 rfl ?_
    obtain ⟨v12, s11, hD13, h⟩ := h
    refine g_call 33 [(.inl v12)] (show op 169 30 = some (.invokevirtual 125, 3) by decide +kernel) (call_vi' (k' := 0) (n' := 0) (nj := 2) (j := 156) (k9 := 18) (t := []) (as := [(.inr (.inr (some (a5 + 3)))), (.inr (.inr (some a8)))]) (by decide +kernel) rfl (by decide +kernel) rfl rfl rfl rfl rfl rfl (by decide +kernel) (row_C (pat_3 q6))) hD13 rfl ?_
    by_cases hc15 : v12 = 0
    · refine g_ifT 40 (show op 169 33 = some (.ifCond .eq 7, 3) by decide +kernel) rfl (decide_eq_true hc15) ?_
      refine g_iconst 41 (show op 169 40 = some (.iconst 0, 1) by decide +kernel) rfl rfl ?_
      have h9 := h; simp only [if_pos hc15] at h9; exact (g_zret (show op 169 41 = some (.ireturn, 1) by decide +kernel) (by decide +kernel) (by decide) h9)
    · refine g_ifF 36 40 (show op 169 33 = some (.ifCond .eq 7, 3) by decide +kernel) rfl rfl (decide_eq_false hc15) ?_
      refine g_iconst 37 (show op 169 36 = some (.iconst 1, 1) by decide +kernel) rfl rfl ?_
      refine g_goto 41 (show op 169 37 = some (.goto 4, 3) by decide +kernel) rfl ?_
      have h9 := h; simp only [if_neg hc15] at h9; exact (g_zret (show op 169 41 = some (.ireturn, 1) by decide +kernel) (by decide +kernel) (by decide) h9)
def C170_2 (x2 : Int) (x3 : Int) (d4 : Option AV) (σ : Sg) (o : Rs) : Prop := Gd 170 2 [(some (.inr (.inr (some 473)))), (some (.inr (.inr (some 402)))), (some (.inl x2)), (some (.inl x3)), d4] [] σ 0 0 o
def C170_49 (d1 : Option AV) (x2 : Int) (d3 : Option AV) (d4 : Option AV) (σ : Sg) (o : Rs) : Prop := Gd 170 49 [(some (.inr (.inr (some 473)))), d1, (some (.inl x2)), d3, d4] [] σ 0 0 o
def C170_61 (d1 : Option AV) (d2 : Option AV) (x3 : Int) (x4 : Int) (σ : Sg) (o : Rs) : Prop := Gd 170 61 [(some (.inr (.inr (some 473)))), d1, d2, (some (.inl x3)), (some (.inl x4))] [] σ 0 0 o
def C170_102 (d1 : Option AV) (d2 : Option AV) (d3 : Option AV) (d4 : Option AV) (σ : Sg) (o : Rs) : Prop := Gd 170 102 [(some (.inr (.inr (some 473)))), d1, d2, d3, d4] [] σ 0 0 o
def C170_113 (d1 : Option AV) (d2 : Option AV) (d3 : Option AV) (x4 : Int) (σ : Sg) (o : Rs) : Prop := Gd 170 113 [(some (.inr (.inr (some 473)))), d1, d2, d3, (some (.inl x4))] [] σ 0 0 o
theorem b170_2 {x2 : Int} {x3 : Int} {d4 : Option AV} {σ : Sg} {o : Rs}   (h : (if x3 < (σ 402 3) then (if x3 < 5 then (if x3 < 5 then (0 ≤ x3) ∧ (∃ e1 : Nat, qE 540 (x3).toNat e1 = true ∧ isPatch e1 = true ∧ (0 ≤ x3) ∧ (∃ e5 : Nat, qE 405 (x3).toNat e5 = true ∧ isPatch e5 = true ∧ (∃ (s9 : Sg), Dd 96 [(.inr (.inr (some e1))), (.inr (.inr (some e5)))] σ (.inl none, s9) ∧ (-2147483648 ≤ (x3 + 1) ∧ (x3 + 1) ≤ 2147483647) ∧ C170_2 x2 (x3 + 1) d4 s9 o))) else C170_49 (some (.inr (.inr (some 402)))) x2 (some (.inl x3)) d4 σ o) else C170_49 (some (.inr (.inr (some 402)))) x2 (some (.inl x3)) d4 σ o) else C170_49 (some (.inr (.inr (some 402)))) x2 (some (.inl x3)) d4 σ o)) : C170_2 x2 x3 d4 σ o := by
  show Gd 170 2 [(some (.inr (.inr (some 473)))), (some (.inr (.inr (some 402)))), (some (.inl x2)), (some (.inl x3)), d4] [] σ 0 0 o
  refine g_iload_n 3 (show op 170 2 = some (.iload_n 3, 1) by decide +kernel) rfl rfl ?_
  refine g_aload_n 4 (show op 170 3 = some (.aload_n 1, 1) by decide +kernel) rfl rfl ?_
  refine g_getI (ci := 6) (f := 3) (fin := false) (isR := false) 7 (show op 170 4 = some (.getfield 78, 3) by decide +kernel) rfl (by decide +kernel) (by decide +kernel) ?_
  by_cases hc12 : x3 < (σ 402 3)
  · rw [if_pos hc12] at h
    refine g_icmpF 10 49 (show op 170 7 = some (.if_icmp .ge 42, 3) by decide +kernel) rfl rfl (decide_eq_false (Int.not_le.mpr hc12)) ?_
    refine g_iload_n 11 (show op 170 10 = some (.iload_n 3, 1) by decide +kernel) rfl rfl ?_
    refine g_aload_n 12 (show op 170 11 = some (.aload_n 1, 1) by decide +kernel) rfl rfl ?_
    refine g_getR (ci := 6) (f := 1) (fin := true) (isR := true) 15 405 (show op 170 12 = some (.getfield 46, 3) by decide +kernel) rfl (by decide +kernel) (by decide +kernel) ?_
    refine g_alenR 16 5 (show op 170 15 = some (.arraylength, 1) by decide +kernel) rfl (by decide +kernel) (by decide) ?_
    by_cases hc13 : x3 < 5
    · rw [if_pos hc13] at h
      refine g_icmpF 19 49 (show op 170 16 = some (.if_icmp .ge 33, 3) by decide +kernel) rfl rfl (decide_eq_false (Int.not_le.mpr hc13)) ?_
      refine g_iload_n 20 (show op 170 19 = some (.iload_n 3, 1) by decide +kernel) rfl rfl ?_
      refine g_aload_n 21 (show op 170 20 = some (.aload_n 0, 1) by decide +kernel) rfl rfl ?_
      refine g_getR (ci := 9) (f := 2) (fin := true) (isR := true) 24 540 (show op 170 21 = some (.getfield 25, 3) by decide +kernel) rfl (by decide +kernel) (by decide +kernel) ?_
      refine g_alenR 25 5 (show op 170 24 = some (.arraylength, 1) by decide +kernel) rfl (by decide +kernel) (by decide) ?_
      by_cases hc14 : x3 < 5
      · rw [if_pos hc14] at h
        refine g_icmpF 28 49 (show op 170 25 = some (.if_icmp .ge 24, 3) by decide +kernel) rfl rfl (decide_eq_false (Int.not_le.mpr hc14)) ?_
        refine g_aload_n 29 (show op 170 28 = some (.aload_n 0, 1) by decide +kernel) rfl rfl ?_
        refine g_getR (ci := 9) (f := 2) (fin := true) (isR := true) 32 540 (show op 170 29 = some (.getfield 25, 3) by decide +kernel) rfl (by decide +kernel) (by decide +kernel) ?_
        refine g_iload_n 33 (show op 170 32 = some (.iload_n 3, 1) by decide +kernel) rfl rfl ?_
        obtain ⟨g2, h⟩ := h
        obtain ⟨e1, q3, q4, h⟩ := h
        refine g_aaload 34 e1 (show op 170 33 = some (.aaload, 1) by decide +kernel) rfl g2 q3 ?_
        refine g_aload_n 35 (show op 170 34 = some (.aload_n 1, 1) by decide +kernel) rfl rfl ?_
        refine g_getR (ci := 6) (f := 1) (fin := true) (isR := true) 38 405 (show op 170 35 = some (.getfield 46, 3) by decide +kernel) rfl (by decide +kernel) (by decide +kernel) ?_
        refine g_iload_n 39 (show op 170 38 = some (.iload_n 3, 1) by decide +kernel) rfl rfl ?_
        obtain ⟨g6, h⟩ := h
        obtain ⟨e5, q7, q8, h⟩ := h
        refine g_aaload 40 e5 (show op 170 39 = some (.aaload, 1) by decide +kernel) rfl g6 q7 ?_
        obtain ⟨s9, hD10, h⟩ := h
        refine g_call 43 [] (show op 170 40 = some (.invokevirtual 51, 3) by decide +kernel) (call_vi' (k' := 0) (n' := 0) (nj := 2) (j := 96) (k9 := 15) (t := []) (as := [(.inr (.inr (some e1))), (.inr (.inr (some e5)))]) (by decide +kernel) rfl (by decide +kernel) rfl rfl rfl rfl rfl rfl (by decide +kernel) (pat_C q4)) hD10 rfl ?_
        obtain ⟨g11, h⟩ := h
        refine g_iinc 46 [(some (.inr (.inr (some 473)))), (some (.inr (.inr (some 402)))), (some (.inl x2)), (some (.inl (x3 + 1))), d4] (show op 170 43 = some (.iinc 3 1, 3) by decide +kernel) rfl rfl g11 rfl ?_
        refine g_goto 2 (show op 170 46 = some (.goto (-44), 3) by decide +kernel) rfl ?_
        exact h
      · rw [if_neg hc14] at h
        refine g_icmpT 49 (show op 170 25 = some (.if_icmp .ge 24, 3) by decide +kernel) rfl (decide_eq_true (Int.not_lt.mp hc14)) ?_
        exact h
    · rw [if_neg hc13] at h
      refine g_icmpT 49 (show op 170 16 = some (.if_icmp .ge 33, 3) by decide +kernel) rfl (decide_eq_true (Int.not_lt.mp hc13)) ?_
      exact h
  · rw [if_neg hc12] at h
    refine g_icmpT 49 (show op 170 7 = some (.if_icmp .ge 42, 3) by decide +kernel) rfl (decide_eq_true (Int.not_lt.mp hc12)) ?_
    exact h
theorem b170_49 {d1 : Option AV} {x2 : Int} {d3 : Option AV} {d4 : Option AV} {σ : Sg} {o : Rs}   (h : (∃ (s1 : Sg), Dd 152 [(.inr (.inr (some 612)))] σ (.inl none, s1) ∧ C170_61 d1 (some (.inl x2)) x2 0 s1 o)) : C170_49 d1 x2 d3 d4 σ o := by
  show Gd 170 49 [(some (.inr (.inr (some 473)))), d1, (some (.inl x2)), d3, d4] [] σ 0 0 o
  refine g_aload_n 50 (show op 170 49 = some (.aload_n 0, 1) by decide +kernel) rfl rfl ?_
  refine g_getR (ci := 9) (f := 6) (fin := true) (isR := true) 53 612 (show op 170 50 = some (.getfield 43, 3) by decide +kernel) rfl (by decide +kernel) (by decide +kernel) ?_
  obtain ⟨s1, hD2, h⟩ := h
  refine g_call 56 [] (show op 170 53 = some (.invokevirtual 75, 3) by decide +kernel) (call_vi' (k' := 0) (n' := 0) (nj := 1) (j := 152) (k9 := 18) (t := []) (as := [(.inr (.inr (some 612)))]) (by decide +kernel) rfl (by decide +kernel) rfl rfl rfl rfl rfl rfl (by decide +kernel) (by decide +kernel)) hD2 rfl ?_
  refine g_iload_n 57 (show op 170 56 = some (.iload_n 2, 1) by decide +kernel) rfl rfl ?_
  refine g_istore_n 58 [(some (.inr (.inr (some 473)))), d1, (some (.inl x2)), (some (.inl x2)), d4] (show op 170 57 = some (.istore_n 3, 1) by decide +kernel) rfl rfl rfl ?_
  refine g_iconst 59 (show op 170 58 = some (.iconst 0, 1) by decide +kernel) rfl rfl ?_
  refine g_istore 61 [(some (.inr (.inr (some 473)))), d1, (some (.inl x2)), (some (.inl x2)), (some (.inl 0))] (show op 170 59 = some (.istore 4, 2) by decide +kernel) rfl rfl rfl ?_
  exact h
theorem b170_61 {d1 : Option AV} {d2 : Option AV} {x3 : Int} {x4 : Int} {σ : Sg} {o : Rs}   (h : (if x4 < 24 then (if 0 < x3 then (∃ (v2 : Int) (s1 : Sg), Dd 147 [(.inr (.inr (some 610))), (.inl x3)] σ (.inl (some (.inl v2)), s1) ∧ (∃ (s4 : Sg), Dd 149 [(.inr (.inr (some 612))), (.inl v2)] s1 (.inl none, s4) ∧ (∃ (v7 : Int) (s6 : Sg), Dd 147 [(.inr (.inr (some 608))), (.inl x3)] s4 (.inl (some (.inl v7)), s6) ∧ (-2147483648 ≤ (x4 + 1) ∧ (x4 + 1) ≤ 2147483647) ∧ C170_61 d1 d2 v7 (x4 + 1) s6 o))) else C170_102 d1 d2 (some (.inl x3)) (some (.inl x4)) σ o) else C170_102 d1 d2 (some (.inl x3)) (some (.inl x4)) σ o)) : C170_61 d1 d2 x3 x4 σ o := by
  show Gd 170 61 [(some (.inr (.inr (some 473)))), d1, d2, (some (.inl x3)), (some (.inl x4))] [] σ 0 0 o
  refine g_iload 63 (show op 170 61 = some (.iload 4, 2) by decide +kernel) rfl rfl ?_
  refine g_bipush 65 (show op 170 63 = some (.bipush 24, 2) by decide +kernel) rfl (by decide) ?_
  by_cases hc10 : x4 < 24
  · rw [if_pos hc10] at h
    refine g_icmpF 68 102 (show op 170 65 = some (.if_icmp .ge 37, 3) by decide +kernel) rfl rfl (decide_eq_false (Int.not_le.mpr hc10)) ?_
    refine g_iload_n 69 (show op 170 68 = some (.iload_n 3, 1) by decide +kernel) rfl rfl ?_
    by_cases hc11 : 0 < x3
    · rw [if_pos hc11] at h
      refine g_ifF 72 102 (show op 170 69 = some (.ifCond .le 33, 3) by decide +kernel) rfl rfl (decide_eq_false (Int.not_le.mpr hc11)) ?_
      refine g_aload_n 73 (show op 170 72 = some (.aload_n 0, 1) by decide +kernel) rfl rfl ?_
      refine g_getR (ci := 9) (f := 6) (fin := true) (isR := true) 76 612 (show op 170 73 = some (.getfield 43, 3) by decide +kernel) rfl (by decide +kernel) (by decide +kernel) ?_
      refine g_aload_n 77 (show op 170 76 = some (.aload_n 0, 1) by decide +kernel) rfl rfl ?_
      refine g_getR (ci := 9) (f := 5) (fin := true) (isR := true) 80 610 (show op 170 77 = some (.getfield 40, 3) by decide +kernel) rfl (by decide +kernel) (by decide +kernel) ?_
      refine g_iload_n 81 (show op 170 80 = some (.iload_n 3, 1) by decide +kernel) rfl rfl ?_
      obtain ⟨v2, s1, hD3, h⟩ := h
      refine g_call 84 [(.inl v2), (.inr (.inr (some 612)))] (show op 170 81 = some (.invokevirtual 94, 3) by decide +kernel) (call_vi' (k' := 0) (n' := 0) (nj := 2) (j := 147) (k9 := 18) (t := [(.inr (.inr (some 612)))]) (as := [(.inr (.inr (some 610))), (.inl x3)]) (by decide +kernel) rfl (by decide +kernel) rfl rfl rfl rfl rfl rfl (by decide +kernel) (by decide +kernel)) hD3 rfl ?_
      obtain ⟨s4, hD5, h⟩ := h
      refine g_call 87 [] (show op 170 84 = some (.invokevirtual 111, 3) by decide +kernel) (call_vi' (k' := 0) (n' := 0) (nj := 2) (j := 149) (k9 := 18) (t := []) (as := [(.inr (.inr (some 612))), (.inl v2)]) (by decide +kernel) rfl (by decide +kernel) rfl rfl rfl rfl rfl rfl (by decide +kernel) (by decide +kernel)) hD5 rfl ?_
      refine g_aload_n 88 (show op 170 87 = some (.aload_n 0, 1) by decide +kernel) rfl rfl ?_
      refine g_getR (ci := 9) (f := 4) (fin := true) (isR := true) 91 608 (show op 170 88 = some (.getfield 37, 3) by decide +kernel) rfl (by decide +kernel) (by decide +kernel) ?_
      refine g_iload_n 92 (show op 170 91 = some (.iload_n 3, 1) by decide +kernel) rfl rfl ?_
      obtain ⟨v7, s6, hD8, h⟩ := h
      refine g_call 95 [(.inl v7)] (show op 170 92 = some (.invokevirtual 94, 3) by decide +kernel) (call_vi' (k' := 0) (n' := 0) (nj := 2) (j := 147) (k9 := 18) (t := []) (as := [(.inr (.inr (some 608))), (.inl x3)]) (by decide +kernel) rfl (by decide +kernel) rfl rfl rfl rfl rfl rfl (by decide +kernel) (by decide +kernel)) hD8 rfl ?_
      refine g_istore_n 96 [(some (.inr (.inr (some 473)))), d1, d2, (some (.inl v7)), (some (.inl x4))] (show op 170 95 = some (.istore_n 3, 1) by decide +kernel) rfl rfl rfl ?_
      obtain ⟨g9, h⟩ := h
      refine g_iinc 99 [(some (.inr (.inr (some 473)))), d1, d2, (some (.inl v7)), (some (.inl (x4 + 1)))] (show op 170 96 = some (.iinc 4 1, 3) by decide +kernel) rfl rfl g9 rfl ?_
      refine g_goto 61 (show op 170 99 = some (.goto (-38), 3) by decide +kernel) rfl ?_
      exact h
    · rw [if_neg hc11] at h
      refine g_ifT 102 (show op 170 69 = some (.ifCond .le 33, 3) by decide +kernel) rfl (decide_eq_true (Int.not_lt.mp hc11)) ?_
      exact h
  · rw [if_neg hc10] at h
    refine g_icmpT 102 (show op 170 65 = some (.if_icmp .ge 37, 3) by decide +kernel) rfl (decide_eq_true (Int.not_lt.mp hc10)) ?_
    exact h
theorem b170_102 {d1 : Option AV} {d2 : Option AV} {d3 : Option AV} {d4 : Option AV} {σ : Sg} {o : Rs}   (h : (∃ (v2 : Int) (s1 : Sg), Dd 146 [(.inr (.inr (some 612)))] σ (.inl (some (.inl v2)), s1) ∧ (-2147483648 ≤ (v2 - 1) ∧ (v2 - 1) ≤ 2147483647) ∧ C170_113 d1 d2 d3 (v2 - 1) s1 o)) : C170_102 d1 d2 d3 d4 σ o := by
  show Gd 170 102 [(some (.inr (.inr (some 473)))), d1, d2, d3, d4] [] σ 0 0 o
  refine g_aload_n 103 (show op 170 102 = some (.aload_n 0, 1) by decide +kernel) rfl rfl ?_
  refine g_getR (ci := 9) (f := 6) (fin := true) (isR := true) 106 612 (show op 170 103 = some (.getfield 43, 3) by decide +kernel) rfl (by decide +kernel) (by decide +kernel) ?_
  obtain ⟨v2, s1, hD3, h⟩ := h
  refine g_call 109 [(.inl v2)] (show op 170 106 = some (.invokevirtual 90, 3) by decide +kernel) (call_vi' (k' := 0) (n' := 0) (nj := 1) (j := 146) (k9 := 18) (t := []) (as := [(.inr (.inr (some 612)))]) (by decide +kernel) rfl (by decide +kernel) rfl rfl rfl rfl rfl rfl (by decide +kernel) (by decide +kernel)) hD3 rfl ?_
  refine g_iconst 110 (show op 170 109 = some (.iconst 1, 1) by decide +kernel) rfl rfl ?_
  obtain ⟨g4, h⟩ := h
  refine g_isub 111 (show op 170 110 = some (.isub, 1) by decide +kernel) rfl g4 ?_
  refine g_istore 113 [(some (.inr (.inr (some 473)))), d1, d2, d3, (some (.inl (v2 - 1)))] (show op 170 111 = some (.istore 4, 2) by decide +kernel) rfl rfl rfl ?_
  exact h
theorem b170_113 {d1 : Option AV} {d2 : Option AV} {d3 : Option AV} {x4 : Int} {σ : Sg} {o : Rs}   (h : (if 0 ≤ x4 then (∃ (v2 : Int) (s1 : Sg), Dd 147 [(.inr (.inr (some 612))), (.inl x4)] σ (.inl (some (.inl v2)), s1) ∧ (∃ (v5 : Int) (s4 : Sg), Dd 10 [(.inr (.inr (some 350))), (.inr (.inr (some 540))), (.inl v2), (.inl 96)] s1 (.inl (some (.inl v5)), s4) ∧ (-2147483648 ≤ (x4 + (-1)) ∧ (x4 + (-1)) ≤ 2147483647) ∧ C170_113 d1 d2 d3 (x4 + (-1)) s4 o)) else o = (.inl none, σ))) : C170_113 d1 d2 d3 x4 σ o := by
  show Gd 170 113 [(some (.inr (.inr (some 473)))), d1, d2, d3, (some (.inl x4))] [] σ 0 0 o
  refine g_iload 115 (show op 170 113 = some (.iload 4, 2) by decide +kernel) rfl rfl ?_
  by_cases hc8 : 0 ≤ x4
  · rw [if_pos hc8] at h
    refine g_ifF 118 147 (show op 170 115 = some (.ifCond .lt 32, 3) by decide +kernel) rfl rfl (decide_eq_false (Int.not_lt.mpr hc8)) ?_
    refine g_aload_n 119 (show op 170 118 = some (.aload_n 0, 1) by decide +kernel) rfl rfl ?_
    refine g_getR (ci := 9) (f := 0) (fin := true) (isR := true) 122 350 (show op 170 119 = some (.getfield 11, 3) by decide +kernel) rfl (by decide +kernel) (by decide +kernel) ?_
    refine g_aload_n 123 (show op 170 122 = some (.aload_n 0, 1) by decide +kernel) rfl rfl ?_
    refine g_getR (ci := 9) (f := 2) (fin := true) (isR := true) 126 540 (show op 170 123 = some (.getfield 25, 3) by decide +kernel) rfl (by decide +kernel) (by decide +kernel) ?_
    refine g_aload_n 127 (show op 170 126 = some (.aload_n 0, 1) by decide +kernel) rfl rfl ?_
    refine g_getR (ci := 9) (f := 6) (fin := true) (isR := true) 130 612 (show op 170 127 = some (.getfield 43, 3) by decide +kernel) rfl (by decide +kernel) (by decide +kernel) ?_
    refine g_iload 132 (show op 170 130 = some (.iload 4, 2) by decide +kernel) rfl rfl ?_
    obtain ⟨v2, s1, hD3, h⟩ := h
    refine g_call 135 [(.inl v2), (.inr (.inr (some 540))), (.inr (.inr (some 350)))] (show op 170 132 = some (.invokevirtual 94, 3) by decide +kernel) (call_vi' (k' := 0) (n' := 0) (nj := 2) (j := 147) (k9 := 18) (t := [(.inr (.inr (some 540))), (.inr (.inr (some 350)))]) (as := [(.inr (.inr (some 612))), (.inl x4)]) (by decide +kernel) rfl (by decide +kernel) rfl rfl rfl rfl rfl rfl (by decide +kernel) (by decide +kernel)) hD3 rfl ?_
    refine g_bipush 137 (show op 170 135 = some (.bipush 96, 2) by decide +kernel) rfl (by decide) ?_
    obtain ⟨v5, s4, hD6, h⟩ := h
    refine g_call 140 [(.inl v5)] (show op 170 137 = some (.invokevirtual 63, 3) by decide +kernel) (call_vi' (k' := 0) (n' := 0) (nj := 4) (j := 10) (k9 := 10) (t := []) (as := [(.inr (.inr (some 350))), (.inr (.inr (some 540))), (.inl v2), (.inl 96)]) (by decide +kernel) rfl (by decide +kernel) rfl rfl rfl rfl rfl rfl (by decide +kernel) (by decide +kernel)) hD6 rfl ?_
    refine g_pop 141 (show op 170 140 = some (.pop, 1) by decide +kernel) rfl rfl ?_
    obtain ⟨g7, h⟩ := h
    refine g_iinc 144 [(some (.inr (.inr (some 473)))), d1, d2, d3, (some (.inl (x4 + (-1))))] (show op 170 141 = some (.iinc 4 (-1), 3) by decide +kernel) rfl rfl g7 rfl ?_
    refine g_goto 113 (show op 170 144 = some (.goto (-31), 3) by decide +kernel) rfl ?_
    exact h
  · rw [if_neg hc8] at h
    refine g_ifT 147 (show op 170 115 = some (.ifCond .lt 32, 3) by decide +kernel) rfl (decide_eq_true (Int.not_le.mp hc8)) ?_
    exact g_vret (show op 170 147 = some (.return_, 1) by decide +kernel) (by decide +kernel) h
/-- PatchBench$Trials.replay (LPatchBench$Pile;I)V -/
theorem b170 {x2 : Int} {σ : Sg} {o : Rs}   (h : C170_2 x2 0 none σ o) : Dd 170 [(.inr (.inr (some 473))), (.inr (.inr (some 402))), (.inl x2)] σ o := by
  refine Dd_of (l := 5) (by decide +kernel) ?_
  show Gd 170 0 [(some (.inr (.inr (some 473)))), (some (.inr (.inr (some 402)))), (some (.inl x2)), none, none] [] σ 0 0 o
  refine g_iconst 1 (show op 170 0 = some (.iconst 0, 1) by decide +kernel) rfl rfl ?_
  refine g_istore_n 2 [(some (.inr (.inr (some 473)))), (some (.inr (.inr (some 402)))), (some (.inl x2)), (some (.inl 0)), none] (show op 170 1 = some (.istore_n 3, 1) by decide +kernel) rfl rfl rfl ?_
  exact h
end
