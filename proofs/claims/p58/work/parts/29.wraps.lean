noncomputable section
/-- PatchBenchLaw.put (LPatchBench;III[J)I -/
theorem b390 {x1 : Int} {x2 : Int} {x3 : Int} {σ : Sg} {o : Rs}   (h : ((∃ (v2 : Int) (s1 : Sg), Dd 172 [(.inr (.inr (some 0))), (.inl x1), (.inl x2), (.inl x3)] σ (.inl (some (.inl v2)), s1) ∧ o = (.inl (some (.inl 0)), (upS s1 726 ((0 : Int).toNat) v2))) ∨ (∃ s0 : Sg, Dd 172 [(.inr (.inr (some 0))), (.inl x1), (.inl x2), (.inl x3)] σ (.inr 0, s0) ∧ o = (.inl (some (.inl 1)), s0)) ∨ (∃ s0 : Sg, Dd 172 [(.inr (.inr (some 0))), (.inl x1), (.inl x2), (.inl x3)] σ (.inr 1, s0) ∧ o = (.inl (some (.inl 2)), s0)) ∨ (∃ s0 : Sg, Dd 172 [(.inr (.inr (some 0))), (.inl x1), (.inl x2), (.inl x3)] σ (.inr 2, s0) ∧ o = (.inl (some (.inl 3)), s0)))) : Dd 390 [(.inr (.inr (some 0))), (.inl x1), (.inl x2), (.inl x3), (.inr (.inr (some 726)))] σ o := by
  refine Dd_of (l := 6) (by decide +kernel) ?_
  show Gd 390 0 [(some (.inr (.inr (some 0)))), (some (.inl x1)), (some (.inl x2)), (some (.inl x3)), (some (.inr (.inr (some 726)))), none] [] σ 0 0 o
  refine g_aload 2 (show op 390 0 = some (.aload 4, 2) by decide +kernel) rfl rfl ?_
  refine g_iconst 3 (show op 390 2 = some (.iconst 0, 1) by decide +kernel) rfl rfl ?_
  refine g_aload_n 4 (show op 390 3 = some (.aload_n 0, 1) by decide +kernel) rfl rfl ?_
  refine g_iload_n 5 (show op 390 4 = some (.iload_n 1, 1) by decide +kernel) rfl rfl ?_
  refine g_iload_n 6 (show op 390 5 = some (.iload_n 2, 1) by decide +kernel) rfl rfl ?_
  refine g_iload_n 7 (show op 390 6 = some (.iload_n 3, 1) by decide +kernel) rfl rfl ?_
  rcases h with ⟨v2, s1, hD3, h⟩ | ⟨s0, hD0, h⟩ | ⟨s0, hD0, h⟩ | ⟨s0, hD0, h⟩
  · refine g_call 10 [(.inl v2), (.inl 0), (.inr (.inr (some 726)))] (show op 390 7 = some (.invokevirtual 7, 3) by decide +kernel) (call_vi' (k' := 4) (n' := 24) (nj := 4) (j := 172) (k9 := 20) (t := [(.inl 0), (.inr (.inr (some 726)))]) (as := [(.inr (.inr (some 0))), (.inl x1), (.inl x2), (.inl x3)]) (by decide +kernel) rfl (by decide +kernel) rfl rfl rfl rfl rfl rfl (by decide +kernel) (by decide +kernel)) hD3 rfl ?_
    refine g_i2l 11 (show op 390 10 = some (.i2l, 1) by decide +kernel) rfl ?_
    refine g_lastore 12 1 (show op 390 11 = some (.lastore, 1) by decide +kernel) rfl (by decide +kernel) (by decide) ?_
    refine g_goto 27 (show op 390 12 = some (.goto 15, 3) by decide +kernel) rfl ?_
    refine g_iconst 28 (show op 390 27 = some (.iconst 0, 1) by decide +kernel) rfl rfl ?_
    exact (g_iret (show op 390 28 = some (.ireturn, 1) by decide +kernel) (by decide +kernel) h)
  · exact g_callH (E := 0) (c := 1) 10 (show op 390 7 = some (.invokevirtual 7, 3) by decide +kernel) (call_vi' (k' := 4) (n' := 24) (nj := 4) (j := 172) (k9 := 20) (t := [(.inl 0), (.inr (.inr (some 726)))]) (as := [(.inr (.inr (some 0))), (.inl x1), (.inl x2), (.inl x3)]) (by decide +kernel) rfl (by decide +kernel) rfl rfl rfl rfl rfl rfl (by decide +kernel) (by decide +kernel)) hD0 (by decide +kernel) rfl h
  · exact g_callH (E := 1) (c := 2) 10 (show op 390 7 = some (.invokevirtual 7, 3) by decide +kernel) (call_vi' (k' := 4) (n' := 24) (nj := 4) (j := 172) (k9 := 20) (t := [(.inl 0), (.inr (.inr (some 726)))]) (as := [(.inr (.inr (some 0))), (.inl x1), (.inl x2), (.inl x3)]) (by decide +kernel) rfl (by decide +kernel) rfl rfl rfl rfl rfl rfl (by decide +kernel) (by decide +kernel)) hD0 (by decide +kernel) rfl h
  · exact g_callH (E := 2) (c := 3) 10 (show op 390 7 = some (.invokevirtual 7, 3) by decide +kernel) (call_vi' (k' := 4) (n' := 24) (nj := 4) (j := 172) (k9 := 20) (t := [(.inl 0), (.inr (.inr (some 726)))]) (as := [(.inr (.inr (some 0))), (.inl x1), (.inl x2), (.inl x3)]) (by decide +kernel) rfl (by decide +kernel) rfl rfl rfl rfl rfl rfl (by decide +kernel) (by decide +kernel)) hD0 (by decide +kernel) rfl h
/-- PatchBenchLaw.cut (LPatchBench;II[J)I -/
theorem b391 {x1 : Int} {x2 : Int} {σ : Sg} {o : Rs}   (h : ((∃ (v2 : Int) (s1 : Sg), Dd 173 [(.inr (.inr (some 0))), (.inl x1), (.inl x2)] σ (.inl (some (.inl v2)), s1) ∧ o = (.inl (some (.inl 0)), (upS s1 726 ((0 : Int).toNat) v2))) ∨ (∃ s0 : Sg, Dd 173 [(.inr (.inr (some 0))), (.inl x1), (.inl x2)] σ (.inr 0, s0) ∧ o = (.inl (some (.inl 1)), s0)))) : Dd 391 [(.inr (.inr (some 0))), (.inl x1), (.inl x2), (.inr (.inr (some 726)))] σ o := by
  refine Dd_of (l := 5) (by decide +kernel) ?_
  show Gd 391 0 [(some (.inr (.inr (some 0)))), (some (.inl x1)), (some (.inl x2)), (some (.inr (.inr (some 726)))), none] [] σ 0 0 o
  refine g_aload_n 1 (show op 391 0 = some (.aload_n 3, 1) by decide +kernel) rfl rfl ?_
  refine g_iconst 2 (show op 391 1 = some (.iconst 0, 1) by decide +kernel) rfl rfl ?_
  refine g_aload_n 3 (show op 391 2 = some (.aload_n 0, 1) by decide +kernel) rfl rfl ?_
  refine g_iload_n 4 (show op 391 3 = some (.iload_n 1, 1) by decide +kernel) rfl rfl ?_
  refine g_iload_n 5 (show op 391 4 = some (.iload_n 2, 1) by decide +kernel) rfl rfl ?_
  rcases h with ⟨v2, s1, hD3, h⟩ | ⟨s0, hD0, h⟩
  · refine g_call 8 [(.inl v2), (.inl 0), (.inr (.inr (some 726)))] (show op 391 5 = some (.invokevirtual 19, 3) by decide +kernel) (call_vi' (k' := 2) (n' := 12) (nj := 3) (j := 173) (k9 := 20) (t := [(.inl 0), (.inr (.inr (some 726)))]) (as := [(.inr (.inr (some 0))), (.inl x1), (.inl x2)]) (by decide +kernel) rfl (by decide +kernel) rfl rfl rfl rfl rfl rfl (by decide +kernel) (by decide +kernel)) hD3 rfl ?_
    refine g_i2l 9 (show op 391 8 = some (.i2l, 1) by decide +kernel) rfl ?_
    refine g_lastore 10 1 (show op 391 9 = some (.lastore, 1) by decide +kernel) rfl (by decide +kernel) (by decide) ?_
    refine g_goto 17 (show op 391 10 = some (.goto 7, 3) by decide +kernel) rfl ?_
    refine g_iconst 18 (show op 391 17 = some (.iconst 0, 1) by decide +kernel) rfl rfl ?_
    exact (g_iret (show op 391 18 = some (.ireturn, 1) by decide +kernel) (by decide +kernel) h)
  · exact g_callH (E := 0) (c := 1) 8 (show op 391 5 = some (.invokevirtual 19, 3) by decide +kernel) (call_vi' (k' := 2) (n' := 12) (nj := 3) (j := 173) (k9 := 20) (t := [(.inl 0), (.inr (.inr (some 726)))]) (as := [(.inr (.inr (some 0))), (.inl x1), (.inl x2)]) (by decide +kernel) rfl (by decide +kernel) rfl rfl rfl rfl rfl rfl (by decide +kernel) (by decide +kernel)) hD0 (by decide +kernel) rfl h
/-- PatchBenchLaw.copy (LPatchBench;II[J)I -/
theorem b392 {x1 : Int} {x2 : Int} {σ : Sg} {o : Rs}   (h : ((∃ (v2 : Int) (s1 : Sg), Dd 174 [(.inr (.inr (some 0))), (.inl x1), (.inl x2)] σ (.inl (some (.inl v2)), s1) ∧ o = (.inl (some (.inl 0)), (upS s1 726 ((0 : Int).toNat) v2))) ∨ (∃ s0 : Sg, Dd 174 [(.inr (.inr (some 0))), (.inl x1), (.inl x2)] σ (.inr 0, s0) ∧ o = (.inl (some (.inl 1)), s0)))) : Dd 392 [(.inr (.inr (some 0))), (.inl x1), (.inl x2), (.inr (.inr (some 726)))] σ o := by
  refine Dd_of (l := 5) (by decide +kernel) ?_
  show Gd 392 0 [(some (.inr (.inr (some 0)))), (some (.inl x1)), (some (.inl x2)), (some (.inr (.inr (some 726)))), none] [] σ 0 0 o
  refine g_aload_n 1 (show op 392 0 = some (.aload_n 3, 1) by decide +kernel) rfl rfl ?_
  refine g_iconst 2 (show op 392 1 = some (.iconst 0, 1) by decide +kernel) rfl rfl ?_
  refine g_aload_n 3 (show op 392 2 = some (.aload_n 0, 1) by decide +kernel) rfl rfl ?_
  refine g_iload_n 4 (show op 392 3 = some (.iload_n 1, 1) by decide +kernel) rfl rfl ?_
  refine g_iload_n 5 (show op 392 4 = some (.iload_n 2, 1) by decide +kernel) rfl rfl ?_
  rcases h with ⟨v2, s1, hD3, h⟩ | ⟨s0, hD0, h⟩
  · refine g_call 8 [(.inl v2), (.inl 0), (.inr (.inr (some 726)))] (show op 392 5 = some (.invokevirtual 23, 3) by decide +kernel) (call_vi' (k' := 2) (n' := 12) (nj := 3) (j := 174) (k9 := 20) (t := [(.inl 0), (.inr (.inr (some 726)))]) (as := [(.inr (.inr (some 0))), (.inl x1), (.inl x2)]) (by decide +kernel) rfl (by decide +kernel) rfl rfl rfl rfl rfl rfl (by decide +kernel) (by decide +kernel)) hD3 rfl ?_
    refine g_i2l 9 (show op 392 8 = some (.i2l, 1) by decide +kernel) rfl ?_
    refine g_lastore 10 1 (show op 392 9 = some (.lastore, 1) by decide +kernel) rfl (by decide +kernel) (by decide) ?_
    refine g_goto 17 (show op 392 10 = some (.goto 7, 3) by decide +kernel) rfl ?_
    refine g_iconst 18 (show op 392 17 = some (.iconst 0, 1) by decide +kernel) rfl rfl ?_
    exact (g_iret (show op 392 18 = some (.ireturn, 1) by decide +kernel) (by decide +kernel) h)
  · exact g_callH (E := 0) (c := 1) 8 (show op 392 5 = some (.invokevirtual 23, 3) by decide +kernel) (call_vi' (k' := 2) (n' := 12) (nj := 3) (j := 174) (k9 := 20) (t := [(.inl 0), (.inr (.inr (some 726)))]) (as := [(.inr (.inr (some 0))), (.inl x1), (.inl x2)]) (by decide +kernel) rfl (by decide +kernel) rfl rfl rfl rfl rfl rfl (by decide +kernel) (by decide +kernel)) hD0 (by decide +kernel) rfl h
/-- PatchBenchLaw.length (LPatchBench;I[J)I -/
theorem b393 {x1 : Int} {σ : Sg} {o : Rs}   (h : ((∃ (v2 : Int) (s1 : Sg), Dd 175 [(.inr (.inr (some 0))), (.inl x1)] σ (.inl (some (.inl v2)), s1) ∧ o = (.inl (some (.inl 0)), (upS s1 726 ((0 : Int).toNat) v2))) ∨ (∃ s0 : Sg, Dd 175 [(.inr (.inr (some 0))), (.inl x1)] σ (.inr 0, s0) ∧ o = (.inl (some (.inl 1)), s0)))) : Dd 393 [(.inr (.inr (some 0))), (.inl x1), (.inr (.inr (some 726)))] σ o := by
  refine Dd_of (l := 4) (by decide +kernel) ?_
  show Gd 393 0 [(some (.inr (.inr (some 0)))), (some (.inl x1)), (some (.inr (.inr (some 726)))), none] [] σ 0 0 o
  refine g_aload_n 1 (show op 393 0 = some (.aload_n 2, 1) by decide +kernel) rfl rfl ?_
  refine g_iconst 2 (show op 393 1 = some (.iconst 0, 1) by decide +kernel) rfl rfl ?_
  refine g_aload_n 3 (show op 393 2 = some (.aload_n 0, 1) by decide +kernel) rfl rfl ?_
  refine g_iload_n 4 (show op 393 3 = some (.iload_n 1, 1) by decide +kernel) rfl rfl ?_
  rcases h with ⟨v2, s1, hD3, h⟩ | ⟨s0, hD0, h⟩
  · refine g_call 7 [(.inl v2), (.inl 0), (.inr (.inr (some 726)))] (show op 393 4 = some (.invokevirtual 26, 3) by decide +kernel) (call_vi' (k' := 1) (n' := 6) (nj := 2) (j := 175) (k9 := 20) (t := [(.inl 0), (.inr (.inr (some 726)))]) (as := [(.inr (.inr (some 0))), (.inl x1)]) (by decide +kernel) rfl (by decide +kernel) rfl rfl rfl rfl rfl rfl (by decide +kernel) (by decide +kernel)) hD3 rfl ?_
    refine g_i2l 8 (show op 393 7 = some (.i2l, 1) by decide +kernel) rfl ?_
    refine g_lastore 9 1 (show op 393 8 = some (.lastore, 1) by decide +kernel) rfl (by decide +kernel) (by decide) ?_
    refine g_goto 15 (show op 393 9 = some (.goto 6, 3) by decide +kernel) rfl ?_
    refine g_iconst 16 (show op 393 15 = some (.iconst 0, 1) by decide +kernel) rfl rfl ?_
    exact (g_iret (show op 393 16 = some (.ireturn, 1) by decide +kernel) (by decide +kernel) h)
  · exact g_callH (E := 0) (c := 1) 7 (show op 393 4 = some (.invokevirtual 26, 3) by decide +kernel) (call_vi' (k' := 1) (n' := 6) (nj := 2) (j := 175) (k9 := 20) (t := [(.inl 0), (.inr (.inr (some 726)))]) (as := [(.inr (.inr (some 0))), (.inl x1)]) (by decide +kernel) rfl (by decide +kernel) rfl rfl rfl rfl rfl rfl (by decide +kernel) (by decide +kernel)) hD0 (by decide +kernel) rfl h
/-- PatchBenchLaw.lineAt (LPatchBench;II[J)I -/
theorem b394 {x1 : Int} {x2 : Int} {σ : Sg} {o : Rs}   (h : ((∃ (v2 : Int) (s1 : Sg), Dd 176 [(.inr (.inr (some 0))), (.inl x1), (.inl x2)] σ (.inl (some (.inl v2)), s1) ∧ o = (.inl (some (.inl 0)), (upS s1 726 ((0 : Int).toNat) v2))) ∨ (∃ s0 : Sg, Dd 176 [(.inr (.inr (some 0))), (.inl x1), (.inl x2)] σ (.inr 0, s0) ∧ o = (.inl (some (.inl 1)), s0)))) : Dd 394 [(.inr (.inr (some 0))), (.inl x1), (.inl x2), (.inr (.inr (some 726)))] σ o := by
  refine Dd_of (l := 5) (by decide +kernel) ?_
  show Gd 394 0 [(some (.inr (.inr (some 0)))), (some (.inl x1)), (some (.inl x2)), (some (.inr (.inr (some 726)))), none] [] σ 0 0 o
  refine g_aload_n 1 (show op 394 0 = some (.aload_n 3, 1) by decide +kernel) rfl rfl ?_
  refine g_iconst 2 (show op 394 1 = some (.iconst 0, 1) by decide +kernel) rfl rfl ?_
  refine g_aload_n 3 (show op 394 2 = some (.aload_n 0, 1) by decide +kernel) rfl rfl ?_
  refine g_iload_n 4 (show op 394 3 = some (.iload_n 1, 1) by decide +kernel) rfl rfl ?_
  refine g_iload_n 5 (show op 394 4 = some (.iload_n 2, 1) by decide +kernel) rfl rfl ?_
  rcases h with ⟨v2, s1, hD3, h⟩ | ⟨s0, hD0, h⟩
  · refine g_call 8 [(.inl v2), (.inl 0), (.inr (.inr (some 726)))] (show op 394 5 = some (.invokevirtual 30, 3) by decide +kernel) (call_vi' (k' := 2) (n' := 12) (nj := 3) (j := 176) (k9 := 20) (t := [(.inl 0), (.inr (.inr (some 726)))]) (as := [(.inr (.inr (some 0))), (.inl x1), (.inl x2)]) (by decide +kernel) rfl (by decide +kernel) rfl rfl rfl rfl rfl rfl (by decide +kernel) (by decide +kernel)) hD3 rfl ?_
    refine g_i2l 9 (show op 394 8 = some (.i2l, 1) by decide +kernel) rfl ?_
    refine g_lastore 10 1 (show op 394 9 = some (.lastore, 1) by decide +kernel) rfl (by decide +kernel) (by decide) ?_
    refine g_goto 17 (show op 394 10 = some (.goto 7, 3) by decide +kernel) rfl ?_
    refine g_iconst 18 (show op 394 17 = some (.iconst 0, 1) by decide +kernel) rfl rfl ?_
    exact (g_iret (show op 394 18 = some (.ireturn, 1) by decide +kernel) (by decide +kernel) h)
  · exact g_callH (E := 0) (c := 1) 8 (show op 394 5 = some (.invokevirtual 30, 3) by decide +kernel) (call_vi' (k' := 2) (n' := 12) (nj := 3) (j := 176) (k9 := 20) (t := [(.inl 0), (.inr (.inr (some 726)))]) (as := [(.inr (.inr (some 0))), (.inl x1), (.inl x2)]) (by decide +kernel) rfl (by decide +kernel) rfl rfl rfl rfl rfl rfl (by decide +kernel) (by decide +kernel)) hD0 (by decide +kernel) rfl h
/-- PatchBenchLaw.likeness (LPatchBench;II[J)I -/
theorem b395 {x1 : Int} {x2 : Int} {σ : Sg} {o : Rs}   (h : ((∃ (v2 : Int) (s1 : Sg), Dd 177 [(.inr (.inr (some 0))), (.inl x1), (.inl x2)] σ (.inl (some (.inl v2)), s1) ∧ o = (.inl (some (.inl 0)), (upS s1 726 ((0 : Int).toNat) v2))) ∨ (∃ s0 : Sg, Dd 177 [(.inr (.inr (some 0))), (.inl x1), (.inl x2)] σ (.inr 1, s0) ∧ o = (.inl (some (.inl 1)), s0)))) : Dd 395 [(.inr (.inr (some 0))), (.inl x1), (.inl x2), (.inr (.inr (some 726)))] σ o := by
  refine Dd_of (l := 5) (by decide +kernel) ?_
  show Gd 395 0 [(some (.inr (.inr (some 0)))), (some (.inl x1)), (some (.inl x2)), (some (.inr (.inr (some 726)))), none] [] σ 0 0 o
  refine g_aload_n 1 (show op 395 0 = some (.aload_n 3, 1) by decide +kernel) rfl rfl ?_
  refine g_iconst 2 (show op 395 1 = some (.iconst 0, 1) by decide +kernel) rfl rfl ?_
  refine g_aload_n 3 (show op 395 2 = some (.aload_n 0, 1) by decide +kernel) rfl rfl ?_
  refine g_iload_n 4 (show op 395 3 = some (.iload_n 1, 1) by decide +kernel) rfl rfl ?_
  refine g_iload_n 5 (show op 395 4 = some (.iload_n 2, 1) by decide +kernel) rfl rfl ?_
  rcases h with ⟨v2, s1, hD3, h⟩ | ⟨s0, hD0, h⟩
  · refine g_call 8 [(.inl v2), (.inl 0), (.inr (.inr (some 726)))] (show op 395 5 = some (.invokevirtual 33, 3) by decide +kernel) (call_vi' (k' := 2) (n' := 12) (nj := 3) (j := 177) (k9 := 20) (t := [(.inl 0), (.inr (.inr (some 726)))]) (as := [(.inr (.inr (some 0))), (.inl x1), (.inl x2)]) (by decide +kernel) rfl (by decide +kernel) rfl rfl rfl rfl rfl rfl (by decide +kernel) (by decide +kernel)) hD3 rfl ?_
    refine g_i2l 9 (show op 395 8 = some (.i2l, 1) by decide +kernel) rfl ?_
    refine g_lastore 10 1 (show op 395 9 = some (.lastore, 1) by decide +kernel) rfl (by decide +kernel) (by decide) ?_
    refine g_goto 17 (show op 395 10 = some (.goto 7, 3) by decide +kernel) rfl ?_
    refine g_iconst 18 (show op 395 17 = some (.iconst 0, 1) by decide +kernel) rfl rfl ?_
    exact (g_iret (show op 395 18 = some (.ireturn, 1) by decide +kernel) (by decide +kernel) h)
  · exact g_callH (E := 1) (c := 1) 8 (show op 395 5 = some (.invokevirtual 33, 3) by decide +kernel) (call_vi' (k' := 2) (n' := 12) (nj := 3) (j := 177) (k9 := 20) (t := [(.inl 0), (.inr (.inr (some 726)))]) (as := [(.inr (.inr (some 0))), (.inl x1), (.inl x2)]) (by decide +kernel) rfl (by decide +kernel) rfl rfl rfl rfl rfl rfl (by decide +kernel) (by decide +kernel)) hD0 (by decide +kernel) rfl h
/-- PatchBenchLaw.pairOf (LPatchBench;IIII[J)I -/
theorem b396 {x1 : Int} {x2 : Int} {x3 : Int} {x4 : Int} {σ : Sg} {o : Rs}   (h : ((∃ (v2 : Int) (s1 : Sg), Dd 178 [(.inr (.inr (some 0))), (.inl x1), (.inl x2), (.inl x3), (.inl x4)] σ (.inl (some (.inl v2)), s1) ∧ o = (.inl (some (.inl 0)), (upS s1 726 ((0 : Int).toNat) v2))) ∨ (∃ s0 : Sg, Dd 178 [(.inr (.inr (some 0))), (.inl x1), (.inl x2), (.inl x3), (.inl x4)] σ (.inr 0, s0) ∧ o = (.inl (some (.inl 1)), s0)) ∨ (∃ s0 : Sg, Dd 178 [(.inr (.inr (some 0))), (.inl x1), (.inl x2), (.inl x3), (.inl x4)] σ (.inr 1, s0) ∧ o = (.inl (some (.inl 2)), s0)))) : Dd 396 [(.inr (.inr (some 0))), (.inl x1), (.inl x2), (.inl x3), (.inl x4), (.inr (.inr (some 726)))] σ o := by
  refine Dd_of (l := 7) (by decide +kernel) ?_
  show Gd 396 0 [(some (.inr (.inr (some 0)))), (some (.inl x1)), (some (.inl x2)), (some (.inl x3)), (some (.inl x4)), (some (.inr (.inr (some 726)))), none] [] σ 0 0 o
  refine g_aload 2 (show op 396 0 = some (.aload 5, 2) by decide +kernel) rfl rfl ?_
  refine g_iconst 3 (show op 396 2 = some (.iconst 0, 1) by decide +kernel) rfl rfl ?_
  refine g_aload_n 4 (show op 396 3 = some (.aload_n 0, 1) by decide +kernel) rfl rfl ?_
  refine g_iload_n 5 (show op 396 4 = some (.iload_n 1, 1) by decide +kernel) rfl rfl ?_
  refine g_iload_n 6 (show op 396 5 = some (.iload_n 2, 1) by decide +kernel) rfl rfl ?_
  refine g_iload_n 7 (show op 396 6 = some (.iload_n 3, 1) by decide +kernel) rfl rfl ?_
  refine g_iload 9 (show op 396 7 = some (.iload 4, 2) by decide +kernel) rfl rfl ?_
  rcases h with ⟨v2, s1, hD3, h⟩ | ⟨s0, hD0, h⟩ | ⟨s0, hD0, h⟩
  · refine g_call 12 [(.inl v2), (.inl 0), (.inr (.inr (some 726)))] (show op 396 9 = some (.invokevirtual 36, 3) by decide +kernel) (call_vi' (k' := 4) (n' := 24) (nj := 5) (j := 178) (k9 := 20) (t := [(.inl 0), (.inr (.inr (some 726)))]) (as := [(.inr (.inr (some 0))), (.inl x1), (.inl x2), (.inl x3), (.inl x4)]) (by decide +kernel) rfl (by decide +kernel) rfl rfl rfl rfl rfl rfl (by decide +kernel) (by decide +kernel)) hD3 rfl ?_
    refine g_i2l 13 (show op 396 12 = some (.i2l, 1) by decide +kernel) rfl ?_
    refine g_lastore 14 1 (show op 396 13 = some (.lastore, 1) by decide +kernel) rfl (by decide +kernel) (by decide) ?_
    refine g_goto 25 (show op 396 14 = some (.goto 11, 3) by decide +kernel) rfl ?_
    refine g_iconst 26 (show op 396 25 = some (.iconst 0, 1) by decide +kernel) rfl rfl ?_
    exact (g_iret (show op 396 26 = some (.ireturn, 1) by decide +kernel) (by decide +kernel) h)
  · exact g_callH (E := 0) (c := 1) 12 (show op 396 9 = some (.invokevirtual 36, 3) by decide +kernel) (call_vi' (k' := 4) (n' := 24) (nj := 5) (j := 178) (k9 := 20) (t := [(.inl 0), (.inr (.inr (some 726)))]) (as := [(.inr (.inr (some 0))), (.inl x1), (.inl x2), (.inl x3), (.inl x4)]) (by decide +kernel) rfl (by decide +kernel) rfl rfl rfl rfl rfl rfl (by decide +kernel) (by decide +kernel)) hD0 (by decide +kernel) rfl h
  · exact g_callH (E := 1) (c := 2) 12 (show op 396 9 = some (.invokevirtual 36, 3) by decide +kernel) (call_vi' (k' := 4) (n' := 24) (nj := 5) (j := 178) (k9 := 20) (t := [(.inl 0), (.inr (.inr (some 726)))]) (as := [(.inr (.inr (some 0))), (.inl x1), (.inl x2), (.inl x3), (.inl x4)]) (by decide +kernel) rfl (by decide +kernel) rfl rfl rfl rfl rfl rfl (by decide +kernel) (by decide +kernel)) hD0 (by decide +kernel) rfl h
/-- PatchBenchLaw.kept (LPatchBench;III[J)I -/
theorem b397 {x1 : Int} {x2 : Int} {x3 : Int} {σ : Sg} {o : Rs}   (h : ((∃ (v2 : Int) (s1 : Sg), Dd 179 [(.inr (.inr (some 0))), (.inl x1), (.inl x2), (.inl x3)] σ (.inl (some (.inl v2)), s1) ∧ o = (.inl (some (.inl 0)), (upS s1 726 ((0 : Int).toNat) v2))) ∨ (∃ s0 : Sg, Dd 179 [(.inr (.inr (some 0))), (.inl x1), (.inl x2), (.inl x3)] σ (.inr 0, s0) ∧ o = (.inl (some (.inl 1)), s0)) ∨ (∃ s0 : Sg, Dd 179 [(.inr (.inr (some 0))), (.inl x1), (.inl x2), (.inl x3)] σ (.inr 1, s0) ∧ o = (.inl (some (.inl 2)), s0)))) : Dd 397 [(.inr (.inr (some 0))), (.inl x1), (.inl x2), (.inl x3), (.inr (.inr (some 726)))] σ o := by
  refine Dd_of (l := 6) (by decide +kernel) ?_
  show Gd 397 0 [(some (.inr (.inr (some 0)))), (some (.inl x1)), (some (.inl x2)), (some (.inl x3)), (some (.inr (.inr (some 726)))), none] [] σ 0 0 o
  refine g_aload 2 (show op 397 0 = some (.aload 4, 2) by decide +kernel) rfl rfl ?_
  refine g_iconst 3 (show op 397 2 = some (.iconst 0, 1) by decide +kernel) rfl rfl ?_
  refine g_aload_n 4 (show op 397 3 = some (.aload_n 0, 1) by decide +kernel) rfl rfl ?_
  refine g_iload_n 5 (show op 397 4 = some (.iload_n 1, 1) by decide +kernel) rfl rfl ?_
  refine g_iload_n 6 (show op 397 5 = some (.iload_n 2, 1) by decide +kernel) rfl rfl ?_
  refine g_iload_n 7 (show op 397 6 = some (.iload_n 3, 1) by decide +kernel) rfl rfl ?_
  rcases h with ⟨v2, s1, hD3, h⟩ | ⟨s0, hD0, h⟩ | ⟨s0, hD0, h⟩
  · refine g_call 10 [(.inl v2), (.inl 0), (.inr (.inr (some 726)))] (show op 397 7 = some (.invokevirtual 40, 3) by decide +kernel) (call_vi' (k' := 3) (n' := 18) (nj := 4) (j := 179) (k9 := 20) (t := [(.inl 0), (.inr (.inr (some 726)))]) (as := [(.inr (.inr (some 0))), (.inl x1), (.inl x2), (.inl x3)]) (by decide +kernel) rfl (by decide +kernel) rfl rfl rfl rfl rfl rfl (by decide +kernel) (by decide +kernel)) hD3 rfl ?_
    refine g_i2l 11 (show op 397 10 = some (.i2l, 1) by decide +kernel) rfl ?_
    refine g_lastore 12 1 (show op 397 11 = some (.lastore, 1) by decide +kernel) rfl (by decide +kernel) (by decide) ?_
    refine g_goto 23 (show op 397 12 = some (.goto 11, 3) by decide +kernel) rfl ?_
    refine g_iconst 24 (show op 397 23 = some (.iconst 0, 1) by decide +kernel) rfl rfl ?_
    exact (g_iret (show op 397 24 = some (.ireturn, 1) by decide +kernel) (by decide +kernel) h)
  · exact g_callH (E := 0) (c := 1) 10 (show op 397 7 = some (.invokevirtual 40, 3) by decide +kernel) (call_vi' (k' := 3) (n' := 18) (nj := 4) (j := 179) (k9 := 20) (t := [(.inl 0), (.inr (.inr (some 726)))]) (as := [(.inr (.inr (some 0))), (.inl x1), (.inl x2), (.inl x3)]) (by decide +kernel) rfl (by decide +kernel) rfl rfl rfl rfl rfl rfl (by decide +kernel) (by decide +kernel)) hD0 (by decide +kernel) rfl h
  · exact g_callH (E := 1) (c := 2) 10 (show op 397 7 = some (.invokevirtual 40, 3) by decide +kernel) (call_vi' (k' := 3) (n' := 18) (nj := 4) (j := 179) (k9 := 20) (t := [(.inl 0), (.inr (.inr (some 726)))]) (as := [(.inr (.inr (some 0))), (.inl x1), (.inl x2), (.inl x3)]) (by decide +kernel) rfl (by decide +kernel) rfl rfl rfl rfl rfl rfl (by decide +kernel) (by decide +kernel)) hD0 (by decide +kernel) rfl h
/-- PatchBenchLaw.keptByTable (LPatchBench;II[J)I -/
theorem b398 {x1 : Int} {x2 : Int} {σ : Sg} {o : Rs}   (h : ((∃ (v2 : Int) (s1 : Sg), Dd 180 [(.inr (.inr (some 0))), (.inl x1), (.inl x2)] σ (.inl (some (.inl v2)), s1) ∧ o = (.inl (some (.inl 0)), (upS s1 726 ((0 : Int).toNat) v2))) ∨ (∃ s0 : Sg, Dd 180 [(.inr (.inr (some 0))), (.inl x1), (.inl x2)] σ (.inr 0, s0) ∧ o = (.inl (some (.inl 1)), s0)))) : Dd 398 [(.inr (.inr (some 0))), (.inl x1), (.inl x2), (.inr (.inr (some 726)))] σ o := by
  refine Dd_of (l := 5) (by decide +kernel) ?_
  show Gd 398 0 [(some (.inr (.inr (some 0)))), (some (.inl x1)), (some (.inl x2)), (some (.inr (.inr (some 726)))), none] [] σ 0 0 o
  refine g_aload_n 1 (show op 398 0 = some (.aload_n 3, 1) by decide +kernel) rfl rfl ?_
  refine g_iconst 2 (show op 398 1 = some (.iconst 0, 1) by decide +kernel) rfl rfl ?_
  refine g_aload_n 3 (show op 398 2 = some (.aload_n 0, 1) by decide +kernel) rfl rfl ?_
  refine g_iload_n 4 (show op 398 3 = some (.iload_n 1, 1) by decide +kernel) rfl rfl ?_
  refine g_iload_n 5 (show op 398 4 = some (.iload_n 2, 1) by decide +kernel) rfl rfl ?_
  rcases h with ⟨v2, s1, hD3, h⟩ | ⟨s0, hD0, h⟩
  · refine g_call 8 [(.inl v2), (.inl 0), (.inr (.inr (some 726)))] (show op 398 5 = some (.invokevirtual 43, 3) by decide +kernel) (call_vi' (k' := 2) (n' := 12) (nj := 3) (j := 180) (k9 := 20) (t := [(.inl 0), (.inr (.inr (some 726)))]) (as := [(.inr (.inr (some 0))), (.inl x1), (.inl x2)]) (by decide +kernel) rfl (by decide +kernel) rfl rfl rfl rfl rfl rfl (by decide +kernel) (by decide +kernel)) hD3 rfl ?_
    refine g_i2l 9 (show op 398 8 = some (.i2l, 1) by decide +kernel) rfl ?_
    refine g_lastore 10 1 (show op 398 9 = some (.lastore, 1) by decide +kernel) rfl (by decide +kernel) (by decide) ?_
    refine g_goto 17 (show op 398 10 = some (.goto 7, 3) by decide +kernel) rfl ?_
    refine g_iconst 18 (show op 398 17 = some (.iconst 0, 1) by decide +kernel) rfl rfl ?_
    exact (g_iret (show op 398 18 = some (.ireturn, 1) by decide +kernel) (by decide +kernel) h)
  · exact g_callH (E := 0) (c := 1) 8 (show op 398 5 = some (.invokevirtual 43, 3) by decide +kernel) (call_vi' (k' := 2) (n' := 12) (nj := 3) (j := 180) (k9 := 20) (t := [(.inl 0), (.inr (.inr (some 726)))]) (as := [(.inr (.inr (some 0))), (.inl x1), (.inl x2)]) (by decide +kernel) rfl (by decide +kernel) rfl rfl rfl rfl rfl rfl (by decide +kernel) (by decide +kernel)) hD0 (by decide +kernel) rfl h
/-- PatchBenchLaw.make (LPatchBench;III[J)I -/
theorem b399 {x1 : Int} {x2 : Int} {x3 : Int} {σ : Sg} {o : Rs}   (h : ((∃ (v2 : Int) (s1 : Sg), Dd 181 [(.inr (.inr (some 0))), (.inl x1), (.inl x2), (.inl x3)] σ (.inl (some (.inl v2)), s1) ∧ o = (.inl (some (.inl 0)), (upS s1 726 ((0 : Int).toNat) v2))) ∨ (∃ s0 : Sg, Dd 181 [(.inr (.inr (some 0))), (.inl x1), (.inl x2), (.inl x3)] σ (.inr 0, s0) ∧ o = (.inl (some (.inl 1)), s0)) ∨ (∃ s0 : Sg, Dd 181 [(.inr (.inr (some 0))), (.inl x1), (.inl x2), (.inl x3)] σ (.inr 1, s0) ∧ o = (.inl (some (.inl 2)), s0)) ∨ (∃ s0 : Sg, Dd 181 [(.inr (.inr (some 0))), (.inl x1), (.inl x2), (.inl x3)] σ (.inr 2, s0) ∧ o = (.inl (some (.inl 3)), s0)))) : Dd 399 [(.inr (.inr (some 0))), (.inl x1), (.inl x2), (.inl x3), (.inr (.inr (some 726)))] σ o := by
  refine Dd_of (l := 6) (by decide +kernel) ?_
  show Gd 399 0 [(some (.inr (.inr (some 0)))), (some (.inl x1)), (some (.inl x2)), (some (.inl x3)), (some (.inr (.inr (some 726)))), none] [] σ 0 0 o
  refine g_aload 2 (show op 399 0 = some (.aload 4, 2) by decide +kernel) rfl rfl ?_
  refine g_iconst 3 (show op 399 2 = some (.iconst 0, 1) by decide +kernel) rfl rfl ?_
  refine g_aload_n 4 (show op 399 3 = some (.aload_n 0, 1) by decide +kernel) rfl rfl ?_
  refine g_iload_n 5 (show op 399 4 = some (.iload_n 1, 1) by decide +kernel) rfl rfl ?_
  refine g_iload_n 6 (show op 399 5 = some (.iload_n 2, 1) by decide +kernel) rfl rfl ?_
  refine g_iload_n 7 (show op 399 6 = some (.iload_n 3, 1) by decide +kernel) rfl rfl ?_
  rcases h with ⟨v2, s1, hD3, h⟩ | ⟨s0, hD0, h⟩ | ⟨s0, hD0, h⟩ | ⟨s0, hD0, h⟩
  · refine g_call 10 [(.inl v2), (.inl 0), (.inr (.inr (some 726)))] (show op 399 7 = some (.invokevirtual 46, 3) by decide +kernel) (call_vi' (k' := 4) (n' := 24) (nj := 4) (j := 181) (k9 := 20) (t := [(.inl 0), (.inr (.inr (some 726)))]) (as := [(.inr (.inr (some 0))), (.inl x1), (.inl x2), (.inl x3)]) (by decide +kernel) rfl (by decide +kernel) rfl rfl rfl rfl rfl rfl (by decide +kernel) (by decide +kernel)) hD3 rfl ?_
    refine g_i2l 11 (show op 399 10 = some (.i2l, 1) by decide +kernel) rfl ?_
    refine g_lastore 12 1 (show op 399 11 = some (.lastore, 1) by decide +kernel) rfl (by decide +kernel) (by decide) ?_
    refine g_goto 27 (show op 399 12 = some (.goto 15, 3) by decide +kernel) rfl ?_
    refine g_iconst 28 (show op 399 27 = some (.iconst 0, 1) by decide +kernel) rfl rfl ?_
    exact (g_iret (show op 399 28 = some (.ireturn, 1) by decide +kernel) (by decide +kernel) h)
  · exact g_callH (E := 0) (c := 1) 10 (show op 399 7 = some (.invokevirtual 46, 3) by decide +kernel) (call_vi' (k' := 4) (n' := 24) (nj := 4) (j := 181) (k9 := 20) (t := [(.inl 0), (.inr (.inr (some 726)))]) (as := [(.inr (.inr (some 0))), (.inl x1), (.inl x2), (.inl x3)]) (by decide +kernel) rfl (by decide +kernel) rfl rfl rfl rfl rfl rfl (by decide +kernel) (by decide +kernel)) hD0 (by decide +kernel) rfl h
  · exact g_callH (E := 1) (c := 2) 10 (show op 399 7 = some (.invokevirtual 46, 3) by decide +kernel) (call_vi' (k' := 4) (n' := 24) (nj := 4) (j := 181) (k9 := 20) (t := [(.inl 0), (.inr (.inr (some 726)))]) (as := [(.inr (.inr (some 0))), (.inl x1), (.inl x2), (.inl x3)]) (by decide +kernel) rfl (by decide +kernel) rfl rfl rfl rfl rfl rfl (by decide +kernel) (by decide +kernel)) hD0 (by decide +kernel) rfl h
  · exact g_callH (E := 2) (c := 3) 10 (show op 399 7 = some (.invokevirtual 46, 3) by decide +kernel) (call_vi' (k' := 4) (n' := 24) (nj := 4) (j := 181) (k9 := 20) (t := [(.inl 0), (.inr (.inr (some 726)))]) (as := [(.inr (.inr (some 0))), (.inl x1), (.inl x2), (.inl x3)]) (by decide +kernel) rfl (by decide +kernel) rfl rfl rfl rfl rfl rfl (by decide +kernel) (by decide +kernel)) hD0 (by decide +kernel) rfl h
/-- PatchBenchLaw.invert (LPatchBench;I[J)I -/
theorem b400 {x1 : Int} {σ : Sg} {o : Rs}   (h : ((∃ (v2 : Int) (s1 : Sg), Dd 182 [(.inr (.inr (some 0))), (.inl x1)] σ (.inl (some (.inl v2)), s1) ∧ o = (.inl (some (.inl 0)), (upS s1 726 ((0 : Int).toNat) v2))) ∨ (∃ s0 : Sg, Dd 182 [(.inr (.inr (some 0))), (.inl x1)] σ (.inr 0, s0) ∧ o = (.inl (some (.inl 1)), s0)) ∨ (∃ s0 : Sg, Dd 182 [(.inr (.inr (some 0))), (.inl x1)] σ (.inr 2, s0) ∧ o = (.inl (some (.inl 2)), s0)))) : Dd 400 [(.inr (.inr (some 0))), (.inl x1), (.inr (.inr (some 726)))] σ o := by
  refine Dd_of (l := 4) (by decide +kernel) ?_
  show Gd 400 0 [(some (.inr (.inr (some 0)))), (some (.inl x1)), (some (.inr (.inr (some 726)))), none] [] σ 0 0 o
  refine g_aload_n 1 (show op 400 0 = some (.aload_n 2, 1) by decide +kernel) rfl rfl ?_
  refine g_iconst 2 (show op 400 1 = some (.iconst 0, 1) by decide +kernel) rfl rfl ?_
  refine g_aload_n 3 (show op 400 2 = some (.aload_n 0, 1) by decide +kernel) rfl rfl ?_
  refine g_iload_n 4 (show op 400 3 = some (.iload_n 1, 1) by decide +kernel) rfl rfl ?_
  rcases h with ⟨v2, s1, hD3, h⟩ | ⟨s0, hD0, h⟩ | ⟨s0, hD0, h⟩
  · refine g_call 7 [(.inl v2), (.inl 0), (.inr (.inr (some 726)))] (show op 400 4 = some (.invokevirtual 49, 3) by decide +kernel) (call_vi' (k' := 2) (n' := 12) (nj := 2) (j := 182) (k9 := 20) (t := [(.inl 0), (.inr (.inr (some 726)))]) (as := [(.inr (.inr (some 0))), (.inl x1)]) (by decide +kernel) rfl (by decide +kernel) rfl rfl rfl rfl rfl rfl (by decide +kernel) (by decide +kernel)) hD3 rfl ?_
    refine g_i2l 8 (show op 400 7 = some (.i2l, 1) by decide +kernel) rfl ?_
    refine g_lastore 9 1 (show op 400 8 = some (.lastore, 1) by decide +kernel) rfl (by decide +kernel) (by decide) ?_
    refine g_goto 18 (show op 400 9 = some (.goto 9, 3) by decide +kernel) rfl ?_
    refine g_iconst 19 (show op 400 18 = some (.iconst 0, 1) by decide +kernel) rfl rfl ?_
    exact (g_iret (show op 400 19 = some (.ireturn, 1) by decide +kernel) (by decide +kernel) h)
  · exact g_callH (E := 0) (c := 1) 7 (show op 400 4 = some (.invokevirtual 49, 3) by decide +kernel) (call_vi' (k' := 2) (n' := 12) (nj := 2) (j := 182) (k9 := 20) (t := [(.inl 0), (.inr (.inr (some 726)))]) (as := [(.inr (.inr (some 0))), (.inl x1)]) (by decide +kernel) rfl (by decide +kernel) rfl rfl rfl rfl rfl rfl (by decide +kernel) (by decide +kernel)) hD0 (by decide +kernel) rfl h
  · exact g_callH (E := 2) (c := 2) 7 (show op 400 4 = some (.invokevirtual 49, 3) by decide +kernel) (call_vi' (k' := 2) (n' := 12) (nj := 2) (j := 182) (k9 := 20) (t := [(.inl 0), (.inr (.inr (some 726)))]) (as := [(.inr (.inr (some 0))), (.inl x1)]) (by decide +kernel) rfl (by decide +kernel) rfl rfl rfl rfl rfl rfl (by decide +kernel) (by decide +kernel)) hD0 (by decide +kernel) rfl h
/-- PatchBenchLaw.join (LPatchBench;II[J)I -/
theorem b401 {x1 : Int} {x2 : Int} {σ : Sg} {o : Rs}   (h : ((∃ (v2 : Int) (s1 : Sg), Dd 183 [(.inr (.inr (some 0))), (.inl x1), (.inl x2)] σ (.inl (some (.inl v2)), s1) ∧ o = (.inl (some (.inl 0)), (upS s1 726 ((0 : Int).toNat) v2))) ∨ (∃ s0 : Sg, Dd 183 [(.inr (.inr (some 0))), (.inl x1), (.inl x2)] σ (.inr 0, s0) ∧ o = (.inl (some (.inl 1)), s0)) ∨ (∃ s0 : Sg, Dd 183 [(.inr (.inr (some 0))), (.inl x1), (.inl x2)] σ (.inr 2, s0) ∧ o = (.inl (some (.inl 2)), s0)))) : Dd 401 [(.inr (.inr (some 0))), (.inl x1), (.inl x2), (.inr (.inr (some 726)))] σ o := by
  refine Dd_of (l := 5) (by decide +kernel) ?_
  show Gd 401 0 [(some (.inr (.inr (some 0)))), (some (.inl x1)), (some (.inl x2)), (some (.inr (.inr (some 726)))), none] [] σ 0 0 o
  refine g_aload_n 1 (show op 401 0 = some (.aload_n 3, 1) by decide +kernel) rfl rfl ?_
  refine g_iconst 2 (show op 401 1 = some (.iconst 0, 1) by decide +kernel) rfl rfl ?_
  refine g_aload_n 3 (show op 401 2 = some (.aload_n 0, 1) by decide +kernel) rfl rfl ?_
  refine g_iload_n 4 (show op 401 3 = some (.iload_n 1, 1) by decide +kernel) rfl rfl ?_
  refine g_iload_n 5 (show op 401 4 = some (.iload_n 2, 1) by decide +kernel) rfl rfl ?_
  rcases h with ⟨v2, s1, hD3, h⟩ | ⟨s0, hD0, h⟩ | ⟨s0, hD0, h⟩
  · refine g_call 8 [(.inl v2), (.inl 0), (.inr (.inr (some 726)))] (show op 401 5 = some (.invokevirtual 52, 3) by decide +kernel) (call_vi' (k' := 4) (n' := 24) (nj := 3) (j := 183) (k9 := 20) (t := [(.inl 0), (.inr (.inr (some 726)))]) (as := [(.inr (.inr (some 0))), (.inl x1), (.inl x2)]) (by decide +kernel) rfl (by decide +kernel) rfl rfl rfl rfl rfl rfl (by decide +kernel) (by decide +kernel)) hD3 rfl ?_
    refine g_i2l 9 (show op 401 8 = some (.i2l, 1) by decide +kernel) rfl ?_
    refine g_lastore 10 1 (show op 401 9 = some (.lastore, 1) by decide +kernel) rfl (by decide +kernel) (by decide) ?_
    refine g_goto 21 (show op 401 10 = some (.goto 11, 3) by decide +kernel) rfl ?_
    refine g_iconst 22 (show op 401 21 = some (.iconst 0, 1) by decide +kernel) rfl rfl ?_
    exact (g_iret (show op 401 22 = some (.ireturn, 1) by decide +kernel) (by decide +kernel) h)
  · exact g_callH (E := 0) (c := 1) 8 (show op 401 5 = some (.invokevirtual 52, 3) by decide +kernel) (call_vi' (k' := 4) (n' := 24) (nj := 3) (j := 183) (k9 := 20) (t := [(.inl 0), (.inr (.inr (some 726)))]) (as := [(.inr (.inr (some 0))), (.inl x1), (.inl x2)]) (by decide +kernel) rfl (by decide +kernel) rfl rfl rfl rfl rfl rfl (by decide +kernel) (by decide +kernel)) hD0 (by decide +kernel) rfl h
  · exact g_callH (E := 2) (c := 2) 8 (show op 401 5 = some (.invokevirtual 52, 3) by decide +kernel) (call_vi' (k' := 4) (n' := 24) (nj := 3) (j := 183) (k9 := 20) (t := [(.inl 0), (.inr (.inr (some 726)))]) (as := [(.inr (.inr (some 0))), (.inl x1), (.inl x2)]) (by decide +kernel) rfl (by decide +kernel) rfl rfl rfl rfl rfl rfl (by decide +kernel) (by decide +kernel)) hD0 (by decide +kernel) rfl h
def C402_16 (d0 : Option AV) (d1 : Option AV) (d2 : Option AV) (d3 : Option AV) (d4 : Option AV) (y1 : Int) (y2 : Int) (σ : Sg) (o : Rs) : Prop := Gd 402 16 [d0, d1, d2, d3, d4] [(.inr (.inl y2)), (.inl y1), (.inr (.inr (some 726)))] σ 3 18 o
theorem b402_16 {d0 : Option AV} {d1 : Option AV} {d2 : Option AV} {d3 : Option AV} {d4 : Option AV} {y1 : Int} {y2 : Int} {σ : Sg} {o : Rs}   (h : (0 ≤ y1 ∧ y1 < 1) ∧ o = (.inl (some (.inl 0)), (upS σ 726 ((y1).toNat) y2))) : C402_16 d0 d1 d2 d3 d4 y1 y2 σ o := by
  show Gd 402 16 [d0, d1, d2, d3, d4] [(.inr (.inl y2)), (.inl y1), (.inr (.inr (some 726)))] σ 3 18 o
  obtain ⟨g1, h⟩ := h
  refine g_lastore 17 1 (show op 402 16 = some (.lastore, 1) by decide +kernel) rfl (by decide +kernel) g1 ?_
  refine g_goto 28 (show op 402 17 = some (.goto 11, 3) by decide +kernel) rfl ?_
  refine g_iconst 29 (show op 402 28 = some (.iconst 0, 1) by decide +kernel) rfl rfl ?_
  exact (g_iret (show op 402 29 = some (.ireturn, 1) by decide +kernel) (by decide +kernel) h)
/-- PatchBenchLaw.depends (LPatchBench;II[J)I -/
theorem b402 {x1 : Int} {x2 : Int} {σ : Sg} {o : Rs}   (h : ((∃ (v2 : Int) (s1 : Sg), Dd 184 [(.inr (.inr (some 0))), (.inl x1), (.inl x2)] σ (.inl (some (.inl v2)), s1) ∧ C402_16 (some (.inr (.inr (some 0)))) (some (.inl x1)) (some (.inl x2)) (some (.inr (.inr (some 726)))) none 0 (if v2 = 0 then 0 else 1) s1 o) ∨ (∃ s0 : Sg, Dd 184 [(.inr (.inr (some 0))), (.inl x1), (.inl x2)] σ (.inr 0, s0) ∧ o = (.inl (some (.inl 1)), s0)) ∨ (∃ s0 : Sg, Dd 184 [(.inr (.inr (some 0))), (.inl x1), (.inl x2)] σ (.inr 2, s0) ∧ o = (.inl (some (.inl 2)), s0)))) : Dd 402 [(.inr (.inr (some 0))), (.inl x1), (.inl x2), (.inr (.inr (some 726)))] σ o := by
  refine Dd_of (l := 5) (by decide +kernel) ?_
  show Gd 402 0 [(some (.inr (.inr (some 0)))), (some (.inl x1)), (some (.inl x2)), (some (.inr (.inr (some 726)))), none] [] σ 0 0 o
  refine g_aload_n 1 (show op 402 0 = some (.aload_n 3, 1) by decide +kernel) rfl rfl ?_
  refine g_iconst 2 (show op 402 1 = some (.iconst 0, 1) by decide +kernel) rfl rfl ?_
  refine g_aload_n 3 (show op 402 2 = some (.aload_n 0, 1) by decide +kernel) rfl rfl ?_
  refine g_iload_n 4 (show op 402 3 = some (.iload_n 1, 1) by decide +kernel) rfl rfl ?_
  refine g_iload_n 5 (show op 402 4 = some (.iload_n 2, 1) by decide +kernel) rfl rfl ?_
  rcases h with ⟨v2, s1, hD3, h⟩ | ⟨s0, hD0, h⟩ | ⟨s0, hD0, h⟩
  · refine g_call 8 [(.inl v2), (.inl 0), (.inr (.inr (some 726)))] (show op 402 5 = some (.invokevirtual 55, 3) by decide +kernel) (call_vi' (k' := 3) (n' := 18) (nj := 3) (j := 184) (k9 := 20) (t := [(.inl 0), (.inr (.inr (some 726)))]) (as := [(.inr (.inr (some 0))), (.inl x1), (.inl x2)]) (by decide +kernel) rfl (by decide +kernel) rfl rfl rfl rfl rfl rfl (by decide +kernel) (by decide +kernel)) hD3 rfl ?_
    by_cases hc4 : v2 = 0
    · refine g_ifT 15 (show op 402 8 = some (.ifCond .eq 7, 3) by decide +kernel) rfl (decide_eq_true hc4) ?_
      refine g_lconst 16 (show op 402 15 = some (.lconst 0, 1) by decide +kernel) rfl ?_
      have h9 := h; simp only [if_pos hc4] at h9; exact h9
    · refine g_ifF 11 15 (show op 402 8 = some (.ifCond .eq 7, 3) by decide +kernel) rfl rfl (decide_eq_false hc4) ?_
      refine g_lconst 12 (show op 402 11 = some (.lconst 1, 1) by decide +kernel) rfl ?_
      refine g_goto 16 (show op 402 12 = some (.goto 4, 3) by decide +kernel) rfl ?_
      have h9 := h; simp only [if_neg hc4] at h9; exact h9
  · exact g_callH (E := 0) (c := 1) 8 (show op 402 5 = some (.invokevirtual 55, 3) by decide +kernel) (call_vi' (k' := 3) (n' := 18) (nj := 3) (j := 184) (k9 := 20) (t := [(.inl 0), (.inr (.inr (some 726)))]) (as := [(.inr (.inr (some 0))), (.inl x1), (.inl x2)]) (by decide +kernel) rfl (by decide +kernel) rfl rfl rfl rfl rfl rfl (by decide +kernel) (by decide +kernel)) hD0 (by decide +kernel) rfl h
  · exact g_callH (E := 2) (c := 2) 8 (show op 402 5 = some (.invokevirtual 55, 3) by decide +kernel) (call_vi' (k' := 3) (n' := 18) (nj := 3) (j := 184) (k9 := 20) (t := [(.inl 0), (.inr (.inr (some 726)))]) (as := [(.inr (.inr (some 0))), (.inl x1), (.inl x2)]) (by decide +kernel) rfl (by decide +kernel) rfl rfl rfl rfl rfl rfl (by decide +kernel) (by decide +kernel)) hD0 (by decide +kernel) rfl h
/-- PatchBenchLaw.past (LPatchBench;IIZ[J)I -/
theorem b403 {x1 : Int} {x2 : Int} {x3 : Int} {σ : Sg} {o : Rs}   (h : ((∃ (v2 : Int) (s1 : Sg), Dd 185 [(.inr (.inr (some 0))), (.inl x1), (.inl x2), (.inl x3)] σ (.inl (some (.inl v2)), s1) ∧ o = (.inl (some (.inl 0)), (upS s1 726 ((0 : Int).toNat) v2))) ∨ (∃ s0 : Sg, Dd 185 [(.inr (.inr (some 0))), (.inl x1), (.inl x2), (.inl x3)] σ (.inr 0, s0) ∧ o = (.inl (some (.inl 1)), s0)) ∨ (∃ s0 : Sg, Dd 185 [(.inr (.inr (some 0))), (.inl x1), (.inl x2), (.inl x3)] σ (.inr 2, s0) ∧ o = (.inl (some (.inl 2)), s0)))) : Dd 403 [(.inr (.inr (some 0))), (.inl x1), (.inl x2), (.inl x3), (.inr (.inr (some 726)))] σ o := by
  refine Dd_of (l := 6) (by decide +kernel) ?_
  show Gd 403 0 [(some (.inr (.inr (some 0)))), (some (.inl x1)), (some (.inl x2)), (some (.inl x3)), (some (.inr (.inr (some 726)))), none] [] σ 0 0 o
  refine g_aload 2 (show op 403 0 = some (.aload 4, 2) by decide +kernel) rfl rfl ?_
  refine g_iconst 3 (show op 403 2 = some (.iconst 0, 1) by decide +kernel) rfl rfl ?_
  refine g_aload_n 4 (show op 403 3 = some (.aload_n 0, 1) by decide +kernel) rfl rfl ?_
  refine g_iload_n 5 (show op 403 4 = some (.iload_n 1, 1) by decide +kernel) rfl rfl ?_
  refine g_iload_n 6 (show op 403 5 = some (.iload_n 2, 1) by decide +kernel) rfl rfl ?_
  refine g_iload_n 7 (show op 403 6 = some (.iload_n 3, 1) by decide +kernel) rfl rfl ?_
  rcases h with ⟨v2, s1, hD3, h⟩ | ⟨s0, hD0, h⟩ | ⟨s0, hD0, h⟩
  · refine g_call 10 [(.inl v2), (.inl 0), (.inr (.inr (some 726)))] (show op 403 7 = some (.invokevirtual 59, 3) by decide +kernel) (call_vi' (k' := 5) (n' := 30) (nj := 4) (j := 185) (k9 := 20) (t := [(.inl 0), (.inr (.inr (some 726)))]) (as := [(.inr (.inr (some 0))), (.inl x1), (.inl x2), (.inl x3)]) (by decide +kernel) rfl (by decide +kernel) rfl rfl rfl rfl rfl rfl (by decide +kernel) (by decide +kernel)) hD3 rfl ?_
    refine g_i2l 11 (show op 403 10 = some (.i2l, 1) by decide +kernel) rfl ?_
    refine g_lastore 12 1 (show op 403 11 = some (.lastore, 1) by decide +kernel) rfl (by decide +kernel) (by decide) ?_
    refine g_goto 23 (show op 403 12 = some (.goto 11, 3) by decide +kernel) rfl ?_
    refine g_iconst 24 (show op 403 23 = some (.iconst 0, 1) by decide +kernel) rfl rfl ?_
    exact (g_iret (show op 403 24 = some (.ireturn, 1) by decide +kernel) (by decide +kernel) h)
  · exact g_callH (E := 0) (c := 1) 10 (show op 403 7 = some (.invokevirtual 59, 3) by decide +kernel) (call_vi' (k' := 5) (n' := 30) (nj := 4) (j := 185) (k9 := 20) (t := [(.inl 0), (.inr (.inr (some 726)))]) (as := [(.inr (.inr (some 0))), (.inl x1), (.inl x2), (.inl x3)]) (by decide +kernel) rfl (by decide +kernel) rfl rfl rfl rfl rfl rfl (by decide +kernel) (by decide +kernel)) hD0 (by decide +kernel) rfl h
  · exact g_callH (E := 2) (c := 2) 10 (show op 403 7 = some (.invokevirtual 59, 3) by decide +kernel) (call_vi' (k' := 5) (n' := 30) (nj := 4) (j := 185) (k9 := 20) (t := [(.inl 0), (.inr (.inr (some 726)))]) (as := [(.inr (.inr (some 0))), (.inl x1), (.inl x2), (.inl x3)]) (by decide +kernel) rfl (by decide +kernel) rfl rfl rfl rfl rfl rfl (by decide +kernel) (by decide +kernel)) hD0 (by decide +kernel) rfl h
/-- PatchBenchLaw.split (LPatchBench;IIIIZ[J)I -/
theorem b404 {x1 : Int} {x2 : Int} {x3 : Int} {x4 : Int} {x5 : Int} {σ : Sg} {o : Rs}   (h : ((∃ (v2 : Int) (s1 : Sg), Dd 186 [(.inr (.inr (some 0))), (.inl x1), (.inl x2), (.inl x3), (.inl x4), (.inl x5)] σ (.inl (some (.inl v2)), s1) ∧ o = (.inl (some (.inl 0)), (upS s1 726 ((0 : Int).toNat) v2))) ∨ (∃ s0 : Sg, Dd 186 [(.inr (.inr (some 0))), (.inl x1), (.inl x2), (.inl x3), (.inl x4), (.inl x5)] σ (.inr 0, s0) ∧ o = (.inl (some (.inl 1)), s0)) ∨ (∃ s0 : Sg, Dd 186 [(.inr (.inr (some 0))), (.inl x1), (.inl x2), (.inl x3), (.inl x4), (.inl x5)] σ (.inr 1, s0) ∧ o = (.inl (some (.inl 2)), s0)) ∨ (∃ s0 : Sg, Dd 186 [(.inr (.inr (some 0))), (.inl x1), (.inl x2), (.inl x3), (.inl x4), (.inl x5)] σ (.inr 2, s0) ∧ o = (.inl (some (.inl 3)), s0)))) : Dd 404 [(.inr (.inr (some 0))), (.inl x1), (.inl x2), (.inl x3), (.inl x4), (.inl x5), (.inr (.inr (some 726)))] σ o := by
  refine Dd_of (l := 8) (by decide +kernel) ?_
  show Gd 404 0 [(some (.inr (.inr (some 0)))), (some (.inl x1)), (some (.inl x2)), (some (.inl x3)), (some (.inl x4)), (some (.inl x5)), (some (.inr (.inr (some 726)))), none] [] σ 0 0 o
  refine g_aload 2 (show op 404 0 = some (.aload 6, 2) by decide +kernel) rfl rfl ?_
  refine g_iconst 3 (show op 404 2 = some (.iconst 0, 1) by decide +kernel) rfl rfl ?_
  refine g_aload_n 4 (show op 404 3 = some (.aload_n 0, 1) by decide +kernel) rfl rfl ?_
  refine g_iload_n 5 (show op 404 4 = some (.iload_n 1, 1) by decide +kernel) rfl rfl ?_
  refine g_iload_n 6 (show op 404 5 = some (.iload_n 2, 1) by decide +kernel) rfl rfl ?_
  refine g_iload_n 7 (show op 404 6 = some (.iload_n 3, 1) by decide +kernel) rfl rfl ?_
  refine g_iload 9 (show op 404 7 = some (.iload 4, 2) by decide +kernel) rfl rfl ?_
  refine g_iload 11 (show op 404 9 = some (.iload 5, 2) by decide +kernel) rfl rfl ?_
  rcases h with ⟨v2, s1, hD3, h⟩ | ⟨s0, hD0, h⟩ | ⟨s0, hD0, h⟩ | ⟨s0, hD0, h⟩
  · refine g_call 14 [(.inl v2), (.inl 0), (.inr (.inr (some 726)))] (show op 404 11 = some (.invokevirtual 63, 3) by decide +kernel) (call_vi' (k' := 6) (n' := 36) (nj := 6) (j := 186) (k9 := 20) (t := [(.inl 0), (.inr (.inr (some 726)))]) (as := [(.inr (.inr (some 0))), (.inl x1), (.inl x2), (.inl x3), (.inl x4), (.inl x5)]) (by decide +kernel) rfl (by decide +kernel) rfl rfl rfl rfl rfl rfl (by decide +kernel) (by decide +kernel)) hD3 rfl ?_
    refine g_i2l 15 (show op 404 14 = some (.i2l, 1) by decide +kernel) rfl ?_
    refine g_lastore 16 1 (show op 404 15 = some (.lastore, 1) by decide +kernel) rfl (by decide +kernel) (by decide) ?_
    refine g_goto 31 (show op 404 16 = some (.goto 15, 3) by decide +kernel) rfl ?_
    refine g_iconst 32 (show op 404 31 = some (.iconst 0, 1) by decide +kernel) rfl rfl ?_
    exact (g_iret (show op 404 32 = some (.ireturn, 1) by decide +kernel) (by decide +kernel) h)
  · exact g_callH (E := 0) (c := 1) 14 (show op 404 11 = some (.invokevirtual 63, 3) by decide +kernel) (call_vi' (k' := 6) (n' := 36) (nj := 6) (j := 186) (k9 := 20) (t := [(.inl 0), (.inr (.inr (some 726)))]) (as := [(.inr (.inr (some 0))), (.inl x1), (.inl x2), (.inl x3), (.inl x4), (.inl x5)]) (by decide +kernel) rfl (by decide +kernel) rfl rfl rfl rfl rfl rfl (by decide +kernel) (by decide +kernel)) hD0 (by decide +kernel) rfl h
  · exact g_callH (E := 1) (c := 2) 14 (show op 404 11 = some (.invokevirtual 63, 3) by decide +kernel) (call_vi' (k' := 6) (n' := 36) (nj := 6) (j := 186) (k9 := 20) (t := [(.inl 0), (.inr (.inr (some 726)))]) (as := [(.inr (.inr (some 0))), (.inl x1), (.inl x2), (.inl x3), (.inl x4), (.inl x5)]) (by decide +kernel) rfl (by decide +kernel) rfl rfl rfl rfl rfl rfl (by decide +kernel) (by decide +kernel)) hD0 (by decide +kernel) rfl h
  · exact g_callH (E := 2) (c := 3) 14 (show op 404 11 = some (.invokevirtual 63, 3) by decide +kernel) (call_vi' (k' := 6) (n' := 36) (nj := 6) (j := 186) (k9 := 20) (t := [(.inl 0), (.inr (.inr (some 726)))]) (as := [(.inr (.inr (some 0))), (.inl x1), (.inl x2), (.inl x3), (.inl x4), (.inl x5)]) (by decide +kernel) rfl (by decide +kernel) rfl rfl rfl rfl rfl rfl (by decide +kernel) (by decide +kernel)) hD0 (by decide +kernel) rfl h
/-- PatchBenchLaw.lineIn (LPatchBench;IZI[J)I -/
theorem b405 {x1 : Int} {x2 : Int} {x3 : Int} {σ : Sg} {o : Rs}   (h : ((∃ (v2 : Int) (s1 : Sg), Dd 188 [(.inr (.inr (some 0))), (.inl x1), (.inl x2), (.inl x3)] σ (.inl (some (.inl v2)), s1) ∧ o = (.inl (some (.inl 0)), (upS s1 726 ((0 : Int).toNat) v2))) ∨ (∃ s0 : Sg, Dd 188 [(.inr (.inr (some 0))), (.inl x1), (.inl x2), (.inl x3)] σ (.inr 0, s0) ∧ o = (.inl (some (.inl 1)), s0)))) : Dd 405 [(.inr (.inr (some 0))), (.inl x1), (.inl x2), (.inl x3), (.inr (.inr (some 726)))] σ o := by
  refine Dd_of (l := 6) (by decide +kernel) ?_
  show Gd 405 0 [(some (.inr (.inr (some 0)))), (some (.inl x1)), (some (.inl x2)), (some (.inl x3)), (some (.inr (.inr (some 726)))), none] [] σ 0 0 o
  refine g_aload 2 (show op 405 0 = some (.aload 4, 2) by decide +kernel) rfl rfl ?_
  refine g_iconst 3 (show op 405 2 = some (.iconst 0, 1) by decide +kernel) rfl rfl ?_
  refine g_aload_n 4 (show op 405 3 = some (.aload_n 0, 1) by decide +kernel) rfl rfl ?_
  refine g_iload_n 5 (show op 405 4 = some (.iload_n 1, 1) by decide +kernel) rfl rfl ?_
  refine g_iload_n 6 (show op 405 5 = some (.iload_n 2, 1) by decide +kernel) rfl rfl ?_
  refine g_iload_n 7 (show op 405 6 = some (.iload_n 3, 1) by decide +kernel) rfl rfl ?_
  rcases h with ⟨v2, s1, hD3, h⟩ | ⟨s0, hD0, h⟩
  · refine g_call 10 [(.inl v2), (.inl 0), (.inr (.inr (some 726)))] (show op 405 7 = some (.invokevirtual 67, 3) by decide +kernel) (call_vi' (k' := 2) (n' := 12) (nj := 4) (j := 188) (k9 := 20) (t := [(.inl 0), (.inr (.inr (some 726)))]) (as := [(.inr (.inr (some 0))), (.inl x1), (.inl x2), (.inl x3)]) (by decide +kernel) rfl (by decide +kernel) rfl rfl rfl rfl rfl rfl (by decide +kernel) (by decide +kernel)) hD3 rfl ?_
    refine g_i2l 11 (show op 405 10 = some (.i2l, 1) by decide +kernel) rfl ?_
    refine g_lastore 12 1 (show op 405 11 = some (.lastore, 1) by decide +kernel) rfl (by decide +kernel) (by decide) ?_
    refine g_goto 19 (show op 405 12 = some (.goto 7, 3) by decide +kernel) rfl ?_
    refine g_iconst 20 (show op 405 19 = some (.iconst 0, 1) by decide +kernel) rfl rfl ?_
    exact (g_iret (show op 405 20 = some (.ireturn, 1) by decide +kernel) (by decide +kernel) h)
  · exact g_callH (E := 0) (c := 1) 10 (show op 405 7 = some (.invokevirtual 67, 3) by decide +kernel) (call_vi' (k' := 2) (n' := 12) (nj := 4) (j := 188) (k9 := 20) (t := [(.inl 0), (.inr (.inr (some 726)))]) (as := [(.inr (.inr (some 0))), (.inl x1), (.inl x2), (.inl x3)]) (by decide +kernel) rfl (by decide +kernel) rfl rfl rfl rfl rfl rfl (by decide +kernel) (by decide +kernel)) hD0 (by decide +kernel) rfl h
/-- PatchBenchLaw.pairIn (LPatchBench;II[J)I -/
theorem b406 {x1 : Int} {x2 : Int} {σ : Sg} {o : Rs}   (h : ((∃ (v2 : Int) (s1 : Sg), Dd 189 [(.inr (.inr (some 0))), (.inl x1), (.inl x2)] σ (.inl (some (.inl v2)), s1) ∧ o = (.inl (some (.inl 0)), (upS s1 726 ((0 : Int).toNat) v2))) ∨ (∃ s0 : Sg, Dd 189 [(.inr (.inr (some 0))), (.inl x1), (.inl x2)] σ (.inr 0, s0) ∧ o = (.inl (some (.inl 1)), s0)))) : Dd 406 [(.inr (.inr (some 0))), (.inl x1), (.inl x2), (.inr (.inr (some 726)))] σ o := by
  refine Dd_of (l := 5) (by decide +kernel) ?_
  show Gd 406 0 [(some (.inr (.inr (some 0)))), (some (.inl x1)), (some (.inl x2)), (some (.inr (.inr (some 726)))), none] [] σ 0 0 o
  refine g_aload_n 1 (show op 406 0 = some (.aload_n 3, 1) by decide +kernel) rfl rfl ?_
  refine g_iconst 2 (show op 406 1 = some (.iconst 0, 1) by decide +kernel) rfl rfl ?_
  refine g_aload_n 3 (show op 406 2 = some (.aload_n 0, 1) by decide +kernel) rfl rfl ?_
  refine g_iload_n 4 (show op 406 3 = some (.iload_n 1, 1) by decide +kernel) rfl rfl ?_
  refine g_iload_n 5 (show op 406 4 = some (.iload_n 2, 1) by decide +kernel) rfl rfl ?_
  rcases h with ⟨v2, s1, hD3, h⟩ | ⟨s0, hD0, h⟩
  · refine g_call 8 [(.inl v2), (.inl 0), (.inr (.inr (some 726)))] (show op 406 5 = some (.invokevirtual 71, 3) by decide +kernel) (call_vi' (k' := 2) (n' := 12) (nj := 3) (j := 189) (k9 := 20) (t := [(.inl 0), (.inr (.inr (some 726)))]) (as := [(.inr (.inr (some 0))), (.inl x1), (.inl x2)]) (by decide +kernel) rfl (by decide +kernel) rfl rfl rfl rfl rfl rfl (by decide +kernel) (by decide +kernel)) hD3 rfl ?_
    refine g_i2l 9 (show op 406 8 = some (.i2l, 1) by decide +kernel) rfl ?_
    refine g_lastore 10 1 (show op 406 9 = some (.lastore, 1) by decide +kernel) rfl (by decide +kernel) (by decide) ?_
    refine g_goto 17 (show op 406 10 = some (.goto 7, 3) by decide +kernel) rfl ?_
    refine g_iconst 18 (show op 406 17 = some (.iconst 0, 1) by decide +kernel) rfl rfl ?_
    exact (g_iret (show op 406 18 = some (.ireturn, 1) by decide +kernel) (by decide +kernel) h)
  · exact g_callH (E := 0) (c := 1) 8 (show op 406 5 = some (.invokevirtual 71, 3) by decide +kernel) (call_vi' (k' := 2) (n' := 12) (nj := 3) (j := 189) (k9 := 20) (t := [(.inl 0), (.inr (.inr (some 726)))]) (as := [(.inr (.inr (some 0))), (.inl x1), (.inl x2)]) (by decide +kernel) rfl (by decide +kernel) rfl rfl rfl rfl rfl rfl (by decide +kernel) (by decide +kernel)) hD0 (by decide +kernel) rfl h
/-- PatchBenchLaw.hunks (LPatchBench;I[J)I -/
theorem b407 {x1 : Int} {σ : Sg} {o : Rs}   (h : ((∃ (v2 : Int) (s1 : Sg), Dd 190 [(.inr (.inr (some 0))), (.inl x1)] σ (.inl (some (.inl v2)), s1) ∧ o = (.inl (some (.inl 0)), (upS s1 726 ((0 : Int).toNat) v2))) ∨ (∃ s0 : Sg, Dd 190 [(.inr (.inr (some 0))), (.inl x1)] σ (.inr 0, s0) ∧ o = (.inl (some (.inl 1)), s0)))) : Dd 407 [(.inr (.inr (some 0))), (.inl x1), (.inr (.inr (some 726)))] σ o := by
  refine Dd_of (l := 4) (by decide +kernel) ?_
  show Gd 407 0 [(some (.inr (.inr (some 0)))), (some (.inl x1)), (some (.inr (.inr (some 726)))), none] [] σ 0 0 o
  refine g_aload_n 1 (show op 407 0 = some (.aload_n 2, 1) by decide +kernel) rfl rfl ?_
  refine g_iconst 2 (show op 407 1 = some (.iconst 0, 1) by decide +kernel) rfl rfl ?_
  refine g_aload_n 3 (show op 407 2 = some (.aload_n 0, 1) by decide +kernel) rfl rfl ?_
  refine g_iload_n 4 (show op 407 3 = some (.iload_n 1, 1) by decide +kernel) rfl rfl ?_
  rcases h with ⟨v2, s1, hD3, h⟩ | ⟨s0, hD0, h⟩
  · refine g_call 7 [(.inl v2), (.inl 0), (.inr (.inr (some 726)))] (show op 407 4 = some (.invokevirtual 74, 3) by decide +kernel) (call_vi' (k' := 1) (n' := 6) (nj := 2) (j := 190) (k9 := 20) (t := [(.inl 0), (.inr (.inr (some 726)))]) (as := [(.inr (.inr (some 0))), (.inl x1)]) (by decide +kernel) rfl (by decide +kernel) rfl rfl rfl rfl rfl rfl (by decide +kernel) (by decide +kernel)) hD3 rfl ?_
    refine g_i2l 8 (show op 407 7 = some (.i2l, 1) by decide +kernel) rfl ?_
    refine g_lastore 9 1 (show op 407 8 = some (.lastore, 1) by decide +kernel) rfl (by decide +kernel) (by decide) ?_
    refine g_goto 15 (show op 407 9 = some (.goto 6, 3) by decide +kernel) rfl ?_
    refine g_iconst 16 (show op 407 15 = some (.iconst 0, 1) by decide +kernel) rfl rfl ?_
    exact (g_iret (show op 407 16 = some (.ireturn, 1) by decide +kernel) (by decide +kernel) h)
  · exact g_callH (E := 0) (c := 1) 7 (show op 407 4 = some (.invokevirtual 74, 3) by decide +kernel) (call_vi' (k' := 1) (n' := 6) (nj := 2) (j := 190) (k9 := 20) (t := [(.inl 0), (.inr (.inr (some 726)))]) (as := [(.inr (.inr (some 0))), (.inl x1)]) (by decide +kernel) rfl (by decide +kernel) rfl rfl rfl rfl rfl rfl (by decide +kernel) (by decide +kernel)) hD0 (by decide +kernel) rfl h
/-- PatchBenchLaw.hunk (LPatchBench;III[J)I -/
theorem b408 {x1 : Int} {x2 : Int} {x3 : Int} {σ : Sg} {o : Rs}   (h : ((∃ (v2 : Int) (s1 : Sg), Dd 191 [(.inr (.inr (some 0))), (.inl x1), (.inl x2), (.inl x3)] σ (.inl (some (.inl v2)), s1) ∧ o = (.inl (some (.inl 0)), (upS s1 726 ((0 : Int).toNat) v2))) ∨ (∃ s0 : Sg, Dd 191 [(.inr (.inr (some 0))), (.inl x1), (.inl x2), (.inl x3)] σ (.inr 0, s0) ∧ o = (.inl (some (.inl 1)), s0)) ∨ (∃ s0 : Sg, Dd 191 [(.inr (.inr (some 0))), (.inl x1), (.inl x2), (.inl x3)] σ (.inr 1, s0) ∧ o = (.inl (some (.inl 2)), s0)))) : Dd 408 [(.inr (.inr (some 0))), (.inl x1), (.inl x2), (.inl x3), (.inr (.inr (some 726)))] σ o := by
  refine Dd_of (l := 6) (by decide +kernel) ?_
  show Gd 408 0 [(some (.inr (.inr (some 0)))), (some (.inl x1)), (some (.inl x2)), (some (.inl x3)), (some (.inr (.inr (some 726)))), none] [] σ 0 0 o
  refine g_aload 2 (show op 408 0 = some (.aload 4, 2) by decide +kernel) rfl rfl ?_
  refine g_iconst 3 (show op 408 2 = some (.iconst 0, 1) by decide +kernel) rfl rfl ?_
  refine g_aload_n 4 (show op 408 3 = some (.aload_n 0, 1) by decide +kernel) rfl rfl ?_
  refine g_iload_n 5 (show op 408 4 = some (.iload_n 1, 1) by decide +kernel) rfl rfl ?_
  refine g_iload_n 6 (show op 408 5 = some (.iload_n 2, 1) by decide +kernel) rfl rfl ?_
  refine g_iload_n 7 (show op 408 6 = some (.iload_n 3, 1) by decide +kernel) rfl rfl ?_
  rcases h with ⟨v2, s1, hD3, h⟩ | ⟨s0, hD0, h⟩ | ⟨s0, hD0, h⟩
  · refine g_call 10 [(.inl v2), (.inl 0), (.inr (.inr (some 726)))] (show op 408 7 = some (.invokevirtual 77, 3) by decide +kernel) (call_vi' (k' := 3) (n' := 18) (nj := 4) (j := 191) (k9 := 20) (t := [(.inl 0), (.inr (.inr (some 726)))]) (as := [(.inr (.inr (some 0))), (.inl x1), (.inl x2), (.inl x3)]) (by decide +kernel) rfl (by decide +kernel) rfl rfl rfl rfl rfl rfl (by decide +kernel) (by decide +kernel)) hD3 rfl ?_
    refine g_i2l 11 (show op 408 10 = some (.i2l, 1) by decide +kernel) rfl ?_
    refine g_lastore 12 1 (show op 408 11 = some (.lastore, 1) by decide +kernel) rfl (by decide +kernel) (by decide) ?_
    refine g_goto 23 (show op 408 12 = some (.goto 11, 3) by decide +kernel) rfl ?_
    refine g_iconst 24 (show op 408 23 = some (.iconst 0, 1) by decide +kernel) rfl rfl ?_
    exact (g_iret (show op 408 24 = some (.ireturn, 1) by decide +kernel) (by decide +kernel) h)
  · exact g_callH (E := 0) (c := 1) 10 (show op 408 7 = some (.invokevirtual 77, 3) by decide +kernel) (call_vi' (k' := 3) (n' := 18) (nj := 4) (j := 191) (k9 := 20) (t := [(.inl 0), (.inr (.inr (some 726)))]) (as := [(.inr (.inr (some 0))), (.inl x1), (.inl x2), (.inl x3)]) (by decide +kernel) rfl (by decide +kernel) rfl rfl rfl rfl rfl rfl (by decide +kernel) (by decide +kernel)) hD0 (by decide +kernel) rfl h
  · exact g_callH (E := 1) (c := 2) 10 (show op 408 7 = some (.invokevirtual 77, 3) by decide +kernel) (call_vi' (k' := 3) (n' := 18) (nj := 4) (j := 191) (k9 := 20) (t := [(.inl 0), (.inr (.inr (some 726)))]) (as := [(.inr (.inr (some 0))), (.inl x1), (.inl x2), (.inl x3)]) (by decide +kernel) rfl (by decide +kernel) rfl rfl rfl rfl rfl rfl (by decide +kernel) (by decide +kernel)) hD0 (by decide +kernel) rfl h
/-- PatchBenchLaw.movedTo (LPatchBench;II[J)I -/
theorem b409 {x1 : Int} {x2 : Int} {σ : Sg} {o : Rs}   (h : ((∃ (v2 : Int) (s1 : Sg), Dd 192 [(.inr (.inr (some 0))), (.inl x1), (.inl x2)] σ (.inl (some (.inl v2)), s1) ∧ o = (.inl (some (.inl 0)), (upS s1 726 ((0 : Int).toNat) v2))) ∨ (∃ s0 : Sg, Dd 192 [(.inr (.inr (some 0))), (.inl x1), (.inl x2)] σ (.inr 0, s0) ∧ o = (.inl (some (.inl 1)), s0)))) : Dd 409 [(.inr (.inr (some 0))), (.inl x1), (.inl x2), (.inr (.inr (some 726)))] σ o := by
  refine Dd_of (l := 5) (by decide +kernel) ?_
  show Gd 409 0 [(some (.inr (.inr (some 0)))), (some (.inl x1)), (some (.inl x2)), (some (.inr (.inr (some 726)))), none] [] σ 0 0 o
  refine g_aload_n 1 (show op 409 0 = some (.aload_n 3, 1) by decide +kernel) rfl rfl ?_
  refine g_iconst 2 (show op 409 1 = some (.iconst 0, 1) by decide +kernel) rfl rfl ?_
  refine g_aload_n 3 (show op 409 2 = some (.aload_n 0, 1) by decide +kernel) rfl rfl ?_
  refine g_iload_n 4 (show op 409 3 = some (.iload_n 1, 1) by decide +kernel) rfl rfl ?_
  refine g_iload_n 5 (show op 409 4 = some (.iload_n 2, 1) by decide +kernel) rfl rfl ?_
  rcases h with ⟨v2, s1, hD3, h⟩ | ⟨s0, hD0, h⟩
  · refine g_call 8 [(.inl v2), (.inl 0), (.inr (.inr (some 726)))] (show op 409 5 = some (.invokevirtual 80, 3) by decide +kernel) (call_vi' (k' := 2) (n' := 12) (nj := 3) (j := 192) (k9 := 20) (t := [(.inl 0), (.inr (.inr (some 726)))]) (as := [(.inr (.inr (some 0))), (.inl x1), (.inl x2)]) (by decide +kernel) rfl (by decide +kernel) rfl rfl rfl rfl rfl rfl (by decide +kernel) (by decide +kernel)) hD3 rfl ?_
    refine g_i2l 9 (show op 409 8 = some (.i2l, 1) by decide +kernel) rfl ?_
    refine g_lastore 10 1 (show op 409 9 = some (.lastore, 1) by decide +kernel) rfl (by decide +kernel) (by decide) ?_
    refine g_goto 17 (show op 409 10 = some (.goto 7, 3) by decide +kernel) rfl ?_
    refine g_iconst 18 (show op 409 17 = some (.iconst 0, 1) by decide +kernel) rfl rfl ?_
    exact (g_iret (show op 409 18 = some (.ireturn, 1) by decide +kernel) (by decide +kernel) h)
  · exact g_callH (E := 0) (c := 1) 8 (show op 409 5 = some (.invokevirtual 80, 3) by decide +kernel) (call_vi' (k' := 2) (n' := 12) (nj := 3) (j := 192) (k9 := 20) (t := [(.inl 0), (.inr (.inr (some 726)))]) (as := [(.inr (.inr (some 0))), (.inl x1), (.inl x2)]) (by decide +kernel) rfl (by decide +kernel) rfl rfl rfl rfl rfl rfl (by decide +kernel) (by decide +kernel)) hD0 (by decide +kernel) rfl h
def C410_16 (d0 : Option AV) (d1 : Option AV) (d2 : Option AV) (d3 : Option AV) (d4 : Option AV) (y1 : Int) (y2 : Int) (σ : Sg) (o : Rs) : Prop := Gd 410 16 [d0, d1, d2, d3, d4] [(.inr (.inl y2)), (.inl y1), (.inr (.inr (some 726)))] σ 2 12 o
theorem b410_16 {d0 : Option AV} {d1 : Option AV} {d2 : Option AV} {d3 : Option AV} {d4 : Option AV} {y1 : Int} {y2 : Int} {σ : Sg} {o : Rs}   (h : (0 ≤ y1 ∧ y1 < 1) ∧ o = (.inl (some (.inl 0)), (upS σ 726 ((y1).toNat) y2))) : C410_16 d0 d1 d2 d3 d4 y1 y2 σ o := by
  show Gd 410 16 [d0, d1, d2, d3, d4] [(.inr (.inl y2)), (.inl y1), (.inr (.inr (some 726)))] σ 2 12 o
  obtain ⟨g1, h⟩ := h
  refine g_lastore 17 1 (show op 410 16 = some (.lastore, 1) by decide +kernel) rfl (by decide +kernel) g1 ?_
  refine g_goto 24 (show op 410 17 = some (.goto 7, 3) by decide +kernel) rfl ?_
  refine g_iconst 25 (show op 410 24 = some (.iconst 0, 1) by decide +kernel) rfl rfl ?_
  exact (g_iret (show op 410 25 = some (.ireturn, 1) by decide +kernel) (by decide +kernel) h)
/-- PatchBenchLaw.areEqual (LPatchBench;II[J)I -/
theorem b410 {x1 : Int} {x2 : Int} {σ : Sg} {o : Rs}   (h : ((∃ (v2 : Int) (s1 : Sg), Dd 193 [(.inr (.inr (some 0))), (.inl x1), (.inl x2)] σ (.inl (some (.inl v2)), s1) ∧ C410_16 (some (.inr (.inr (some 0)))) (some (.inl x1)) (some (.inl x2)) (some (.inr (.inr (some 726)))) none 0 (if v2 = 0 then 0 else 1) s1 o) ∨ (∃ s0 : Sg, Dd 193 [(.inr (.inr (some 0))), (.inl x1), (.inl x2)] σ (.inr 0, s0) ∧ o = (.inl (some (.inl 1)), s0)))) : Dd 410 [(.inr (.inr (some 0))), (.inl x1), (.inl x2), (.inr (.inr (some 726)))] σ o := by
  refine Dd_of (l := 5) (by decide +kernel) ?_
  show Gd 410 0 [(some (.inr (.inr (some 0)))), (some (.inl x1)), (some (.inl x2)), (some (.inr (.inr (some 726)))), none] [] σ 0 0 o
  refine g_aload_n 1 (show op 410 0 = some (.aload_n 3, 1) by decide +kernel) rfl rfl ?_
  refine g_iconst 2 (show op 410 1 = some (.iconst 0, 1) by decide +kernel) rfl rfl ?_
  refine g_aload_n 3 (show op 410 2 = some (.aload_n 0, 1) by decide +kernel) rfl rfl ?_
  refine g_iload_n 4 (show op 410 3 = some (.iload_n 1, 1) by decide +kernel) rfl rfl ?_
  refine g_iload_n 5 (show op 410 4 = some (.iload_n 2, 1) by decide +kernel) rfl rfl ?_
  rcases h with ⟨v2, s1, hD3, h⟩ | ⟨s0, hD0, h⟩
  · refine g_call 8 [(.inl v2), (.inl 0), (.inr (.inr (some 726)))] (show op 410 5 = some (.invokevirtual 83, 3) by decide +kernel) (call_vi' (k' := 2) (n' := 12) (nj := 3) (j := 193) (k9 := 20) (t := [(.inl 0), (.inr (.inr (some 726)))]) (as := [(.inr (.inr (some 0))), (.inl x1), (.inl x2)]) (by decide +kernel) rfl (by decide +kernel) rfl rfl rfl rfl rfl rfl (by decide +kernel) (by decide +kernel)) hD3 rfl ?_
    by_cases hc4 : v2 = 0
    · refine g_ifT 15 (show op 410 8 = some (.ifCond .eq 7, 3) by decide +kernel) rfl (decide_eq_true hc4) ?_
      refine g_lconst 16 (show op 410 15 = some (.lconst 0, 1) by decide +kernel) rfl ?_
      have h9 := h; simp only [if_pos hc4] at h9; exact h9
    · refine g_ifF 11 15 (show op 410 8 = some (.ifCond .eq 7, 3) by decide +kernel) rfl rfl (decide_eq_false hc4) ?_
      refine g_lconst 12 (show op 410 11 = some (.lconst 1, 1) by decide +kernel) rfl ?_
      refine g_goto 16 (show op 410 12 = some (.goto 4, 3) by decide +kernel) rfl ?_
      have h9 := h; simp only [if_neg hc4] at h9; exact h9
  · exact g_callH (E := 0) (c := 1) 8 (show op 410 5 = some (.invokevirtual 83, 3) by decide +kernel) (call_vi' (k' := 2) (n' := 12) (nj := 3) (j := 193) (k9 := 20) (t := [(.inl 0), (.inr (.inr (some 726)))]) (as := [(.inr (.inr (some 0))), (.inl x1), (.inl x2)]) (by decide +kernel) rfl (by decide +kernel) rfl rfl rfl rfl rfl rfl (by decide +kernel) (by decide +kernel)) hD0 (by decide +kernel) rfl h
/-- PatchBenchLaw.distance (LPatchBench;II[J)I -/
theorem b411 {x1 : Int} {x2 : Int} {σ : Sg} {o : Rs}   (h : ((∃ (v2 : Int) (s1 : Sg), Dd 194 [(.inr (.inr (some 0))), (.inl x1), (.inl x2)] σ (.inl (some (.inl v2)), s1) ∧ o = (.inl (some (.inl 0)), (upS s1 726 ((0 : Int).toNat) v2))) ∨ (∃ s0 : Sg, Dd 194 [(.inr (.inr (some 0))), (.inl x1), (.inl x2)] σ (.inr 0, s0) ∧ o = (.inl (some (.inl 1)), s0)))) : Dd 411 [(.inr (.inr (some 0))), (.inl x1), (.inl x2), (.inr (.inr (some 726)))] σ o := by
  refine Dd_of (l := 5) (by decide +kernel) ?_
  show Gd 411 0 [(some (.inr (.inr (some 0)))), (some (.inl x1)), (some (.inl x2)), (some (.inr (.inr (some 726)))), none] [] σ 0 0 o
  refine g_aload_n 1 (show op 411 0 = some (.aload_n 3, 1) by decide +kernel) rfl rfl ?_
  refine g_iconst 2 (show op 411 1 = some (.iconst 0, 1) by decide +kernel) rfl rfl ?_
  refine g_aload_n 3 (show op 411 2 = some (.aload_n 0, 1) by decide +kernel) rfl rfl ?_
  refine g_iload_n 4 (show op 411 3 = some (.iload_n 1, 1) by decide +kernel) rfl rfl ?_
  refine g_iload_n 5 (show op 411 4 = some (.iload_n 2, 1) by decide +kernel) rfl rfl ?_
  rcases h with ⟨v2, s1, hD3, h⟩ | ⟨s0, hD0, h⟩
  · refine g_call 8 [(.inl v2), (.inl 0), (.inr (.inr (some 726)))] (show op 411 5 = some (.invokevirtual 86, 3) by decide +kernel) (call_vi' (k' := 2) (n' := 12) (nj := 3) (j := 194) (k9 := 20) (t := [(.inl 0), (.inr (.inr (some 726)))]) (as := [(.inr (.inr (some 0))), (.inl x1), (.inl x2)]) (by decide +kernel) rfl (by decide +kernel) rfl rfl rfl rfl rfl rfl (by decide +kernel) (by decide +kernel)) hD3 rfl ?_
    refine g_i2l 9 (show op 411 8 = some (.i2l, 1) by decide +kernel) rfl ?_
    refine g_lastore 10 1 (show op 411 9 = some (.lastore, 1) by decide +kernel) rfl (by decide +kernel) (by decide) ?_
    refine g_goto 17 (show op 411 10 = some (.goto 7, 3) by decide +kernel) rfl ?_
    refine g_iconst 18 (show op 411 17 = some (.iconst 0, 1) by decide +kernel) rfl rfl ?_
    exact (g_iret (show op 411 18 = some (.ireturn, 1) by decide +kernel) (by decide +kernel) h)
  · exact g_callH (E := 0) (c := 1) 8 (show op 411 5 = some (.invokevirtual 86, 3) by decide +kernel) (call_vi' (k' := 2) (n' := 12) (nj := 3) (j := 194) (k9 := 20) (t := [(.inl 0), (.inr (.inr (some 726)))]) (as := [(.inr (.inr (some 0))), (.inl x1), (.inl x2)]) (by decide +kernel) rfl (by decide +kernel) rfl rfl rfl rfl rfl rfl (by decide +kernel) (by decide +kernel)) hD0 (by decide +kernel) rfl h
/-- PatchBenchLaw.putOn (LPatchBench;III[J)I -/
theorem b412 {x1 : Int} {x2 : Int} {x3 : Int} {σ : Sg} {o : Rs}   (h : ((∃ (v2 : Int) (s1 : Sg), Dd 195 [(.inr (.inr (some 0))), (.inl x1), (.inl x2), (.inl x3)] σ (.inl (some (.inl v2)), s1) ∧ o = (.inl (some (.inl 0)), (upS s1 726 ((0 : Int).toNat) v2))) ∨ (∃ s0 : Sg, Dd 195 [(.inr (.inr (some 0))), (.inl x1), (.inl x2), (.inl x3)] σ (.inr 0, s0) ∧ o = (.inl (some (.inl 1)), s0)) ∨ (∃ s0 : Sg, Dd 195 [(.inr (.inr (some 0))), (.inl x1), (.inl x2), (.inl x3)] σ (.inr 1, s0) ∧ o = (.inl (some (.inl 2)), s0)) ∨ (∃ s0 : Sg, Dd 195 [(.inr (.inr (some 0))), (.inl x1), (.inl x2), (.inl x3)] σ (.inr 2, s0) ∧ o = (.inl (some (.inl 3)), s0)))) : Dd 412 [(.inr (.inr (some 0))), (.inl x1), (.inl x2), (.inl x3), (.inr (.inr (some 726)))] σ o := by
  refine Dd_of (l := 6) (by decide +kernel) ?_
  show Gd 412 0 [(some (.inr (.inr (some 0)))), (some (.inl x1)), (some (.inl x2)), (some (.inl x3)), (some (.inr (.inr (some 726)))), none] [] σ 0 0 o
  refine g_aload 2 (show op 412 0 = some (.aload 4, 2) by decide +kernel) rfl rfl ?_
  refine g_iconst 3 (show op 412 2 = some (.iconst 0, 1) by decide +kernel) rfl rfl ?_
  refine g_aload_n 4 (show op 412 3 = some (.aload_n 0, 1) by decide +kernel) rfl rfl ?_
  refine g_iload_n 5 (show op 412 4 = some (.iload_n 1, 1) by decide +kernel) rfl rfl ?_
  refine g_iload_n 6 (show op 412 5 = some (.iload_n 2, 1) by decide +kernel) rfl rfl ?_
  refine g_iload_n 7 (show op 412 6 = some (.iload_n 3, 1) by decide +kernel) rfl rfl ?_
  rcases h with ⟨v2, s1, hD3, h⟩ | ⟨s0, hD0, h⟩ | ⟨s0, hD0, h⟩ | ⟨s0, hD0, h⟩
  · refine g_call 10 [(.inl v2), (.inl 0), (.inr (.inr (some 726)))] (show op 412 7 = some (.invokevirtual 89, 3) by decide +kernel) (call_vi' (k' := 4) (n' := 24) (nj := 4) (j := 195) (k9 := 20) (t := [(.inl 0), (.inr (.inr (some 726)))]) (as := [(.inr (.inr (some 0))), (.inl x1), (.inl x2), (.inl x3)]) (by decide +kernel) rfl (by decide +kernel) rfl rfl rfl rfl rfl rfl (by decide +kernel) (by decide +kernel)) hD3 rfl ?_
    refine g_i2l 11 (show op 412 10 = some (.i2l, 1) by decide +kernel) rfl ?_
    refine g_lastore 12 1 (show op 412 11 = some (.lastore, 1) by decide +kernel) rfl (by decide +kernel) (by decide) ?_
    refine g_goto 27 (show op 412 12 = some (.goto 15, 3) by decide +kernel) rfl ?_
    refine g_iconst 28 (show op 412 27 = some (.iconst 0, 1) by decide +kernel) rfl rfl ?_
    exact (g_iret (show op 412 28 = some (.ireturn, 1) by decide +kernel) (by decide +kernel) h)
  · exact g_callH (E := 0) (c := 1) 10 (show op 412 7 = some (.invokevirtual 89, 3) by decide +kernel) (call_vi' (k' := 4) (n' := 24) (nj := 4) (j := 195) (k9 := 20) (t := [(.inl 0), (.inr (.inr (some 726)))]) (as := [(.inr (.inr (some 0))), (.inl x1), (.inl x2), (.inl x3)]) (by decide +kernel) rfl (by decide +kernel) rfl rfl rfl rfl rfl rfl (by decide +kernel) (by decide +kernel)) hD0 (by decide +kernel) rfl h
  · exact g_callH (E := 1) (c := 2) 10 (show op 412 7 = some (.invokevirtual 89, 3) by decide +kernel) (call_vi' (k' := 4) (n' := 24) (nj := 4) (j := 195) (k9 := 20) (t := [(.inl 0), (.inr (.inr (some 726)))]) (as := [(.inr (.inr (some 0))), (.inl x1), (.inl x2), (.inl x3)]) (by decide +kernel) rfl (by decide +kernel) rfl rfl rfl rfl rfl rfl (by decide +kernel) (by decide +kernel)) hD0 (by decide +kernel) rfl h
  · exact g_callH (E := 2) (c := 3) 10 (show op 412 7 = some (.invokevirtual 89, 3) by decide +kernel) (call_vi' (k' := 4) (n' := 24) (nj := 4) (j := 195) (k9 := 20) (t := [(.inl 0), (.inr (.inr (some 726)))]) (as := [(.inr (.inr (some 0))), (.inl x1), (.inl x2), (.inl x3)]) (by decide +kernel) rfl (by decide +kernel) rfl rfl rfl rfl rfl rfl (by decide +kernel) (by decide +kernel)) hD0 (by decide +kernel) rfl h
/-- PatchBenchLaw.putAt (LPatchBench;I[J)I -/
theorem b413 {x1 : Int} {σ : Sg} {o : Rs}   (h : ((∃ (v2 : Int) (s1 : Sg), Dd 196 [(.inr (.inr (some 0))), (.inl x1)] σ (.inl (some (.inl v2)), s1) ∧ o = (.inl (some (.inl 0)), (upS s1 726 ((0 : Int).toNat) v2))) ∨ (∃ s0 : Sg, Dd 196 [(.inr (.inr (some 0))), (.inl x1)] σ (.inr 0, s0) ∧ o = (.inl (some (.inl 1)), s0)))) : Dd 413 [(.inr (.inr (some 0))), (.inl x1), (.inr (.inr (some 726)))] σ o := by
  refine Dd_of (l := 4) (by decide +kernel) ?_
  show Gd 413 0 [(some (.inr (.inr (some 0)))), (some (.inl x1)), (some (.inr (.inr (some 726)))), none] [] σ 0 0 o
  refine g_aload_n 1 (show op 413 0 = some (.aload_n 2, 1) by decide +kernel) rfl rfl ?_
  refine g_iconst 2 (show op 413 1 = some (.iconst 0, 1) by decide +kernel) rfl rfl ?_
  refine g_aload_n 3 (show op 413 2 = some (.aload_n 0, 1) by decide +kernel) rfl rfl ?_
  refine g_iload_n 4 (show op 413 3 = some (.iload_n 1, 1) by decide +kernel) rfl rfl ?_
  rcases h with ⟨v2, s1, hD3, h⟩ | ⟨s0, hD0, h⟩
  · refine g_call 7 [(.inl v2), (.inl 0), (.inr (.inr (some 726)))] (show op 413 4 = some (.invokevirtual 92, 3) by decide +kernel) (call_vi' (k' := 1) (n' := 6) (nj := 2) (j := 196) (k9 := 20) (t := [(.inl 0), (.inr (.inr (some 726)))]) (as := [(.inr (.inr (some 0))), (.inl x1)]) (by decide +kernel) rfl (by decide +kernel) rfl rfl rfl rfl rfl rfl (by decide +kernel) (by decide +kernel)) hD3 rfl ?_
    refine g_i2l 8 (show op 413 7 = some (.i2l, 1) by decide +kernel) rfl ?_
    refine g_lastore 9 1 (show op 413 8 = some (.lastore, 1) by decide +kernel) rfl (by decide +kernel) (by decide) ?_
    refine g_goto 15 (show op 413 9 = some (.goto 6, 3) by decide +kernel) rfl ?_
    refine g_iconst 16 (show op 413 15 = some (.iconst 0, 1) by decide +kernel) rfl rfl ?_
    exact (g_iret (show op 413 16 = some (.ireturn, 1) by decide +kernel) (by decide +kernel) h)
  · exact g_callH (E := 0) (c := 1) 7 (show op 413 4 = some (.invokevirtual 92, 3) by decide +kernel) (call_vi' (k' := 1) (n' := 6) (nj := 2) (j := 196) (k9 := 20) (t := [(.inl 0), (.inr (.inr (some 726)))]) (as := [(.inr (.inr (some 0))), (.inl x1)]) (by decide +kernel) rfl (by decide +kernel) rfl rfl rfl rfl rfl rfl (by decide +kernel) (by decide +kernel)) hD0 (by decide +kernel) rfl h
/-- PatchBenchLaw.merge (LPatchBench;III[J)I -/
theorem b414 {x1 : Int} {x2 : Int} {x3 : Int} {σ : Sg} {o : Rs}   (h : ((∃ (v2 : Int) (s1 : Sg), Dd 197 [(.inr (.inr (some 0))), (.inl x1), (.inl x2), (.inl x3)] σ (.inl (some (.inl v2)), s1) ∧ o = (.inl (some (.inl 0)), (upS s1 726 ((0 : Int).toNat) v2))) ∨ (∃ s0 : Sg, Dd 197 [(.inr (.inr (some 0))), (.inl x1), (.inl x2), (.inl x3)] σ (.inr 0, s0) ∧ o = (.inl (some (.inl 1)), s0)) ∨ (∃ s0 : Sg, Dd 197 [(.inr (.inr (some 0))), (.inl x1), (.inl x2), (.inl x3)] σ (.inr 2, s0) ∧ o = (.inl (some (.inl 2)), s0)))) : Dd 414 [(.inr (.inr (some 0))), (.inl x1), (.inl x2), (.inl x3), (.inr (.inr (some 726)))] σ o := by
  refine Dd_of (l := 6) (by decide +kernel) ?_
  show Gd 414 0 [(some (.inr (.inr (some 0)))), (some (.inl x1)), (some (.inl x2)), (some (.inl x3)), (some (.inr (.inr (some 726)))), none] [] σ 0 0 o
  refine g_aload 2 (show op 414 0 = some (.aload 4, 2) by decide +kernel) rfl rfl ?_
  refine g_iconst 3 (show op 414 2 = some (.iconst 0, 1) by decide +kernel) rfl rfl ?_
  refine g_aload_n 4 (show op 414 3 = some (.aload_n 0, 1) by decide +kernel) rfl rfl ?_
  refine g_iload_n 5 (show op 414 4 = some (.iload_n 1, 1) by decide +kernel) rfl rfl ?_
  refine g_iload_n 6 (show op 414 5 = some (.iload_n 2, 1) by decide +kernel) rfl rfl ?_
  refine g_iload_n 7 (show op 414 6 = some (.iload_n 3, 1) by decide +kernel) rfl rfl ?_
  rcases h with ⟨v2, s1, hD3, h⟩ | ⟨s0, hD0, h⟩ | ⟨s0, hD0, h⟩
  · refine g_call 10 [(.inl v2), (.inl 0), (.inr (.inr (some 726)))] (show op 414 7 = some (.invokevirtual 95, 3) by decide +kernel) (call_vi' (k' := 5) (n' := 30) (nj := 4) (j := 197) (k9 := 20) (t := [(.inl 0), (.inr (.inr (some 726)))]) (as := [(.inr (.inr (some 0))), (.inl x1), (.inl x2), (.inl x3)]) (by decide +kernel) rfl (by decide +kernel) rfl rfl rfl rfl rfl rfl (by decide +kernel) (by decide +kernel)) hD3 rfl ?_
    refine g_i2l 11 (show op 414 10 = some (.i2l, 1) by decide +kernel) rfl ?_
    refine g_lastore 12 1 (show op 414 11 = some (.lastore, 1) by decide +kernel) rfl (by decide +kernel) (by decide) ?_
    refine g_goto 23 (show op 414 12 = some (.goto 11, 3) by decide +kernel) rfl ?_
    refine g_iconst 24 (show op 414 23 = some (.iconst 0, 1) by decide +kernel) rfl rfl ?_
    exact (g_iret (show op 414 24 = some (.ireturn, 1) by decide +kernel) (by decide +kernel) h)
  · exact g_callH (E := 0) (c := 1) 10 (show op 414 7 = some (.invokevirtual 95, 3) by decide +kernel) (call_vi' (k' := 5) (n' := 30) (nj := 4) (j := 197) (k9 := 20) (t := [(.inl 0), (.inr (.inr (some 726)))]) (as := [(.inr (.inr (some 0))), (.inl x1), (.inl x2), (.inl x3)]) (by decide +kernel) rfl (by decide +kernel) rfl rfl rfl rfl rfl rfl (by decide +kernel) (by decide +kernel)) hD0 (by decide +kernel) rfl h
  · exact g_callH (E := 2) (c := 2) 10 (show op 414 7 = some (.invokevirtual 95, 3) by decide +kernel) (call_vi' (k' := 5) (n' := 30) (nj := 4) (j := 197) (k9 := 20) (t := [(.inl 0), (.inr (.inr (some 726)))]) (as := [(.inr (.inr (some 0))), (.inl x1), (.inl x2), (.inl x3)]) (by decide +kernel) rfl (by decide +kernel) rfl rfl rfl rfl rfl rfl (by decide +kernel) (by decide +kernel)) hD0 (by decide +kernel) rfl h
/-- PatchBenchLaw.conflicts (LPatchBench;I[J)I -/
theorem b415 {x1 : Int} {σ : Sg} {o : Rs}   (h : ((∃ (v2 : Int) (s1 : Sg), Dd 198 [(.inr (.inr (some 0))), (.inl x1)] σ (.inl (some (.inl v2)), s1) ∧ o = (.inl (some (.inl 0)), (upS s1 726 ((0 : Int).toNat) v2))) ∨ (∃ s0 : Sg, Dd 198 [(.inr (.inr (some 0))), (.inl x1)] σ (.inr 0, s0) ∧ o = (.inl (some (.inl 1)), s0)))) : Dd 415 [(.inr (.inr (some 0))), (.inl x1), (.inr (.inr (some 726)))] σ o := by
  refine Dd_of (l := 4) (by decide +kernel) ?_
  show Gd 415 0 [(some (.inr (.inr (some 0)))), (some (.inl x1)), (some (.inr (.inr (some 726)))), none] [] σ 0 0 o
  refine g_aload_n 1 (show op 415 0 = some (.aload_n 2, 1) by decide +kernel) rfl rfl ?_
  refine g_iconst 2 (show op 415 1 = some (.iconst 0, 1) by decide +kernel) rfl rfl ?_
  refine g_aload_n 3 (show op 415 2 = some (.aload_n 0, 1) by decide +kernel) rfl rfl ?_
  refine g_iload_n 4 (show op 415 3 = some (.iload_n 1, 1) by decide +kernel) rfl rfl ?_
  rcases h with ⟨v2, s1, hD3, h⟩ | ⟨s0, hD0, h⟩
  · refine g_call 7 [(.inl v2), (.inl 0), (.inr (.inr (some 726)))] (show op 415 4 = some (.invokevirtual 98, 3) by decide +kernel) (call_vi' (k' := 1) (n' := 6) (nj := 2) (j := 198) (k9 := 20) (t := [(.inl 0), (.inr (.inr (some 726)))]) (as := [(.inr (.inr (some 0))), (.inl x1)]) (by decide +kernel) rfl (by decide +kernel) rfl rfl rfl rfl rfl rfl (by decide +kernel) (by decide +kernel)) hD3 rfl ?_
    refine g_i2l 8 (show op 415 7 = some (.i2l, 1) by decide +kernel) rfl ?_
    refine g_lastore 9 1 (show op 415 8 = some (.lastore, 1) by decide +kernel) rfl (by decide +kernel) (by decide) ?_
    refine g_goto 15 (show op 415 9 = some (.goto 6, 3) by decide +kernel) rfl ?_
    refine g_iconst 16 (show op 415 15 = some (.iconst 0, 1) by decide +kernel) rfl rfl ?_
    exact (g_iret (show op 415 16 = some (.ireturn, 1) by decide +kernel) (by decide +kernel) h)
  · exact g_callH (E := 0) (c := 1) 7 (show op 415 4 = some (.invokevirtual 98, 3) by decide +kernel) (call_vi' (k' := 1) (n' := 6) (nj := 2) (j := 198) (k9 := 20) (t := [(.inl 0), (.inr (.inr (some 726)))]) (as := [(.inr (.inr (some 0))), (.inl x1)]) (by decide +kernel) rfl (by decide +kernel) rfl rfl rfl rfl rfl rfl (by decide +kernel) (by decide +kernel)) hD0 (by decide +kernel) rfl h
/-- PatchBenchLaw.resolve (LPatchBench;III[J)I -/
theorem b416 {x1 : Int} {x2 : Int} {x3 : Int} {σ : Sg} {o : Rs}   (h : ((∃ (v2 : Int) (s1 : Sg), Dd 199 [(.inr (.inr (some 0))), (.inl x1), (.inl x2), (.inl x3)] σ (.inl (some (.inl v2)), s1) ∧ o = (.inl (some (.inl 0)), (upS s1 726 ((0 : Int).toNat) v2))) ∨ (∃ s0 : Sg, Dd 199 [(.inr (.inr (some 0))), (.inl x1), (.inl x2), (.inl x3)] σ (.inr 0, s0) ∧ o = (.inl (some (.inl 1)), s0)) ∨ (∃ s0 : Sg, Dd 199 [(.inr (.inr (some 0))), (.inl x1), (.inl x2), (.inl x3)] σ (.inr 1, s0) ∧ o = (.inl (some (.inl 2)), s0)))) : Dd 416 [(.inr (.inr (some 0))), (.inl x1), (.inl x2), (.inl x3), (.inr (.inr (some 726)))] σ o := by
  refine Dd_of (l := 6) (by decide +kernel) ?_
  show Gd 416 0 [(some (.inr (.inr (some 0)))), (some (.inl x1)), (some (.inl x2)), (some (.inl x3)), (some (.inr (.inr (some 726)))), none] [] σ 0 0 o
  refine g_aload 2 (show op 416 0 = some (.aload 4, 2) by decide +kernel) rfl rfl ?_
  refine g_iconst 3 (show op 416 2 = some (.iconst 0, 1) by decide +kernel) rfl rfl ?_
  refine g_aload_n 4 (show op 416 3 = some (.aload_n 0, 1) by decide +kernel) rfl rfl ?_
  refine g_iload_n 5 (show op 416 4 = some (.iload_n 1, 1) by decide +kernel) rfl rfl ?_
  refine g_iload_n 6 (show op 416 5 = some (.iload_n 2, 1) by decide +kernel) rfl rfl ?_
  refine g_iload_n 7 (show op 416 6 = some (.iload_n 3, 1) by decide +kernel) rfl rfl ?_
  rcases h with ⟨v2, s1, hD3, h⟩ | ⟨s0, hD0, h⟩ | ⟨s0, hD0, h⟩
  · refine g_call 10 [(.inl v2), (.inl 0), (.inr (.inr (some 726)))] (show op 416 7 = some (.invokevirtual 101, 3) by decide +kernel) (call_vi' (k' := 3) (n' := 18) (nj := 4) (j := 199) (k9 := 20) (t := [(.inl 0), (.inr (.inr (some 726)))]) (as := [(.inr (.inr (some 0))), (.inl x1), (.inl x2), (.inl x3)]) (by decide +kernel) rfl (by decide +kernel) rfl rfl rfl rfl rfl rfl (by decide +kernel) (by decide +kernel)) hD3 rfl ?_
    refine g_i2l 11 (show op 416 10 = some (.i2l, 1) by decide +kernel) rfl ?_
    refine g_lastore 12 1 (show op 416 11 = some (.lastore, 1) by decide +kernel) rfl (by decide +kernel) (by decide) ?_
    refine g_goto 23 (show op 416 12 = some (.goto 11, 3) by decide +kernel) rfl ?_
    refine g_iconst 24 (show op 416 23 = some (.iconst 0, 1) by decide +kernel) rfl rfl ?_
    exact (g_iret (show op 416 24 = some (.ireturn, 1) by decide +kernel) (by decide +kernel) h)
  · exact g_callH (E := 0) (c := 1) 10 (show op 416 7 = some (.invokevirtual 101, 3) by decide +kernel) (call_vi' (k' := 3) (n' := 18) (nj := 4) (j := 199) (k9 := 20) (t := [(.inl 0), (.inr (.inr (some 726)))]) (as := [(.inr (.inr (some 0))), (.inl x1), (.inl x2), (.inl x3)]) (by decide +kernel) rfl (by decide +kernel) rfl rfl rfl rfl rfl rfl (by decide +kernel) (by decide +kernel)) hD0 (by decide +kernel) rfl h
  · exact g_callH (E := 1) (c := 2) 10 (show op 416 7 = some (.invokevirtual 101, 3) by decide +kernel) (call_vi' (k' := 3) (n' := 18) (nj := 4) (j := 199) (k9 := 20) (t := [(.inl 0), (.inr (.inr (some 726)))]) (as := [(.inr (.inr (some 0))), (.inl x1), (.inl x2), (.inl x3)]) (by decide +kernel) rfl (by decide +kernel) rfl rfl rfl rfl rfl rfl (by decide +kernel) (by decide +kernel)) hD0 (by decide +kernel) rfl h
/-- PatchBenchLaw.setBase (LPatchBench;I[J)I -/
theorem b417 {x1 : Int} {σ : Sg} {o : Rs}   (h : ((∃ (v2 : Int) (s1 : Sg), Dd 200 [(.inr (.inr (some 0))), (.inl x1)] σ (.inl (some (.inl v2)), s1) ∧ o = (.inl (some (.inl 0)), (upS s1 726 ((0 : Int).toNat) v2))) ∨ (∃ s0 : Sg, Dd 200 [(.inr (.inr (some 0))), (.inl x1)] σ (.inr 0, s0) ∧ o = (.inl (some (.inl 1)), s0)) ∨ (∃ s0 : Sg, Dd 200 [(.inr (.inr (some 0))), (.inl x1)] σ (.inr 2, s0) ∧ o = (.inl (some (.inl 2)), s0)))) : Dd 417 [(.inr (.inr (some 0))), (.inl x1), (.inr (.inr (some 726)))] σ o := by
  refine Dd_of (l := 4) (by decide +kernel) ?_
  show Gd 417 0 [(some (.inr (.inr (some 0)))), (some (.inl x1)), (some (.inr (.inr (some 726)))), none] [] σ 0 0 o
  refine g_aload_n 1 (show op 417 0 = some (.aload_n 2, 1) by decide +kernel) rfl rfl ?_
  refine g_iconst 2 (show op 417 1 = some (.iconst 0, 1) by decide +kernel) rfl rfl ?_
  refine g_aload_n 3 (show op 417 2 = some (.aload_n 0, 1) by decide +kernel) rfl rfl ?_
  refine g_iload_n 4 (show op 417 3 = some (.iload_n 1, 1) by decide +kernel) rfl rfl ?_
  rcases h with ⟨v2, s1, hD3, h⟩ | ⟨s0, hD0, h⟩ | ⟨s0, hD0, h⟩
  · refine g_call 7 [(.inl v2), (.inl 0), (.inr (.inr (some 726)))] (show op 417 4 = some (.invokevirtual 104, 3) by decide +kernel) (call_vi' (k' := 2) (n' := 12) (nj := 2) (j := 200) (k9 := 20) (t := [(.inl 0), (.inr (.inr (some 726)))]) (as := [(.inr (.inr (some 0))), (.inl x1)]) (by decide +kernel) rfl (by decide +kernel) rfl rfl rfl rfl rfl rfl (by decide +kernel) (by decide +kernel)) hD3 rfl ?_
    refine g_i2l 8 (show op 417 7 = some (.i2l, 1) by decide +kernel) rfl ?_
    refine g_lastore 9 1 (show op 417 8 = some (.lastore, 1) by decide +kernel) rfl (by decide +kernel) (by decide) ?_
    refine g_goto 18 (show op 417 9 = some (.goto 9, 3) by decide +kernel) rfl ?_
    refine g_iconst 19 (show op 417 18 = some (.iconst 0, 1) by decide +kernel) rfl rfl ?_
    exact (g_iret (show op 417 19 = some (.ireturn, 1) by decide +kernel) (by decide +kernel) h)
  · exact g_callH (E := 0) (c := 1) 7 (show op 417 4 = some (.invokevirtual 104, 3) by decide +kernel) (call_vi' (k' := 2) (n' := 12) (nj := 2) (j := 200) (k9 := 20) (t := [(.inl 0), (.inr (.inr (some 726)))]) (as := [(.inr (.inr (some 0))), (.inl x1)]) (by decide +kernel) rfl (by decide +kernel) rfl rfl rfl rfl rfl rfl (by decide +kernel) (by decide +kernel)) hD0 (by decide +kernel) rfl h
  · exact g_callH (E := 2) (c := 2) 7 (show op 417 4 = some (.invokevirtual 104, 3) by decide +kernel) (call_vi' (k' := 2) (n' := 12) (nj := 2) (j := 200) (k9 := 20) (t := [(.inl 0), (.inr (.inr (some 726)))]) (as := [(.inr (.inr (some 0))), (.inl x1)]) (by decide +kernel) rfl (by decide +kernel) rfl rfl rfl rfl rfl rfl (by decide +kernel) (by decide +kernel)) hD0 (by decide +kernel) rfl h
/-- PatchBenchLaw.push (LPatchBench;I[J)I -/
theorem b418 {x1 : Int} {σ : Sg} {o : Rs}   (h : ((∃ (v2 : Int) (s1 : Sg), Dd 201 [(.inr (.inr (some 0))), (.inl x1)] σ (.inl (some (.inl v2)), s1) ∧ o = (.inl (some (.inl 0)), (upS s1 726 ((0 : Int).toNat) v2))) ∨ (∃ s0 : Sg, Dd 201 [(.inr (.inr (some 0))), (.inl x1)] σ (.inr 0, s0) ∧ o = (.inl (some (.inl 1)), s0)) ∨ (∃ s0 : Sg, Dd 201 [(.inr (.inr (some 0))), (.inl x1)] σ (.inr 2, s0) ∧ o = (.inl (some (.inl 2)), s0)))) : Dd 418 [(.inr (.inr (some 0))), (.inl x1), (.inr (.inr (some 726)))] σ o := by
  refine Dd_of (l := 4) (by decide +kernel) ?_
  show Gd 418 0 [(some (.inr (.inr (some 0)))), (some (.inl x1)), (some (.inr (.inr (some 726)))), none] [] σ 0 0 o
  refine g_aload_n 1 (show op 418 0 = some (.aload_n 2, 1) by decide +kernel) rfl rfl ?_
  refine g_iconst 2 (show op 418 1 = some (.iconst 0, 1) by decide +kernel) rfl rfl ?_
  refine g_aload_n 3 (show op 418 2 = some (.aload_n 0, 1) by decide +kernel) rfl rfl ?_
  refine g_iload_n 4 (show op 418 3 = some (.iload_n 1, 1) by decide +kernel) rfl rfl ?_
  rcases h with ⟨v2, s1, hD3, h⟩ | ⟨s0, hD0, h⟩ | ⟨s0, hD0, h⟩
  · refine g_call 7 [(.inl v2), (.inl 0), (.inr (.inr (some 726)))] (show op 418 4 = some (.invokevirtual 107, 3) by decide +kernel) (call_vi' (k' := 3) (n' := 18) (nj := 2) (j := 201) (k9 := 20) (t := [(.inl 0), (.inr (.inr (some 726)))]) (as := [(.inr (.inr (some 0))), (.inl x1)]) (by decide +kernel) rfl (by decide +kernel) rfl rfl rfl rfl rfl rfl (by decide +kernel) (by decide +kernel)) hD3 rfl ?_
    refine g_i2l 8 (show op 418 7 = some (.i2l, 1) by decide +kernel) rfl ?_
    refine g_lastore 9 1 (show op 418 8 = some (.lastore, 1) by decide +kernel) rfl (by decide +kernel) (by decide) ?_
    refine g_goto 18 (show op 418 9 = some (.goto 9, 3) by decide +kernel) rfl ?_
    refine g_iconst 19 (show op 418 18 = some (.iconst 0, 1) by decide +kernel) rfl rfl ?_
    exact (g_iret (show op 418 19 = some (.ireturn, 1) by decide +kernel) (by decide +kernel) h)
  · exact g_callH (E := 0) (c := 1) 7 (show op 418 4 = some (.invokevirtual 107, 3) by decide +kernel) (call_vi' (k' := 3) (n' := 18) (nj := 2) (j := 201) (k9 := 20) (t := [(.inl 0), (.inr (.inr (some 726)))]) (as := [(.inr (.inr (some 0))), (.inl x1)]) (by decide +kernel) rfl (by decide +kernel) rfl rfl rfl rfl rfl rfl (by decide +kernel) (by decide +kernel)) hD0 (by decide +kernel) rfl h
  · exact g_callH (E := 2) (c := 2) 7 (show op 418 4 = some (.invokevirtual 107, 3) by decide +kernel) (call_vi' (k' := 3) (n' := 18) (nj := 2) (j := 201) (k9 := 20) (t := [(.inl 0), (.inr (.inr (some 726)))]) (as := [(.inr (.inr (some 0))), (.inl x1)]) (by decide +kernel) rfl (by decide +kernel) rfl rfl rfl rfl rfl rfl (by decide +kernel) (by decide +kernel)) hD0 (by decide +kernel) rfl h
/-- PatchBenchLaw.pop (LPatchBench;[J)I -/
theorem b419 {σ : Sg} {o : Rs}   (h : ((∃ (v2 : Int) (s1 : Sg), Dd 202 [(.inr (.inr (some 0)))] σ (.inl (some (.inl v2)), s1) ∧ o = (.inl (some (.inl 0)), (upS s1 726 ((0 : Int).toNat) v2))) ∨ (∃ s0 : Sg, Dd 202 [(.inr (.inr (some 0)))] σ (.inr 2, s0) ∧ o = (.inl (some (.inl 1)), s0)))) : Dd 419 [(.inr (.inr (some 0))), (.inr (.inr (some 726)))] σ o := by
  refine Dd_of (l := 3) (by decide +kernel) ?_
  show Gd 419 0 [(some (.inr (.inr (some 0)))), (some (.inr (.inr (some 726)))), none] [] σ 0 0 o
  refine g_aload_n 1 (show op 419 0 = some (.aload_n 1, 1) by decide +kernel) rfl rfl ?_
  refine g_iconst 2 (show op 419 1 = some (.iconst 0, 1) by decide +kernel) rfl rfl ?_
  refine g_aload_n 3 (show op 419 2 = some (.aload_n 0, 1) by decide +kernel) rfl rfl ?_
  rcases h with ⟨v2, s1, hD3, h⟩ | ⟨s0, hD0, h⟩
  · refine g_call 6 [(.inl v2), (.inl 0), (.inr (.inr (some 726)))] (show op 419 3 = some (.invokevirtual 110, 3) by decide +kernel) (call_vi' (k' := 1) (n' := 6) (nj := 1) (j := 202) (k9 := 20) (t := [(.inl 0), (.inr (.inr (some 726)))]) (as := [(.inr (.inr (some 0)))]) (by decide +kernel) rfl (by decide +kernel) rfl rfl rfl rfl rfl rfl (by decide +kernel) (by decide +kernel)) hD3 rfl ?_
    refine g_i2l 7 (show op 419 6 = some (.i2l, 1) by decide +kernel) rfl ?_
    refine g_lastore 8 1 (show op 419 7 = some (.lastore, 1) by decide +kernel) rfl (by decide +kernel) (by decide) ?_
    refine g_goto 14 (show op 419 8 = some (.goto 6, 3) by decide +kernel) rfl ?_
    refine g_iconst 15 (show op 419 14 = some (.iconst 0, 1) by decide +kernel) rfl rfl ?_
    exact (g_iret (show op 419 15 = some (.ireturn, 1) by decide +kernel) (by decide +kernel) h)
  · exact g_callH (E := 2) (c := 1) 6 (show op 419 3 = some (.invokevirtual 110, 3) by decide +kernel) (call_vi' (k' := 1) (n' := 6) (nj := 1) (j := 202) (k9 := 20) (t := [(.inl 0), (.inr (.inr (some 726)))]) (as := [(.inr (.inr (some 0)))]) (by decide +kernel) rfl (by decide +kernel) rfl rfl rfl rfl rfl rfl (by decide +kernel) (by decide +kernel)) hD0 (by decide +kernel) rfl h
/-- PatchBenchLaw.take (LPatchBench;I[J)I -/
theorem b420 {x1 : Int} {σ : Sg} {o : Rs}   (h : ((∃ (v2 : Int) (s1 : Sg), Dd 203 [(.inr (.inr (some 0))), (.inl x1)] σ (.inl (some (.inl v2)), s1) ∧ o = (.inl (some (.inl 0)), (upS s1 726 ((0 : Int).toNat) v2))) ∨ (∃ s0 : Sg, Dd 203 [(.inr (.inr (some 0))), (.inl x1)] σ (.inr 0, s0) ∧ o = (.inl (some (.inl 1)), s0)) ∨ (∃ s0 : Sg, Dd 203 [(.inr (.inr (some 0))), (.inl x1)] σ (.inr 2, s0) ∧ o = (.inl (some (.inl 2)), s0)))) : Dd 420 [(.inr (.inr (some 0))), (.inl x1), (.inr (.inr (some 726)))] σ o := by
  refine Dd_of (l := 4) (by decide +kernel) ?_
  show Gd 420 0 [(some (.inr (.inr (some 0)))), (some (.inl x1)), (some (.inr (.inr (some 726)))), none] [] σ 0 0 o
  refine g_aload_n 1 (show op 420 0 = some (.aload_n 2, 1) by decide +kernel) rfl rfl ?_
  refine g_iconst 2 (show op 420 1 = some (.iconst 0, 1) by decide +kernel) rfl rfl ?_
  refine g_aload_n 3 (show op 420 2 = some (.aload_n 0, 1) by decide +kernel) rfl rfl ?_
  refine g_iload_n 4 (show op 420 3 = some (.iload_n 1, 1) by decide +kernel) rfl rfl ?_
  rcases h with ⟨v2, s1, hD3, h⟩ | ⟨s0, hD0, h⟩ | ⟨s0, hD0, h⟩
  · refine g_call 7 [(.inl v2), (.inl 0), (.inr (.inr (some 726)))] (show op 420 4 = some (.invokevirtual 114, 3) by decide +kernel) (call_vi' (k' := 2) (n' := 12) (nj := 2) (j := 203) (k9 := 20) (t := [(.inl 0), (.inr (.inr (some 726)))]) (as := [(.inr (.inr (some 0))), (.inl x1)]) (by decide +kernel) rfl (by decide +kernel) rfl rfl rfl rfl rfl rfl (by decide +kernel) (by decide +kernel)) hD3 rfl ?_
    refine g_i2l 8 (show op 420 7 = some (.i2l, 1) by decide +kernel) rfl ?_
    refine g_lastore 9 1 (show op 420 8 = some (.lastore, 1) by decide +kernel) rfl (by decide +kernel) (by decide) ?_
    refine g_goto 18 (show op 420 9 = some (.goto 9, 3) by decide +kernel) rfl ?_
    refine g_iconst 19 (show op 420 18 = some (.iconst 0, 1) by decide +kernel) rfl rfl ?_
    exact (g_iret (show op 420 19 = some (.ireturn, 1) by decide +kernel) (by decide +kernel) h)
  · exact g_callH (E := 0) (c := 1) 7 (show op 420 4 = some (.invokevirtual 114, 3) by decide +kernel) (call_vi' (k' := 2) (n' := 12) (nj := 2) (j := 203) (k9 := 20) (t := [(.inl 0), (.inr (.inr (some 726)))]) (as := [(.inr (.inr (some 0))), (.inl x1)]) (by decide +kernel) rfl (by decide +kernel) rfl rfl rfl rfl rfl rfl (by decide +kernel) (by decide +kernel)) hD0 (by decide +kernel) rfl h
  · exact g_callH (E := 2) (c := 2) 7 (show op 420 4 = some (.invokevirtual 114, 3) by decide +kernel) (call_vi' (k' := 2) (n' := 12) (nj := 2) (j := 203) (k9 := 20) (t := [(.inl 0), (.inr (.inr (some 726)))]) (as := [(.inr (.inr (some 0))), (.inl x1)]) (by decide +kernel) rfl (by decide +kernel) rfl rfl rfl rfl rfl rfl (by decide +kernel) (by decide +kernel)) hD0 (by decide +kernel) rfl h
/-- PatchBenchLaw.swap (LPatchBench;I[J)I -/
theorem b421 {x1 : Int} {σ : Sg} {o : Rs}   (h : ((∃ (v2 : Int) (s1 : Sg), Dd 204 [(.inr (.inr (some 0))), (.inl x1)] σ (.inl (some (.inl v2)), s1) ∧ o = (.inl (some (.inl 0)), (upS s1 726 ((0 : Int).toNat) v2))) ∨ (∃ s0 : Sg, Dd 204 [(.inr (.inr (some 0))), (.inl x1)] σ (.inr 0, s0) ∧ o = (.inl (some (.inl 1)), s0)) ∨ (∃ s0 : Sg, Dd 204 [(.inr (.inr (some 0))), (.inl x1)] σ (.inr 2, s0) ∧ o = (.inl (some (.inl 2)), s0)))) : Dd 421 [(.inr (.inr (some 0))), (.inl x1), (.inr (.inr (some 726)))] σ o := by
  refine Dd_of (l := 4) (by decide +kernel) ?_
  show Gd 421 0 [(some (.inr (.inr (some 0)))), (some (.inl x1)), (some (.inr (.inr (some 726)))), none] [] σ 0 0 o
  refine g_aload_n 1 (show op 421 0 = some (.aload_n 2, 1) by decide +kernel) rfl rfl ?_
  refine g_iconst 2 (show op 421 1 = some (.iconst 0, 1) by decide +kernel) rfl rfl ?_
  refine g_aload_n 3 (show op 421 2 = some (.aload_n 0, 1) by decide +kernel) rfl rfl ?_
  refine g_iload_n 4 (show op 421 3 = some (.iload_n 1, 1) by decide +kernel) rfl rfl ?_
  rcases h with ⟨v2, s1, hD3, h⟩ | ⟨s0, hD0, h⟩ | ⟨s0, hD0, h⟩
  · refine g_call 7 [(.inl v2), (.inl 0), (.inr (.inr (some 726)))] (show op 421 4 = some (.invokevirtual 117, 3) by decide +kernel) (call_vi' (k' := 2) (n' := 12) (nj := 2) (j := 204) (k9 := 20) (t := [(.inl 0), (.inr (.inr (some 726)))]) (as := [(.inr (.inr (some 0))), (.inl x1)]) (by decide +kernel) rfl (by decide +kernel) rfl rfl rfl rfl rfl rfl (by decide +kernel) (by decide +kernel)) hD3 rfl ?_
    refine g_i2l 8 (show op 421 7 = some (.i2l, 1) by decide +kernel) rfl ?_
    refine g_lastore 9 1 (show op 421 8 = some (.lastore, 1) by decide +kernel) rfl (by decide +kernel) (by decide) ?_
    refine g_goto 18 (show op 421 9 = some (.goto 9, 3) by decide +kernel) rfl ?_
    refine g_iconst 19 (show op 421 18 = some (.iconst 0, 1) by decide +kernel) rfl rfl ?_
    exact (g_iret (show op 421 19 = some (.ireturn, 1) by decide +kernel) (by decide +kernel) h)
  · exact g_callH (E := 0) (c := 1) 7 (show op 421 4 = some (.invokevirtual 117, 3) by decide +kernel) (call_vi' (k' := 2) (n' := 12) (nj := 2) (j := 204) (k9 := 20) (t := [(.inl 0), (.inr (.inr (some 726)))]) (as := [(.inr (.inr (some 0))), (.inl x1)]) (by decide +kernel) rfl (by decide +kernel) rfl rfl rfl rfl rfl rfl (by decide +kernel) (by decide +kernel)) hD0 (by decide +kernel) rfl h
  · exact g_callH (E := 2) (c := 2) 7 (show op 421 4 = some (.invokevirtual 117, 3) by decide +kernel) (call_vi' (k' := 2) (n' := 12) (nj := 2) (j := 204) (k9 := 20) (t := [(.inl 0), (.inr (.inr (some 726)))]) (as := [(.inr (.inr (some 0))), (.inl x1)]) (by decide +kernel) rfl (by decide +kernel) rfl rfl rfl rfl rfl rfl (by decide +kernel) (by decide +kernel)) hD0 (by decide +kernel) rfl h
/-- PatchBenchLaw.fold (LPatchBench;I[J)I -/
theorem b422 {x1 : Int} {σ : Sg} {o : Rs}   (h : ((∃ (v2 : Int) (s1 : Sg), Dd 205 [(.inr (.inr (some 0))), (.inl x1)] σ (.inl (some (.inl v2)), s1) ∧ o = (.inl (some (.inl 0)), (upS s1 726 ((0 : Int).toNat) v2))) ∨ (∃ s0 : Sg, Dd 205 [(.inr (.inr (some 0))), (.inl x1)] σ (.inr 0, s0) ∧ o = (.inl (some (.inl 1)), s0)))) : Dd 422 [(.inr (.inr (some 0))), (.inl x1), (.inr (.inr (some 726)))] σ o := by
  refine Dd_of (l := 4) (by decide +kernel) ?_
  show Gd 422 0 [(some (.inr (.inr (some 0)))), (some (.inl x1)), (some (.inr (.inr (some 726)))), none] [] σ 0 0 o
  refine g_aload_n 1 (show op 422 0 = some (.aload_n 2, 1) by decide +kernel) rfl rfl ?_
  refine g_iconst 2 (show op 422 1 = some (.iconst 0, 1) by decide +kernel) rfl rfl ?_
  refine g_aload_n 3 (show op 422 2 = some (.aload_n 0, 1) by decide +kernel) rfl rfl ?_
  refine g_iload_n 4 (show op 422 3 = some (.iload_n 1, 1) by decide +kernel) rfl rfl ?_
  rcases h with ⟨v2, s1, hD3, h⟩ | ⟨s0, hD0, h⟩
  · refine g_call 7 [(.inl v2), (.inl 0), (.inr (.inr (some 726)))] (show op 422 4 = some (.invokevirtual 120, 3) by decide +kernel) (call_vi' (k' := 2) (n' := 12) (nj := 2) (j := 205) (k9 := 20) (t := [(.inl 0), (.inr (.inr (some 726)))]) (as := [(.inr (.inr (some 0))), (.inl x1)]) (by decide +kernel) rfl (by decide +kernel) rfl rfl rfl rfl rfl rfl (by decide +kernel) (by decide +kernel)) hD3 rfl ?_
    refine g_i2l 8 (show op 422 7 = some (.i2l, 1) by decide +kernel) rfl ?_
    refine g_lastore 9 1 (show op 422 8 = some (.lastore, 1) by decide +kernel) rfl (by decide +kernel) (by decide) ?_
    refine g_goto 15 (show op 422 9 = some (.goto 6, 3) by decide +kernel) rfl ?_
    refine g_iconst 16 (show op 422 15 = some (.iconst 0, 1) by decide +kernel) rfl rfl ?_
    exact (g_iret (show op 422 16 = some (.ireturn, 1) by decide +kernel) (by decide +kernel) h)
  · exact g_callH (E := 0) (c := 1) 7 (show op 422 4 = some (.invokevirtual 120, 3) by decide +kernel) (call_vi' (k' := 2) (n' := 12) (nj := 2) (j := 205) (k9 := 20) (t := [(.inl 0), (.inr (.inr (some 726)))]) (as := [(.inr (.inr (some 0))), (.inl x1)]) (by decide +kernel) rfl (by decide +kernel) rfl rfl rfl rfl rfl rfl (by decide +kernel) (by decide +kernel)) hD0 (by decide +kernel) rfl h
/-- PatchBenchLaw.edit (LPatchBench;III[J)I -/
theorem b423 {x1 : Int} {x2 : Int} {x3 : Int} {σ : Sg} {o : Rs}   (h : ((∃ (v2 : Int) (s1 : Sg), Dd 206 [(.inr (.inr (some 0))), (.inl x1), (.inl x2), (.inl x3)] σ (.inl (some (.inl v2)), s1) ∧ o = (.inl (some (.inl 0)), (upS s1 726 ((0 : Int).toNat) v2))) ∨ (∃ s0 : Sg, Dd 206 [(.inr (.inr (some 0))), (.inl x1), (.inl x2), (.inl x3)] σ (.inr 0, s0) ∧ o = (.inl (some (.inl 1)), s0)) ∨ (∃ s0 : Sg, Dd 206 [(.inr (.inr (some 0))), (.inl x1), (.inl x2), (.inl x3)] σ (.inr 1, s0) ∧ o = (.inl (some (.inl 2)), s0)) ∨ (∃ s0 : Sg, Dd 206 [(.inr (.inr (some 0))), (.inl x1), (.inl x2), (.inl x3)] σ (.inr 2, s0) ∧ o = (.inl (some (.inl 3)), s0)))) : Dd 423 [(.inr (.inr (some 0))), (.inl x1), (.inl x2), (.inl x3), (.inr (.inr (some 726)))] σ o := by
  refine Dd_of (l := 6) (by decide +kernel) ?_
  show Gd 423 0 [(some (.inr (.inr (some 0)))), (some (.inl x1)), (some (.inl x2)), (some (.inl x3)), (some (.inr (.inr (some 726)))), none] [] σ 0 0 o
  refine g_aload 2 (show op 423 0 = some (.aload 4, 2) by decide +kernel) rfl rfl ?_
  refine g_iconst 3 (show op 423 2 = some (.iconst 0, 1) by decide +kernel) rfl rfl ?_
  refine g_aload_n 4 (show op 423 3 = some (.aload_n 0, 1) by decide +kernel) rfl rfl ?_
  refine g_iload_n 5 (show op 423 4 = some (.iload_n 1, 1) by decide +kernel) rfl rfl ?_
  refine g_iload_n 6 (show op 423 5 = some (.iload_n 2, 1) by decide +kernel) rfl rfl ?_
  refine g_iload_n 7 (show op 423 6 = some (.iload_n 3, 1) by decide +kernel) rfl rfl ?_
  rcases h with ⟨v2, s1, hD3, h⟩ | ⟨s0, hD0, h⟩ | ⟨s0, hD0, h⟩ | ⟨s0, hD0, h⟩
  · refine g_call 10 [(.inl v2), (.inl 0), (.inr (.inr (some 726)))] (show op 423 7 = some (.invokevirtual 123, 3) by decide +kernel) (call_vi' (k' := 4) (n' := 24) (nj := 4) (j := 206) (k9 := 20) (t := [(.inl 0), (.inr (.inr (some 726)))]) (as := [(.inr (.inr (some 0))), (.inl x1), (.inl x2), (.inl x3)]) (by decide +kernel) rfl (by decide +kernel) rfl rfl rfl rfl rfl rfl (by decide +kernel) (by decide +kernel)) hD3 rfl ?_
    refine g_i2l 11 (show op 423 10 = some (.i2l, 1) by decide +kernel) rfl ?_
    refine g_lastore 12 1 (show op 423 11 = some (.lastore, 1) by decide +kernel) rfl (by decide +kernel) (by decide) ?_
    refine g_goto 27 (show op 423 12 = some (.goto 15, 3) by decide +kernel) rfl ?_
    refine g_iconst 28 (show op 423 27 = some (.iconst 0, 1) by decide +kernel) rfl rfl ?_
    exact (g_iret (show op 423 28 = some (.ireturn, 1) by decide +kernel) (by decide +kernel) h)
  · exact g_callH (E := 0) (c := 1) 10 (show op 423 7 = some (.invokevirtual 123, 3) by decide +kernel) (call_vi' (k' := 4) (n' := 24) (nj := 4) (j := 206) (k9 := 20) (t := [(.inl 0), (.inr (.inr (some 726)))]) (as := [(.inr (.inr (some 0))), (.inl x1), (.inl x2), (.inl x3)]) (by decide +kernel) rfl (by decide +kernel) rfl rfl rfl rfl rfl rfl (by decide +kernel) (by decide +kernel)) hD0 (by decide +kernel) rfl h
  · exact g_callH (E := 1) (c := 2) 10 (show op 423 7 = some (.invokevirtual 123, 3) by decide +kernel) (call_vi' (k' := 4) (n' := 24) (nj := 4) (j := 206) (k9 := 20) (t := [(.inl 0), (.inr (.inr (some 726)))]) (as := [(.inr (.inr (some 0))), (.inl x1), (.inl x2), (.inl x3)]) (by decide +kernel) rfl (by decide +kernel) rfl rfl rfl rfl rfl rfl (by decide +kernel) (by decide +kernel)) hD0 (by decide +kernel) rfl h
  · exact g_callH (E := 2) (c := 3) 10 (show op 423 7 = some (.invokevirtual 123, 3) by decide +kernel) (call_vi' (k' := 4) (n' := 24) (nj := 4) (j := 206) (k9 := 20) (t := [(.inl 0), (.inr (.inr (some 726)))]) (as := [(.inr (.inr (some 0))), (.inl x1), (.inl x2), (.inl x3)]) (by decide +kernel) rfl (by decide +kernel) rfl rfl rfl rfl rfl rfl (by decide +kernel) (by decide +kernel)) hD0 (by decide +kernel) rfl h
/-- PatchBenchLaw.refresh (LPatchBench;II[J)I -/
theorem b424 {x1 : Int} {x2 : Int} {σ : Sg} {o : Rs}   (h : ((∃ (v2 : Int) (s1 : Sg), Dd 207 [(.inr (.inr (some 0))), (.inl x1), (.inl x2)] σ (.inl (some (.inl v2)), s1) ∧ o = (.inl (some (.inl 0)), (upS s1 726 ((0 : Int).toNat) v2))) ∨ (∃ s0 : Sg, Dd 207 [(.inr (.inr (some 0))), (.inl x1), (.inl x2)] σ (.inr 0, s0) ∧ o = (.inl (some (.inl 1)), s0)) ∨ (∃ s0 : Sg, Dd 207 [(.inr (.inr (some 0))), (.inl x1), (.inl x2)] σ (.inr 1, s0) ∧ o = (.inl (some (.inl 2)), s0)) ∨ (∃ s0 : Sg, Dd 207 [(.inr (.inr (some 0))), (.inl x1), (.inl x2)] σ (.inr 2, s0) ∧ o = (.inl (some (.inl 3)), s0)))) : Dd 424 [(.inr (.inr (some 0))), (.inl x1), (.inl x2), (.inr (.inr (some 726)))] σ o := by
  refine Dd_of (l := 5) (by decide +kernel) ?_
  show Gd 424 0 [(some (.inr (.inr (some 0)))), (some (.inl x1)), (some (.inl x2)), (some (.inr (.inr (some 726)))), none] [] σ 0 0 o
  refine g_aload_n 1 (show op 424 0 = some (.aload_n 3, 1) by decide +kernel) rfl rfl ?_
  refine g_iconst 2 (show op 424 1 = some (.iconst 0, 1) by decide +kernel) rfl rfl ?_
  refine g_aload_n 3 (show op 424 2 = some (.aload_n 0, 1) by decide +kernel) rfl rfl ?_
  refine g_iload_n 4 (show op 424 3 = some (.iload_n 1, 1) by decide +kernel) rfl rfl ?_
  refine g_iload_n 5 (show op 424 4 = some (.iload_n 2, 1) by decide +kernel) rfl rfl ?_
  rcases h with ⟨v2, s1, hD3, h⟩ | ⟨s0, hD0, h⟩ | ⟨s0, hD0, h⟩ | ⟨s0, hD0, h⟩
  · refine g_call 8 [(.inl v2), (.inl 0), (.inr (.inr (some 726)))] (show op 424 5 = some (.invokevirtual 126, 3) by decide +kernel) (call_vi' (k' := 4) (n' := 24) (nj := 3) (j := 207) (k9 := 20) (t := [(.inl 0), (.inr (.inr (some 726)))]) (as := [(.inr (.inr (some 0))), (.inl x1), (.inl x2)]) (by decide +kernel) rfl (by decide +kernel) rfl rfl rfl rfl rfl rfl (by decide +kernel) (by decide +kernel)) hD3 rfl ?_
    refine g_i2l 9 (show op 424 8 = some (.i2l, 1) by decide +kernel) rfl ?_
    refine g_lastore 10 1 (show op 424 9 = some (.lastore, 1) by decide +kernel) rfl (by decide +kernel) (by decide) ?_
    refine g_goto 25 (show op 424 10 = some (.goto 15, 3) by decide +kernel) rfl ?_
    refine g_iconst 26 (show op 424 25 = some (.iconst 0, 1) by decide +kernel) rfl rfl ?_
    exact (g_iret (show op 424 26 = some (.ireturn, 1) by decide +kernel) (by decide +kernel) h)
  · exact g_callH (E := 0) (c := 1) 8 (show op 424 5 = some (.invokevirtual 126, 3) by decide +kernel) (call_vi' (k' := 4) (n' := 24) (nj := 3) (j := 207) (k9 := 20) (t := [(.inl 0), (.inr (.inr (some 726)))]) (as := [(.inr (.inr (some 0))), (.inl x1), (.inl x2)]) (by decide +kernel) rfl (by decide +kernel) rfl rfl rfl rfl rfl rfl (by decide +kernel) (by decide +kernel)) hD0 (by decide +kernel) rfl h
  · exact g_callH (E := 1) (c := 2) 8 (show op 424 5 = some (.invokevirtual 126, 3) by decide +kernel) (call_vi' (k' := 4) (n' := 24) (nj := 3) (j := 207) (k9 := 20) (t := [(.inl 0), (.inr (.inr (some 726)))]) (as := [(.inr (.inr (some 0))), (.inl x1), (.inl x2)]) (by decide +kernel) rfl (by decide +kernel) rfl rfl rfl rfl rfl rfl (by decide +kernel) (by decide +kernel)) hD0 (by decide +kernel) rfl h
  · exact g_callH (E := 2) (c := 3) 8 (show op 424 5 = some (.invokevirtual 126, 3) by decide +kernel) (call_vi' (k' := 4) (n' := 24) (nj := 3) (j := 207) (k9 := 20) (t := [(.inl 0), (.inr (.inr (some 726)))]) (as := [(.inr (.inr (some 0))), (.inl x1), (.inl x2)]) (by decide +kernel) rfl (by decide +kernel) rfl rfl rfl rfl rfl rfl (by decide +kernel) (by decide +kernel)) hD0 (by decide +kernel) rfl h
/-- PatchBenchLaw.nameAt (LPatchBench;I[J)I -/
theorem b425 {x1 : Int} {σ : Sg} {o : Rs}   (h : ((∃ (v2 : Int) (s1 : Sg), Dd 209 [(.inr (.inr (some 0))), (.inl x1)] σ (.inl (some (.inl v2)), s1) ∧ o = (.inl (some (.inl 0)), (upS s1 726 ((0 : Int).toNat) v2))) ∨ (∃ s0 : Sg, Dd 209 [(.inr (.inr (some 0))), (.inl x1)] σ (.inr 0, s0) ∧ o = (.inl (some (.inl 1)), s0)))) : Dd 425 [(.inr (.inr (some 0))), (.inl x1), (.inr (.inr (some 726)))] σ o := by
  refine Dd_of (l := 4) (by decide +kernel) ?_
  show Gd 425 0 [(some (.inr (.inr (some 0)))), (some (.inl x1)), (some (.inr (.inr (some 726)))), none] [] σ 0 0 o
  refine g_aload_n 1 (show op 425 0 = some (.aload_n 2, 1) by decide +kernel) rfl rfl ?_
  refine g_iconst 2 (show op 425 1 = some (.iconst 0, 1) by decide +kernel) rfl rfl ?_
  refine g_aload_n 3 (show op 425 2 = some (.aload_n 0, 1) by decide +kernel) rfl rfl ?_
  refine g_iload_n 4 (show op 425 3 = some (.iload_n 1, 1) by decide +kernel) rfl rfl ?_
  rcases h with ⟨v2, s1, hD3, h⟩ | ⟨s0, hD0, h⟩
  · refine g_call 7 [(.inl v2), (.inl 0), (.inr (.inr (some 726)))] (show op 425 4 = some (.invokevirtual 129, 3) by decide +kernel) (call_vi' (k' := 1) (n' := 6) (nj := 2) (j := 209) (k9 := 20) (t := [(.inl 0), (.inr (.inr (some 726)))]) (as := [(.inr (.inr (some 0))), (.inl x1)]) (by decide +kernel) rfl (by decide +kernel) rfl rfl rfl rfl rfl rfl (by decide +kernel) (by decide +kernel)) hD3 rfl ?_
    refine g_i2l 8 (show op 425 7 = some (.i2l, 1) by decide +kernel) rfl ?_
    refine g_lastore 9 1 (show op 425 8 = some (.lastore, 1) by decide +kernel) rfl (by decide +kernel) (by decide) ?_
    refine g_goto 15 (show op 425 9 = some (.goto 6, 3) by decide +kernel) rfl ?_
    refine g_iconst 16 (show op 425 15 = some (.iconst 0, 1) by decide +kernel) rfl rfl ?_
    exact (g_iret (show op 425 16 = some (.ireturn, 1) by decide +kernel) (by decide +kernel) h)
  · exact g_callH (E := 0) (c := 1) 7 (show op 425 4 = some (.invokevirtual 129, 3) by decide +kernel) (call_vi' (k' := 1) (n' := 6) (nj := 2) (j := 209) (k9 := 20) (t := [(.inl 0), (.inr (.inr (some 726)))]) (as := [(.inr (.inr (some 0))), (.inl x1)]) (by decide +kernel) rfl (by decide +kernel) rfl rfl rfl rfl rfl rfl (by decide +kernel) (by decide +kernel)) hD0 (by decide +kernel) rfl h
/-- PatchBenchLaw.top (LPatchBench;I[J)I -/
theorem b426 {x1 : Int} {σ : Sg} {o : Rs}   (h : ((∃ (v2 : Int) (s1 : Sg), Dd 210 [(.inr (.inr (some 0))), (.inl x1)] σ (.inl (some (.inl v2)), s1) ∧ o = (.inl (some (.inl 0)), (upS s1 726 ((0 : Int).toNat) v2))) ∨ (∃ s0 : Sg, Dd 210 [(.inr (.inr (some 0))), (.inl x1)] σ (.inr 0, s0) ∧ o = (.inl (some (.inl 1)), s0)))) : Dd 426 [(.inr (.inr (some 0))), (.inl x1), (.inr (.inr (some 726)))] σ o := by
  refine Dd_of (l := 4) (by decide +kernel) ?_
  show Gd 426 0 [(some (.inr (.inr (some 0)))), (some (.inl x1)), (some (.inr (.inr (some 726)))), none] [] σ 0 0 o
  refine g_aload_n 1 (show op 426 0 = some (.aload_n 2, 1) by decide +kernel) rfl rfl ?_
  refine g_iconst 2 (show op 426 1 = some (.iconst 0, 1) by decide +kernel) rfl rfl ?_
  refine g_aload_n 3 (show op 426 2 = some (.aload_n 0, 1) by decide +kernel) rfl rfl ?_
  refine g_iload_n 4 (show op 426 3 = some (.iload_n 1, 1) by decide +kernel) rfl rfl ?_
  rcases h with ⟨v2, s1, hD3, h⟩ | ⟨s0, hD0, h⟩
  · refine g_call 7 [(.inl v2), (.inl 0), (.inr (.inr (some 726)))] (show op 426 4 = some (.invokevirtual 132, 3) by decide +kernel) (call_vi' (k' := 1) (n' := 6) (nj := 2) (j := 210) (k9 := 20) (t := [(.inl 0), (.inr (.inr (some 726)))]) (as := [(.inr (.inr (some 0))), (.inl x1)]) (by decide +kernel) rfl (by decide +kernel) rfl rfl rfl rfl rfl rfl (by decide +kernel) (by decide +kernel)) hD3 rfl ?_
    refine g_i2l 8 (show op 426 7 = some (.i2l, 1) by decide +kernel) rfl ?_
    refine g_lastore 9 1 (show op 426 8 = some (.lastore, 1) by decide +kernel) rfl (by decide +kernel) (by decide) ?_
    refine g_goto 15 (show op 426 9 = some (.goto 6, 3) by decide +kernel) rfl ?_
    refine g_iconst 16 (show op 426 15 = some (.iconst 0, 1) by decide +kernel) rfl rfl ?_
    exact (g_iret (show op 426 16 = some (.ireturn, 1) by decide +kernel) (by decide +kernel) h)
  · exact g_callH (E := 0) (c := 1) 7 (show op 426 4 = some (.invokevirtual 132, 3) by decide +kernel) (call_vi' (k' := 1) (n' := 6) (nj := 2) (j := 210) (k9 := 20) (t := [(.inl 0), (.inr (.inr (some 726)))]) (as := [(.inr (.inr (some 0))), (.inl x1)]) (by decide +kernel) rfl (by decide +kernel) rfl rfl rfl rfl rfl rfl (by decide +kernel) (by decide +kernel)) hD0 (by decide +kernel) rfl h
/-- PatchBenchLaw.needs (LPatchBench;I[J)I -/
theorem b427 {x1 : Int} {σ : Sg} {o : Rs}   (h : ((∃ (v2 : Int) (s1 : Sg), Dd 211 [(.inr (.inr (some 0))), (.inl x1)] σ (.inl (some (.inl v2)), s1) ∧ o = (.inl (some (.inl 0)), (upS s1 726 ((0 : Int).toNat) v2))) ∨ (∃ s0 : Sg, Dd 211 [(.inr (.inr (some 0))), (.inl x1)] σ (.inr 0, s0) ∧ o = (.inl (some (.inl 1)), s0)))) : Dd 427 [(.inr (.inr (some 0))), (.inl x1), (.inr (.inr (some 726)))] σ o := by
  refine Dd_of (l := 4) (by decide +kernel) ?_
  show Gd 427 0 [(some (.inr (.inr (some 0)))), (some (.inl x1)), (some (.inr (.inr (some 726)))), none] [] σ 0 0 o
  refine g_aload_n 1 (show op 427 0 = some (.aload_n 2, 1) by decide +kernel) rfl rfl ?_
  refine g_iconst 2 (show op 427 1 = some (.iconst 0, 1) by decide +kernel) rfl rfl ?_
  refine g_aload_n 3 (show op 427 2 = some (.aload_n 0, 1) by decide +kernel) rfl rfl ?_
  refine g_iload_n 4 (show op 427 3 = some (.iload_n 1, 1) by decide +kernel) rfl rfl ?_
  rcases h with ⟨v2, s1, hD3, h⟩ | ⟨s0, hD0, h⟩
  · refine g_call 7 [(.inl v2), (.inl 0), (.inr (.inr (some 726)))] (show op 427 4 = some (.invokevirtual 135, 3) by decide +kernel) (call_vi' (k' := 1) (n' := 6) (nj := 2) (j := 211) (k9 := 20) (t := [(.inl 0), (.inr (.inr (some 726)))]) (as := [(.inr (.inr (some 0))), (.inl x1)]) (by decide +kernel) rfl (by decide +kernel) rfl rfl rfl rfl rfl rfl (by decide +kernel) (by decide +kernel)) hD3 rfl ?_
    refine g_i2l 8 (show op 427 7 = some (.i2l, 1) by decide +kernel) rfl ?_
    refine g_lastore 9 1 (show op 427 8 = some (.lastore, 1) by decide +kernel) rfl (by decide +kernel) (by decide) ?_
    refine g_goto 15 (show op 427 9 = some (.goto 6, 3) by decide +kernel) rfl ?_
    refine g_iconst 16 (show op 427 15 = some (.iconst 0, 1) by decide +kernel) rfl rfl ?_
    exact (g_iret (show op 427 16 = some (.ireturn, 1) by decide +kernel) (by decide +kernel) h)
  · exact g_callH (E := 0) (c := 1) 7 (show op 427 4 = some (.invokevirtual 135, 3) by decide +kernel) (call_vi' (k' := 1) (n' := 6) (nj := 2) (j := 211) (k9 := 20) (t := [(.inl 0), (.inr (.inr (some 726)))]) (as := [(.inr (.inr (some 0))), (.inl x1)]) (by decide +kernel) rfl (by decide +kernel) rfl rfl rfl rfl rfl rfl (by decide +kernel) (by decide +kernel)) hD0 (by decide +kernel) rfl h
/-- PatchBenchLaw.orders (LPatchBench;[J)I -/
theorem b428 {σ : Sg} {o : Rs}   (h : ((∃ (v2 : Int) (s1 : Sg), Dd 212 [(.inr (.inr (some 0)))] σ (.inl (some (.inl v2)), s1) ∧ o = (.inl (some (.inl 0)), (upS s1 726 ((0 : Int).toNat) v2))) ∨ (∃ s0 : Sg, Dd 212 [(.inr (.inr (some 0)))] σ (.inr 2, s0) ∧ o = (.inl (some (.inl 1)), s0)))) : Dd 428 [(.inr (.inr (some 0))), (.inr (.inr (some 726)))] σ o := by
  refine Dd_of (l := 3) (by decide +kernel) ?_
  show Gd 428 0 [(some (.inr (.inr (some 0)))), (some (.inr (.inr (some 726)))), none] [] σ 0 0 o
  refine g_aload_n 1 (show op 428 0 = some (.aload_n 1, 1) by decide +kernel) rfl rfl ?_
  refine g_iconst 2 (show op 428 1 = some (.iconst 0, 1) by decide +kernel) rfl rfl ?_
  refine g_aload_n 3 (show op 428 2 = some (.aload_n 0, 1) by decide +kernel) rfl rfl ?_
  rcases h with ⟨v2, s1, hD3, h⟩ | ⟨s0, hD0, h⟩
  · refine g_call 6 [(.inl v2), (.inl 0), (.inr (.inr (some 726)))] (show op 428 3 = some (.invokevirtual 138, 3) by decide +kernel) (call_vi' (k' := 1) (n' := 6) (nj := 1) (j := 212) (k9 := 20) (t := [(.inl 0), (.inr (.inr (some 726)))]) (as := [(.inr (.inr (some 0)))]) (by decide +kernel) rfl (by decide +kernel) rfl rfl rfl rfl rfl rfl (by decide +kernel) (by decide +kernel)) hD3 rfl ?_
    refine g_i2l 7 (show op 428 6 = some (.i2l, 1) by decide +kernel) rfl ?_
    refine g_lastore 8 1 (show op 428 7 = some (.lastore, 1) by decide +kernel) rfl (by decide +kernel) (by decide) ?_
    refine g_goto 14 (show op 428 8 = some (.goto 6, 3) by decide +kernel) rfl ?_
    refine g_iconst 15 (show op 428 14 = some (.iconst 0, 1) by decide +kernel) rfl rfl ?_
    exact (g_iret (show op 428 15 = some (.ireturn, 1) by decide +kernel) (by decide +kernel) h)
  · exact g_callH (E := 2) (c := 1) 6 (show op 428 3 = some (.invokevirtual 138, 3) by decide +kernel) (call_vi' (k' := 1) (n' := 6) (nj := 1) (j := 212) (k9 := 20) (t := [(.inl 0), (.inr (.inr (some 726)))]) (as := [(.inr (.inr (some 0)))]) (by decide +kernel) rfl (by decide +kernel) rfl rfl rfl rfl rfl rfl (by decide +kernel) (by decide +kernel)) hD0 (by decide +kernel) rfl h
/-- PatchBenchLaw.blame (LPatchBench;I[J)I -/
theorem b429 {x1 : Int} {σ : Sg} {o : Rs}   (h : ((∃ (v2 : Int) (s1 : Sg), Dd 213 [(.inr (.inr (some 0))), (.inl x1)] σ (.inl (some (.inl v2)), s1) ∧ o = (.inl (some (.inl 0)), (upS s1 726 ((0 : Int).toNat) v2))) ∨ (∃ s0 : Sg, Dd 213 [(.inr (.inr (some 0))), (.inl x1)] σ (.inr 0, s0) ∧ o = (.inl (some (.inl 1)), s0)))) : Dd 429 [(.inr (.inr (some 0))), (.inl x1), (.inr (.inr (some 726)))] σ o := by
  refine Dd_of (l := 4) (by decide +kernel) ?_
  show Gd 429 0 [(some (.inr (.inr (some 0)))), (some (.inl x1)), (some (.inr (.inr (some 726)))), none] [] σ 0 0 o
  refine g_aload_n 1 (show op 429 0 = some (.aload_n 2, 1) by decide +kernel) rfl rfl ?_
  refine g_iconst 2 (show op 429 1 = some (.iconst 0, 1) by decide +kernel) rfl rfl ?_
  refine g_aload_n 3 (show op 429 2 = some (.aload_n 0, 1) by decide +kernel) rfl rfl ?_
  refine g_iload_n 4 (show op 429 3 = some (.iload_n 1, 1) by decide +kernel) rfl rfl ?_
  rcases h with ⟨v2, s1, hD3, h⟩ | ⟨s0, hD0, h⟩
  · refine g_call 7 [(.inl v2), (.inl 0), (.inr (.inr (some 726)))] (show op 429 4 = some (.invokevirtual 141, 3) by decide +kernel) (call_vi' (k' := 1) (n' := 6) (nj := 2) (j := 213) (k9 := 20) (t := [(.inl 0), (.inr (.inr (some 726)))]) (as := [(.inr (.inr (some 0))), (.inl x1)]) (by decide +kernel) rfl (by decide +kernel) rfl rfl rfl rfl rfl rfl (by decide +kernel) (by decide +kernel)) hD3 rfl ?_
    refine g_i2l 8 (show op 429 7 = some (.i2l, 1) by decide +kernel) rfl ?_
    refine g_lastore 9 1 (show op 429 8 = some (.lastore, 1) by decide +kernel) rfl (by decide +kernel) (by decide) ?_
    refine g_goto 15 (show op 429 9 = some (.goto 6, 3) by decide +kernel) rfl ?_
    refine g_iconst 16 (show op 429 15 = some (.iconst 0, 1) by decide +kernel) rfl rfl ?_
    exact (g_iret (show op 429 16 = some (.ireturn, 1) by decide +kernel) (by decide +kernel) h)
  · exact g_callH (E := 0) (c := 1) 7 (show op 429 4 = some (.invokevirtual 141, 3) by decide +kernel) (call_vi' (k' := 1) (n' := 6) (nj := 2) (j := 213) (k9 := 20) (t := [(.inl 0), (.inr (.inr (some 726)))]) (as := [(.inr (.inr (some 0))), (.inl x1)]) (by decide +kernel) rfl (by decide +kernel) rfl rfl rfl rfl rfl rfl (by decide +kernel) (by decide +kernel)) hD0 (by decide +kernel) rfl h
/-- PatchBenchLaw.began (LPatchBench;I[J)I -/
theorem b430 {x1 : Int} {σ : Sg} {o : Rs}   (h : ((∃ (v2 : Int) (s1 : Sg), Dd 214 [(.inr (.inr (some 0))), (.inl x1)] σ (.inl (some (.inl v2)), s1) ∧ o = (.inl (some (.inl 0)), (upS s1 726 ((0 : Int).toNat) v2))) ∨ (∃ s0 : Sg, Dd 214 [(.inr (.inr (some 0))), (.inl x1)] σ (.inr 0, s0) ∧ o = (.inl (some (.inl 1)), s0)))) : Dd 430 [(.inr (.inr (some 0))), (.inl x1), (.inr (.inr (some 726)))] σ o := by
  refine Dd_of (l := 4) (by decide +kernel) ?_
  show Gd 430 0 [(some (.inr (.inr (some 0)))), (some (.inl x1)), (some (.inr (.inr (some 726)))), none] [] σ 0 0 o
  refine g_aload_n 1 (show op 430 0 = some (.aload_n 2, 1) by decide +kernel) rfl rfl ?_
  refine g_iconst 2 (show op 430 1 = some (.iconst 0, 1) by decide +kernel) rfl rfl ?_
  refine g_aload_n 3 (show op 430 2 = some (.aload_n 0, 1) by decide +kernel) rfl rfl ?_
  refine g_iload_n 4 (show op 430 3 = some (.iload_n 1, 1) by decide +kernel) rfl rfl ?_
  rcases h with ⟨v2, s1, hD3, h⟩ | ⟨s0, hD0, h⟩
  · refine g_call 7 [(.inl v2), (.inl 0), (.inr (.inr (some 726)))] (show op 430 4 = some (.invokevirtual 144, 3) by decide +kernel) (call_vi' (k' := 1) (n' := 6) (nj := 2) (j := 214) (k9 := 20) (t := [(.inl 0), (.inr (.inr (some 726)))]) (as := [(.inr (.inr (some 0))), (.inl x1)]) (by decide +kernel) rfl (by decide +kernel) rfl rfl rfl rfl rfl rfl (by decide +kernel) (by decide +kernel)) hD3 rfl ?_
    refine g_i2l 8 (show op 430 7 = some (.i2l, 1) by decide +kernel) rfl ?_
    refine g_lastore 9 1 (show op 430 8 = some (.lastore, 1) by decide +kernel) rfl (by decide +kernel) (by decide) ?_
    refine g_goto 15 (show op 430 9 = some (.goto 6, 3) by decide +kernel) rfl ?_
    refine g_iconst 16 (show op 430 15 = some (.iconst 0, 1) by decide +kernel) rfl rfl ?_
    exact (g_iret (show op 430 16 = some (.ireturn, 1) by decide +kernel) (by decide +kernel) h)
  · exact g_callH (E := 0) (c := 1) 7 (show op 430 4 = some (.invokevirtual 144, 3) by decide +kernel) (call_vi' (k' := 1) (n' := 6) (nj := 2) (j := 214) (k9 := 20) (t := [(.inl 0), (.inr (.inr (some 726)))]) (as := [(.inr (.inr (some 0))), (.inl x1)]) (by decide +kernel) rfl (by decide +kernel) rfl rfl rfl rfl rfl rfl (by decide +kernel) (by decide +kernel)) hD0 (by decide +kernel) rfl h
def C431_18 (d0 : Option AV) (d1 : Option AV) (d2 : Option AV) (d3 : Option AV) (d4 : Option AV) (d5 : Option AV) (y1 : Int) (y2 : Int) (σ : Sg) (o : Rs) : Prop := Gd 431 18 [d0, d1, d2, d3, d4, d5] [(.inr (.inl y2)), (.inl y1), (.inr (.inr (some 726)))] σ 3 18 o
theorem b431_18 {d0 : Option AV} {d1 : Option AV} {d2 : Option AV} {d3 : Option AV} {d4 : Option AV} {d5 : Option AV} {y1 : Int} {y2 : Int} {σ : Sg} {o : Rs}   (h : (0 ≤ y1 ∧ y1 < 1) ∧ o = (.inl (some (.inl 0)), (upS σ 726 ((y1).toNat) y2))) : C431_18 d0 d1 d2 d3 d4 d5 y1 y2 σ o := by
  show Gd 431 18 [d0, d1, d2, d3, d4, d5] [(.inr (.inl y2)), (.inl y1), (.inr (.inr (some 726)))] σ 3 18 o
  obtain ⟨g1, h⟩ := h
  refine g_lastore 19 1 (show op 431 18 = some (.lastore, 1) by decide +kernel) rfl (by decide +kernel) g1 ?_
  refine g_goto 26 (show op 431 19 = some (.goto 7, 3) by decide +kernel) rfl ?_
  refine g_iconst 27 (show op 431 26 = some (.iconst 0, 1) by decide +kernel) rfl rfl ?_
  exact (g_iret (show op 431 27 = some (.ireturn, 1) by decide +kernel) (by decide +kernel) h)
/-- PatchBenchLaw.setFile (LPatchBench;III[J)I -/
theorem b431 {x1 : Int} {x2 : Int} {x3 : Int} {σ : Sg} {o : Rs}   (h : ((∃ (v2 : Int) (s1 : Sg), Dd 215 [(.inr (.inr (some 0))), (.inl x1), (.inl x2), (.inl x3)] σ (.inl (some (.inl v2)), s1) ∧ C431_18 (some (.inr (.inr (some 0)))) (some (.inl x1)) (some (.inl x2)) (some (.inl x3)) (some (.inr (.inr (some 726)))) none 0 (if v2 = 0 then 0 else 1) s1 o) ∨ (∃ s0 : Sg, Dd 215 [(.inr (.inr (some 0))), (.inl x1), (.inl x2), (.inl x3)] σ (.inr 0, s0) ∧ o = (.inl (some (.inl 1)), s0)))) : Dd 431 [(.inr (.inr (some 0))), (.inl x1), (.inl x2), (.inl x3), (.inr (.inr (some 726)))] σ o := by
  refine Dd_of (l := 6) (by decide +kernel) ?_
  show Gd 431 0 [(some (.inr (.inr (some 0)))), (some (.inl x1)), (some (.inl x2)), (some (.inl x3)), (some (.inr (.inr (some 726)))), none] [] σ 0 0 o
  refine g_aload 2 (show op 431 0 = some (.aload 4, 2) by decide +kernel) rfl rfl ?_
  refine g_iconst 3 (show op 431 2 = some (.iconst 0, 1) by decide +kernel) rfl rfl ?_
  refine g_aload_n 4 (show op 431 3 = some (.aload_n 0, 1) by decide +kernel) rfl rfl ?_
  refine g_iload_n 5 (show op 431 4 = some (.iload_n 1, 1) by decide +kernel) rfl rfl ?_
  refine g_iload_n 6 (show op 431 5 = some (.iload_n 2, 1) by decide +kernel) rfl rfl ?_
  refine g_iload_n 7 (show op 431 6 = some (.iload_n 3, 1) by decide +kernel) rfl rfl ?_
  rcases h with ⟨v2, s1, hD3, h⟩ | ⟨s0, hD0, h⟩
  · refine g_call 10 [(.inl v2), (.inl 0), (.inr (.inr (some 726)))] (show op 431 7 = some (.invokevirtual 147, 3) by decide +kernel) (call_vi' (k' := 3) (n' := 18) (nj := 4) (j := 215) (k9 := 20) (t := [(.inl 0), (.inr (.inr (some 726)))]) (as := [(.inr (.inr (some 0))), (.inl x1), (.inl x2), (.inl x3)]) (by decide +kernel) rfl (by decide +kernel) rfl rfl rfl rfl rfl rfl (by decide +kernel) (by decide +kernel)) hD3 rfl ?_
    by_cases hc4 : v2 = 0
    · refine g_ifT 17 (show op 431 10 = some (.ifCond .eq 7, 3) by decide +kernel) rfl (decide_eq_true hc4) ?_
      refine g_lconst 18 (show op 431 17 = some (.lconst 0, 1) by decide +kernel) rfl ?_
      have h9 := h; simp only [if_pos hc4] at h9; exact h9
    · refine g_ifF 13 17 (show op 431 10 = some (.ifCond .eq 7, 3) by decide +kernel) rfl rfl (decide_eq_false hc4) ?_
      refine g_lconst 14 (show op 431 13 = some (.lconst 1, 1) by decide +kernel) rfl ?_
      refine g_goto 18 (show op 431 14 = some (.goto 4, 3) by decide +kernel) rfl ?_
      have h9 := h; simp only [if_neg hc4] at h9; exact h9
  · exact g_callH (E := 0) (c := 1) 10 (show op 431 7 = some (.invokevirtual 147, 3) by decide +kernel) (call_vi' (k' := 3) (n' := 18) (nj := 4) (j := 215) (k9 := 20) (t := [(.inl 0), (.inr (.inr (some 726)))]) (as := [(.inr (.inr (some 0))), (.inl x1), (.inl x2), (.inl x3)]) (by decide +kernel) rfl (by decide +kernel) rfl rfl rfl rfl rfl rfl (by decide +kernel) (by decide +kernel)) hD0 (by decide +kernel) rfl h
/-- PatchBenchLaw.difference (LPatchBench;II[J)I -/
theorem b432 {x1 : Int} {x2 : Int} {σ : Sg} {o : Rs}   (h : ((∃ (v2 : Int) (s1 : Sg), Dd 216 [(.inr (.inr (some 0))), (.inl x1), (.inl x2)] σ (.inl (some (.inl v2)), s1) ∧ o = (.inl (some (.inl 0)), (upS s1 726 ((0 : Int).toNat) v2))) ∨ (∃ s0 : Sg, Dd 216 [(.inr (.inr (some 0))), (.inl x1), (.inl x2)] σ (.inr 0, s0) ∧ o = (.inl (some (.inl 1)), s0)) ∨ (∃ s0 : Sg, Dd 216 [(.inr (.inr (some 0))), (.inl x1), (.inl x2)] σ (.inr 2, s0) ∧ o = (.inl (some (.inl 2)), s0)))) : Dd 432 [(.inr (.inr (some 0))), (.inl x1), (.inl x2), (.inr (.inr (some 726)))] σ o := by
  refine Dd_of (l := 5) (by decide +kernel) ?_
  show Gd 432 0 [(some (.inr (.inr (some 0)))), (some (.inl x1)), (some (.inl x2)), (some (.inr (.inr (some 726)))), none] [] σ 0 0 o
  refine g_aload_n 1 (show op 432 0 = some (.aload_n 3, 1) by decide +kernel) rfl rfl ?_
  refine g_iconst 2 (show op 432 1 = some (.iconst 0, 1) by decide +kernel) rfl rfl ?_
  refine g_aload_n 3 (show op 432 2 = some (.aload_n 0, 1) by decide +kernel) rfl rfl ?_
  refine g_iload_n 4 (show op 432 3 = some (.iload_n 1, 1) by decide +kernel) rfl rfl ?_
  refine g_iload_n 5 (show op 432 4 = some (.iload_n 2, 1) by decide +kernel) rfl rfl ?_
  rcases h with ⟨v2, s1, hD3, h⟩ | ⟨s0, hD0, h⟩ | ⟨s0, hD0, h⟩
  · refine g_call 8 [(.inl v2), (.inl 0), (.inr (.inr (some 726)))] (show op 432 5 = some (.invokevirtual 151, 3) by decide +kernel) (call_vi' (k' := 3) (n' := 18) (nj := 3) (j := 216) (k9 := 20) (t := [(.inl 0), (.inr (.inr (some 726)))]) (as := [(.inr (.inr (some 0))), (.inl x1), (.inl x2)]) (by decide +kernel) rfl (by decide +kernel) rfl rfl rfl rfl rfl rfl (by decide +kernel) (by decide +kernel)) hD3 rfl ?_
    refine g_i2l 9 (show op 432 8 = some (.i2l, 1) by decide +kernel) rfl ?_
    refine g_lastore 10 1 (show op 432 9 = some (.lastore, 1) by decide +kernel) rfl (by decide +kernel) (by decide) ?_
    refine g_goto 21 (show op 432 10 = some (.goto 11, 3) by decide +kernel) rfl ?_
    refine g_iconst 22 (show op 432 21 = some (.iconst 0, 1) by decide +kernel) rfl rfl ?_
    exact (g_iret (show op 432 22 = some (.ireturn, 1) by decide +kernel) (by decide +kernel) h)
  · exact g_callH (E := 0) (c := 1) 8 (show op 432 5 = some (.invokevirtual 151, 3) by decide +kernel) (call_vi' (k' := 3) (n' := 18) (nj := 3) (j := 216) (k9 := 20) (t := [(.inl 0), (.inr (.inr (some 726)))]) (as := [(.inr (.inr (some 0))), (.inl x1), (.inl x2)]) (by decide +kernel) rfl (by decide +kernel) rfl rfl rfl rfl rfl rfl (by decide +kernel) (by decide +kernel)) hD0 (by decide +kernel) rfl h
  · exact g_callH (E := 2) (c := 2) 8 (show op 432 5 = some (.invokevirtual 151, 3) by decide +kernel) (call_vi' (k' := 3) (n' := 18) (nj := 3) (j := 216) (k9 := 20) (t := [(.inl 0), (.inr (.inr (some 726)))]) (as := [(.inr (.inr (some 0))), (.inl x1), (.inl x2)]) (by decide +kernel) rfl (by decide +kernel) rfl rfl rfl rfl rfl rfl (by decide +kernel) (by decide +kernel)) hD0 (by decide +kernel) rfl h
/-- PatchBenchLaw.compose (LPatchBench;II[J)I -/
theorem b433 {x1 : Int} {x2 : Int} {σ : Sg} {o : Rs}   (h : ((∃ (v2 : Int) (s1 : Sg), Dd 217 [(.inr (.inr (some 0))), (.inl x1), (.inl x2)] σ (.inl (some (.inl v2)), s1) ∧ o = (.inl (some (.inl 0)), (upS s1 726 ((0 : Int).toNat) v2))) ∨ (∃ s0 : Sg, Dd 217 [(.inr (.inr (some 0))), (.inl x1), (.inl x2)] σ (.inr 0, s0) ∧ o = (.inl (some (.inl 1)), s0)) ∨ (∃ s0 : Sg, Dd 217 [(.inr (.inr (some 0))), (.inl x1), (.inl x2)] σ (.inr 2, s0) ∧ o = (.inl (some (.inl 2)), s0)))) : Dd 433 [(.inr (.inr (some 0))), (.inl x1), (.inl x2), (.inr (.inr (some 726)))] σ o := by
  refine Dd_of (l := 5) (by decide +kernel) ?_
  show Gd 433 0 [(some (.inr (.inr (some 0)))), (some (.inl x1)), (some (.inl x2)), (some (.inr (.inr (some 726)))), none] [] σ 0 0 o
  refine g_aload_n 1 (show op 433 0 = some (.aload_n 3, 1) by decide +kernel) rfl rfl ?_
  refine g_iconst 2 (show op 433 1 = some (.iconst 0, 1) by decide +kernel) rfl rfl ?_
  refine g_aload_n 3 (show op 433 2 = some (.aload_n 0, 1) by decide +kernel) rfl rfl ?_
  refine g_iload_n 4 (show op 433 3 = some (.iload_n 1, 1) by decide +kernel) rfl rfl ?_
  refine g_iload_n 5 (show op 433 4 = some (.iload_n 2, 1) by decide +kernel) rfl rfl ?_
  rcases h with ⟨v2, s1, hD3, h⟩ | ⟨s0, hD0, h⟩ | ⟨s0, hD0, h⟩
  · refine g_call 8 [(.inl v2), (.inl 0), (.inr (.inr (some 726)))] (show op 433 5 = some (.invokevirtual 154, 3) by decide +kernel) (call_vi' (k' := 3) (n' := 18) (nj := 3) (j := 217) (k9 := 20) (t := [(.inl 0), (.inr (.inr (some 726)))]) (as := [(.inr (.inr (some 0))), (.inl x1), (.inl x2)]) (by decide +kernel) rfl (by decide +kernel) rfl rfl rfl rfl rfl rfl (by decide +kernel) (by decide +kernel)) hD3 rfl ?_
    refine g_i2l 9 (show op 433 8 = some (.i2l, 1) by decide +kernel) rfl ?_
    refine g_lastore 10 1 (show op 433 9 = some (.lastore, 1) by decide +kernel) rfl (by decide +kernel) (by decide) ?_
    refine g_goto 21 (show op 433 10 = some (.goto 11, 3) by decide +kernel) rfl ?_
    refine g_iconst 22 (show op 433 21 = some (.iconst 0, 1) by decide +kernel) rfl rfl ?_
    exact (g_iret (show op 433 22 = some (.ireturn, 1) by decide +kernel) (by decide +kernel) h)
  · exact g_callH (E := 0) (c := 1) 8 (show op 433 5 = some (.invokevirtual 154, 3) by decide +kernel) (call_vi' (k' := 3) (n' := 18) (nj := 3) (j := 217) (k9 := 20) (t := [(.inl 0), (.inr (.inr (some 726)))]) (as := [(.inr (.inr (some 0))), (.inl x1), (.inl x2)]) (by decide +kernel) rfl (by decide +kernel) rfl rfl rfl rfl rfl rfl (by decide +kernel) (by decide +kernel)) hD0 (by decide +kernel) rfl h
  · exact g_callH (E := 2) (c := 2) 8 (show op 433 5 = some (.invokevirtual 154, 3) by decide +kernel) (call_vi' (k' := 3) (n' := 18) (nj := 3) (j := 217) (k9 := 20) (t := [(.inl 0), (.inr (.inr (some 726)))]) (as := [(.inr (.inr (some 0))), (.inl x1), (.inl x2)]) (by decide +kernel) rfl (by decide +kernel) rfl rfl rfl rfl rfl rfl (by decide +kernel) (by decide +kernel)) hD0 (by decide +kernel) rfl h
/-- PatchBenchLaw.wentTo (LPatchBench;II[J)I -/
theorem b434 {x1 : Int} {x2 : Int} {σ : Sg} {o : Rs}   (h : ((∃ (v2 : Int) (s1 : Sg), Dd 218 [(.inr (.inr (some 0))), (.inl x1), (.inl x2)] σ (.inl (some (.inl v2)), s1) ∧ o = (.inl (some (.inl 0)), (upS s1 726 ((0 : Int).toNat) v2))) ∨ (∃ s0 : Sg, Dd 218 [(.inr (.inr (some 0))), (.inl x1), (.inl x2)] σ (.inr 0, s0) ∧ o = (.inl (some (.inl 1)), s0)))) : Dd 434 [(.inr (.inr (some 0))), (.inl x1), (.inl x2), (.inr (.inr (some 726)))] σ o := by
  refine Dd_of (l := 5) (by decide +kernel) ?_
  show Gd 434 0 [(some (.inr (.inr (some 0)))), (some (.inl x1)), (some (.inl x2)), (some (.inr (.inr (some 726)))), none] [] σ 0 0 o
  refine g_aload_n 1 (show op 434 0 = some (.aload_n 3, 1) by decide +kernel) rfl rfl ?_
  refine g_iconst 2 (show op 434 1 = some (.iconst 0, 1) by decide +kernel) rfl rfl ?_
  refine g_aload_n 3 (show op 434 2 = some (.aload_n 0, 1) by decide +kernel) rfl rfl ?_
  refine g_iload_n 4 (show op 434 3 = some (.iload_n 1, 1) by decide +kernel) rfl rfl ?_
  refine g_iload_n 5 (show op 434 4 = some (.iload_n 2, 1) by decide +kernel) rfl rfl ?_
  rcases h with ⟨v2, s1, hD3, h⟩ | ⟨s0, hD0, h⟩
  · refine g_call 8 [(.inl v2), (.inl 0), (.inr (.inr (some 726)))] (show op 434 5 = some (.invokevirtual 157, 3) by decide +kernel) (call_vi' (k' := 2) (n' := 12) (nj := 3) (j := 218) (k9 := 20) (t := [(.inl 0), (.inr (.inr (some 726)))]) (as := [(.inr (.inr (some 0))), (.inl x1), (.inl x2)]) (by decide +kernel) rfl (by decide +kernel) rfl rfl rfl rfl rfl rfl (by decide +kernel) (by decide +kernel)) hD3 rfl ?_
    refine g_i2l 9 (show op 434 8 = some (.i2l, 1) by decide +kernel) rfl ?_
    refine g_lastore 10 1 (show op 434 9 = some (.lastore, 1) by decide +kernel) rfl (by decide +kernel) (by decide) ?_
    refine g_goto 17 (show op 434 10 = some (.goto 7, 3) by decide +kernel) rfl ?_
    refine g_iconst 18 (show op 434 17 = some (.iconst 0, 1) by decide +kernel) rfl rfl ?_
    exact (g_iret (show op 434 18 = some (.ireturn, 1) by decide +kernel) (by decide +kernel) h)
  · exact g_callH (E := 0) (c := 1) 8 (show op 434 5 = some (.invokevirtual 157, 3) by decide +kernel) (call_vi' (k' := 2) (n' := 12) (nj := 3) (j := 218) (k9 := 20) (t := [(.inl 0), (.inr (.inr (some 726)))]) (as := [(.inr (.inr (some 0))), (.inl x1), (.inl x2)]) (by decide +kernel) rfl (by decide +kernel) rfl rfl rfl rfl rfl rfl (by decide +kernel) (by decide +kernel)) hD0 (by decide +kernel) rfl h
/-- PatchBenchLaw.addByte (LPatchBench;II[J)I -/
theorem b435 {x1 : Int} {x2 : Int} {σ : Sg} {o : Rs}   (h : ((∃ (v2 : Int) (s1 : Sg), Dd 219 [(.inr (.inr (some 0))), (.inl x1), (.inl x2)] σ (.inl (some (.inl v2)), s1) ∧ o = (.inl (some (.inl 0)), (upS s1 726 ((0 : Int).toNat) v2))) ∨ (∃ s0 : Sg, Dd 219 [(.inr (.inr (some 0))), (.inl x1), (.inl x2)] σ (.inr 0, s0) ∧ o = (.inl (some (.inl 1)), s0)) ∨ (∃ s0 : Sg, Dd 219 [(.inr (.inr (some 0))), (.inl x1), (.inl x2)] σ (.inr 1, s0) ∧ o = (.inl (some (.inl 2)), s0)) ∨ (∃ s0 : Sg, Dd 219 [(.inr (.inr (some 0))), (.inl x1), (.inl x2)] σ (.inr 2, s0) ∧ o = (.inl (some (.inl 3)), s0)))) : Dd 435 [(.inr (.inr (some 0))), (.inl x1), (.inl x2), (.inr (.inr (some 726)))] σ o := by
  refine Dd_of (l := 5) (by decide +kernel) ?_
  show Gd 435 0 [(some (.inr (.inr (some 0)))), (some (.inl x1)), (some (.inl x2)), (some (.inr (.inr (some 726)))), none] [] σ 0 0 o
  refine g_aload_n 1 (show op 435 0 = some (.aload_n 3, 1) by decide +kernel) rfl rfl ?_
  refine g_iconst 2 (show op 435 1 = some (.iconst 0, 1) by decide +kernel) rfl rfl ?_
  refine g_aload_n 3 (show op 435 2 = some (.aload_n 0, 1) by decide +kernel) rfl rfl ?_
  refine g_iload_n 4 (show op 435 3 = some (.iload_n 1, 1) by decide +kernel) rfl rfl ?_
  refine g_iload_n 5 (show op 435 4 = some (.iload_n 2, 1) by decide +kernel) rfl rfl ?_
  rcases h with ⟨v2, s1, hD3, h⟩ | ⟨s0, hD0, h⟩ | ⟨s0, hD0, h⟩ | ⟨s0, hD0, h⟩
  · refine g_call 8 [(.inl v2), (.inl 0), (.inr (.inr (some 726)))] (show op 435 5 = some (.invokevirtual 160, 3) by decide +kernel) (call_vi' (k' := 3) (n' := 18) (nj := 3) (j := 219) (k9 := 20) (t := [(.inl 0), (.inr (.inr (some 726)))]) (as := [(.inr (.inr (some 0))), (.inl x1), (.inl x2)]) (by decide +kernel) rfl (by decide +kernel) rfl rfl rfl rfl rfl rfl (by decide +kernel) (by decide +kernel)) hD3 rfl ?_
    refine g_i2l 9 (show op 435 8 = some (.i2l, 1) by decide +kernel) rfl ?_
    refine g_lastore 10 1 (show op 435 9 = some (.lastore, 1) by decide +kernel) rfl (by decide +kernel) (by decide) ?_
    refine g_goto 25 (show op 435 10 = some (.goto 15, 3) by decide +kernel) rfl ?_
    refine g_iconst 26 (show op 435 25 = some (.iconst 0, 1) by decide +kernel) rfl rfl ?_
    exact (g_iret (show op 435 26 = some (.ireturn, 1) by decide +kernel) (by decide +kernel) h)
  · exact g_callH (E := 0) (c := 1) 8 (show op 435 5 = some (.invokevirtual 160, 3) by decide +kernel) (call_vi' (k' := 3) (n' := 18) (nj := 3) (j := 219) (k9 := 20) (t := [(.inl 0), (.inr (.inr (some 726)))]) (as := [(.inr (.inr (some 0))), (.inl x1), (.inl x2)]) (by decide +kernel) rfl (by decide +kernel) rfl rfl rfl rfl rfl rfl (by decide +kernel) (by decide +kernel)) hD0 (by decide +kernel) rfl h
  · exact g_callH (E := 1) (c := 2) 8 (show op 435 5 = some (.invokevirtual 160, 3) by decide +kernel) (call_vi' (k' := 3) (n' := 18) (nj := 3) (j := 219) (k9 := 20) (t := [(.inl 0), (.inr (.inr (some 726)))]) (as := [(.inr (.inr (some 0))), (.inl x1), (.inl x2)]) (by decide +kernel) rfl (by decide +kernel) rfl rfl rfl rfl rfl rfl (by decide +kernel) (by decide +kernel)) hD0 (by decide +kernel) rfl h
  · exact g_callH (E := 2) (c := 3) 8 (show op 435 5 = some (.invokevirtual 160, 3) by decide +kernel) (call_vi' (k' := 3) (n' := 18) (nj := 3) (j := 219) (k9 := 20) (t := [(.inl 0), (.inr (.inr (some 726)))]) (as := [(.inr (.inr (some 0))), (.inl x1), (.inl x2)]) (by decide +kernel) rfl (by decide +kernel) rfl rfl rfl rfl rfl rfl (by decide +kernel) (by decide +kernel)) hD0 (by decide +kernel) rfl h
/-- PatchBenchLaw.clear (LPatchBench;I[J)I -/
theorem b436 {x1 : Int} {σ : Sg} {o : Rs}   (h : ((∃ (v2 : Int) (s1 : Sg), Dd 220 [(.inr (.inr (some 0))), (.inl x1)] σ (.inl (some (.inl v2)), s1) ∧ o = (.inl (some (.inl 0)), (upS s1 726 ((0 : Int).toNat) v2))) ∨ (∃ s0 : Sg, Dd 220 [(.inr (.inr (some 0))), (.inl x1)] σ (.inr 0, s0) ∧ o = (.inl (some (.inl 1)), s0)))) : Dd 436 [(.inr (.inr (some 0))), (.inl x1), (.inr (.inr (some 726)))] σ o := by
  refine Dd_of (l := 4) (by decide +kernel) ?_
  show Gd 436 0 [(some (.inr (.inr (some 0)))), (some (.inl x1)), (some (.inr (.inr (some 726)))), none] [] σ 0 0 o
  refine g_aload_n 1 (show op 436 0 = some (.aload_n 2, 1) by decide +kernel) rfl rfl ?_
  refine g_iconst 2 (show op 436 1 = some (.iconst 0, 1) by decide +kernel) rfl rfl ?_
  refine g_aload_n 3 (show op 436 2 = some (.aload_n 0, 1) by decide +kernel) rfl rfl ?_
  refine g_iload_n 4 (show op 436 3 = some (.iload_n 1, 1) by decide +kernel) rfl rfl ?_
  rcases h with ⟨v2, s1, hD3, h⟩ | ⟨s0, hD0, h⟩
  · refine g_call 7 [(.inl v2), (.inl 0), (.inr (.inr (some 726)))] (show op 436 4 = some (.invokevirtual 163, 3) by decide +kernel) (call_vi' (k' := 1) (n' := 6) (nj := 2) (j := 220) (k9 := 20) (t := [(.inl 0), (.inr (.inr (some 726)))]) (as := [(.inr (.inr (some 0))), (.inl x1)]) (by decide +kernel) rfl (by decide +kernel) rfl rfl rfl rfl rfl rfl (by decide +kernel) (by decide +kernel)) hD3 rfl ?_
    refine g_i2l 8 (show op 436 7 = some (.i2l, 1) by decide +kernel) rfl ?_
    refine g_lastore 9 1 (show op 436 8 = some (.lastore, 1) by decide +kernel) rfl (by decide +kernel) (by decide) ?_
    refine g_goto 15 (show op 436 9 = some (.goto 6, 3) by decide +kernel) rfl ?_
    refine g_iconst 16 (show op 436 15 = some (.iconst 0, 1) by decide +kernel) rfl rfl ?_
    exact (g_iret (show op 436 16 = some (.ireturn, 1) by decide +kernel) (by decide +kernel) h)
  · exact g_callH (E := 0) (c := 1) 7 (show op 436 4 = some (.invokevirtual 163, 3) by decide +kernel) (call_vi' (k' := 1) (n' := 6) (nj := 2) (j := 220) (k9 := 20) (t := [(.inl 0), (.inr (.inr (some 726)))]) (as := [(.inr (.inr (some 0))), (.inl x1)]) (by decide +kernel) rfl (by decide +kernel) rfl rfl rfl rfl rfl rfl (by decide +kernel) (by decide +kernel)) hD0 (by decide +kernel) rfl h
/-- PatchBenchLaw.byteAt (LPatchBench;II[J)I -/
theorem b437 {x1 : Int} {x2 : Int} {σ : Sg} {o : Rs}   (h : ((∃ (v2 : Int) (s1 : Sg), Dd 221 [(.inr (.inr (some 0))), (.inl x1), (.inl x2)] σ (.inl (some (.inl v2)), s1) ∧ o = (.inl (some (.inl 0)), (upS s1 726 ((0 : Int).toNat) v2))) ∨ (∃ s0 : Sg, Dd 221 [(.inr (.inr (some 0))), (.inl x1), (.inl x2)] σ (.inr 0, s0) ∧ o = (.inl (some (.inl 1)), s0)))) : Dd 437 [(.inr (.inr (some 0))), (.inl x1), (.inl x2), (.inr (.inr (some 726)))] σ o := by
  refine Dd_of (l := 5) (by decide +kernel) ?_
  show Gd 437 0 [(some (.inr (.inr (some 0)))), (some (.inl x1)), (some (.inl x2)), (some (.inr (.inr (some 726)))), none] [] σ 0 0 o
  refine g_aload_n 1 (show op 437 0 = some (.aload_n 3, 1) by decide +kernel) rfl rfl ?_
  refine g_iconst 2 (show op 437 1 = some (.iconst 0, 1) by decide +kernel) rfl rfl ?_
  refine g_aload_n 3 (show op 437 2 = some (.aload_n 0, 1) by decide +kernel) rfl rfl ?_
  refine g_iload_n 4 (show op 437 3 = some (.iload_n 1, 1) by decide +kernel) rfl rfl ?_
  refine g_iload_n 5 (show op 437 4 = some (.iload_n 2, 1) by decide +kernel) rfl rfl ?_
  rcases h with ⟨v2, s1, hD3, h⟩ | ⟨s0, hD0, h⟩
  · refine g_call 8 [(.inl v2), (.inl 0), (.inr (.inr (some 726)))] (show op 437 5 = some (.invokevirtual 166, 3) by decide +kernel) (call_vi' (k' := 2) (n' := 12) (nj := 3) (j := 221) (k9 := 20) (t := [(.inl 0), (.inr (.inr (some 726)))]) (as := [(.inr (.inr (some 0))), (.inl x1), (.inl x2)]) (by decide +kernel) rfl (by decide +kernel) rfl rfl rfl rfl rfl rfl (by decide +kernel) (by decide +kernel)) hD3 rfl ?_
    refine g_i2l 9 (show op 437 8 = some (.i2l, 1) by decide +kernel) rfl ?_
    refine g_lastore 10 1 (show op 437 9 = some (.lastore, 1) by decide +kernel) rfl (by decide +kernel) (by decide) ?_
    refine g_goto 17 (show op 437 10 = some (.goto 7, 3) by decide +kernel) rfl ?_
    refine g_iconst 18 (show op 437 17 = some (.iconst 0, 1) by decide +kernel) rfl rfl ?_
    exact (g_iret (show op 437 18 = some (.ireturn, 1) by decide +kernel) (by decide +kernel) h)
  · exact g_callH (E := 0) (c := 1) 8 (show op 437 5 = some (.invokevirtual 166, 3) by decide +kernel) (call_vi' (k' := 2) (n' := 12) (nj := 3) (j := 221) (k9 := 20) (t := [(.inl 0), (.inr (.inr (some 726)))]) (as := [(.inr (.inr (some 0))), (.inl x1), (.inl x2)]) (by decide +kernel) rfl (by decide +kernel) rfl rfl rfl rfl rfl rfl (by decide +kernel) (by decide +kernel)) hD0 (by decide +kernel) rfl h
/-- PatchBenchLaw.delta (LPatchBench;II[J)I -/
theorem b438 {x1 : Int} {x2 : Int} {σ : Sg} {o : Rs}   (h : ((∃ (v2 : Int) (s1 : Sg), Dd 222 [(.inr (.inr (some 0))), (.inl x1), (.inl x2)] σ (.inl (some (.inl v2)), s1) ∧ o = (.inl (some (.inl 0)), (upS s1 726 ((0 : Int).toNat) v2))) ∨ (∃ s0 : Sg, Dd 222 [(.inr (.inr (some 0))), (.inl x1), (.inl x2)] σ (.inr 0, s0) ∧ o = (.inl (some (.inl 1)), s0)) ∨ (∃ s0 : Sg, Dd 222 [(.inr (.inr (some 0))), (.inl x1), (.inl x2)] σ (.inr 2, s0) ∧ o = (.inl (some (.inl 2)), s0)))) : Dd 438 [(.inr (.inr (some 0))), (.inl x1), (.inl x2), (.inr (.inr (some 726)))] σ o := by
  refine Dd_of (l := 5) (by decide +kernel) ?_
  show Gd 438 0 [(some (.inr (.inr (some 0)))), (some (.inl x1)), (some (.inl x2)), (some (.inr (.inr (some 726)))), none] [] σ 0 0 o
  refine g_aload_n 1 (show op 438 0 = some (.aload_n 3, 1) by decide +kernel) rfl rfl ?_
  refine g_iconst 2 (show op 438 1 = some (.iconst 0, 1) by decide +kernel) rfl rfl ?_
  refine g_aload_n 3 (show op 438 2 = some (.aload_n 0, 1) by decide +kernel) rfl rfl ?_
  refine g_iload_n 4 (show op 438 3 = some (.iload_n 1, 1) by decide +kernel) rfl rfl ?_
  refine g_iload_n 5 (show op 438 4 = some (.iload_n 2, 1) by decide +kernel) rfl rfl ?_
  rcases h with ⟨v2, s1, hD3, h⟩ | ⟨s0, hD0, h⟩ | ⟨s0, hD0, h⟩
  · refine g_call 8 [(.inl v2), (.inl 0), (.inr (.inr (some 726)))] (show op 438 5 = some (.invokevirtual 169, 3) by decide +kernel) (call_vi' (k' := 3) (n' := 18) (nj := 3) (j := 222) (k9 := 20) (t := [(.inl 0), (.inr (.inr (some 726)))]) (as := [(.inr (.inr (some 0))), (.inl x1), (.inl x2)]) (by decide +kernel) rfl (by decide +kernel) rfl rfl rfl rfl rfl rfl (by decide +kernel) (by decide +kernel)) hD3 rfl ?_
    refine g_i2l 9 (show op 438 8 = some (.i2l, 1) by decide +kernel) rfl ?_
    refine g_lastore 10 1 (show op 438 9 = some (.lastore, 1) by decide +kernel) rfl (by decide +kernel) (by decide) ?_
    refine g_goto 21 (show op 438 10 = some (.goto 11, 3) by decide +kernel) rfl ?_
    refine g_iconst 22 (show op 438 21 = some (.iconst 0, 1) by decide +kernel) rfl rfl ?_
    exact (g_iret (show op 438 22 = some (.ireturn, 1) by decide +kernel) (by decide +kernel) h)
  · exact g_callH (E := 0) (c := 1) 8 (show op 438 5 = some (.invokevirtual 169, 3) by decide +kernel) (call_vi' (k' := 3) (n' := 18) (nj := 3) (j := 222) (k9 := 20) (t := [(.inl 0), (.inr (.inr (some 726)))]) (as := [(.inr (.inr (some 0))), (.inl x1), (.inl x2)]) (by decide +kernel) rfl (by decide +kernel) rfl rfl rfl rfl rfl rfl (by decide +kernel) (by decide +kernel)) hD0 (by decide +kernel) rfl h
  · exact g_callH (E := 2) (c := 2) 8 (show op 438 5 = some (.invokevirtual 169, 3) by decide +kernel) (call_vi' (k' := 3) (n' := 18) (nj := 3) (j := 222) (k9 := 20) (t := [(.inl 0), (.inr (.inr (some 726)))]) (as := [(.inr (.inr (some 0))), (.inl x1), (.inl x2)]) (by decide +kernel) rfl (by decide +kernel) rfl rfl rfl rfl rfl rfl (by decide +kernel) (by decide +kernel)) hD0 (by decide +kernel) rfl h
/-- PatchBenchLaw.chain (LPatchBench;II[J)I -/
theorem b439 {x1 : Int} {x2 : Int} {σ : Sg} {o : Rs}   (h : ((∃ (v2 : Int) (s1 : Sg), Dd 223 [(.inr (.inr (some 0))), (.inl x1), (.inl x2)] σ (.inl (some (.inl v2)), s1) ∧ o = (.inl (some (.inl 0)), (upS s1 726 ((0 : Int).toNat) v2))) ∨ (∃ s0 : Sg, Dd 223 [(.inr (.inr (some 0))), (.inl x1), (.inl x2)] σ (.inr 0, s0) ∧ o = (.inl (some (.inl 1)), s0)) ∨ (∃ s0 : Sg, Dd 223 [(.inr (.inr (some 0))), (.inl x1), (.inl x2)] σ (.inr 2, s0) ∧ o = (.inl (some (.inl 2)), s0)))) : Dd 439 [(.inr (.inr (some 0))), (.inl x1), (.inl x2), (.inr (.inr (some 726)))] σ o := by
  refine Dd_of (l := 5) (by decide +kernel) ?_
  show Gd 439 0 [(some (.inr (.inr (some 0)))), (some (.inl x1)), (some (.inl x2)), (some (.inr (.inr (some 726)))), none] [] σ 0 0 o
  refine g_aload_n 1 (show op 439 0 = some (.aload_n 3, 1) by decide +kernel) rfl rfl ?_
  refine g_iconst 2 (show op 439 1 = some (.iconst 0, 1) by decide +kernel) rfl rfl ?_
  refine g_aload_n 3 (show op 439 2 = some (.aload_n 0, 1) by decide +kernel) rfl rfl ?_
  refine g_iload_n 4 (show op 439 3 = some (.iload_n 1, 1) by decide +kernel) rfl rfl ?_
  refine g_iload_n 5 (show op 439 4 = some (.iload_n 2, 1) by decide +kernel) rfl rfl ?_
  rcases h with ⟨v2, s1, hD3, h⟩ | ⟨s0, hD0, h⟩ | ⟨s0, hD0, h⟩
  · refine g_call 8 [(.inl v2), (.inl 0), (.inr (.inr (some 726)))] (show op 439 5 = some (.invokevirtual 172, 3) by decide +kernel) (call_vi' (k' := 4) (n' := 24) (nj := 3) (j := 223) (k9 := 20) (t := [(.inl 0), (.inr (.inr (some 726)))]) (as := [(.inr (.inr (some 0))), (.inl x1), (.inl x2)]) (by decide +kernel) rfl (by decide +kernel) rfl rfl rfl rfl rfl rfl (by decide +kernel) (by decide +kernel)) hD3 rfl ?_
    refine g_i2l 9 (show op 439 8 = some (.i2l, 1) by decide +kernel) rfl ?_
    refine g_lastore 10 1 (show op 439 9 = some (.lastore, 1) by decide +kernel) rfl (by decide +kernel) (by decide) ?_
    refine g_goto 21 (show op 439 10 = some (.goto 11, 3) by decide +kernel) rfl ?_
    refine g_iconst 22 (show op 439 21 = some (.iconst 0, 1) by decide +kernel) rfl rfl ?_
    exact (g_iret (show op 439 22 = some (.ireturn, 1) by decide +kernel) (by decide +kernel) h)
  · exact g_callH (E := 0) (c := 1) 8 (show op 439 5 = some (.invokevirtual 172, 3) by decide +kernel) (call_vi' (k' := 4) (n' := 24) (nj := 3) (j := 223) (k9 := 20) (t := [(.inl 0), (.inr (.inr (some 726)))]) (as := [(.inr (.inr (some 0))), (.inl x1), (.inl x2)]) (by decide +kernel) rfl (by decide +kernel) rfl rfl rfl rfl rfl rfl (by decide +kernel) (by decide +kernel)) hD0 (by decide +kernel) rfl h
  · exact g_callH (E := 2) (c := 2) 8 (show op 439 5 = some (.invokevirtual 172, 3) by decide +kernel) (call_vi' (k' := 4) (n' := 24) (nj := 3) (j := 223) (k9 := 20) (t := [(.inl 0), (.inr (.inr (some 726)))]) (as := [(.inr (.inr (some 0))), (.inl x1), (.inl x2)]) (by decide +kernel) rfl (by decide +kernel) rfl rfl rfl rfl rfl rfl (by decide +kernel) (by decide +kernel)) hD0 (by decide +kernel) rfl h
/-- PatchBenchLaw.sizeOf (LPatchBench;I[J)I -/
theorem b440 {x1 : Int} {σ : Sg} {o : Rs}   (h : ((∃ (v2 : Int) (s1 : Sg), Dd 224 [(.inr (.inr (some 0))), (.inl x1)] σ (.inl (some (.inl v2)), s1) ∧ o = (.inl (some (.inl 0)), (upS s1 726 ((0 : Int).toNat) v2))) ∨ (∃ s0 : Sg, Dd 224 [(.inr (.inr (some 0))), (.inl x1)] σ (.inr 0, s0) ∧ o = (.inl (some (.inl 1)), s0)))) : Dd 440 [(.inr (.inr (some 0))), (.inl x1), (.inr (.inr (some 726)))] σ o := by
  refine Dd_of (l := 4) (by decide +kernel) ?_
  show Gd 440 0 [(some (.inr (.inr (some 0)))), (some (.inl x1)), (some (.inr (.inr (some 726)))), none] [] σ 0 0 o
  refine g_aload_n 1 (show op 440 0 = some (.aload_n 2, 1) by decide +kernel) rfl rfl ?_
  refine g_iconst 2 (show op 440 1 = some (.iconst 0, 1) by decide +kernel) rfl rfl ?_
  refine g_aload_n 3 (show op 440 2 = some (.aload_n 0, 1) by decide +kernel) rfl rfl ?_
  refine g_iload_n 4 (show op 440 3 = some (.iload_n 1, 1) by decide +kernel) rfl rfl ?_
  rcases h with ⟨v2, s1, hD3, h⟩ | ⟨s0, hD0, h⟩
  · refine g_call 7 [(.inl v2), (.inl 0), (.inr (.inr (some 726)))] (show op 440 4 = some (.invokevirtual 175, 3) by decide +kernel) (call_vi' (k' := 1) (n' := 6) (nj := 2) (j := 224) (k9 := 20) (t := [(.inl 0), (.inr (.inr (some 726)))]) (as := [(.inr (.inr (some 0))), (.inl x1)]) (by decide +kernel) rfl (by decide +kernel) rfl rfl rfl rfl rfl rfl (by decide +kernel) (by decide +kernel)) hD3 rfl ?_
    refine g_i2l 8 (show op 440 7 = some (.i2l, 1) by decide +kernel) rfl ?_
    refine g_lastore 9 1 (show op 440 8 = some (.lastore, 1) by decide +kernel) rfl (by decide +kernel) (by decide) ?_
    refine g_goto 15 (show op 440 9 = some (.goto 6, 3) by decide +kernel) rfl ?_
    refine g_iconst 16 (show op 440 15 = some (.iconst 0, 1) by decide +kernel) rfl rfl ?_
    exact (g_iret (show op 440 16 = some (.ireturn, 1) by decide +kernel) (by decide +kernel) h)
  · exact g_callH (E := 0) (c := 1) 7 (show op 440 4 = some (.invokevirtual 175, 3) by decide +kernel) (call_vi' (k' := 1) (n' := 6) (nj := 2) (j := 224) (k9 := 20) (t := [(.inl 0), (.inr (.inr (some 726)))]) (as := [(.inr (.inr (some 0))), (.inl x1)]) (by decide +kernel) rfl (by decide +kernel) rfl rfl rfl rfl rfl rfl (by decide +kernel) (by decide +kernel)) hD0 (by decide +kernel) rfl h
/-- PatchBenchLaw.step (LPatchBench;II[J)I -/
theorem b441 {x1 : Int} {x2 : Int} {σ : Sg} {o : Rs}   (h : ((∃ (v2 : Int) (s1 : Sg), Dd 225 [(.inr (.inr (some 0))), (.inl x1), (.inl x2)] σ (.inl (some (.inl v2)), s1) ∧ o = (.inl (some (.inl 0)), (upS s1 726 ((0 : Int).toNat) v2))) ∨ (∃ s0 : Sg, Dd 225 [(.inr (.inr (some 0))), (.inl x1), (.inl x2)] σ (.inr 0, s0) ∧ o = (.inl (some (.inl 1)), s0)))) : Dd 441 [(.inr (.inr (some 0))), (.inl x1), (.inl x2), (.inr (.inr (some 726)))] σ o := by
  refine Dd_of (l := 5) (by decide +kernel) ?_
  show Gd 441 0 [(some (.inr (.inr (some 0)))), (some (.inl x1)), (some (.inl x2)), (some (.inr (.inr (some 726)))), none] [] σ 0 0 o
  refine g_aload_n 1 (show op 441 0 = some (.aload_n 3, 1) by decide +kernel) rfl rfl ?_
  refine g_iconst 2 (show op 441 1 = some (.iconst 0, 1) by decide +kernel) rfl rfl ?_
  refine g_aload_n 3 (show op 441 2 = some (.aload_n 0, 1) by decide +kernel) rfl rfl ?_
  refine g_iload_n 4 (show op 441 3 = some (.iload_n 1, 1) by decide +kernel) rfl rfl ?_
  refine g_iload_n 5 (show op 441 4 = some (.iload_n 2, 1) by decide +kernel) rfl rfl ?_
  rcases h with ⟨v2, s1, hD3, h⟩ | ⟨s0, hD0, h⟩
  · refine g_call 8 [(.inl v2), (.inl 0), (.inr (.inr (some 726)))] (show op 441 5 = some (.invokevirtual 178, 3) by decide +kernel) (call_vi' (k' := 2) (n' := 12) (nj := 3) (j := 225) (k9 := 20) (t := [(.inl 0), (.inr (.inr (some 726)))]) (as := [(.inr (.inr (some 0))), (.inl x1), (.inl x2)]) (by decide +kernel) rfl (by decide +kernel) rfl rfl rfl rfl rfl rfl (by decide +kernel) (by decide +kernel)) hD3 rfl ?_
    refine g_i2l 9 (show op 441 8 = some (.i2l, 1) by decide +kernel) rfl ?_
    refine g_lastore 10 1 (show op 441 9 = some (.lastore, 1) by decide +kernel) rfl (by decide +kernel) (by decide) ?_
    refine g_goto 17 (show op 441 10 = some (.goto 7, 3) by decide +kernel) rfl ?_
    refine g_iconst 18 (show op 441 17 = some (.iconst 0, 1) by decide +kernel) rfl rfl ?_
    exact (g_iret (show op 441 18 = some (.ireturn, 1) by decide +kernel) (by decide +kernel) h)
  · exact g_callH (E := 0) (c := 1) 8 (show op 441 5 = some (.invokevirtual 178, 3) by decide +kernel) (call_vi' (k' := 2) (n' := 12) (nj := 3) (j := 225) (k9 := 20) (t := [(.inl 0), (.inr (.inr (some 726)))]) (as := [(.inr (.inr (some 0))), (.inl x1), (.inl x2)]) (by decide +kernel) rfl (by decide +kernel) rfl rfl rfl rfl rfl rfl (by decide +kernel) (by decide +kernel)) hD0 (by decide +kernel) rfl h
/-- PatchBenchLaw.putDelta (LPatchBench;III[J)I -/
theorem b442 {x1 : Int} {x2 : Int} {x3 : Int} {σ : Sg} {o : Rs}   (h : ((∃ (v2 : Int) (s1 : Sg), Dd 226 [(.inr (.inr (some 0))), (.inl x1), (.inl x2), (.inl x3)] σ (.inl (some (.inl v2)), s1) ∧ o = (.inl (some (.inl 0)), (upS s1 726 ((0 : Int).toNat) v2))) ∨ (∃ s0 : Sg, Dd 226 [(.inr (.inr (some 0))), (.inl x1), (.inl x2), (.inl x3)] σ (.inr 0, s0) ∧ o = (.inl (some (.inl 1)), s0)) ∨ (∃ s0 : Sg, Dd 226 [(.inr (.inr (some 0))), (.inl x1), (.inl x2), (.inl x3)] σ (.inr 2, s0) ∧ o = (.inl (some (.inl 2)), s0)))) : Dd 442 [(.inr (.inr (some 0))), (.inl x1), (.inl x2), (.inl x3), (.inr (.inr (some 726)))] σ o := by
  refine Dd_of (l := 6) (by decide +kernel) ?_
  show Gd 442 0 [(some (.inr (.inr (some 0)))), (some (.inl x1)), (some (.inl x2)), (some (.inl x3)), (some (.inr (.inr (some 726)))), none] [] σ 0 0 o
  refine g_aload 2 (show op 442 0 = some (.aload 4, 2) by decide +kernel) rfl rfl ?_
  refine g_iconst 3 (show op 442 2 = some (.iconst 0, 1) by decide +kernel) rfl rfl ?_
  refine g_aload_n 4 (show op 442 3 = some (.aload_n 0, 1) by decide +kernel) rfl rfl ?_
  refine g_iload_n 5 (show op 442 4 = some (.iload_n 1, 1) by decide +kernel) rfl rfl ?_
  refine g_iload_n 6 (show op 442 5 = some (.iload_n 2, 1) by decide +kernel) rfl rfl ?_
  refine g_iload_n 7 (show op 442 6 = some (.iload_n 3, 1) by decide +kernel) rfl rfl ?_
  rcases h with ⟨v2, s1, hD3, h⟩ | ⟨s0, hD0, h⟩ | ⟨s0, hD0, h⟩
  · refine g_call 10 [(.inl v2), (.inl 0), (.inr (.inr (some 726)))] (show op 442 7 = some (.invokevirtual 181, 3) by decide +kernel) (call_vi' (k' := 4) (n' := 24) (nj := 4) (j := 226) (k9 := 20) (t := [(.inl 0), (.inr (.inr (some 726)))]) (as := [(.inr (.inr (some 0))), (.inl x1), (.inl x2), (.inl x3)]) (by decide +kernel) rfl (by decide +kernel) rfl rfl rfl rfl rfl rfl (by decide +kernel) (by decide +kernel)) hD3 rfl ?_
    refine g_i2l 11 (show op 442 10 = some (.i2l, 1) by decide +kernel) rfl ?_
    refine g_lastore 12 1 (show op 442 11 = some (.lastore, 1) by decide +kernel) rfl (by decide +kernel) (by decide) ?_
    refine g_goto 23 (show op 442 12 = some (.goto 11, 3) by decide +kernel) rfl ?_
    refine g_iconst 24 (show op 442 23 = some (.iconst 0, 1) by decide +kernel) rfl rfl ?_
    exact (g_iret (show op 442 24 = some (.ireturn, 1) by decide +kernel) (by decide +kernel) h)
  · exact g_callH (E := 0) (c := 1) 10 (show op 442 7 = some (.invokevirtual 181, 3) by decide +kernel) (call_vi' (k' := 4) (n' := 24) (nj := 4) (j := 226) (k9 := 20) (t := [(.inl 0), (.inr (.inr (some 726)))]) (as := [(.inr (.inr (some 0))), (.inl x1), (.inl x2), (.inl x3)]) (by decide +kernel) rfl (by decide +kernel) rfl rfl rfl rfl rfl rfl (by decide +kernel) (by decide +kernel)) hD0 (by decide +kernel) rfl h
  · exact g_callH (E := 2) (c := 2) 10 (show op 442 7 = some (.invokevirtual 181, 3) by decide +kernel) (call_vi' (k' := 4) (n' := 24) (nj := 4) (j := 226) (k9 := 20) (t := [(.inl 0), (.inr (.inr (some 726)))]) (as := [(.inr (.inr (some 0))), (.inl x1), (.inl x2), (.inl x3)]) (by decide +kernel) rfl (by decide +kernel) rfl rfl rfl rfl rfl rfl (by decide +kernel) (by decide +kernel)) hD0 (by decide +kernel) rfl h
end
