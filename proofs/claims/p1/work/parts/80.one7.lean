noncomputable section
theorem q44_0 {σ : Sg} {a1 : Int} {a2 : Int} (hz : ∀ a i, a < 1000 → σ a i = 0) (h0 : a1 < 0) : ∃ (kx b : Int) (s1 s2 : Sg), Dd 432 [(.inr (.inr (some 0))), (.inl a1), (.inl a2), (.inr (.inr (some 726)))] σ (.inl (some (.inl kx)), s1) ∧ Dd 374 [(.inr (.inr (some 682))), (.inl a1), (.inl a2)] s1 (.inl (some (.inl b)), s2) ∧ s2 682 0 = kx ∧ (kx = 0 → s2 726 0 = b) ∧ (∀ i, s1 SCR i = σ SCR i) ∧ s1 (SCR + 1) 0 = σ (SCR + 1) 0 ∧ s2 (SCR + 1) 0 = σ (SCR + 1) 0 := by
  have hA : Dd 432 [(.inr (.inr (some 0))), (.inl a1), (.inl a2), (.inr (.inr (some 726)))] σ (.inl (some (.inl 1)), σ) := by
    refine b432 ?_
    have hD2 : Dd 216 [(.inr (.inr (some 0))), (.inl a1), (.inl a2)] σ (.inr 0, σ) := by
      refine b216 ?_
      have hD1 : Dd 232 [(.inr (.inr (some 0))), (.inl a1), (.inl 3)] σ (.inr 0, σ) := by
        refine b232 ?_
        rw [if_neg (show ¬ ((0 : Int) ≤ a1) by first | omega | (simp [upS, hz]; done) | (simp [upS, hz]; omega))]
        refine b232_9 ?_
        all_goals rfl
      refine Or.inr ⟨_, _, hD1, ?_⟩
      all_goals rfl
    exact Or.inr (Or.inl ⟨_, hD2, rfl⟩)
  have hB : Dd 374 [(.inr (.inr (some 682))), (.inl a1), (.inl a2)] σ (.inl (some (.inl 0)), (upS σ 682 0 1)) := by
    refine b374 ?_
    have hD3 : Dd 246 [(.inl a1), (.inl 3)] σ (.inl (some (.inl 0)), σ) := by
      refine b246 ?_
      try rw [if_neg (show ¬ ((0 : Int) ≤ a1) by first | omega | (simp [upS, hz]; done) | (simp [upS, hz]; omega))]
      all_goals rfl
    refine ⟨_, _, hD3, ?_⟩
    clear hD3
    rw [if_pos (show (0 : Int) = 0 by first | omega | (simp [upS, hz]; done) | (simp [upS, hz]; omega))]
    refine b374_17 ?_
    refine b374_35 ?_
    have hD4 : Dd 245 [(.inr (.inr (some 682))), (.inl 1)] σ (.inl (some (.inl 0)), (upS σ 682 0 1)) := by
      refine b245 ?_
      try rw [if_neg (show ¬ ((1 : Int) = 0) by first | omega | (simp [upS, hz]; done) | (simp [upS, hz]; omega))]
      all_goals rfl
    refine ⟨_, _, hD4, ?_⟩
    clear hD4
    rw [if_pos (show (0 : Int) = 0 by first | omega | (simp [upS, hz]; done) | (simp [upS, hz]; omega))]
    all_goals rfl
  refine ⟨_, _, _, _, hA, hB, ?_, ?_, ?_, ?_, ?_⟩
  · (first | rfl | (simp [upS, SCR, hz]; done) | (simp [upS, SCR, hz]; omega))
  · first | (intro h9; omega) | (intro _; first | rfl | (simp [upS, SCR, hz]; done) | (simp [upS, SCR, hz]; omega))
  · intro i; first | rfl | (unfold upS SCR; (repeat' split) <;> first | rfl | omega)
  · first | rfl | (unfold upS SCR; (repeat' split) <;> first | rfl | omega)
  · first | rfl | (unfold upS SCR; (repeat' split) <;> first | rfl | omega)
theorem q44_1 {σ : Sg} {a1 : Int} {a2 : Int} (hz : ∀ a i, a < 1000 → σ a i = 0) (h0 : 3 ≤ a1) : ∃ (kx b : Int) (s1 s2 : Sg), Dd 432 [(.inr (.inr (some 0))), (.inl a1), (.inl a2), (.inr (.inr (some 726)))] σ (.inl (some (.inl kx)), s1) ∧ Dd 374 [(.inr (.inr (some 682))), (.inl a1), (.inl a2)] s1 (.inl (some (.inl b)), s2) ∧ s2 682 0 = kx ∧ (kx = 0 → s2 726 0 = b) ∧ (∀ i, s1 SCR i = σ SCR i) ∧ s1 (SCR + 1) 0 = σ (SCR + 1) 0 ∧ s2 (SCR + 1) 0 = σ (SCR + 1) 0 := by
  have hA : Dd 432 [(.inr (.inr (some 0))), (.inl a1), (.inl a2), (.inr (.inr (some 726)))] σ (.inl (some (.inl 1)), σ) := by
    refine b432 ?_
    have hD2 : Dd 216 [(.inr (.inr (some 0))), (.inl a1), (.inl a2)] σ (.inr 0, σ) := by
      refine b216 ?_
      have hD1 : Dd 232 [(.inr (.inr (some 0))), (.inl a1), (.inl 3)] σ (.inr 0, σ) := by
        refine b232 ?_
        rw [if_pos (show (0 : Int) ≤ a1 by first | omega | (simp [upS, hz]; done) | (simp [upS, hz]; omega))]
        rw [if_pos (show (3 : Int) ≤ a1 by first | omega | (simp [upS, hz]; done) | (simp [upS, hz]; omega))]
        refine b232_9 ?_
        all_goals rfl
      refine Or.inr ⟨_, _, hD1, ?_⟩
      all_goals rfl
    exact Or.inr (Or.inl ⟨_, hD2, rfl⟩)
  have hB : Dd 374 [(.inr (.inr (some 682))), (.inl a1), (.inl a2)] σ (.inl (some (.inl 0)), (upS σ 682 0 1)) := by
    refine b374 ?_
    have hD3 : Dd 246 [(.inl a1), (.inl 3)] σ (.inl (some (.inl 0)), σ) := by
      refine b246 ?_
      try rw [if_pos (show (0 : Int) ≤ a1 by first | omega | (simp [upS, hz]; done) | (simp [upS, hz]; omega))]
      try rw [if_neg (show ¬ (a1 < 3) by first | omega | (simp [upS, hz]; done) | (simp [upS, hz]; omega))]
      all_goals rfl
    refine ⟨_, _, hD3, ?_⟩
    clear hD3
    rw [if_pos (show (0 : Int) = 0 by first | omega | (simp [upS, hz]; done) | (simp [upS, hz]; omega))]
    refine b374_17 ?_
    refine b374_35 ?_
    have hD4 : Dd 245 [(.inr (.inr (some 682))), (.inl 1)] σ (.inl (some (.inl 0)), (upS σ 682 0 1)) := by
      refine b245 ?_
      try rw [if_neg (show ¬ ((1 : Int) = 0) by first | omega | (simp [upS, hz]; done) | (simp [upS, hz]; omega))]
      all_goals rfl
    refine ⟨_, _, hD4, ?_⟩
    clear hD4
    rw [if_pos (show (0 : Int) = 0 by first | omega | (simp [upS, hz]; done) | (simp [upS, hz]; omega))]
    all_goals rfl
  refine ⟨_, _, _, _, hA, hB, ?_, ?_, ?_, ?_, ?_⟩
  · (first | rfl | (simp [upS, SCR, hz]; done) | (simp [upS, SCR, hz]; omega))
  · first | (intro h9; omega) | (intro _; first | rfl | (simp [upS, SCR, hz]; done) | (simp [upS, SCR, hz]; omega))
  · intro i; first | rfl | (unfold upS SCR; (repeat' split) <;> first | rfl | omega)
  · first | rfl | (unfold upS SCR; (repeat' split) <;> first | rfl | omega)
  · first | rfl | (unfold upS SCR; (repeat' split) <;> first | rfl | omega)
theorem q44_2 {σ : Sg} {a1 : Int} {a2 : Int} (hz : ∀ a i, a < 1000 → σ a i = 0) (h0 : 0 ≤ a1 ∧ a1 < 3) (h1 : a2 < 0) : ∃ (kx b : Int) (s1 s2 : Sg), Dd 432 [(.inr (.inr (some 0))), (.inl a1), (.inl a2), (.inr (.inr (some 726)))] σ (.inl (some (.inl kx)), s1) ∧ Dd 374 [(.inr (.inr (some 682))), (.inl a1), (.inl a2)] s1 (.inl (some (.inl b)), s2) ∧ s2 682 0 = kx ∧ (kx = 0 → s2 726 0 = b) ∧ (∀ i, s1 SCR i = σ SCR i) ∧ s1 (SCR + 1) 0 = σ (SCR + 1) 0 ∧ s2 (SCR + 1) 0 = σ (SCR + 1) 0 := by
  have hA : Dd 432 [(.inr (.inr (some 0))), (.inl a1), (.inl a2), (.inr (.inr (some 726)))] σ (.inl (some (.inl 1)), σ) := by
    refine b432 ?_
    have hD3 : Dd 216 [(.inr (.inr (some 0))), (.inl a1), (.inl a2)] σ (.inr 0, σ) := by
      refine b216 ?_
      have hD1 : Dd 232 [(.inr (.inr (some 0))), (.inl a1), (.inl 3)] σ (.inl none, σ) := by
        refine b232 ?_
        rw [if_pos (show (0 : Int) ≤ a1 by first | omega | (simp [upS, hz]; done) | (simp [upS, hz]; omega))]
        rw [if_neg (show ¬ ((3 : Int) ≤ a1) by first | omega | (simp [upS, hz]; done) | (simp [upS, hz]; omega))]
        all_goals rfl
      refine Or.inl ⟨_, hD1, ?_⟩
      clear hD1
      have hD2 : Dd 232 [(.inr (.inr (some 0))), (.inl a2), (.inl 3)] σ (.inr 0, σ) := by
        refine b232 ?_
        rw [if_neg (show ¬ ((0 : Int) ≤ a2) by first | omega | (simp [upS, hz]; done) | (simp [upS, hz]; omega))]
        refine b232_9 ?_
        all_goals rfl
      refine Or.inr ⟨_, _, hD2, ?_⟩
      all_goals rfl
    exact Or.inr (Or.inl ⟨_, hD3, rfl⟩)
  have hB : Dd 374 [(.inr (.inr (some 682))), (.inl a1), (.inl a2)] σ (.inl (some (.inl 0)), (upS σ 682 0 1)) := by
    refine b374 ?_
    have hD4 : Dd 246 [(.inl a1), (.inl 3)] σ (.inl (some (.inl 1)), σ) := by
      refine b246 ?_
      try rw [if_pos (show (0 : Int) ≤ a1 by first | omega | (simp [upS, hz]; done) | (simp [upS, hz]; omega))]
      try rw [if_pos (show a1 < 3 by first | omega | (simp [upS, hz]; done) | (simp [upS, hz]; omega))]
      all_goals rfl
    refine ⟨_, _, hD4, ?_⟩
    clear hD4
    rw [if_neg (show ¬ ((1 : Int) = 0) by first | omega | (simp [upS, hz]; done) | (simp [upS, hz]; omega))]
    have hD5 : Dd 246 [(.inl a2), (.inl 3)] σ (.inl (some (.inl 0)), σ) := by
      refine b246 ?_
      try rw [if_neg (show ¬ ((0 : Int) ≤ a2) by first | omega | (simp [upS, hz]; done) | (simp [upS, hz]; omega))]
      all_goals rfl
    refine ⟨_, _, hD5, ?_⟩
    clear hD5
    rw [if_pos (show (0 : Int) = 0 by first | omega | (simp [upS, hz]; done) | (simp [upS, hz]; omega))]
    refine b374_17 ?_
    refine b374_35 ?_
    have hD6 : Dd 245 [(.inr (.inr (some 682))), (.inl 1)] σ (.inl (some (.inl 0)), (upS σ 682 0 1)) := by
      refine b245 ?_
      try rw [if_neg (show ¬ ((1 : Int) = 0) by first | omega | (simp [upS, hz]; done) | (simp [upS, hz]; omega))]
      all_goals rfl
    refine ⟨_, _, hD6, ?_⟩
    clear hD6
    rw [if_pos (show (0 : Int) = 0 by first | omega | (simp [upS, hz]; done) | (simp [upS, hz]; omega))]
    all_goals rfl
  refine ⟨_, _, _, _, hA, hB, ?_, ?_, ?_, ?_, ?_⟩
  · (first | rfl | (simp [upS, SCR, hz]; done) | (simp [upS, SCR, hz]; omega))
  · first | (intro h9; omega) | (intro _; first | rfl | (simp [upS, SCR, hz]; done) | (simp [upS, SCR, hz]; omega))
  · intro i; first | rfl | (unfold upS SCR; (repeat' split) <;> first | rfl | omega)
  · first | rfl | (unfold upS SCR; (repeat' split) <;> first | rfl | omega)
  · first | rfl | (unfold upS SCR; (repeat' split) <;> first | rfl | omega)
theorem q44_3 {σ : Sg} {a1 : Int} {a2 : Int} (hz : ∀ a i, a < 1000 → σ a i = 0) (h0 : 0 ≤ a1 ∧ a1 < 3) (h1 : 3 ≤ a2) : ∃ (kx b : Int) (s1 s2 : Sg), Dd 432 [(.inr (.inr (some 0))), (.inl a1), (.inl a2), (.inr (.inr (some 726)))] σ (.inl (some (.inl kx)), s1) ∧ Dd 374 [(.inr (.inr (some 682))), (.inl a1), (.inl a2)] s1 (.inl (some (.inl b)), s2) ∧ s2 682 0 = kx ∧ (kx = 0 → s2 726 0 = b) ∧ (∀ i, s1 SCR i = σ SCR i) ∧ s1 (SCR + 1) 0 = σ (SCR + 1) 0 ∧ s2 (SCR + 1) 0 = σ (SCR + 1) 0 := by
  have hA : Dd 432 [(.inr (.inr (some 0))), (.inl a1), (.inl a2), (.inr (.inr (some 726)))] σ (.inl (some (.inl 1)), σ) := by
    refine b432 ?_
    have hD3 : Dd 216 [(.inr (.inr (some 0))), (.inl a1), (.inl a2)] σ (.inr 0, σ) := by
      refine b216 ?_
      have hD1 : Dd 232 [(.inr (.inr (some 0))), (.inl a1), (.inl 3)] σ (.inl none, σ) := by
        refine b232 ?_
        rw [if_pos (show (0 : Int) ≤ a1 by first | omega | (simp [upS, hz]; done) | (simp [upS, hz]; omega))]
        rw [if_neg (show ¬ ((3 : Int) ≤ a1) by first | omega | (simp [upS, hz]; done) | (simp [upS, hz]; omega))]
        all_goals rfl
      refine Or.inl ⟨_, hD1, ?_⟩
      clear hD1
      have hD2 : Dd 232 [(.inr (.inr (some 0))), (.inl a2), (.inl 3)] σ (.inr 0, σ) := by
        refine b232 ?_
        rw [if_pos (show (0 : Int) ≤ a2 by first | omega | (simp [upS, hz]; done) | (simp [upS, hz]; omega))]
        rw [if_pos (show (3 : Int) ≤ a2 by first | omega | (simp [upS, hz]; done) | (simp [upS, hz]; omega))]
        refine b232_9 ?_
        all_goals rfl
      refine Or.inr ⟨_, _, hD2, ?_⟩
      all_goals rfl
    exact Or.inr (Or.inl ⟨_, hD3, rfl⟩)
  have hB : Dd 374 [(.inr (.inr (some 682))), (.inl a1), (.inl a2)] σ (.inl (some (.inl 0)), (upS σ 682 0 1)) := by
    refine b374 ?_
    have hD4 : Dd 246 [(.inl a1), (.inl 3)] σ (.inl (some (.inl 1)), σ) := by
      refine b246 ?_
      try rw [if_pos (show (0 : Int) ≤ a1 by first | omega | (simp [upS, hz]; done) | (simp [upS, hz]; omega))]
      try rw [if_pos (show a1 < 3 by first | omega | (simp [upS, hz]; done) | (simp [upS, hz]; omega))]
      all_goals rfl
    refine ⟨_, _, hD4, ?_⟩
    clear hD4
    rw [if_neg (show ¬ ((1 : Int) = 0) by first | omega | (simp [upS, hz]; done) | (simp [upS, hz]; omega))]
    have hD5 : Dd 246 [(.inl a2), (.inl 3)] σ (.inl (some (.inl 0)), σ) := by
      refine b246 ?_
      try rw [if_pos (show (0 : Int) ≤ a2 by first | omega | (simp [upS, hz]; done) | (simp [upS, hz]; omega))]
      try rw [if_neg (show ¬ (a2 < 3) by first | omega | (simp [upS, hz]; done) | (simp [upS, hz]; omega))]
      all_goals rfl
    refine ⟨_, _, hD5, ?_⟩
    clear hD5
    rw [if_pos (show (0 : Int) = 0 by first | omega | (simp [upS, hz]; done) | (simp [upS, hz]; omega))]
    refine b374_17 ?_
    refine b374_35 ?_
    have hD6 : Dd 245 [(.inr (.inr (some 682))), (.inl 1)] σ (.inl (some (.inl 0)), (upS σ 682 0 1)) := by
      refine b245 ?_
      try rw [if_neg (show ¬ ((1 : Int) = 0) by first | omega | (simp [upS, hz]; done) | (simp [upS, hz]; omega))]
      all_goals rfl
    refine ⟨_, _, hD6, ?_⟩
    clear hD6
    rw [if_pos (show (0 : Int) = 0 by first | omega | (simp [upS, hz]; done) | (simp [upS, hz]; omega))]
    all_goals rfl
  refine ⟨_, _, _, _, hA, hB, ?_, ?_, ?_, ?_, ?_⟩
  · (first | rfl | (simp [upS, SCR, hz]; done) | (simp [upS, SCR, hz]; omega))
  · first | (intro h9; omega) | (intro _; first | rfl | (simp [upS, SCR, hz]; done) | (simp [upS, SCR, hz]; omega))
  · intro i; first | rfl | (unfold upS SCR; (repeat' split) <;> first | rfl | omega)
  · first | rfl | (unfold upS SCR; (repeat' split) <;> first | rfl | omega)
  · first | rfl | (unfold upS SCR; (repeat' split) <;> first | rfl | omega)
theorem q44_4 {σ : Sg} {a1 : Int} {a2 : Int} (hz : ∀ a i, a < 1000 → σ a i = 0) (h0 : 0 ≤ a1 ∧ a1 < 3) (h1 : 0 ≤ a2 ∧ a2 < 3) : ∃ (kx b : Int) (s1 s2 : Sg), Dd 432 [(.inr (.inr (some 0))), (.inl a1), (.inl a2), (.inr (.inr (some 726)))] σ (.inl (some (.inl kx)), s1) ∧ Dd 374 [(.inr (.inr (some 682))), (.inl a1), (.inl a2)] s1 (.inl (some (.inl b)), s2) ∧ s2 682 0 = kx ∧ (kx = 0 → s2 726 0 = b) ∧ (∀ i, s1 SCR i = σ SCR i) ∧ s1 (SCR + 1) 0 = σ (SCR + 1) 0 ∧ s2 (SCR + 1) 0 = σ (SCR + 1) 0 := by
  have hA : Dd 432 [(.inr (.inr (some 0))), (.inl a1), (.inl a2), (.inr (.inr (some 726)))] σ (.inl (some (.inl 0)), (upS (upS (upS (upS (upS (upS (upS (upS (upS (upS (upS (upS (upS (upS (upS (upS (upS (upS (upS (upS (upS (upS (upS (upS (upS (upS σ 655 1 6) (655 + 1) 0 (-1)) (655 + 1) 1 (-1)) (655 + 1) 2 (-1)) (655 + 1) 3 (-1)) (655 + 1) 4 (-1)) (655 + 1) 5 (-1)) 657 0 0) 657 1 0) 657 2 0) 657 3 0) 657 4 0) 657 5 0) (653 + 1) 0 (-1)) 653 1 1) (653 + 1) 1 (-1)) 653 1 2) (653 + 1) 2 (-1)) 653 1 3) (653 + 1) 3 (-1)) 653 1 4) (653 + 1) 4 (-1)) 653 1 5) (653 + 1) 5 (-1)) 653 1 6) 726 0 0)) := by
    refine b432 ?_
    have hD40 : Dd 216 [(.inr (.inr (some 0))), (.inl a1), (.inl a2)] σ (.inl (some (.inl 0)), (upS (upS (upS (upS (upS (upS (upS (upS (upS (upS (upS (upS (upS (upS (upS (upS (upS (upS (upS (upS (upS (upS (upS (upS (upS σ 655 1 6) (655 + 1) 0 (-1)) (655 + 1) 1 (-1)) (655 + 1) 2 (-1)) (655 + 1) 3 (-1)) (655 + 1) 4 (-1)) (655 + 1) 5 (-1)) 657 0 0) 657 1 0) 657 2 0) 657 3 0) 657 4 0) 657 5 0) (653 + 1) 0 (-1)) 653 1 1) (653 + 1) 1 (-1)) 653 1 2) (653 + 1) 2 (-1)) 653 1 3) (653 + 1) 3 (-1)) 653 1 4) (653 + 1) 4 (-1)) 653 1 5) (653 + 1) 5 (-1)) 653 1 6)) := by
      refine b216 ?_
      have hD1 : Dd 232 [(.inr (.inr (some 0))), (.inl a1), (.inl 3)] σ (.inl none, σ) := by
        refine b232 ?_
        rw [if_pos (show (0 : Int) ≤ a1 by first | omega | (simp [upS, hz]; done) | (simp [upS, hz]; omega))]
        rw [if_neg (show ¬ ((3 : Int) ≤ a1) by first | omega | (simp [upS, hz]; done) | (simp [upS, hz]; omega))]
        all_goals rfl
      refine Or.inl ⟨_, hD1, ?_⟩
      clear hD1
      have hD2 : Dd 232 [(.inr (.inr (some 0))), (.inl a2), (.inl 3)] σ (.inl none, σ) := by
        refine b232 ?_
        rw [if_pos (show (0 : Int) ≤ a2 by first | omega | (simp [upS, hz]; done) | (simp [upS, hz]; omega))]
        rw [if_neg (show ¬ ((3 : Int) ≤ a2) by first | omega | (simp [upS, hz]; done) | (simp [upS, hz]; omega))]
        all_goals rfl
      refine Or.inl ⟨_, hD2, ?_⟩
      clear hD2
      have hD5 : Dd 239 [(.inr (.inr (some 0)))] σ (.inl none, σ) := by
        refine b239 ?_
        have hD4 : Dd 54 [(.inr (.inr (some 614)))] σ (.inl (some (.inl 0)), σ) := by
          refine b54 ?_
          have hD3 : Dd 146 [(.inr (.inr (some 653)))] σ (.inl (some (.inl 0)), σ) := by
            refine b146 (by decide +kernel) ?_
            rw [show (σ 653 1) = 0 by (first | omega | (simp [upS, hz]; done) | (simp [upS, hz]; omega))]
            all_goals rfl
          refine ⟨_, _, hD3, ?_⟩
          clear hD3
          rw [show (Int.tdiv 0 6) = 0 by (first | omega | (simp [upS, hz]; done) | (simp [upS, hz]; omega))]
          all_goals rfl
        refine ⟨_, _, hD4, ?_⟩
        clear hD4
        rw [if_neg (show ¬ ((10 : Int) ≤ 0) by first | omega | (simp [upS, hz]; done) | (simp [upS, hz]; omega))]
        all_goals rfl
      refine Or.inl ⟨_, hD5, ?_⟩
      clear hD5
      have hD38 : Dd 56 [(.inr (.inr (some 614))), (.inl a1), (.inl a2)] σ (.inl (some (.inl 0)), (upS (upS (upS (upS (upS (upS (upS (upS (upS (upS (upS (upS (upS (upS (upS (upS (upS (upS (upS (upS (upS (upS (upS (upS (upS σ 655 1 6) (655 + 1) 0 (-1)) (655 + 1) 1 (-1)) (655 + 1) 2 (-1)) (655 + 1) 3 (-1)) (655 + 1) 4 (-1)) (655 + 1) 5 (-1)) 657 0 0) 657 1 0) 657 2 0) 657 3 0) 657 4 0) 657 5 0) (653 + 1) 0 (-1)) 653 1 1) (653 + 1) 1 (-1)) 653 1 2) (653 + 1) 2 (-1)) 653 1 3) (653 + 1) 3 (-1)) 653 1 4) (653 + 1) 4 (-1)) 653 1 5) (653 + 1) 5 (-1)) 653 1 6)) := by
        refine b56 ?_
        have hD7 : Dd 153 [(.inr (.inr (some 655))), (.inl 6), (.inl (-1))] σ (.inl none, (upS (upS (upS (upS (upS (upS (upS σ 655 1 6) (655 + 1) 0 (-1)) (655 + 1) 1 (-1)) (655 + 1) 2 (-1)) (655 + 1) 3 (-1)) (655 + 1) 4 (-1)) (655 + 1) 5 (-1))) := by
          refine b153 (by decide +kernel) ?_
          refine ⟨(show -2147483648 ≤ ((cap 655) : Int) ∧ ((cap 655) : Int) ≤ 2147483647 by have e655 : (cap 655 : Int) = 6 := (by decide +kernel); first | omega | (simp [upS, hz]; done) | (simp [upS, hz]; omega)), ?_⟩
          rw [(show (upS σ 655 1 (if 0 < (if ((cap 655) : Int) < 6 then ((cap 655) : Int) else 6) then (if ((cap 655) : Int) < 6 then ((cap 655) : Int) else 6) else 0)) = (upS σ 655 1 6) from by rw [show (if (0 : Int) < (if ((cap 655) : Int) < 6 then ((cap 655) : Int) else 6) then (if ((cap 655) : Int) < 6 then ((cap 655) : Int) else 6) else 0) = 6 by (have e655 : (cap 655 : Int) = 6 := (by decide +kernel); first | omega | (simp [upS, hz]; done) | (simp [upS, hz]; omega))])]
          refine b153_19 (by decide +kernel) ?_
          rw [if_pos (show (0 : Int) < ((upS σ 655 1 6) 655 1) by first | omega | (simp [upS, hz]; done) | (simp [upS, hz]; omega))]
          refine ⟨(show (0 : Int) ≤ 0 ∧ 0 < ((cap 655) : Int) by have e655 : (cap 655 : Int) = 6 := (by decide +kernel); first | omega | (simp [upS, hz]; done) | (simp [upS, hz]; omega)), ?_⟩
          refine ⟨(show (-2147483648 : Int) ≤ (0 + 1) ∧ ((0 + 1) : Int) ≤ 2147483647 by first | omega | (simp [upS, hz]; done) | (simp [upS, hz]; omega)), ?_⟩
          rw [(show (upS (upS σ 655 1 6) (655 + 1) ((0 : Int).toNat) (-1)) = (upS (upS σ 655 1 6) (655 + 1) 0 (-1)) from by rw [show ((0 : Int).toNat) = 0 by (first | omega | (simp [upS, hz]; done) | (simp [upS, hz]; omega))])]
          rw [show ((0 + 1) : Int) = 1 by (first | omega | (simp [upS, hz]; done) | (simp [upS, hz]; omega))]
          refine b153_19 (by decide +kernel) ?_
          rw [if_pos (show (1 : Int) < ((upS (upS σ 655 1 6) (655 + 1) 0 (-1)) 655 1) by first | omega | (simp [upS, hz]; done) | (simp [upS, hz]; omega))]
          refine ⟨(show (0 : Int) ≤ 1 ∧ 1 < ((cap 655) : Int) by have e655 : (cap 655 : Int) = 6 := (by decide +kernel); first | omega | (simp [upS, hz]; done) | (simp [upS, hz]; omega)), ?_⟩
          refine ⟨(show (-2147483648 : Int) ≤ (1 + 1) ∧ ((1 + 1) : Int) ≤ 2147483647 by first | omega | (simp [upS, hz]; done) | (simp [upS, hz]; omega)), ?_⟩
          rw [(show (upS (upS (upS σ 655 1 6) (655 + 1) 0 (-1)) (655 + 1) ((1 : Int).toNat) (-1)) = (upS (upS (upS σ 655 1 6) (655 + 1) 0 (-1)) (655 + 1) 1 (-1)) from by rw [show ((1 : Int).toNat) = 1 by (first | omega | (simp [upS, hz]; done) | (simp [upS, hz]; omega))])]
          rw [show ((1 + 1) : Int) = 2 by (first | omega | (simp [upS, hz]; done) | (simp [upS, hz]; omega))]
          refine b153_19 (by decide +kernel) ?_
          rw [if_pos (show (2 : Int) < ((upS (upS (upS σ 655 1 6) (655 + 1) 0 (-1)) (655 + 1) 1 (-1)) 655 1) by first | omega | (simp [upS, hz]; done) | (simp [upS, hz]; omega))]
          refine ⟨(show (0 : Int) ≤ 2 ∧ 2 < ((cap 655) : Int) by have e655 : (cap 655 : Int) = 6 := (by decide +kernel); first | omega | (simp [upS, hz]; done) | (simp [upS, hz]; omega)), ?_⟩
          refine ⟨(show (-2147483648 : Int) ≤ (2 + 1) ∧ ((2 + 1) : Int) ≤ 2147483647 by first | omega | (simp [upS, hz]; done) | (simp [upS, hz]; omega)), ?_⟩
          rw [(show (upS (upS (upS (upS σ 655 1 6) (655 + 1) 0 (-1)) (655 + 1) 1 (-1)) (655 + 1) ((2 : Int).toNat) (-1)) = (upS (upS (upS (upS σ 655 1 6) (655 + 1) 0 (-1)) (655 + 1) 1 (-1)) (655 + 1) 2 (-1)) from by rw [show ((2 : Int).toNat) = 2 by (first | omega | (simp [upS, hz]; done) | (simp [upS, hz]; omega))])]
          rw [show ((2 + 1) : Int) = 3 by (first | omega | (simp [upS, hz]; done) | (simp [upS, hz]; omega))]
          refine b153_19 (by decide +kernel) ?_
          rw [if_pos (show (3 : Int) < ((upS (upS (upS (upS σ 655 1 6) (655 + 1) 0 (-1)) (655 + 1) 1 (-1)) (655 + 1) 2 (-1)) 655 1) by first | omega | (simp [upS, hz]; done) | (simp [upS, hz]; omega))]
          refine ⟨(show (0 : Int) ≤ 3 ∧ 3 < ((cap 655) : Int) by have e655 : (cap 655 : Int) = 6 := (by decide +kernel); first | omega | (simp [upS, hz]; done) | (simp [upS, hz]; omega)), ?_⟩
          refine ⟨(show (-2147483648 : Int) ≤ (3 + 1) ∧ ((3 + 1) : Int) ≤ 2147483647 by first | omega | (simp [upS, hz]; done) | (simp [upS, hz]; omega)), ?_⟩
          rw [(show (upS (upS (upS (upS (upS σ 655 1 6) (655 + 1) 0 (-1)) (655 + 1) 1 (-1)) (655 + 1) 2 (-1)) (655 + 1) ((3 : Int).toNat) (-1)) = (upS (upS (upS (upS (upS σ 655 1 6) (655 + 1) 0 (-1)) (655 + 1) 1 (-1)) (655 + 1) 2 (-1)) (655 + 1) 3 (-1)) from by rw [show ((3 : Int).toNat) = 3 by (first | omega | (simp [upS, hz]; done) | (simp [upS, hz]; omega))])]
          obtain ⟨S6, E6⟩ : ∃ s : Sg, s = (upS (upS (upS (upS (upS σ 655 1 6) (655 + 1) 0 (-1)) (655 + 1) 1 (-1)) (655 + 1) 2 (-1)) (655 + 1) 3 (-1)) := ⟨_, rfl⟩
          rw [← E6]
          rw [show ((3 + 1) : Int) = 4 by (first | omega | (simp [upS, hz, E6]; done) | (simp [upS, hz, E6]; omega))]
          refine b153_19 (by decide +kernel) ?_
          rw [if_pos (show (4 : Int) < (S6 655 1) by first | omega | (simp [upS, hz, E6]; done) | (simp [upS, hz, E6]; omega))]
          refine ⟨(show (0 : Int) ≤ 4 ∧ 4 < ((cap 655) : Int) by have e655 : (cap 655 : Int) = 6 := (by decide +kernel); first | omega | (simp [upS, hz, E6]; done) | (simp [upS, hz, E6]; omega)), ?_⟩
          refine ⟨(show (-2147483648 : Int) ≤ (4 + 1) ∧ ((4 + 1) : Int) ≤ 2147483647 by first | omega | (simp [upS, hz, E6]; done) | (simp [upS, hz, E6]; omega)), ?_⟩
          rw [(show (upS S6 (655 + 1) ((4 : Int).toNat) (-1)) = (upS S6 (655 + 1) 4 (-1)) from by rw [show ((4 : Int).toNat) = 4 by (first | omega | (simp [upS, hz, E6]; done) | (simp [upS, hz, E6]; omega))])]
          rw [show ((4 + 1) : Int) = 5 by (first | omega | (simp [upS, hz, E6]; done) | (simp [upS, hz, E6]; omega))]
          refine b153_19 (by decide +kernel) ?_
          rw [if_pos (show (5 : Int) < ((upS S6 (655 + 1) 4 (-1)) 655 1) by first | omega | (simp [upS, hz, E6]; done) | (simp [upS, hz, E6]; omega))]
          refine ⟨(show (0 : Int) ≤ 5 ∧ 5 < ((cap 655) : Int) by have e655 : (cap 655 : Int) = 6 := (by decide +kernel); first | omega | (simp [upS, hz, E6]; done) | (simp [upS, hz, E6]; omega)), ?_⟩
          refine ⟨(show (-2147483648 : Int) ≤ (5 + 1) ∧ ((5 + 1) : Int) ≤ 2147483647 by first | omega | (simp [upS, hz, E6]; done) | (simp [upS, hz, E6]; omega)), ?_⟩
          rw [(show (upS (upS S6 (655 + 1) 4 (-1)) (655 + 1) ((5 : Int).toNat) (-1)) = (upS (upS S6 (655 + 1) 4 (-1)) (655 + 1) 5 (-1)) from by rw [show ((5 : Int).toNat) = 5 by (first | omega | (simp [upS, hz, E6]; done) | (simp [upS, hz, E6]; omega))])]
          rw [show ((5 + 1) : Int) = 6 by (first | omega | (simp [upS, hz, E6]; done) | (simp [upS, hz, E6]; omega))]
          refine b153_19 (by decide +kernel) ?_
          rw [if_neg (show ¬ ((6 : Int) < ((upS (upS S6 (655 + 1) 4 (-1)) (655 + 1) 5 (-1)) 655 1)) by first | omega | (simp [upS, hz, E6]; done) | (simp [upS, hz, E6]; omega))]
          all_goals (first | rfl | (simp only [E6]))
        obtain ⟨S8, E8⟩ : ∃ s : Sg, s = (upS (upS (upS (upS (upS (upS (upS σ 655 1 6) (655 + 1) 0 (-1)) (655 + 1) 1 (-1)) (655 + 1) 2 (-1)) (655 + 1) 3 (-1)) (655 + 1) 4 (-1)) (655 + 1) 5 (-1)) := ⟨_, rfl⟩
        rw [← E8] at hD7
        refine ⟨_, hD7, ?_⟩
        clear hD7
        refine b56_12 ?_
        rw [if_pos (show (0 : Int) < 6 by first | omega | (simp [upS, hz, E8]; done) | (simp [upS, hz, E8]; omega))]
        rw [if_pos (show (0 : Int) < 6 by first | omega | (simp [upS, hz, E8]; done) | (simp [upS, hz, E8]; omega))]
        refine ⟨(show (0 : Int) ≤ 0 ∧ (0 : Int) < 6 by first | omega | (simp [upS, hz, E8]; done) | (simp [upS, hz, E8]; omega)), ?_⟩
        refine ⟨(show (-2147483648 : Int) ≤ (0 + 1) ∧ ((0 + 1) : Int) ≤ 2147483647 by first | omega | (simp [upS, hz, E8]; done) | (simp [upS, hz, E8]; omega)), ?_⟩
        rw [(show (upS S8 657 ((0 : Int).toNat) 0) = (upS S8 657 0 0) from by rw [show ((0 : Int).toNat) = 0 by (first | omega | (simp [upS, hz, E8]; done) | (simp [upS, hz, E8]; omega))])]
        rw [show ((0 + 1) : Int) = 1 by (first | omega | (simp [upS, hz, E8]; done) | (simp [upS, hz, E8]; omega))]
        refine b56_12 ?_
        rw [if_pos (show (1 : Int) < 6 by first | omega | (simp [upS, hz, E8]; done) | (simp [upS, hz, E8]; omega))]
        rw [if_pos (show (1 : Int) < 6 by first | omega | (simp [upS, hz, E8]; done) | (simp [upS, hz, E8]; omega))]
        refine ⟨(show (0 : Int) ≤ 1 ∧ (1 : Int) < 6 by first | omega | (simp [upS, hz, E8]; done) | (simp [upS, hz, E8]; omega)), ?_⟩
        refine ⟨(show (-2147483648 : Int) ≤ (1 + 1) ∧ ((1 + 1) : Int) ≤ 2147483647 by first | omega | (simp [upS, hz, E8]; done) | (simp [upS, hz, E8]; omega)), ?_⟩
        rw [(show (upS (upS S8 657 0 0) 657 ((1 : Int).toNat) 0) = (upS (upS S8 657 0 0) 657 1 0) from by rw [show ((1 : Int).toNat) = 1 by (first | omega | (simp [upS, hz, E8]; done) | (simp [upS, hz, E8]; omega))])]
        rw [show ((1 + 1) : Int) = 2 by (first | omega | (simp [upS, hz, E8]; done) | (simp [upS, hz, E8]; omega))]
        refine b56_12 ?_
        rw [if_pos (show (2 : Int) < 6 by first | omega | (simp [upS, hz, E8]; done) | (simp [upS, hz, E8]; omega))]
        rw [if_pos (show (2 : Int) < 6 by first | omega | (simp [upS, hz, E8]; done) | (simp [upS, hz, E8]; omega))]
        refine ⟨(show (0 : Int) ≤ 2 ∧ (2 : Int) < 6 by first | omega | (simp [upS, hz, E8]; done) | (simp [upS, hz, E8]; omega)), ?_⟩
        refine ⟨(show (-2147483648 : Int) ≤ (2 + 1) ∧ ((2 + 1) : Int) ≤ 2147483647 by first | omega | (simp [upS, hz, E8]; done) | (simp [upS, hz, E8]; omega)), ?_⟩
        rw [(show (upS (upS (upS S8 657 0 0) 657 1 0) 657 ((2 : Int).toNat) 0) = (upS (upS (upS S8 657 0 0) 657 1 0) 657 2 0) from by rw [show ((2 : Int).toNat) = 2 by (first | omega | (simp [upS, hz, E8]; done) | (simp [upS, hz, E8]; omega))])]
        rw [show ((2 + 1) : Int) = 3 by (first | omega | (simp [upS, hz, E8]; done) | (simp [upS, hz, E8]; omega))]
        refine b56_12 ?_
        rw [if_pos (show (3 : Int) < 6 by first | omega | (simp [upS, hz, E8]; done) | (simp [upS, hz, E8]; omega))]
        rw [if_pos (show (3 : Int) < 6 by first | omega | (simp [upS, hz, E8]; done) | (simp [upS, hz, E8]; omega))]
        refine ⟨(show (0 : Int) ≤ 3 ∧ (3 : Int) < 6 by first | omega | (simp [upS, hz, E8]; done) | (simp [upS, hz, E8]; omega)), ?_⟩
        refine ⟨(show (-2147483648 : Int) ≤ (3 + 1) ∧ ((3 + 1) : Int) ≤ 2147483647 by first | omega | (simp [upS, hz, E8]; done) | (simp [upS, hz, E8]; omega)), ?_⟩
        rw [(show (upS (upS (upS (upS S8 657 0 0) 657 1 0) 657 2 0) 657 ((3 : Int).toNat) 0) = (upS (upS (upS (upS S8 657 0 0) 657 1 0) 657 2 0) 657 3 0) from by rw [show ((3 : Int).toNat) = 3 by (first | omega | (simp [upS, hz, E8]; done) | (simp [upS, hz, E8]; omega))])]
        rw [show ((3 + 1) : Int) = 4 by (first | omega | (simp [upS, hz, E8]; done) | (simp [upS, hz, E8]; omega))]
        refine b56_12 ?_
        rw [if_pos (show (4 : Int) < 6 by first | omega | (simp [upS, hz, E8]; done) | (simp [upS, hz, E8]; omega))]
        rw [if_pos (show (4 : Int) < 6 by first | omega | (simp [upS, hz, E8]; done) | (simp [upS, hz, E8]; omega))]
        refine ⟨(show (0 : Int) ≤ 4 ∧ (4 : Int) < 6 by first | omega | (simp [upS, hz, E8]; done) | (simp [upS, hz, E8]; omega)), ?_⟩
        refine ⟨(show (-2147483648 : Int) ≤ (4 + 1) ∧ ((4 + 1) : Int) ≤ 2147483647 by first | omega | (simp [upS, hz, E8]; done) | (simp [upS, hz, E8]; omega)), ?_⟩
        rw [(show (upS (upS (upS (upS (upS S8 657 0 0) 657 1 0) 657 2 0) 657 3 0) 657 ((4 : Int).toNat) 0) = (upS (upS (upS (upS (upS S8 657 0 0) 657 1 0) 657 2 0) 657 3 0) 657 4 0) from by rw [show ((4 : Int).toNat) = 4 by (first | omega | (simp [upS, hz, E8]; done) | (simp [upS, hz, E8]; omega))])]
        rw [show ((4 + 1) : Int) = 5 by (first | omega | (simp [upS, hz, E8]; done) | (simp [upS, hz, E8]; omega))]
        refine b56_12 ?_
        rw [if_pos (show (5 : Int) < 6 by first | omega | (simp [upS, hz, E8]; done) | (simp [upS, hz, E8]; omega))]
        rw [if_pos (show (5 : Int) < 6 by first | omega | (simp [upS, hz, E8]; done) | (simp [upS, hz, E8]; omega))]
        refine ⟨(show (0 : Int) ≤ 5 ∧ (5 : Int) < 6 by first | omega | (simp [upS, hz, E8]; done) | (simp [upS, hz, E8]; omega)), ?_⟩
        refine ⟨(show (-2147483648 : Int) ≤ (5 + 1) ∧ ((5 + 1) : Int) ≤ 2147483647 by first | omega | (simp [upS, hz, E8]; done) | (simp [upS, hz, E8]; omega)), ?_⟩
        rw [(show (upS (upS (upS (upS (upS (upS S8 657 0 0) 657 1 0) 657 2 0) 657 3 0) 657 4 0) 657 ((5 : Int).toNat) 0) = (upS (upS (upS (upS (upS (upS S8 657 0 0) 657 1 0) 657 2 0) 657 3 0) 657 4 0) 657 5 0) from by rw [show ((5 : Int).toNat) = 5 by (first | omega | (simp [upS, hz, E8]; done) | (simp [upS, hz, E8]; omega))])]
        rw [show ((5 + 1) : Int) = 6 by (first | omega | (simp [upS, hz, E8]; done) | (simp [upS, hz, E8]; omega))]
        refine b56_12 ?_
        rw [if_neg (show ¬ ((6 : Int) < 6) by first | omega | (simp [upS, hz, E8]; done) | (simp [upS, hz, E8]; omega))]
        refine b56_40 ?_
        have hD9 : Dd 60 [(.inr (.inr (some 614))), (.inl a1), (.inl a2)] (upS (upS (upS (upS (upS (upS S8 657 0 0) 657 1 0) 657 2 0) 657 3 0) 657 4 0) 657 5 0) (.inl none, (upS (upS (upS (upS (upS (upS S8 657 0 0) 657 1 0) 657 2 0) 657 3 0) 657 4 0) 657 5 0)) := n60 ⟨by intro i; simp [upS, hz, E8], by simp [upS, hz, E8], by simp [upS, hz, E8]⟩ (by omega)
        refine ⟨_, hD9, ?_⟩
        clear hD9
        have hD10 : Dd 61 [(.inr (.inr (some 614))), (.inl a1), (.inl a2)] (upS (upS (upS (upS (upS (upS S8 657 0 0) 657 1 0) 657 2 0) 657 3 0) 657 4 0) 657 5 0) (.inl none, (upS (upS (upS (upS (upS (upS S8 657 0 0) 657 1 0) 657 2 0) 657 3 0) 657 4 0) 657 5 0)) := n61 ⟨by intro i; simp [upS, hz, E8], by simp [upS, hz, E8], by simp [upS, hz, E8]⟩ (by omega)
        refine ⟨_, hD10, ?_⟩
        clear hD10
        refine b56_54 ?_
        rw [if_pos (show (0 : Int) < 6 by first | omega | (simp [upS, hz, E8]; done) | (simp [upS, hz, E8]; omega))]
        have hD11 : Dd 62 [(.inr (.inr (some 614))), (.inl a1), (.inl a2)] (upS (upS (upS (upS (upS (upS S8 657 0 0) 657 1 0) 657 2 0) 657 3 0) 657 4 0) 657 5 0) (.inl none, (upS (upS (upS (upS (upS (upS S8 657 0 0) 657 1 0) 657 2 0) 657 3 0) 657 4 0) 657 5 0)) := n62 ⟨by intro i; simp [upS, hz, E8], by simp [upS, hz, E8], by simp [upS, hz, E8]⟩ (by omega)
        refine ⟨_, hD11, ?_⟩
        clear hD11
        refine ⟨(show (-2147483648 : Int) ≤ (0 + 1) ∧ ((0 + 1) : Int) ≤ 2147483647 by first | omega | (simp [upS, hz, E8]; done) | (simp [upS, hz, E8]; omega)), ?_⟩
        rw [show ((0 + 1) : Int) = 1 by (first | omega | (simp [upS, hz, E8]; done) | (simp [upS, hz, E8]; omega))]
        refine b56_54 ?_
        rw [if_pos (show (1 : Int) < 6 by first | omega | (simp [upS, hz, E8]; done) | (simp [upS, hz, E8]; omega))]
        have hD12 : Dd 62 [(.inr (.inr (some 614))), (.inl a1), (.inl a2)] (upS (upS (upS (upS (upS (upS S8 657 0 0) 657 1 0) 657 2 0) 657 3 0) 657 4 0) 657 5 0) (.inl none, (upS (upS (upS (upS (upS (upS S8 657 0 0) 657 1 0) 657 2 0) 657 3 0) 657 4 0) 657 5 0)) := n62 ⟨by intro i; simp [upS, hz, E8], by simp [upS, hz, E8], by simp [upS, hz, E8]⟩ (by omega)
        refine ⟨_, hD12, ?_⟩
        clear hD12
        refine ⟨(show (-2147483648 : Int) ≤ (1 + 1) ∧ ((1 + 1) : Int) ≤ 2147483647 by first | omega | (simp [upS, hz, E8]; done) | (simp [upS, hz, E8]; omega)), ?_⟩
        rw [show ((1 + 1) : Int) = 2 by (first | omega | (simp [upS, hz, E8]; done) | (simp [upS, hz, E8]; omega))]
        refine b56_54 ?_
        rw [if_pos (show (2 : Int) < 6 by first | omega | (simp [upS, hz, E8]; done) | (simp [upS, hz, E8]; omega))]
        have hD13 : Dd 62 [(.inr (.inr (some 614))), (.inl a1), (.inl a2)] (upS (upS (upS (upS (upS (upS S8 657 0 0) 657 1 0) 657 2 0) 657 3 0) 657 4 0) 657 5 0) (.inl none, (upS (upS (upS (upS (upS (upS S8 657 0 0) 657 1 0) 657 2 0) 657 3 0) 657 4 0) 657 5 0)) := n62 ⟨by intro i; simp [upS, hz, E8], by simp [upS, hz, E8], by simp [upS, hz, E8]⟩ (by omega)
        refine ⟨_, hD13, ?_⟩
        clear hD13
        refine ⟨(show (-2147483648 : Int) ≤ (2 + 1) ∧ ((2 + 1) : Int) ≤ 2147483647 by first | omega | (simp [upS, hz, E8]; done) | (simp [upS, hz, E8]; omega)), ?_⟩
        rw [show ((2 + 1) : Int) = 3 by (first | omega | (simp [upS, hz, E8]; done) | (simp [upS, hz, E8]; omega))]
        refine b56_54 ?_
        rw [if_pos (show (3 : Int) < 6 by first | omega | (simp [upS, hz, E8]; done) | (simp [upS, hz, E8]; omega))]
        have hD14 : Dd 62 [(.inr (.inr (some 614))), (.inl a1), (.inl a2)] (upS (upS (upS (upS (upS (upS S8 657 0 0) 657 1 0) 657 2 0) 657 3 0) 657 4 0) 657 5 0) (.inl none, (upS (upS (upS (upS (upS (upS S8 657 0 0) 657 1 0) 657 2 0) 657 3 0) 657 4 0) 657 5 0)) := n62 ⟨by intro i; simp [upS, hz, E8], by simp [upS, hz, E8], by simp [upS, hz, E8]⟩ (by omega)
        refine ⟨_, hD14, ?_⟩
        clear hD14
        refine ⟨(show (-2147483648 : Int) ≤ (3 + 1) ∧ ((3 + 1) : Int) ≤ 2147483647 by first | omega | (simp [upS, hz, E8]; done) | (simp [upS, hz, E8]; omega)), ?_⟩
        rw [show ((3 + 1) : Int) = 4 by (first | omega | (simp [upS, hz, E8]; done) | (simp [upS, hz, E8]; omega))]
        refine b56_54 ?_
        rw [if_pos (show (4 : Int) < 6 by first | omega | (simp [upS, hz, E8]; done) | (simp [upS, hz, E8]; omega))]
        have hD15 : Dd 62 [(.inr (.inr (some 614))), (.inl a1), (.inl a2)] (upS (upS (upS (upS (upS (upS S8 657 0 0) 657 1 0) 657 2 0) 657 3 0) 657 4 0) 657 5 0) (.inl none, (upS (upS (upS (upS (upS (upS S8 657 0 0) 657 1 0) 657 2 0) 657 3 0) 657 4 0) 657 5 0)) := n62 ⟨by intro i; simp [upS, hz, E8], by simp [upS, hz, E8], by simp [upS, hz, E8]⟩ (by omega)
        refine ⟨_, hD15, ?_⟩
        clear hD15
        refine ⟨(show (-2147483648 : Int) ≤ (4 + 1) ∧ ((4 + 1) : Int) ≤ 2147483647 by first | omega | (simp [upS, hz, E8]; done) | (simp [upS, hz, E8]; omega)), ?_⟩
        rw [show ((4 + 1) : Int) = 5 by (first | omega | (simp [upS, hz, E8]; done) | (simp [upS, hz, E8]; omega))]
        refine b56_54 ?_
        rw [if_pos (show (5 : Int) < 6 by first | omega | (simp [upS, hz, E8]; done) | (simp [upS, hz, E8]; omega))]
        have hD16 : Dd 62 [(.inr (.inr (some 614))), (.inl a1), (.inl a2)] (upS (upS (upS (upS (upS (upS S8 657 0 0) 657 1 0) 657 2 0) 657 3 0) 657 4 0) 657 5 0) (.inl none, (upS (upS (upS (upS (upS (upS S8 657 0 0) 657 1 0) 657 2 0) 657 3 0) 657 4 0) 657 5 0)) := n62 ⟨by intro i; simp [upS, hz, E8], by simp [upS, hz, E8], by simp [upS, hz, E8]⟩ (by omega)
        refine ⟨_, hD16, ?_⟩
        clear hD16
        refine ⟨(show (-2147483648 : Int) ≤ (5 + 1) ∧ ((5 + 1) : Int) ≤ 2147483647 by first | omega | (simp [upS, hz, E8]; done) | (simp [upS, hz, E8]; omega)), ?_⟩
        rw [show ((5 + 1) : Int) = 6 by (first | omega | (simp [upS, hz, E8]; done) | (simp [upS, hz, E8]; omega))]
        refine b56_54 ?_
        rw [if_neg (show ¬ ((6 : Int) < 6) by first | omega | (simp [upS, hz, E8]; done) | (simp [upS, hz, E8]; omega))]
        have hD36 : Dd 58 [(.inr (.inr (some 614)))] (upS (upS (upS (upS (upS (upS S8 657 0 0) 657 1 0) 657 2 0) 657 3 0) 657 4 0) 657 5 0) (.inl (some (.inl 0)), (upS (upS (upS (upS (upS (upS (upS (upS (upS (upS (upS (upS (upS (upS (upS (upS (upS (upS S8 657 0 0) 657 1 0) 657 2 0) 657 3 0) 657 4 0) 657 5 0) (653 + 1) 0 (-1)) 653 1 1) (653 + 1) 1 (-1)) 653 1 2) (653 + 1) 2 (-1)) 653 1 3) (653 + 1) 3 (-1)) 653 1 4) (653 + 1) 4 (-1)) 653 1 5) (653 + 1) 5 (-1)) 653 1 6)) := by
          refine b58 ?_
          have hD17 : Dd 146 [(.inr (.inr (some 655)))] (upS (upS (upS (upS (upS (upS S8 657 0 0) 657 1 0) 657 2 0) 657 3 0) 657 4 0) 657 5 0) (.inl (some (.inl 6)), (upS (upS (upS (upS (upS (upS S8 657 0 0) 657 1 0) 657 2 0) 657 3 0) 657 4 0) 657 5 0)) := by
            refine b146 (by decide +kernel) ?_
            rw [show ((upS (upS (upS (upS (upS (upS S8 657 0 0) 657 1 0) 657 2 0) 657 3 0) 657 4 0) 657 5 0) 655 1) = 6 by (first | omega | (simp [upS, hz, E8]; done) | (simp [upS, hz, E8]; omega))]
            all_goals rfl
          refine ⟨_, _, hD17, ?_⟩
          clear hD17
          have hD32 : Dd 154 [(.inr (.inr (some 653))), (.inr (.inr (some 655))), (.inl 0), (.inl 6)] (upS (upS (upS (upS (upS (upS S8 657 0 0) 657 1 0) 657 2 0) 657 3 0) 657 4 0) 657 5 0) (.inl none, (upS (upS (upS (upS (upS (upS (upS (upS (upS (upS (upS (upS (upS (upS (upS (upS (upS (upS S8 657 0 0) 657 1 0) 657 2 0) 657 3 0) 657 4 0) 657 5 0) (653 + 1) 0 (-1)) 653 1 1) (653 + 1) 1 (-1)) 653 1 2) (653 + 1) 2 (-1)) 653 1 3) (653 + 1) 3 (-1)) 653 1 4) (653 + 1) 4 (-1)) 653 1 5) (653 + 1) 5 (-1)) 653 1 6)) := by
            refine b154 ?_
            try rw [show (if (0 : Int) < 0 then (0 : Int) else 0) = 0 by (first | omega | (simp [upS, hz, E8]; done) | (simp [upS, hz, E8]; omega))]
            refine b154_7 (by decide +kernel) (by decide +kernel) ?_
            rw [if_pos (show (0 : Int) < 6 by first | omega | (simp [upS, hz, E8]; done) | (simp [upS, hz, E8]; omega))]
            rw [if_pos (show (0 : Int) < ((upS (upS (upS (upS (upS (upS S8 657 0 0) 657 1 0) 657 2 0) 657 3 0) 657 4 0) 657 5 0) 655 1) by first | omega | (simp [upS, hz, E8]; done) | (simp [upS, hz, E8]; omega))]
            have hD18 : Dd 147 [(.inr (.inr (some 655))), (.inl 0)] (upS (upS (upS (upS (upS (upS S8 657 0 0) 657 1 0) 657 2 0) 657 3 0) 657 4 0) 657 5 0) (.inl (some (.inl (-1))), (upS (upS (upS (upS (upS (upS S8 657 0 0) 657 1 0) 657 2 0) 657 3 0) 657 4 0) 657 5 0)) := by
              refine b147 (by decide +kernel) ?_
              refine ⟨(show (0 ≤ 0) → (0 < ((upS (upS (upS (upS (upS (upS S8 657 0 0) 657 1 0) 657 2 0) 657 3 0) 657 4 0) 657 5 0) 655 1)) → 0 ≤ 0 ∧ 0 < ((cap 655) : Int) by (first | (intros; have e655 : (cap 655 : Int) = 6 := (by decide +kernel); first | omega | (simp [upS, hz, E8]; done) | (simp [upS, hz, E8]; omega)) | (intros; simp_all [upS, hz, E8]; done) | (intros; simp_all [upS, hz, E8]; omega))), ?_⟩
              try rw [if_pos (show (0 : Int) ≤ 0 by first | omega | (simp [upS, hz, E8]; done) | (simp [upS, hz, E8]; omega))]
              try rw [if_pos (show (0 : Int) < ((upS (upS (upS (upS (upS (upS S8 657 0 0) 657 1 0) 657 2 0) 657 3 0) 657 4 0) 657 5 0) 655 1) by first | omega | (simp [upS, hz, E8]; done) | (simp [upS, hz, E8]; omega))]
              rw [show ((upS (upS (upS (upS (upS (upS S8 657 0 0) 657 1 0) 657 2 0) 657 3 0) 657 4 0) 657 5 0) (655 + 1) (0 : Int).toNat) = (-1) by (first | omega | (simp [upS, hz, E8]; done) | (simp [upS, hz, E8]; omega))]
              all_goals rfl
            refine ⟨_, _, hD18, ?_⟩
            clear hD18
            have hD19 : Dd 149 [(.inr (.inr (some 653))), (.inl (-1))] (upS (upS (upS (upS (upS (upS S8 657 0 0) 657 1 0) 657 2 0) 657 3 0) 657 4 0) 657 5 0) (.inl none, (upS (upS (upS (upS (upS (upS (upS (upS S8 657 0 0) 657 1 0) 657 2 0) 657 3 0) 657 4 0) 657 5 0) (653 + 1) 0 (-1)) 653 1 1)) := by
              refine b149 (by decide +kernel) ?_
              refine ⟨(show -2147483648 ≤ ((cap 653) : Int) ∧ ((cap 653) : Int) ≤ 2147483647 by have e653 : (cap 653 : Int) = 60 := (by decide +kernel); first | omega | (simp [upS, hz, E8]; done) | (simp [upS, hz, E8]; omega)), ?_⟩
              rw [if_pos (show ((upS (upS (upS (upS (upS (upS S8 657 0 0) 657 1 0) 657 2 0) 657 3 0) 657 4 0) 657 5 0) 653 1) < ((cap 653) : Int) by have e653 : (cap 653 : Int) = 60 := (by decide +kernel); first | omega | (simp [upS, hz, E8]; done) | (simp [upS, hz, E8]; omega))]
              refine ⟨(show 0 ≤ ((upS (upS (upS (upS (upS (upS S8 657 0 0) 657 1 0) 657 2 0) 657 3 0) 657 4 0) 657 5 0) 653 1) ∧ ((upS (upS (upS (upS (upS (upS S8 657 0 0) 657 1 0) 657 2 0) 657 3 0) 657 4 0) 657 5 0) 653 1) < ((cap 653) : Int) by have e653 : (cap 653 : Int) = 60 := (by decide +kernel); first | omega | (simp [upS, hz, E8]; done) | (simp [upS, hz, E8]; omega)), ?_⟩
              refine ⟨(show -2147483648 ≤ (((upS (upS (upS (upS (upS (upS (upS S8 657 0 0) 657 1 0) 657 2 0) 657 3 0) 657 4 0) 657 5 0) (653 + 1) ((((upS (upS (upS (upS (upS (upS S8 657 0 0) 657 1 0) 657 2 0) 657 3 0) 657 4 0) 657 5 0) 653 1)).toNat) (-1)) 653 1) + 1) ∧ (((upS (upS (upS (upS (upS (upS (upS S8 657 0 0) 657 1 0) 657 2 0) 657 3 0) 657 4 0) 657 5 0) (653 + 1) ((((upS (upS (upS (upS (upS (upS S8 657 0 0) 657 1 0) 657 2 0) 657 3 0) 657 4 0) 657 5 0) 653 1)).toNat) (-1)) 653 1) + 1) ≤ 2147483647 by first | omega | (simp [upS, hz, E8]; done) | (simp [upS, hz, E8]; omega)), ?_⟩
              rw [(show (upS (upS (upS (upS (upS (upS (upS (upS S8 657 0 0) 657 1 0) 657 2 0) 657 3 0) 657 4 0) 657 5 0) (653 + 1) ((((upS (upS (upS (upS (upS (upS S8 657 0 0) 657 1 0) 657 2 0) 657 3 0) 657 4 0) 657 5 0) 653 1)).toNat) (-1)) 653 1 (((upS (upS (upS (upS (upS (upS (upS S8 657 0 0) 657 1 0) 657 2 0) 657 3 0) 657 4 0) 657 5 0) (653 + 1) ((((upS (upS (upS (upS (upS (upS S8 657 0 0) 657 1 0) 657 2 0) 657 3 0) 657 4 0) 657 5 0) 653 1)).toNat) (-1)) 653 1) + 1)) = (upS (upS (upS (upS (upS (upS (upS (upS S8 657 0 0) 657 1 0) 657 2 0) 657 3 0) 657 4 0) 657 5 0) (653 + 1) 0 (-1)) 653 1 1) from by rw [show (((upS (upS (upS (upS (upS (upS (upS S8 657 0 0) 657 1 0) 657 2 0) 657 3 0) 657 4 0) 657 5 0) (653 + 1) ((((upS (upS (upS (upS (upS (upS S8 657 0 0) 657 1 0) 657 2 0) 657 3 0) 657 4 0) 657 5 0) 653 1)).toNat) (-1)) 653 1) + 1) = 1 by (first | omega | (simp [upS, hz, E8]; done) | (simp [upS, hz, E8]; omega)), show ((((upS (upS (upS (upS (upS (upS S8 657 0 0) 657 1 0) 657 2 0) 657 3 0) 657 4 0) 657 5 0) 653 1)).toNat) = 0 by (first | omega | (simp [upS, hz, E8]; done) | (simp [upS, hz, E8]; omega))])]
              all_goals rfl
            obtain ⟨S20, E20⟩ : ∃ s : Sg, s = (upS (upS (upS (upS (upS (upS (upS (upS S8 657 0 0) 657 1 0) 657 2 0) 657 3 0) 657 4 0) 657 5 0) (653 + 1) 0 (-1)) 653 1 1) := ⟨_, rfl⟩
            rw [← E20] at hD19
            refine ⟨_, hD19, ?_⟩
            clear hD19
            refine ⟨(show (-2147483648 : Int) ≤ (0 + 1) ∧ ((0 + 1) : Int) ≤ 2147483647 by first | omega | (simp [upS, hz, E8, E20]; done) | (simp [upS, hz, E8, E20]; omega)), ?_⟩
            rw [show ((0 + 1) : Int) = 1 by (first | omega | (simp [upS, hz, E8, E20]; done) | (simp [upS, hz, E8, E20]; omega))]
            refine b154_7 (by decide +kernel) (by decide +kernel) ?_
            rw [if_pos (show (1 : Int) < 6 by first | omega | (simp [upS, hz, E8, E20]; done) | (simp [upS, hz, E8, E20]; omega))]
            rw [if_pos (show (1 : Int) < (S20 655 1) by first | omega | (simp [upS, hz, E8, E20]; done) | (simp [upS, hz, E8, E20]; omega))]
            have hD21 : Dd 147 [(.inr (.inr (some 655))), (.inl 1)] S20 (.inl (some (.inl (-1))), S20) := by
              refine b147 (by decide +kernel) ?_
              refine ⟨(show (0 ≤ 1) → (1 < (S20 655 1)) → 0 ≤ 1 ∧ 1 < ((cap 655) : Int) by (first | (intros; have e655 : (cap 655 : Int) = 6 := (by decide +kernel); first | omega | (simp [upS, hz, E8, E20]; done) | (simp [upS, hz, E8, E20]; omega)) | (intros; simp_all [upS, hz, E8, E20]; done) | (intros; simp_all [upS, hz, E8, E20]; omega))), ?_⟩
              try rw [if_pos (show (0 : Int) ≤ 1 by first | omega | (simp [upS, hz, E8, E20]; done) | (simp [upS, hz, E8, E20]; omega))]
              try rw [if_pos (show (1 : Int) < (S20 655 1) by first | omega | (simp [upS, hz, E8, E20]; done) | (simp [upS, hz, E8, E20]; omega))]
              rw [show (S20 (655 + 1) (1 : Int).toNat) = (-1) by (first | omega | (simp [upS, hz, E8, E20]; done) | (simp [upS, hz, E8, E20]; omega))]
              all_goals rfl
            refine ⟨_, _, hD21, ?_⟩
            clear hD21
            have hD22 : Dd 149 [(.inr (.inr (some 653))), (.inl (-1))] S20 (.inl none, (upS (upS S20 (653 + 1) 1 (-1)) 653 1 2)) := by
              refine b149 (by decide +kernel) ?_
              refine ⟨(show -2147483648 ≤ ((cap 653) : Int) ∧ ((cap 653) : Int) ≤ 2147483647 by have e653 : (cap 653 : Int) = 60 := (by decide +kernel); first | omega | (simp [upS, hz, E8, E20]; done) | (simp [upS, hz, E8, E20]; omega)), ?_⟩
              rw [if_pos (show (S20 653 1) < ((cap 653) : Int) by have e653 : (cap 653 : Int) = 60 := (by decide +kernel); first | omega | (simp [upS, hz, E8, E20]; done) | (simp [upS, hz, E8, E20]; omega))]
              refine ⟨(show 0 ≤ (S20 653 1) ∧ (S20 653 1) < ((cap 653) : Int) by have e653 : (cap 653 : Int) = 60 := (by decide +kernel); first | omega | (simp [upS, hz, E8, E20]; done) | (simp [upS, hz, E8, E20]; omega)), ?_⟩
              refine ⟨(show -2147483648 ≤ (((upS S20 (653 + 1) (((S20 653 1)).toNat) (-1)) 653 1) + 1) ∧ (((upS S20 (653 + 1) (((S20 653 1)).toNat) (-1)) 653 1) + 1) ≤ 2147483647 by first | omega | (simp [upS, hz, E8, E20]; done) | (simp [upS, hz, E8, E20]; omega)), ?_⟩
              rw [(show (upS (upS S20 (653 + 1) (((S20 653 1)).toNat) (-1)) 653 1 (((upS S20 (653 + 1) (((S20 653 1)).toNat) (-1)) 653 1) + 1)) = (upS (upS S20 (653 + 1) 1 (-1)) 653 1 2) from by rw [show (((upS S20 (653 + 1) (((S20 653 1)).toNat) (-1)) 653 1) + 1) = 2 by (first | omega | (simp [upS, hz, E8, E20]; done) | (simp [upS, hz, E8, E20]; omega)), show (((S20 653 1)).toNat) = 1 by (first | omega | (simp [upS, hz, E8, E20]; done) | (simp [upS, hz, E8, E20]; omega))])]
              all_goals rfl
            refine ⟨_, hD22, ?_⟩
            clear hD22
            refine ⟨(show (-2147483648 : Int) ≤ (1 + 1) ∧ ((1 + 1) : Int) ≤ 2147483647 by first | omega | (simp [upS, hz, E8, E20]; done) | (simp [upS, hz, E8, E20]; omega)), ?_⟩
            rw [show ((1 + 1) : Int) = 2 by (first | omega | (simp [upS, hz, E8, E20]; done) | (simp [upS, hz, E8, E20]; omega))]
            refine b154_7 (by decide +kernel) (by decide +kernel) ?_
            rw [if_pos (show (2 : Int) < 6 by first | omega | (simp [upS, hz, E8, E20]; done) | (simp [upS, hz, E8, E20]; omega))]
            rw [if_pos (show (2 : Int) < ((upS (upS S20 (653 + 1) 1 (-1)) 653 1 2) 655 1) by first | omega | (simp [upS, hz, E8, E20]; done) | (simp [upS, hz, E8, E20]; omega))]
            have hD23 : Dd 147 [(.inr (.inr (some 655))), (.inl 2)] (upS (upS S20 (653 + 1) 1 (-1)) 653 1 2) (.inl (some (.inl (-1))), (upS (upS S20 (653 + 1) 1 (-1)) 653 1 2)) := by
              refine b147 (by decide +kernel) ?_
              refine ⟨(show (0 ≤ 2) → (2 < ((upS (upS S20 (653 + 1) 1 (-1)) 653 1 2) 655 1)) → 0 ≤ 2 ∧ 2 < ((cap 655) : Int) by (first | (intros; have e655 : (cap 655 : Int) = 6 := (by decide +kernel); first | omega | (simp [upS, hz, E8, E20]; done) | (simp [upS, hz, E8, E20]; omega)) | (intros; simp_all [upS, hz, E8, E20]; done) | (intros; simp_all [upS, hz, E8, E20]; omega))), ?_⟩
              try rw [if_pos (show (0 : Int) ≤ 2 by first | omega | (simp [upS, hz, E8, E20]; done) | (simp [upS, hz, E8, E20]; omega))]
              try rw [if_pos (show (2 : Int) < ((upS (upS S20 (653 + 1) 1 (-1)) 653 1 2) 655 1) by first | omega | (simp [upS, hz, E8, E20]; done) | (simp [upS, hz, E8, E20]; omega))]
              rw [show ((upS (upS S20 (653 + 1) 1 (-1)) 653 1 2) (655 + 1) (2 : Int).toNat) = (-1) by (first | omega | (simp [upS, hz, E8, E20]; done) | (simp [upS, hz, E8, E20]; omega))]
              all_goals rfl
            refine ⟨_, _, hD23, ?_⟩
            clear hD23
            have hD24 : Dd 149 [(.inr (.inr (some 653))), (.inl (-1))] (upS (upS S20 (653 + 1) 1 (-1)) 653 1 2) (.inl none, (upS (upS (upS (upS S20 (653 + 1) 1 (-1)) 653 1 2) (653 + 1) 2 (-1)) 653 1 3)) := by
              refine b149 (by decide +kernel) ?_
              refine ⟨(show -2147483648 ≤ ((cap 653) : Int) ∧ ((cap 653) : Int) ≤ 2147483647 by have e653 : (cap 653 : Int) = 60 := (by decide +kernel); first | omega | (simp [upS, hz, E8, E20]; done) | (simp [upS, hz, E8, E20]; omega)), ?_⟩
              rw [if_pos (show ((upS (upS S20 (653 + 1) 1 (-1)) 653 1 2) 653 1) < ((cap 653) : Int) by have e653 : (cap 653 : Int) = 60 := (by decide +kernel); first | omega | (simp [upS, hz, E8, E20]; done) | (simp [upS, hz, E8, E20]; omega))]
              refine ⟨(show 0 ≤ ((upS (upS S20 (653 + 1) 1 (-1)) 653 1 2) 653 1) ∧ ((upS (upS S20 (653 + 1) 1 (-1)) 653 1 2) 653 1) < ((cap 653) : Int) by have e653 : (cap 653 : Int) = 60 := (by decide +kernel); first | omega | (simp [upS, hz, E8, E20]; done) | (simp [upS, hz, E8, E20]; omega)), ?_⟩
              refine ⟨(show -2147483648 ≤ (((upS (upS (upS S20 (653 + 1) 1 (-1)) 653 1 2) (653 + 1) ((((upS (upS S20 (653 + 1) 1 (-1)) 653 1 2) 653 1)).toNat) (-1)) 653 1) + 1) ∧ (((upS (upS (upS S20 (653 + 1) 1 (-1)) 653 1 2) (653 + 1) ((((upS (upS S20 (653 + 1) 1 (-1)) 653 1 2) 653 1)).toNat) (-1)) 653 1) + 1) ≤ 2147483647 by first | omega | (simp [upS, hz, E8, E20]; done) | (simp [upS, hz, E8, E20]; omega)), ?_⟩
              rw [(show (upS (upS (upS (upS S20 (653 + 1) 1 (-1)) 653 1 2) (653 + 1) ((((upS (upS S20 (653 + 1) 1 (-1)) 653 1 2) 653 1)).toNat) (-1)) 653 1 (((upS (upS (upS S20 (653 + 1) 1 (-1)) 653 1 2) (653 + 1) ((((upS (upS S20 (653 + 1) 1 (-1)) 653 1 2) 653 1)).toNat) (-1)) 653 1) + 1)) = (upS (upS (upS (upS S20 (653 + 1) 1 (-1)) 653 1 2) (653 + 1) 2 (-1)) 653 1 3) from by rw [show (((upS (upS (upS S20 (653 + 1) 1 (-1)) 653 1 2) (653 + 1) ((((upS (upS S20 (653 + 1) 1 (-1)) 653 1 2) 653 1)).toNat) (-1)) 653 1) + 1) = 3 by (first | omega | (simp [upS, hz, E8, E20]; done) | (simp [upS, hz, E8, E20]; omega)), show ((((upS (upS S20 (653 + 1) 1 (-1)) 653 1 2) 653 1)).toNat) = 2 by (first | omega | (simp [upS, hz, E8, E20]; done) | (simp [upS, hz, E8, E20]; omega))])]
              all_goals rfl
            refine ⟨_, hD24, ?_⟩
            clear hD24
            refine ⟨(show (-2147483648 : Int) ≤ (2 + 1) ∧ ((2 + 1) : Int) ≤ 2147483647 by first | omega | (simp [upS, hz, E8, E20]; done) | (simp [upS, hz, E8, E20]; omega)), ?_⟩
            rw [show ((2 + 1) : Int) = 3 by (first | omega | (simp [upS, hz, E8, E20]; done) | (simp [upS, hz, E8, E20]; omega))]
            refine b154_7 (by decide +kernel) (by decide +kernel) ?_
            rw [if_pos (show (3 : Int) < 6 by first | omega | (simp [upS, hz, E8, E20]; done) | (simp [upS, hz, E8, E20]; omega))]
            rw [if_pos (show (3 : Int) < ((upS (upS (upS (upS S20 (653 + 1) 1 (-1)) 653 1 2) (653 + 1) 2 (-1)) 653 1 3) 655 1) by first | omega | (simp [upS, hz, E8, E20]; done) | (simp [upS, hz, E8, E20]; omega))]
            have hD25 : Dd 147 [(.inr (.inr (some 655))), (.inl 3)] (upS (upS (upS (upS S20 (653 + 1) 1 (-1)) 653 1 2) (653 + 1) 2 (-1)) 653 1 3) (.inl (some (.inl (-1))), (upS (upS (upS (upS S20 (653 + 1) 1 (-1)) 653 1 2) (653 + 1) 2 (-1)) 653 1 3)) := by
              refine b147 (by decide +kernel) ?_
              refine ⟨(show (0 ≤ 3) → (3 < ((upS (upS (upS (upS S20 (653 + 1) 1 (-1)) 653 1 2) (653 + 1) 2 (-1)) 653 1 3) 655 1)) → 0 ≤ 3 ∧ 3 < ((cap 655) : Int) by (first | (intros; have e655 : (cap 655 : Int) = 6 := (by decide +kernel); first | omega | (simp [upS, hz, E8, E20]; done) | (simp [upS, hz, E8, E20]; omega)) | (intros; simp_all [upS, hz, E8, E20]; done) | (intros; simp_all [upS, hz, E8, E20]; omega))), ?_⟩
              try rw [if_pos (show (0 : Int) ≤ 3 by first | omega | (simp [upS, hz, E8, E20]; done) | (simp [upS, hz, E8, E20]; omega))]
              try rw [if_pos (show (3 : Int) < ((upS (upS (upS (upS S20 (653 + 1) 1 (-1)) 653 1 2) (653 + 1) 2 (-1)) 653 1 3) 655 1) by first | omega | (simp [upS, hz, E8, E20]; done) | (simp [upS, hz, E8, E20]; omega))]
              rw [show ((upS (upS (upS (upS S20 (653 + 1) 1 (-1)) 653 1 2) (653 + 1) 2 (-1)) 653 1 3) (655 + 1) (3 : Int).toNat) = (-1) by (first | omega | (simp [upS, hz, E8, E20]; done) | (simp [upS, hz, E8, E20]; omega))]
              all_goals rfl
            refine ⟨_, _, hD25, ?_⟩
            clear hD25
            have hD26 : Dd 149 [(.inr (.inr (some 653))), (.inl (-1))] (upS (upS (upS (upS S20 (653 + 1) 1 (-1)) 653 1 2) (653 + 1) 2 (-1)) 653 1 3) (.inl none, (upS (upS (upS (upS (upS (upS S20 (653 + 1) 1 (-1)) 653 1 2) (653 + 1) 2 (-1)) 653 1 3) (653 + 1) 3 (-1)) 653 1 4)) := by
              refine b149 (by decide +kernel) ?_
              refine ⟨(show -2147483648 ≤ ((cap 653) : Int) ∧ ((cap 653) : Int) ≤ 2147483647 by have e653 : (cap 653 : Int) = 60 := (by decide +kernel); first | omega | (simp [upS, hz, E8, E20]; done) | (simp [upS, hz, E8, E20]; omega)), ?_⟩
              rw [if_pos (show ((upS (upS (upS (upS S20 (653 + 1) 1 (-1)) 653 1 2) (653 + 1) 2 (-1)) 653 1 3) 653 1) < ((cap 653) : Int) by have e653 : (cap 653 : Int) = 60 := (by decide +kernel); first | omega | (simp [upS, hz, E8, E20]; done) | (simp [upS, hz, E8, E20]; omega))]
              refine ⟨(show 0 ≤ ((upS (upS (upS (upS S20 (653 + 1) 1 (-1)) 653 1 2) (653 + 1) 2 (-1)) 653 1 3) 653 1) ∧ ((upS (upS (upS (upS S20 (653 + 1) 1 (-1)) 653 1 2) (653 + 1) 2 (-1)) 653 1 3) 653 1) < ((cap 653) : Int) by have e653 : (cap 653 : Int) = 60 := (by decide +kernel); first | omega | (simp [upS, hz, E8, E20]; done) | (simp [upS, hz, E8, E20]; omega)), ?_⟩
              refine ⟨(show -2147483648 ≤ (((upS (upS (upS (upS (upS S20 (653 + 1) 1 (-1)) 653 1 2) (653 + 1) 2 (-1)) 653 1 3) (653 + 1) ((((upS (upS (upS (upS S20 (653 + 1) 1 (-1)) 653 1 2) (653 + 1) 2 (-1)) 653 1 3) 653 1)).toNat) (-1)) 653 1) + 1) ∧ (((upS (upS (upS (upS (upS S20 (653 + 1) 1 (-1)) 653 1 2) (653 + 1) 2 (-1)) 653 1 3) (653 + 1) ((((upS (upS (upS (upS S20 (653 + 1) 1 (-1)) 653 1 2) (653 + 1) 2 (-1)) 653 1 3) 653 1)).toNat) (-1)) 653 1) + 1) ≤ 2147483647 by first | omega | (simp [upS, hz, E8, E20]; done) | (simp [upS, hz, E8, E20]; omega)), ?_⟩
              rw [(show (upS (upS (upS (upS (upS (upS S20 (653 + 1) 1 (-1)) 653 1 2) (653 + 1) 2 (-1)) 653 1 3) (653 + 1) ((((upS (upS (upS (upS S20 (653 + 1) 1 (-1)) 653 1 2) (653 + 1) 2 (-1)) 653 1 3) 653 1)).toNat) (-1)) 653 1 (((upS (upS (upS (upS (upS S20 (653 + 1) 1 (-1)) 653 1 2) (653 + 1) 2 (-1)) 653 1 3) (653 + 1) ((((upS (upS (upS (upS S20 (653 + 1) 1 (-1)) 653 1 2) (653 + 1) 2 (-1)) 653 1 3) 653 1)).toNat) (-1)) 653 1) + 1)) = (upS (upS (upS (upS (upS (upS S20 (653 + 1) 1 (-1)) 653 1 2) (653 + 1) 2 (-1)) 653 1 3) (653 + 1) 3 (-1)) 653 1 4) from by rw [show (((upS (upS (upS (upS (upS S20 (653 + 1) 1 (-1)) 653 1 2) (653 + 1) 2 (-1)) 653 1 3) (653 + 1) ((((upS (upS (upS (upS S20 (653 + 1) 1 (-1)) 653 1 2) (653 + 1) 2 (-1)) 653 1 3) 653 1)).toNat) (-1)) 653 1) + 1) = 4 by (first | omega | (simp [upS, hz, E8, E20]; done) | (simp [upS, hz, E8, E20]; omega)), show ((((upS (upS (upS (upS S20 (653 + 1) 1 (-1)) 653 1 2) (653 + 1) 2 (-1)) 653 1 3) 653 1)).toNat) = 3 by (first | omega | (simp [upS, hz, E8, E20]; done) | (simp [upS, hz, E8, E20]; omega))])]
              all_goals rfl
            obtain ⟨S27, E27⟩ : ∃ s : Sg, s = (upS (upS (upS (upS (upS (upS S20 (653 + 1) 1 (-1)) 653 1 2) (653 + 1) 2 (-1)) 653 1 3) (653 + 1) 3 (-1)) 653 1 4) := ⟨_, rfl⟩
            rw [← E27] at hD26
            refine ⟨_, hD26, ?_⟩
            clear hD26
            refine ⟨(show (-2147483648 : Int) ≤ (3 + 1) ∧ ((3 + 1) : Int) ≤ 2147483647 by first | omega | (simp [upS, hz, E8, E20, E27]; done) | (simp [upS, hz, E8, E20, E27]; omega)), ?_⟩
            rw [show ((3 + 1) : Int) = 4 by (first | omega | (simp [upS, hz, E8, E20, E27]; done) | (simp [upS, hz, E8, E20, E27]; omega))]
            refine b154_7 (by decide +kernel) (by decide +kernel) ?_
            rw [if_pos (show (4 : Int) < 6 by first | omega | (simp [upS, hz, E8, E20, E27]; done) | (simp [upS, hz, E8, E20, E27]; omega))]
            rw [if_pos (show (4 : Int) < (S27 655 1) by first | omega | (simp [upS, hz, E8, E20, E27]; done) | (simp [upS, hz, E8, E20, E27]; omega))]
            have hD28 : Dd 147 [(.inr (.inr (some 655))), (.inl 4)] S27 (.inl (some (.inl (-1))), S27) := by
              refine b147 (by decide +kernel) ?_
              refine ⟨(show (0 ≤ 4) → (4 < (S27 655 1)) → 0 ≤ 4 ∧ 4 < ((cap 655) : Int) by (first | (intros; have e655 : (cap 655 : Int) = 6 := (by decide +kernel); first | omega | (simp [upS, hz, E8, E20, E27]; done) | (simp [upS, hz, E8, E20, E27]; omega)) | (intros; simp_all [upS, hz, E8, E20, E27]; done) | (intros; simp_all [upS, hz, E8, E20, E27]; omega))), ?_⟩
              try rw [if_pos (show (0 : Int) ≤ 4 by first | omega | (simp [upS, hz, E8, E20, E27]; done) | (simp [upS, hz, E8, E20, E27]; omega))]
              try rw [if_pos (show (4 : Int) < (S27 655 1) by first | omega | (simp [upS, hz, E8, E20, E27]; done) | (simp [upS, hz, E8, E20, E27]; omega))]
              rw [show (S27 (655 + 1) (4 : Int).toNat) = (-1) by (first | omega | (simp [upS, hz, E8, E20, E27]; done) | (simp [upS, hz, E8, E20, E27]; omega))]
              all_goals rfl
            refine ⟨_, _, hD28, ?_⟩
            clear hD28
            have hD29 : Dd 149 [(.inr (.inr (some 653))), (.inl (-1))] S27 (.inl none, (upS (upS S27 (653 + 1) 4 (-1)) 653 1 5)) := by
              refine b149 (by decide +kernel) ?_
              refine ⟨(show -2147483648 ≤ ((cap 653) : Int) ∧ ((cap 653) : Int) ≤ 2147483647 by have e653 : (cap 653 : Int) = 60 := (by decide +kernel); first | omega | (simp [upS, hz, E8, E20, E27]; done) | (simp [upS, hz, E8, E20, E27]; omega)), ?_⟩
              rw [if_pos (show (S27 653 1) < ((cap 653) : Int) by have e653 : (cap 653 : Int) = 60 := (by decide +kernel); first | omega | (simp [upS, hz, E8, E20, E27]; done) | (simp [upS, hz, E8, E20, E27]; omega))]
              refine ⟨(show 0 ≤ (S27 653 1) ∧ (S27 653 1) < ((cap 653) : Int) by have e653 : (cap 653 : Int) = 60 := (by decide +kernel); first | omega | (simp [upS, hz, E8, E20, E27]; done) | (simp [upS, hz, E8, E20, E27]; omega)), ?_⟩
              refine ⟨(show -2147483648 ≤ (((upS S27 (653 + 1) (((S27 653 1)).toNat) (-1)) 653 1) + 1) ∧ (((upS S27 (653 + 1) (((S27 653 1)).toNat) (-1)) 653 1) + 1) ≤ 2147483647 by first | omega | (simp [upS, hz, E8, E20, E27]; done) | (simp [upS, hz, E8, E20, E27]; omega)), ?_⟩
              rw [(show (upS (upS S27 (653 + 1) (((S27 653 1)).toNat) (-1)) 653 1 (((upS S27 (653 + 1) (((S27 653 1)).toNat) (-1)) 653 1) + 1)) = (upS (upS S27 (653 + 1) 4 (-1)) 653 1 5) from by rw [show (((upS S27 (653 + 1) (((S27 653 1)).toNat) (-1)) 653 1) + 1) = 5 by (first | omega | (simp [upS, hz, E8, E20, E27]; done) | (simp [upS, hz, E8, E20, E27]; omega)), show (((S27 653 1)).toNat) = 4 by (first | omega | (simp [upS, hz, E8, E20, E27]; done) | (simp [upS, hz, E8, E20, E27]; omega))])]
              all_goals rfl
            refine ⟨_, hD29, ?_⟩
            clear hD29
            refine ⟨(show (-2147483648 : Int) ≤ (4 + 1) ∧ ((4 + 1) : Int) ≤ 2147483647 by first | omega | (simp [upS, hz, E8, E20, E27]; done) | (simp [upS, hz, E8, E20, E27]; omega)), ?_⟩
            rw [show ((4 + 1) : Int) = 5 by (first | omega | (simp [upS, hz, E8, E20, E27]; done) | (simp [upS, hz, E8, E20, E27]; omega))]
            refine b154_7 (by decide +kernel) (by decide +kernel) ?_
            rw [if_pos (show (5 : Int) < 6 by first | omega | (simp [upS, hz, E8, E20, E27]; done) | (simp [upS, hz, E8, E20, E27]; omega))]
            rw [if_pos (show (5 : Int) < ((upS (upS S27 (653 + 1) 4 (-1)) 653 1 5) 655 1) by first | omega | (simp [upS, hz, E8, E20, E27]; done) | (simp [upS, hz, E8, E20, E27]; omega))]
            have hD30 : Dd 147 [(.inr (.inr (some 655))), (.inl 5)] (upS (upS S27 (653 + 1) 4 (-1)) 653 1 5) (.inl (some (.inl (-1))), (upS (upS S27 (653 + 1) 4 (-1)) 653 1 5)) := by
              refine b147 (by decide +kernel) ?_
              refine ⟨(show (0 ≤ 5) → (5 < ((upS (upS S27 (653 + 1) 4 (-1)) 653 1 5) 655 1)) → 0 ≤ 5 ∧ 5 < ((cap 655) : Int) by (first | (intros; have e655 : (cap 655 : Int) = 6 := (by decide +kernel); first | omega | (simp [upS, hz, E8, E20, E27]; done) | (simp [upS, hz, E8, E20, E27]; omega)) | (intros; simp_all [upS, hz, E8, E20, E27]; done) | (intros; simp_all [upS, hz, E8, E20, E27]; omega))), ?_⟩
              try rw [if_pos (show (0 : Int) ≤ 5 by first | omega | (simp [upS, hz, E8, E20, E27]; done) | (simp [upS, hz, E8, E20, E27]; omega))]
              try rw [if_pos (show (5 : Int) < ((upS (upS S27 (653 + 1) 4 (-1)) 653 1 5) 655 1) by first | omega | (simp [upS, hz, E8, E20, E27]; done) | (simp [upS, hz, E8, E20, E27]; omega))]
              rw [show ((upS (upS S27 (653 + 1) 4 (-1)) 653 1 5) (655 + 1) (5 : Int).toNat) = (-1) by (first | omega | (simp [upS, hz, E8, E20, E27]; done) | (simp [upS, hz, E8, E20, E27]; omega))]
              all_goals rfl
            refine ⟨_, _, hD30, ?_⟩
            clear hD30
            have hD31 : Dd 149 [(.inr (.inr (some 653))), (.inl (-1))] (upS (upS S27 (653 + 1) 4 (-1)) 653 1 5) (.inl none, (upS (upS (upS (upS S27 (653 + 1) 4 (-1)) 653 1 5) (653 + 1) 5 (-1)) 653 1 6)) := by
              refine b149 (by decide +kernel) ?_
              refine ⟨(show -2147483648 ≤ ((cap 653) : Int) ∧ ((cap 653) : Int) ≤ 2147483647 by have e653 : (cap 653 : Int) = 60 := (by decide +kernel); first | omega | (simp [upS, hz, E8, E20, E27]; done) | (simp [upS, hz, E8, E20, E27]; omega)), ?_⟩
              rw [if_pos (show ((upS (upS S27 (653 + 1) 4 (-1)) 653 1 5) 653 1) < ((cap 653) : Int) by have e653 : (cap 653 : Int) = 60 := (by decide +kernel); first | omega | (simp [upS, hz, E8, E20, E27]; done) | (simp [upS, hz, E8, E20, E27]; omega))]
              refine ⟨(show 0 ≤ ((upS (upS S27 (653 + 1) 4 (-1)) 653 1 5) 653 1) ∧ ((upS (upS S27 (653 + 1) 4 (-1)) 653 1 5) 653 1) < ((cap 653) : Int) by have e653 : (cap 653 : Int) = 60 := (by decide +kernel); first | omega | (simp [upS, hz, E8, E20, E27]; done) | (simp [upS, hz, E8, E20, E27]; omega)), ?_⟩
              refine ⟨(show -2147483648 ≤ (((upS (upS (upS S27 (653 + 1) 4 (-1)) 653 1 5) (653 + 1) ((((upS (upS S27 (653 + 1) 4 (-1)) 653 1 5) 653 1)).toNat) (-1)) 653 1) + 1) ∧ (((upS (upS (upS S27 (653 + 1) 4 (-1)) 653 1 5) (653 + 1) ((((upS (upS S27 (653 + 1) 4 (-1)) 653 1 5) 653 1)).toNat) (-1)) 653 1) + 1) ≤ 2147483647 by first | omega | (simp [upS, hz, E8, E20, E27]; done) | (simp [upS, hz, E8, E20, E27]; omega)), ?_⟩
              rw [(show (upS (upS (upS (upS S27 (653 + 1) 4 (-1)) 653 1 5) (653 + 1) ((((upS (upS S27 (653 + 1) 4 (-1)) 653 1 5) 653 1)).toNat) (-1)) 653 1 (((upS (upS (upS S27 (653 + 1) 4 (-1)) 653 1 5) (653 + 1) ((((upS (upS S27 (653 + 1) 4 (-1)) 653 1 5) 653 1)).toNat) (-1)) 653 1) + 1)) = (upS (upS (upS (upS S27 (653 + 1) 4 (-1)) 653 1 5) (653 + 1) 5 (-1)) 653 1 6) from by rw [show (((upS (upS (upS S27 (653 + 1) 4 (-1)) 653 1 5) (653 + 1) ((((upS (upS S27 (653 + 1) 4 (-1)) 653 1 5) 653 1)).toNat) (-1)) 653 1) + 1) = 6 by (first | omega | (simp [upS, hz, E8, E20, E27]; done) | (simp [upS, hz, E8, E20, E27]; omega)), show ((((upS (upS S27 (653 + 1) 4 (-1)) 653 1 5) 653 1)).toNat) = 5 by (first | omega | (simp [upS, hz, E8, E20, E27]; done) | (simp [upS, hz, E8, E20, E27]; omega))])]
              all_goals rfl
            refine ⟨_, hD31, ?_⟩
            clear hD31
            refine ⟨(show (-2147483648 : Int) ≤ (5 + 1) ∧ ((5 + 1) : Int) ≤ 2147483647 by first | omega | (simp [upS, hz, E8, E20, E27]; done) | (simp [upS, hz, E8, E20, E27]; omega)), ?_⟩
            rw [show ((5 + 1) : Int) = 6 by (first | omega | (simp [upS, hz, E8, E20, E27]; done) | (simp [upS, hz, E8, E20, E27]; omega))]
            refine b154_7 (by decide +kernel) (by decide +kernel) ?_
            rw [if_neg (show ¬ ((6 : Int) < 6) by first | omega | (simp [upS, hz, E8, E20, E27]; done) | (simp [upS, hz, E8, E20, E27]; omega))]
            all_goals (first | rfl | (simp only [E20, E27]))
          obtain ⟨S33, E33⟩ : ∃ s : Sg, s = (upS (upS (upS (upS (upS (upS (upS (upS (upS (upS (upS (upS (upS (upS (upS (upS (upS (upS S8 657 0 0) 657 1 0) 657 2 0) 657 3 0) 657 4 0) 657 5 0) (653 + 1) 0 (-1)) 653 1 1) (653 + 1) 1 (-1)) 653 1 2) (653 + 1) 2 (-1)) 653 1 3) (653 + 1) 3 (-1)) 653 1 4) (653 + 1) 4 (-1)) 653 1 5) (653 + 1) 5 (-1)) 653 1 6) := ⟨_, rfl⟩
          rw [← E33] at hD32
          refine ⟨_, hD32, ?_⟩
          clear hD32
          have hD35 : Dd 54 [(.inr (.inr (some 614)))] S33 (.inl (some (.inl 1)), S33) := by
            refine b54 ?_
            have hD34 : Dd 146 [(.inr (.inr (some 653)))] S33 (.inl (some (.inl 6)), S33) := by
              refine b146 (by decide +kernel) ?_
              rw [show (S33 653 1) = 6 by (first | omega | (simp [upS, hz, E8, E33]; done) | (simp [upS, hz, E8, E33]; omega))]
              all_goals rfl
            refine ⟨_, _, hD34, ?_⟩
            clear hD34
            rw [show (Int.tdiv 6 6) = 1 by (first | omega | (simp [upS, hz, E8, E33]; done) | (simp [upS, hz, E8, E33]; omega))]
            all_goals rfl
          refine ⟨_, _, hD35, ?_⟩
          clear hD35
          refine ⟨(show (-2147483648 : Int) ≤ (1 - 1) ∧ ((1 - 1) : Int) ≤ 2147483647 by first | omega | (simp [upS, hz, E8, E33]; done) | (simp [upS, hz, E8, E33]; omega)), ?_⟩
          rw [show ((1 - 1) : Int) = 0 by (first | omega | (simp [upS, hz, E8, E33]; done) | (simp [upS, hz, E8, E33]; omega))]
          all_goals (first | rfl | (simp only [E33]))
        obtain ⟨S37, E37⟩ : ∃ s : Sg, s = (upS (upS (upS (upS (upS (upS (upS (upS (upS (upS (upS (upS (upS (upS (upS (upS (upS (upS S8 657 0 0) 657 1 0) 657 2 0) 657 3 0) 657 4 0) 657 5 0) (653 + 1) 0 (-1)) 653 1 1) (653 + 1) 1 (-1)) 653 1 2) (653 + 1) 2 (-1)) 653 1 3) (653 + 1) 3 (-1)) 653 1 4) (653 + 1) 4 (-1)) 653 1 5) (653 + 1) 5 (-1)) 653 1 6) := ⟨_, rfl⟩
        rw [← E37] at hD36
        refine ⟨_, _, hD36, ?_⟩
        clear hD36
        all_goals (first | rfl | (simp only [E8, E37]))
      obtain ⟨S39, E39⟩ : ∃ s : Sg, s = (upS (upS (upS (upS (upS (upS (upS (upS (upS (upS (upS (upS (upS (upS (upS (upS (upS (upS (upS (upS (upS (upS (upS (upS (upS σ 655 1 6) (655 + 1) 0 (-1)) (655 + 1) 1 (-1)) (655 + 1) 2 (-1)) (655 + 1) 3 (-1)) (655 + 1) 4 (-1)) (655 + 1) 5 (-1)) 657 0 0) 657 1 0) 657 2 0) 657 3 0) 657 4 0) 657 5 0) (653 + 1) 0 (-1)) 653 1 1) (653 + 1) 1 (-1)) 653 1 2) (653 + 1) 2 (-1)) 653 1 3) (653 + 1) 3 (-1)) 653 1 4) (653 + 1) 4 (-1)) 653 1 5) (653 + 1) 5 (-1)) 653 1 6) := ⟨_, rfl⟩
      rw [← E39] at hD38
      refine ⟨_, _, hD38, ?_⟩
      clear hD38
      all_goals (first | rfl | (simp only [E39]))
    obtain ⟨S41, E41⟩ : ∃ s : Sg, s = (upS (upS (upS (upS (upS (upS (upS (upS (upS (upS (upS (upS (upS (upS (upS (upS (upS (upS (upS (upS (upS (upS (upS (upS (upS σ 655 1 6) (655 + 1) 0 (-1)) (655 + 1) 1 (-1)) (655 + 1) 2 (-1)) (655 + 1) 3 (-1)) (655 + 1) 4 (-1)) (655 + 1) 5 (-1)) 657 0 0) 657 1 0) 657 2 0) 657 3 0) 657 4 0) 657 5 0) (653 + 1) 0 (-1)) 653 1 1) (653 + 1) 1 (-1)) 653 1 2) (653 + 1) 2 (-1)) 653 1 3) (653 + 1) 3 (-1)) 653 1 4) (653 + 1) 4 (-1)) 653 1 5) (653 + 1) 5 (-1)) 653 1 6) := ⟨_, rfl⟩
    rw [← E41] at hD40
    refine Or.inl ⟨_, _, hD40, ?_⟩
    clear hD40
    rw [(show (upS S41 726 ((0 : Int).toNat) 0) = (upS S41 726 0 0) from by rw [show ((0 : Int).toNat) = 0 by (first | omega | (simp [upS, hz, E41]; done) | (simp [upS, hz, E41]; omega))])]
    all_goals (first | rfl | (simp only [E41]))
  obtain ⟨S900, E900⟩ : ∃ s : Sg, s = (upS (upS (upS (upS (upS (upS (upS (upS (upS (upS (upS (upS (upS (upS (upS (upS (upS (upS (upS (upS (upS (upS (upS (upS (upS (upS σ 655 1 6) (655 + 1) 0 (-1)) (655 + 1) 1 (-1)) (655 + 1) 2 (-1)) (655 + 1) 3 (-1)) (655 + 1) 4 (-1)) (655 + 1) 5 (-1)) 657 0 0) 657 1 0) 657 2 0) 657 3 0) 657 4 0) 657 5 0) (653 + 1) 0 (-1)) 653 1 1) (653 + 1) 1 (-1)) 653 1 2) (653 + 1) 2 (-1)) 653 1 3) (653 + 1) 3 (-1)) 653 1 4) (653 + 1) 4 (-1)) 653 1 5) (653 + 1) 5 (-1)) 653 1 6) 726 0 0) := ⟨_, rfl⟩
  rw [← E900] at hA
  have hB : Dd 374 [(.inr (.inr (some 682))), (.inl a1), (.inl a2)] S900 (.inl (some (.inl 0)), (upS (upS (upS (upS (upS (upS (upS (upS (upS (upS (upS (upS (upS (upS S900 682 0 0) 720 0 (-1)) 721 0 0) 720 1 (-1)) 721 1 0) 720 2 (-1)) 721 2 0) 720 3 (-1)) 721 3 0) 720 4 (-1)) 721 4 0) 720 5 (-1)) 721 5 0) 682 53 1)) := by
    refine b374 ?_
    have hD42 : Dd 246 [(.inl a1), (.inl 3)] S900 (.inl (some (.inl 1)), S900) := by
      refine b246 ?_
      try rw [if_pos (show (0 : Int) ≤ a1 by first | omega | (simp [upS, hz, E900]; done) | (simp [upS, hz, E900]; omega))]
      try rw [if_pos (show a1 < 3 by first | omega | (simp [upS, hz, E900]; done) | (simp [upS, hz, E900]; omega))]
      all_goals rfl
    refine ⟨_, _, hD42, ?_⟩
    clear hD42
    rw [if_neg (show ¬ ((1 : Int) = 0) by first | omega | (simp [upS, hz, E900]; done) | (simp [upS, hz, E900]; omega))]
    have hD43 : Dd 246 [(.inl a2), (.inl 3)] S900 (.inl (some (.inl 1)), S900) := by
      refine b246 ?_
      try rw [if_pos (show (0 : Int) ≤ a2 by first | omega | (simp [upS, hz, E900]; done) | (simp [upS, hz, E900]; omega))]
      try rw [if_pos (show a2 < 3 by first | omega | (simp [upS, hz, E900]; done) | (simp [upS, hz, E900]; omega))]
      all_goals rfl
    refine ⟨_, _, hD43, ?_⟩
    clear hD43
    rw [if_neg (show ¬ ((1 : Int) = 0) by first | omega | (simp [upS, hz, E900]; done) | (simp [upS, hz, E900]; omega))]
    try rw [if_neg (show ¬ ((S900 682 53) = 10) by first | omega | (simp [upS, hz, E900]; done) | (simp [upS, hz, E900]; omega))]
    refine b374_35 ?_
    have hD44 : Dd 245 [(.inr (.inr (some 682))), (.inl 0)] S900 (.inl (some (.inl 1)), (upS S900 682 0 0)) := by
      refine b245 ?_
      try rw [if_pos (show (0 : Int) = 0 by first | omega | (simp [upS, hz, E900]; done) | (simp [upS, hz, E900]; omega))]
      all_goals rfl
    refine ⟨_, _, hD44, ?_⟩
    clear hD44
    rw [if_neg (show ¬ ((1 : Int) = 0) by first | omega | (simp [upS, hz, E900]; done) | (simp [upS, hz, E900]; omega))]
    refine b374_45 ?_
    rw [if_pos (show (0 : Int) < 6 by first | omega | (simp [upS, hz, E900]; done) | (simp [upS, hz, E900]; omega))]
    refine ⟨(show -2147483648 ≤ (6 * a1) ∧ (6 * a1) ≤ 2147483647 by first | omega | (simp [upS, hz, E900]; done) | (simp [upS, hz, E900]; omega)), ?_⟩
    refine ⟨(show -2147483648 ≤ ((6 * a1) + 0) ∧ ((6 * a1) + 0) ≤ 2147483647 by first | omega | (simp [upS, hz, E900]; done) | (simp [upS, hz, E900]; omega)), ?_⟩
    refine ⟨(show 0 ≤ ((6 * a1) + 0) ∧ ((6 * a1) + 0) < 18 by first | omega | (simp [upS, hz, E900]; done) | (simp [upS, hz, E900]; omega)), ?_⟩
    rw [if_pos (show ((upS S900 682 0 0) 717 (((6 * a1) + 0)).toNat) = 0 by first | omega | (simp [upS, hz, E900]; done) | (simp [upS, hz, E900]; omega))]
    refine b374_83 ?_
    refine b374_84 ?_
    refine ⟨(show -2147483648 ≤ (6 * ((upS S900 682 0 0) 682 53)) ∧ (6 * ((upS S900 682 0 0) 682 53)) ≤ 2147483647 by first | omega | (simp [upS, hz, E900]; done) | (simp [upS, hz, E900]; omega)), ?_⟩
    refine ⟨(show -2147483648 ≤ ((6 * ((upS S900 682 0 0) 682 53)) + 0) ∧ ((6 * ((upS S900 682 0 0) 682 53)) + 0) ≤ 2147483647 by first | omega | (simp [upS, hz, E900]; done) | (simp [upS, hz, E900]; omega)), ?_⟩
    try rw [if_pos (show (0 : Int) = 0 by first | omega | (simp [upS, hz, E900]; done) | (simp [upS, hz, E900]; omega))]
    rw [show ((6 * ((upS S900 682 0 0) 682 53)) + 0) = 0 by (first | omega | (simp [upS, hz, E900]; done) | (simp [upS, hz, E900]; omega))]
    refine b374_109 ?_
    refine ⟨(show (0 : Int) ≤ 0 ∧ (0 : Int) < 60 by first | omega | (simp [upS, hz, E900]; done) | (simp [upS, hz, E900]; omega)), ?_⟩
    refine ⟨(show (0 : Int) ≤ 0 ∧ (0 : Int) < 6 by first | omega | (simp [upS, hz, E900]; done) | (simp [upS, hz, E900]; omega)), ?_⟩
    refine ⟨(show (-2147483648 : Int) ≤ (0 + 1) ∧ ((0 + 1) : Int) ≤ 2147483647 by first | omega | (simp [upS, hz, E900]; done) | (simp [upS, hz, E900]; omega)), ?_⟩
    rw [(show (upS (upS (upS S900 682 0 0) 720 ((0 : Int).toNat) (-1)) 721 ((0 : Int).toNat) 0) = (upS (upS (upS S900 682 0 0) 720 0 (-1)) 721 0 0) from by rw [show ((0 : Int).toNat) = 0 by (first | omega | (simp [upS, hz, E900]; done) | (simp [upS, hz, E900]; omega))])]
    rw [show ((0 + 1) : Int) = 1 by (first | omega | (simp [upS, hz, E900]; done) | (simp [upS, hz, E900]; omega))]
    refine b374_45 ?_
    rw [if_pos (show (1 : Int) < 6 by first | omega | (simp [upS, hz, E900]; done) | (simp [upS, hz, E900]; omega))]
    refine ⟨(show -2147483648 ≤ (6 * a1) ∧ (6 * a1) ≤ 2147483647 by first | omega | (simp [upS, hz, E900]; done) | (simp [upS, hz, E900]; omega)), ?_⟩
    refine ⟨(show -2147483648 ≤ ((6 * a1) + 1) ∧ ((6 * a1) + 1) ≤ 2147483647 by first | omega | (simp [upS, hz, E900]; done) | (simp [upS, hz, E900]; omega)), ?_⟩
    refine ⟨(show 0 ≤ ((6 * a1) + 1) ∧ ((6 * a1) + 1) < 18 by first | omega | (simp [upS, hz, E900]; done) | (simp [upS, hz, E900]; omega)), ?_⟩
    rw [if_pos (show ((upS (upS (upS S900 682 0 0) 720 0 (-1)) 721 0 0) 717 (((6 * a1) + 1)).toNat) = 0 by first | omega | (simp [upS, hz, E900]; done) | (simp [upS, hz, E900]; omega))]
    refine b374_83 ?_
    refine b374_84 ?_
    refine ⟨(show -2147483648 ≤ (6 * ((upS (upS (upS S900 682 0 0) 720 0 (-1)) 721 0 0) 682 53)) ∧ (6 * ((upS (upS (upS S900 682 0 0) 720 0 (-1)) 721 0 0) 682 53)) ≤ 2147483647 by first | omega | (simp [upS, hz, E900]; done) | (simp [upS, hz, E900]; omega)), ?_⟩
    refine ⟨(show -2147483648 ≤ ((6 * ((upS (upS (upS S900 682 0 0) 720 0 (-1)) 721 0 0) 682 53)) + 1) ∧ ((6 * ((upS (upS (upS S900 682 0 0) 720 0 (-1)) 721 0 0) 682 53)) + 1) ≤ 2147483647 by first | omega | (simp [upS, hz, E900]; done) | (simp [upS, hz, E900]; omega)), ?_⟩
    try rw [if_pos (show (0 : Int) = 0 by first | omega | (simp [upS, hz, E900]; done) | (simp [upS, hz, E900]; omega))]
    rw [show ((6 * ((upS (upS (upS S900 682 0 0) 720 0 (-1)) 721 0 0) 682 53)) + 1) = 1 by (first | omega | (simp [upS, hz, E900]; done) | (simp [upS, hz, E900]; omega))]
    refine b374_109 ?_
    refine ⟨(show (0 : Int) ≤ 1 ∧ (1 : Int) < 60 by first | omega | (simp [upS, hz, E900]; done) | (simp [upS, hz, E900]; omega)), ?_⟩
    refine ⟨(show (0 : Int) ≤ 1 ∧ (1 : Int) < 6 by first | omega | (simp [upS, hz, E900]; done) | (simp [upS, hz, E900]; omega)), ?_⟩
    refine ⟨(show (-2147483648 : Int) ≤ (1 + 1) ∧ ((1 + 1) : Int) ≤ 2147483647 by first | omega | (simp [upS, hz, E900]; done) | (simp [upS, hz, E900]; omega)), ?_⟩
    rw [(show (upS (upS (upS (upS (upS S900 682 0 0) 720 0 (-1)) 721 0 0) 720 ((1 : Int).toNat) (-1)) 721 ((1 : Int).toNat) 0) = (upS (upS (upS (upS (upS S900 682 0 0) 720 0 (-1)) 721 0 0) 720 1 (-1)) 721 1 0) from by rw [show ((1 : Int).toNat) = 1 by (first | omega | (simp [upS, hz, E900]; done) | (simp [upS, hz, E900]; omega))])]
    rw [show ((1 + 1) : Int) = 2 by (first | omega | (simp [upS, hz, E900]; done) | (simp [upS, hz, E900]; omega))]
    refine b374_45 ?_
    rw [if_pos (show (2 : Int) < 6 by first | omega | (simp [upS, hz, E900]; done) | (simp [upS, hz, E900]; omega))]
    refine ⟨(show -2147483648 ≤ (6 * a1) ∧ (6 * a1) ≤ 2147483647 by first | omega | (simp [upS, hz, E900]; done) | (simp [upS, hz, E900]; omega)), ?_⟩
    refine ⟨(show -2147483648 ≤ ((6 * a1) + 2) ∧ ((6 * a1) + 2) ≤ 2147483647 by first | omega | (simp [upS, hz, E900]; done) | (simp [upS, hz, E900]; omega)), ?_⟩
    refine ⟨(show 0 ≤ ((6 * a1) + 2) ∧ ((6 * a1) + 2) < 18 by first | omega | (simp [upS, hz, E900]; done) | (simp [upS, hz, E900]; omega)), ?_⟩
    rw [if_pos (show ((upS (upS (upS (upS (upS S900 682 0 0) 720 0 (-1)) 721 0 0) 720 1 (-1)) 721 1 0) 717 (((6 * a1) + 2)).toNat) = 0 by first | omega | (simp [upS, hz, E900]; done) | (simp [upS, hz, E900]; omega))]
    refine b374_83 ?_
    refine b374_84 ?_
    refine ⟨(show -2147483648 ≤ (6 * ((upS (upS (upS (upS (upS S900 682 0 0) 720 0 (-1)) 721 0 0) 720 1 (-1)) 721 1 0) 682 53)) ∧ (6 * ((upS (upS (upS (upS (upS S900 682 0 0) 720 0 (-1)) 721 0 0) 720 1 (-1)) 721 1 0) 682 53)) ≤ 2147483647 by first | omega | (simp [upS, hz, E900]; done) | (simp [upS, hz, E900]; omega)), ?_⟩
    refine ⟨(show -2147483648 ≤ ((6 * ((upS (upS (upS (upS (upS S900 682 0 0) 720 0 (-1)) 721 0 0) 720 1 (-1)) 721 1 0) 682 53)) + 2) ∧ ((6 * ((upS (upS (upS (upS (upS S900 682 0 0) 720 0 (-1)) 721 0 0) 720 1 (-1)) 721 1 0) 682 53)) + 2) ≤ 2147483647 by first | omega | (simp [upS, hz, E900]; done) | (simp [upS, hz, E900]; omega)), ?_⟩
    try rw [if_pos (show (0 : Int) = 0 by first | omega | (simp [upS, hz, E900]; done) | (simp [upS, hz, E900]; omega))]
    rw [show ((6 * ((upS (upS (upS (upS (upS S900 682 0 0) 720 0 (-1)) 721 0 0) 720 1 (-1)) 721 1 0) 682 53)) + 2) = 2 by (first | omega | (simp [upS, hz, E900]; done) | (simp [upS, hz, E900]; omega))]
    refine b374_109 ?_
    refine ⟨(show (0 : Int) ≤ 2 ∧ (2 : Int) < 60 by first | omega | (simp [upS, hz, E900]; done) | (simp [upS, hz, E900]; omega)), ?_⟩
    refine ⟨(show (0 : Int) ≤ 2 ∧ (2 : Int) < 6 by first | omega | (simp [upS, hz, E900]; done) | (simp [upS, hz, E900]; omega)), ?_⟩
    refine ⟨(show (-2147483648 : Int) ≤ (2 + 1) ∧ ((2 + 1) : Int) ≤ 2147483647 by first | omega | (simp [upS, hz, E900]; done) | (simp [upS, hz, E900]; omega)), ?_⟩
    rw [(show (upS (upS (upS (upS (upS (upS (upS S900 682 0 0) 720 0 (-1)) 721 0 0) 720 1 (-1)) 721 1 0) 720 ((2 : Int).toNat) (-1)) 721 ((2 : Int).toNat) 0) = (upS (upS (upS (upS (upS (upS (upS S900 682 0 0) 720 0 (-1)) 721 0 0) 720 1 (-1)) 721 1 0) 720 2 (-1)) 721 2 0) from by rw [show ((2 : Int).toNat) = 2 by (first | omega | (simp [upS, hz, E900]; done) | (simp [upS, hz, E900]; omega))])]
    obtain ⟨S45, E45⟩ : ∃ s : Sg, s = (upS (upS (upS (upS (upS (upS (upS S900 682 0 0) 720 0 (-1)) 721 0 0) 720 1 (-1)) 721 1 0) 720 2 (-1)) 721 2 0) := ⟨_, rfl⟩
    rw [← E45]
    rw [show ((2 + 1) : Int) = 3 by (first | omega | (simp [upS, hz, E900, E45]; done) | (simp [upS, hz, E900, E45]; omega))]
    refine b374_45 ?_
    rw [if_pos (show (3 : Int) < 6 by first | omega | (simp [upS, hz, E900, E45]; done) | (simp [upS, hz, E900, E45]; omega))]
    refine ⟨(show -2147483648 ≤ (6 * a1) ∧ (6 * a1) ≤ 2147483647 by first | omega | (simp [upS, hz, E900, E45]; done) | (simp [upS, hz, E900, E45]; omega)), ?_⟩
    refine ⟨(show -2147483648 ≤ ((6 * a1) + 3) ∧ ((6 * a1) + 3) ≤ 2147483647 by first | omega | (simp [upS, hz, E900, E45]; done) | (simp [upS, hz, E900, E45]; omega)), ?_⟩
    refine ⟨(show 0 ≤ ((6 * a1) + 3) ∧ ((6 * a1) + 3) < 18 by first | omega | (simp [upS, hz, E900, E45]; done) | (simp [upS, hz, E900, E45]; omega)), ?_⟩
    rw [if_pos (show (S45 717 (((6 * a1) + 3)).toNat) = 0 by first | omega | (simp [upS, hz, E900, E45]; done) | (simp [upS, hz, E900, E45]; omega))]
    refine b374_83 ?_
    refine b374_84 ?_
    refine ⟨(show -2147483648 ≤ (6 * (S45 682 53)) ∧ (6 * (S45 682 53)) ≤ 2147483647 by first | omega | (simp [upS, hz, E900, E45]; done) | (simp [upS, hz, E900, E45]; omega)), ?_⟩
    refine ⟨(show -2147483648 ≤ ((6 * (S45 682 53)) + 3) ∧ ((6 * (S45 682 53)) + 3) ≤ 2147483647 by first | omega | (simp [upS, hz, E900, E45]; done) | (simp [upS, hz, E900, E45]; omega)), ?_⟩
    try rw [if_pos (show (0 : Int) = 0 by first | omega | (simp [upS, hz, E900, E45]; done) | (simp [upS, hz, E900, E45]; omega))]
    rw [show ((6 * (S45 682 53)) + 3) = 3 by (first | omega | (simp [upS, hz, E900, E45]; done) | (simp [upS, hz, E900, E45]; omega))]
    refine b374_109 ?_
    refine ⟨(show (0 : Int) ≤ 3 ∧ (3 : Int) < 60 by first | omega | (simp [upS, hz, E900, E45]; done) | (simp [upS, hz, E900, E45]; omega)), ?_⟩
    refine ⟨(show (0 : Int) ≤ 3 ∧ (3 : Int) < 6 by first | omega | (simp [upS, hz, E900, E45]; done) | (simp [upS, hz, E900, E45]; omega)), ?_⟩
    refine ⟨(show (-2147483648 : Int) ≤ (3 + 1) ∧ ((3 + 1) : Int) ≤ 2147483647 by first | omega | (simp [upS, hz, E900, E45]; done) | (simp [upS, hz, E900, E45]; omega)), ?_⟩
    rw [(show (upS (upS S45 720 ((3 : Int).toNat) (-1)) 721 ((3 : Int).toNat) 0) = (upS (upS S45 720 3 (-1)) 721 3 0) from by rw [show ((3 : Int).toNat) = 3 by (first | omega | (simp [upS, hz, E900, E45]; done) | (simp [upS, hz, E900, E45]; omega))])]
    rw [show ((3 + 1) : Int) = 4 by (first | omega | (simp [upS, hz, E900, E45]; done) | (simp [upS, hz, E900, E45]; omega))]
    refine b374_45 ?_
    rw [if_pos (show (4 : Int) < 6 by first | omega | (simp [upS, hz, E900, E45]; done) | (simp [upS, hz, E900, E45]; omega))]
    refine ⟨(show -2147483648 ≤ (6 * a1) ∧ (6 * a1) ≤ 2147483647 by first | omega | (simp [upS, hz, E900, E45]; done) | (simp [upS, hz, E900, E45]; omega)), ?_⟩
    refine ⟨(show -2147483648 ≤ ((6 * a1) + 4) ∧ ((6 * a1) + 4) ≤ 2147483647 by first | omega | (simp [upS, hz, E900, E45]; done) | (simp [upS, hz, E900, E45]; omega)), ?_⟩
    refine ⟨(show 0 ≤ ((6 * a1) + 4) ∧ ((6 * a1) + 4) < 18 by first | omega | (simp [upS, hz, E900, E45]; done) | (simp [upS, hz, E900, E45]; omega)), ?_⟩
    rw [if_pos (show ((upS (upS S45 720 3 (-1)) 721 3 0) 717 (((6 * a1) + 4)).toNat) = 0 by first | omega | (simp [upS, hz, E900, E45]; done) | (simp [upS, hz, E900, E45]; omega))]
    refine b374_83 ?_
    refine b374_84 ?_
    refine ⟨(show -2147483648 ≤ (6 * ((upS (upS S45 720 3 (-1)) 721 3 0) 682 53)) ∧ (6 * ((upS (upS S45 720 3 (-1)) 721 3 0) 682 53)) ≤ 2147483647 by first | omega | (simp [upS, hz, E900, E45]; done) | (simp [upS, hz, E900, E45]; omega)), ?_⟩
    refine ⟨(show -2147483648 ≤ ((6 * ((upS (upS S45 720 3 (-1)) 721 3 0) 682 53)) + 4) ∧ ((6 * ((upS (upS S45 720 3 (-1)) 721 3 0) 682 53)) + 4) ≤ 2147483647 by first | omega | (simp [upS, hz, E900, E45]; done) | (simp [upS, hz, E900, E45]; omega)), ?_⟩
    try rw [if_pos (show (0 : Int) = 0 by first | omega | (simp [upS, hz, E900, E45]; done) | (simp [upS, hz, E900, E45]; omega))]
    rw [show ((6 * ((upS (upS S45 720 3 (-1)) 721 3 0) 682 53)) + 4) = 4 by (first | omega | (simp [upS, hz, E900, E45]; done) | (simp [upS, hz, E900, E45]; omega))]
    refine b374_109 ?_
    refine ⟨(show (0 : Int) ≤ 4 ∧ (4 : Int) < 60 by first | omega | (simp [upS, hz, E900, E45]; done) | (simp [upS, hz, E900, E45]; omega)), ?_⟩
    refine ⟨(show (0 : Int) ≤ 4 ∧ (4 : Int) < 6 by first | omega | (simp [upS, hz, E900, E45]; done) | (simp [upS, hz, E900, E45]; omega)), ?_⟩
    refine ⟨(show (-2147483648 : Int) ≤ (4 + 1) ∧ ((4 + 1) : Int) ≤ 2147483647 by first | omega | (simp [upS, hz, E900, E45]; done) | (simp [upS, hz, E900, E45]; omega)), ?_⟩
    rw [(show (upS (upS (upS (upS S45 720 3 (-1)) 721 3 0) 720 ((4 : Int).toNat) (-1)) 721 ((4 : Int).toNat) 0) = (upS (upS (upS (upS S45 720 3 (-1)) 721 3 0) 720 4 (-1)) 721 4 0) from by rw [show ((4 : Int).toNat) = 4 by (first | omega | (simp [upS, hz, E900, E45]; done) | (simp [upS, hz, E900, E45]; omega))])]
    rw [show ((4 + 1) : Int) = 5 by (first | omega | (simp [upS, hz, E900, E45]; done) | (simp [upS, hz, E900, E45]; omega))]
    refine b374_45 ?_
    rw [if_pos (show (5 : Int) < 6 by first | omega | (simp [upS, hz, E900, E45]; done) | (simp [upS, hz, E900, E45]; omega))]
    refine ⟨(show -2147483648 ≤ (6 * a1) ∧ (6 * a1) ≤ 2147483647 by first | omega | (simp [upS, hz, E900, E45]; done) | (simp [upS, hz, E900, E45]; omega)), ?_⟩
    refine ⟨(show -2147483648 ≤ ((6 * a1) + 5) ∧ ((6 * a1) + 5) ≤ 2147483647 by first | omega | (simp [upS, hz, E900, E45]; done) | (simp [upS, hz, E900, E45]; omega)), ?_⟩
    refine ⟨(show 0 ≤ ((6 * a1) + 5) ∧ ((6 * a1) + 5) < 18 by first | omega | (simp [upS, hz, E900, E45]; done) | (simp [upS, hz, E900, E45]; omega)), ?_⟩
    rw [if_pos (show ((upS (upS (upS (upS S45 720 3 (-1)) 721 3 0) 720 4 (-1)) 721 4 0) 717 (((6 * a1) + 5)).toNat) = 0 by first | omega | (simp [upS, hz, E900, E45]; done) | (simp [upS, hz, E900, E45]; omega))]
    refine b374_83 ?_
    refine b374_84 ?_
    refine ⟨(show -2147483648 ≤ (6 * ((upS (upS (upS (upS S45 720 3 (-1)) 721 3 0) 720 4 (-1)) 721 4 0) 682 53)) ∧ (6 * ((upS (upS (upS (upS S45 720 3 (-1)) 721 3 0) 720 4 (-1)) 721 4 0) 682 53)) ≤ 2147483647 by first | omega | (simp [upS, hz, E900, E45]; done) | (simp [upS, hz, E900, E45]; omega)), ?_⟩
    refine ⟨(show -2147483648 ≤ ((6 * ((upS (upS (upS (upS S45 720 3 (-1)) 721 3 0) 720 4 (-1)) 721 4 0) 682 53)) + 5) ∧ ((6 * ((upS (upS (upS (upS S45 720 3 (-1)) 721 3 0) 720 4 (-1)) 721 4 0) 682 53)) + 5) ≤ 2147483647 by first | omega | (simp [upS, hz, E900, E45]; done) | (simp [upS, hz, E900, E45]; omega)), ?_⟩
    try rw [if_pos (show (0 : Int) = 0 by first | omega | (simp [upS, hz, E900, E45]; done) | (simp [upS, hz, E900, E45]; omega))]
    rw [show ((6 * ((upS (upS (upS (upS S45 720 3 (-1)) 721 3 0) 720 4 (-1)) 721 4 0) 682 53)) + 5) = 5 by (first | omega | (simp [upS, hz, E900, E45]; done) | (simp [upS, hz, E900, E45]; omega))]
    refine b374_109 ?_
    refine ⟨(show (0 : Int) ≤ 5 ∧ (5 : Int) < 60 by first | omega | (simp [upS, hz, E900, E45]; done) | (simp [upS, hz, E900, E45]; omega)), ?_⟩
    refine ⟨(show (0 : Int) ≤ 5 ∧ (5 : Int) < 6 by first | omega | (simp [upS, hz, E900, E45]; done) | (simp [upS, hz, E900, E45]; omega)), ?_⟩
    refine ⟨(show (-2147483648 : Int) ≤ (5 + 1) ∧ ((5 + 1) : Int) ≤ 2147483647 by first | omega | (simp [upS, hz, E900, E45]; done) | (simp [upS, hz, E900, E45]; omega)), ?_⟩
    rw [(show (upS (upS (upS (upS (upS (upS S45 720 3 (-1)) 721 3 0) 720 4 (-1)) 721 4 0) 720 ((5 : Int).toNat) (-1)) 721 ((5 : Int).toNat) 0) = (upS (upS (upS (upS (upS (upS S45 720 3 (-1)) 721 3 0) 720 4 (-1)) 721 4 0) 720 5 (-1)) 721 5 0) from by rw [show ((5 : Int).toNat) = 5 by (first | omega | (simp [upS, hz, E900, E45]; done) | (simp [upS, hz, E900, E45]; omega))])]
    obtain ⟨S46, E46⟩ : ∃ s : Sg, s = (upS (upS (upS (upS (upS (upS S45 720 3 (-1)) 721 3 0) 720 4 (-1)) 721 4 0) 720 5 (-1)) 721 5 0) := ⟨_, rfl⟩
    rw [← E46]
    rw [show ((5 + 1) : Int) = 6 by (first | omega | (simp [upS, hz, E900, E45, E46]; done) | (simp [upS, hz, E900, E45, E46]; omega))]
    refine b374_45 ?_
    rw [if_neg (show ¬ ((6 : Int) < 6) by first | omega | (simp [upS, hz, E900, E45, E46]; done) | (simp [upS, hz, E900, E45, E46]; omega))]
    refine b374_125 ?_
    rw [if_pos (show (0 : Int) < 6 by first | omega | (simp [upS, hz, E900, E45, E46]; done) | (simp [upS, hz, E900, E45, E46]; omega))]
    refine b374_134 ?_
    rw [if_pos (show (0 : Int) < 6 by first | omega | (simp [upS, hz, E900, E45, E46]; done) | (simp [upS, hz, E900, E45, E46]; omega))]
    have hD47 : Dd 371 [(.inr (.inr (some 682))), (.inl a1), (.inl a2), (.inl 0)] S46 (.inl (some (.inl 0)), S46) := by
      refine b371 ?_
      refine ⟨(show -2147483648 ≤ (6 * a1) ∧ (6 * a1) ≤ 2147483647 by first | omega | (simp [upS, hz, E900, E45, E46]; done) | (simp [upS, hz, E900, E45, E46]; omega)), ?_⟩
      refine ⟨(show -2147483648 ≤ ((6 * a1) + 0) ∧ ((6 * a1) + 0) ≤ 2147483647 by first | omega | (simp [upS, hz, E900, E45, E46]; done) | (simp [upS, hz, E900, E45, E46]; omega)), ?_⟩
      refine ⟨(show 0 ≤ ((6 * a1) + 0) ∧ ((6 * a1) + 0) < 18 by first | omega | (simp [upS, hz, E900, E45, E46]; done) | (simp [upS, hz, E900, E45, E46]; omega)), ?_⟩
      refine ⟨(show ¬ ((S46 717 (((6 * a1) + 0)).toNat) = 0) → -2147483648 ≤ (6 * a2) ∧ (6 * a2) ≤ 2147483647 by (first | (intros; first | omega | (simp [upS, hz, E900, E45, E46]; done) | (simp [upS, hz, E900, E45, E46]; omega)) | (intros; simp_all [upS, hz, E900, E45, E46]; done) | (intros; simp_all [upS, hz, E900, E45, E46]; omega))), ?_⟩
      refine ⟨(show ¬ ((S46 717 (((6 * a1) + 0)).toNat) = 0) → -2147483648 ≤ ((6 * a2) + 0) ∧ ((6 * a2) + 0) ≤ 2147483647 by (first | (intros; first | omega | (simp [upS, hz, E900, E45, E46]; done) | (simp [upS, hz, E900, E45, E46]; omega)) | (intros; simp_all [upS, hz, E900, E45, E46]; done) | (intros; simp_all [upS, hz, E900, E45, E46]; omega))), ?_⟩
      refine ⟨(show ¬ ((S46 717 (((6 * a1) + 0)).toNat) = 0) → 0 ≤ ((6 * a2) + 0) ∧ ((6 * a2) + 0) < 18 by (first | (intros; first | omega | (simp [upS, hz, E900, E45, E46]; done) | (simp [upS, hz, E900, E45, E46]; omega)) | (intros; simp_all [upS, hz, E900, E45, E46]; done) | (intros; simp_all [upS, hz, E900, E45, E46]; omega))), ?_⟩
      try rw [if_pos (show (S46 717 (((6 * a1) + 0)).toNat) = 0 by first | omega | (simp [upS, hz, E900, E45, E46]; done) | (simp [upS, hz, E900, E45, E46]; omega))]
      all_goals rfl
    refine ⟨_, _, hD47, ?_⟩
    clear hD47
    rw [if_pos (show (0 : Int) = 0 by first | omega | (simp [upS, hz, E900, E45, E46]; done) | (simp [upS, hz, E900, E45, E46]; omega))]
    refine b374_194 ?_
    refine b374_195 ?_
    rw [if_pos (show (0 : Int) = 0 by first | omega | (simp [upS, hz, E900, E45, E46]; done) | (simp [upS, hz, E900, E45, E46]; omega))]
    refine b374_231 ?_
    refine ⟨(show (-2147483648 : Int) ≤ (0 + 1) ∧ ((0 + 1) : Int) ≤ 2147483647 by first | omega | (simp [upS, hz, E900, E45, E46]; done) | (simp [upS, hz, E900, E45, E46]; omega)), ?_⟩
    rw [show ((0 + 1) : Int) = 1 by (first | omega | (simp [upS, hz, E900, E45, E46]; done) | (simp [upS, hz, E900, E45, E46]; omega))]
    refine b374_134 ?_
    rw [if_pos (show (1 : Int) < 6 by first | omega | (simp [upS, hz, E900, E45, E46]; done) | (simp [upS, hz, E900, E45, E46]; omega))]
    have hD48 : Dd 371 [(.inr (.inr (some 682))), (.inl a1), (.inl a2), (.inl 0)] S46 (.inl (some (.inl 0)), S46) := by
      refine b371 ?_
      refine ⟨(show -2147483648 ≤ (6 * a1) ∧ (6 * a1) ≤ 2147483647 by first | omega | (simp [upS, hz, E900, E45, E46]; done) | (simp [upS, hz, E900, E45, E46]; omega)), ?_⟩
      refine ⟨(show -2147483648 ≤ ((6 * a1) + 0) ∧ ((6 * a1) + 0) ≤ 2147483647 by first | omega | (simp [upS, hz, E900, E45, E46]; done) | (simp [upS, hz, E900, E45, E46]; omega)), ?_⟩
      refine ⟨(show 0 ≤ ((6 * a1) + 0) ∧ ((6 * a1) + 0) < 18 by first | omega | (simp [upS, hz, E900, E45, E46]; done) | (simp [upS, hz, E900, E45, E46]; omega)), ?_⟩
      refine ⟨(show ¬ ((S46 717 (((6 * a1) + 0)).toNat) = 0) → -2147483648 ≤ (6 * a2) ∧ (6 * a2) ≤ 2147483647 by (first | (intros; first | omega | (simp [upS, hz, E900, E45, E46]; done) | (simp [upS, hz, E900, E45, E46]; omega)) | (intros; simp_all [upS, hz, E900, E45, E46]; done) | (intros; simp_all [upS, hz, E900, E45, E46]; omega))), ?_⟩
      refine ⟨(show ¬ ((S46 717 (((6 * a1) + 0)).toNat) = 0) → -2147483648 ≤ ((6 * a2) + 0) ∧ ((6 * a2) + 0) ≤ 2147483647 by (first | (intros; first | omega | (simp [upS, hz, E900, E45, E46]; done) | (simp [upS, hz, E900, E45, E46]; omega)) | (intros; simp_all [upS, hz, E900, E45, E46]; done) | (intros; simp_all [upS, hz, E900, E45, E46]; omega))), ?_⟩
      refine ⟨(show ¬ ((S46 717 (((6 * a1) + 0)).toNat) = 0) → 0 ≤ ((6 * a2) + 0) ∧ ((6 * a2) + 0) < 18 by (first | (intros; first | omega | (simp [upS, hz, E900, E45, E46]; done) | (simp [upS, hz, E900, E45, E46]; omega)) | (intros; simp_all [upS, hz, E900, E45, E46]; done) | (intros; simp_all [upS, hz, E900, E45, E46]; omega))), ?_⟩
      try rw [if_pos (show (S46 717 (((6 * a1) + 0)).toNat) = 0 by first | omega | (simp [upS, hz, E900, E45, E46]; done) | (simp [upS, hz, E900, E45, E46]; omega))]
      all_goals rfl
    refine ⟨_, _, hD48, ?_⟩
    clear hD48
    rw [if_pos (show (0 : Int) = 0 by first | omega | (simp [upS, hz, E900, E45, E46]; done) | (simp [upS, hz, E900, E45, E46]; omega))]
    refine b374_194 ?_
    refine b374_195 ?_
    rw [if_pos (show (0 : Int) = 0 by first | omega | (simp [upS, hz, E900, E45, E46]; done) | (simp [upS, hz, E900, E45, E46]; omega))]
    refine b374_231 ?_
    refine ⟨(show (-2147483648 : Int) ≤ (1 + 1) ∧ ((1 + 1) : Int) ≤ 2147483647 by first | omega | (simp [upS, hz, E900, E45, E46]; done) | (simp [upS, hz, E900, E45, E46]; omega)), ?_⟩
    rw [show ((1 + 1) : Int) = 2 by (first | omega | (simp [upS, hz, E900, E45, E46]; done) | (simp [upS, hz, E900, E45, E46]; omega))]
    refine b374_134 ?_
    rw [if_pos (show (2 : Int) < 6 by first | omega | (simp [upS, hz, E900, E45, E46]; done) | (simp [upS, hz, E900, E45, E46]; omega))]
    have hD49 : Dd 371 [(.inr (.inr (some 682))), (.inl a1), (.inl a2), (.inl 0)] S46 (.inl (some (.inl 0)), S46) := by
      refine b371 ?_
      refine ⟨(show -2147483648 ≤ (6 * a1) ∧ (6 * a1) ≤ 2147483647 by first | omega | (simp [upS, hz, E900, E45, E46]; done) | (simp [upS, hz, E900, E45, E46]; omega)), ?_⟩
      refine ⟨(show -2147483648 ≤ ((6 * a1) + 0) ∧ ((6 * a1) + 0) ≤ 2147483647 by first | omega | (simp [upS, hz, E900, E45, E46]; done) | (simp [upS, hz, E900, E45, E46]; omega)), ?_⟩
      refine ⟨(show 0 ≤ ((6 * a1) + 0) ∧ ((6 * a1) + 0) < 18 by first | omega | (simp [upS, hz, E900, E45, E46]; done) | (simp [upS, hz, E900, E45, E46]; omega)), ?_⟩
      refine ⟨(show ¬ ((S46 717 (((6 * a1) + 0)).toNat) = 0) → -2147483648 ≤ (6 * a2) ∧ (6 * a2) ≤ 2147483647 by (first | (intros; first | omega | (simp [upS, hz, E900, E45, E46]; done) | (simp [upS, hz, E900, E45, E46]; omega)) | (intros; simp_all [upS, hz, E900, E45, E46]; done) | (intros; simp_all [upS, hz, E900, E45, E46]; omega))), ?_⟩
      refine ⟨(show ¬ ((S46 717 (((6 * a1) + 0)).toNat) = 0) → -2147483648 ≤ ((6 * a2) + 0) ∧ ((6 * a2) + 0) ≤ 2147483647 by (first | (intros; first | omega | (simp [upS, hz, E900, E45, E46]; done) | (simp [upS, hz, E900, E45, E46]; omega)) | (intros; simp_all [upS, hz, E900, E45, E46]; done) | (intros; simp_all [upS, hz, E900, E45, E46]; omega))), ?_⟩
      refine ⟨(show ¬ ((S46 717 (((6 * a1) + 0)).toNat) = 0) → 0 ≤ ((6 * a2) + 0) ∧ ((6 * a2) + 0) < 18 by (first | (intros; first | omega | (simp [upS, hz, E900, E45, E46]; done) | (simp [upS, hz, E900, E45, E46]; omega)) | (intros; simp_all [upS, hz, E900, E45, E46]; done) | (intros; simp_all [upS, hz, E900, E45, E46]; omega))), ?_⟩
      try rw [if_pos (show (S46 717 (((6 * a1) + 0)).toNat) = 0 by first | omega | (simp [upS, hz, E900, E45, E46]; done) | (simp [upS, hz, E900, E45, E46]; omega))]
      all_goals rfl
    refine ⟨_, _, hD49, ?_⟩
    clear hD49
    rw [if_pos (show (0 : Int) = 0 by first | omega | (simp [upS, hz, E900, E45, E46]; done) | (simp [upS, hz, E900, E45, E46]; omega))]
    refine b374_194 ?_
    refine b374_195 ?_
    rw [if_pos (show (0 : Int) = 0 by first | omega | (simp [upS, hz, E900, E45, E46]; done) | (simp [upS, hz, E900, E45, E46]; omega))]
    refine b374_231 ?_
    refine ⟨(show (-2147483648 : Int) ≤ (2 + 1) ∧ ((2 + 1) : Int) ≤ 2147483647 by first | omega | (simp [upS, hz, E900, E45, E46]; done) | (simp [upS, hz, E900, E45, E46]; omega)), ?_⟩
    rw [show ((2 + 1) : Int) = 3 by (first | omega | (simp [upS, hz, E900, E45, E46]; done) | (simp [upS, hz, E900, E45, E46]; omega))]
    refine b374_134 ?_
    rw [if_pos (show (3 : Int) < 6 by first | omega | (simp [upS, hz, E900, E45, E46]; done) | (simp [upS, hz, E900, E45, E46]; omega))]
    have hD50 : Dd 371 [(.inr (.inr (some 682))), (.inl a1), (.inl a2), (.inl 0)] S46 (.inl (some (.inl 0)), S46) := by
      refine b371 ?_
      refine ⟨(show -2147483648 ≤ (6 * a1) ∧ (6 * a1) ≤ 2147483647 by first | omega | (simp [upS, hz, E900, E45, E46]; done) | (simp [upS, hz, E900, E45, E46]; omega)), ?_⟩
      refine ⟨(show -2147483648 ≤ ((6 * a1) + 0) ∧ ((6 * a1) + 0) ≤ 2147483647 by first | omega | (simp [upS, hz, E900, E45, E46]; done) | (simp [upS, hz, E900, E45, E46]; omega)), ?_⟩
      refine ⟨(show 0 ≤ ((6 * a1) + 0) ∧ ((6 * a1) + 0) < 18 by first | omega | (simp [upS, hz, E900, E45, E46]; done) | (simp [upS, hz, E900, E45, E46]; omega)), ?_⟩
      refine ⟨(show ¬ ((S46 717 (((6 * a1) + 0)).toNat) = 0) → -2147483648 ≤ (6 * a2) ∧ (6 * a2) ≤ 2147483647 by (first | (intros; first | omega | (simp [upS, hz, E900, E45, E46]; done) | (simp [upS, hz, E900, E45, E46]; omega)) | (intros; simp_all [upS, hz, E900, E45, E46]; done) | (intros; simp_all [upS, hz, E900, E45, E46]; omega))), ?_⟩
      refine ⟨(show ¬ ((S46 717 (((6 * a1) + 0)).toNat) = 0) → -2147483648 ≤ ((6 * a2) + 0) ∧ ((6 * a2) + 0) ≤ 2147483647 by (first | (intros; first | omega | (simp [upS, hz, E900, E45, E46]; done) | (simp [upS, hz, E900, E45, E46]; omega)) | (intros; simp_all [upS, hz, E900, E45, E46]; done) | (intros; simp_all [upS, hz, E900, E45, E46]; omega))), ?_⟩
      refine ⟨(show ¬ ((S46 717 (((6 * a1) + 0)).toNat) = 0) → 0 ≤ ((6 * a2) + 0) ∧ ((6 * a2) + 0) < 18 by (first | (intros; first | omega | (simp [upS, hz, E900, E45, E46]; done) | (simp [upS, hz, E900, E45, E46]; omega)) | (intros; simp_all [upS, hz, E900, E45, E46]; done) | (intros; simp_all [upS, hz, E900, E45, E46]; omega))), ?_⟩
      try rw [if_pos (show (S46 717 (((6 * a1) + 0)).toNat) = 0 by first | omega | (simp [upS, hz, E900, E45, E46]; done) | (simp [upS, hz, E900, E45, E46]; omega))]
      all_goals rfl
    refine ⟨_, _, hD50, ?_⟩
    clear hD50
    rw [if_pos (show (0 : Int) = 0 by first | omega | (simp [upS, hz, E900, E45, E46]; done) | (simp [upS, hz, E900, E45, E46]; omega))]
    refine b374_194 ?_
    refine b374_195 ?_
    rw [if_pos (show (0 : Int) = 0 by first | omega | (simp [upS, hz, E900, E45, E46]; done) | (simp [upS, hz, E900, E45, E46]; omega))]
    refine b374_231 ?_
    refine ⟨(show (-2147483648 : Int) ≤ (3 + 1) ∧ ((3 + 1) : Int) ≤ 2147483647 by first | omega | (simp [upS, hz, E900, E45, E46]; done) | (simp [upS, hz, E900, E45, E46]; omega)), ?_⟩
    rw [show ((3 + 1) : Int) = 4 by (first | omega | (simp [upS, hz, E900, E45, E46]; done) | (simp [upS, hz, E900, E45, E46]; omega))]
    refine b374_134 ?_
    rw [if_pos (show (4 : Int) < 6 by first | omega | (simp [upS, hz, E900, E45, E46]; done) | (simp [upS, hz, E900, E45, E46]; omega))]
    have hD51 : Dd 371 [(.inr (.inr (some 682))), (.inl a1), (.inl a2), (.inl 0)] S46 (.inl (some (.inl 0)), S46) := by
      refine b371 ?_
      refine ⟨(show -2147483648 ≤ (6 * a1) ∧ (6 * a1) ≤ 2147483647 by first | omega | (simp [upS, hz, E900, E45, E46]; done) | (simp [upS, hz, E900, E45, E46]; omega)), ?_⟩
      refine ⟨(show -2147483648 ≤ ((6 * a1) + 0) ∧ ((6 * a1) + 0) ≤ 2147483647 by first | omega | (simp [upS, hz, E900, E45, E46]; done) | (simp [upS, hz, E900, E45, E46]; omega)), ?_⟩
      refine ⟨(show 0 ≤ ((6 * a1) + 0) ∧ ((6 * a1) + 0) < 18 by first | omega | (simp [upS, hz, E900, E45, E46]; done) | (simp [upS, hz, E900, E45, E46]; omega)), ?_⟩
      refine ⟨(show ¬ ((S46 717 (((6 * a1) + 0)).toNat) = 0) → -2147483648 ≤ (6 * a2) ∧ (6 * a2) ≤ 2147483647 by (first | (intros; first | omega | (simp [upS, hz, E900, E45, E46]; done) | (simp [upS, hz, E900, E45, E46]; omega)) | (intros; simp_all [upS, hz, E900, E45, E46]; done) | (intros; simp_all [upS, hz, E900, E45, E46]; omega))), ?_⟩
      refine ⟨(show ¬ ((S46 717 (((6 * a1) + 0)).toNat) = 0) → -2147483648 ≤ ((6 * a2) + 0) ∧ ((6 * a2) + 0) ≤ 2147483647 by (first | (intros; first | omega | (simp [upS, hz, E900, E45, E46]; done) | (simp [upS, hz, E900, E45, E46]; omega)) | (intros; simp_all [upS, hz, E900, E45, E46]; done) | (intros; simp_all [upS, hz, E900, E45, E46]; omega))), ?_⟩
      refine ⟨(show ¬ ((S46 717 (((6 * a1) + 0)).toNat) = 0) → 0 ≤ ((6 * a2) + 0) ∧ ((6 * a2) + 0) < 18 by (first | (intros; first | omega | (simp [upS, hz, E900, E45, E46]; done) | (simp [upS, hz, E900, E45, E46]; omega)) | (intros; simp_all [upS, hz, E900, E45, E46]; done) | (intros; simp_all [upS, hz, E900, E45, E46]; omega))), ?_⟩
      try rw [if_pos (show (S46 717 (((6 * a1) + 0)).toNat) = 0 by first | omega | (simp [upS, hz, E900, E45, E46]; done) | (simp [upS, hz, E900, E45, E46]; omega))]
      all_goals rfl
    refine ⟨_, _, hD51, ?_⟩
    clear hD51
    rw [if_pos (show (0 : Int) = 0 by first | omega | (simp [upS, hz, E900, E45, E46]; done) | (simp [upS, hz, E900, E45, E46]; omega))]
    refine b374_194 ?_
    refine b374_195 ?_
    rw [if_pos (show (0 : Int) = 0 by first | omega | (simp [upS, hz, E900, E45, E46]; done) | (simp [upS, hz, E900, E45, E46]; omega))]
    refine b374_231 ?_
    refine ⟨(show (-2147483648 : Int) ≤ (4 + 1) ∧ ((4 + 1) : Int) ≤ 2147483647 by first | omega | (simp [upS, hz, E900, E45, E46]; done) | (simp [upS, hz, E900, E45, E46]; omega)), ?_⟩
    rw [show ((4 + 1) : Int) = 5 by (first | omega | (simp [upS, hz, E900, E45, E46]; done) | (simp [upS, hz, E900, E45, E46]; omega))]
    refine b374_134 ?_
    rw [if_pos (show (5 : Int) < 6 by first | omega | (simp [upS, hz, E900, E45, E46]; done) | (simp [upS, hz, E900, E45, E46]; omega))]
    have hD52 : Dd 371 [(.inr (.inr (some 682))), (.inl a1), (.inl a2), (.inl 0)] S46 (.inl (some (.inl 0)), S46) := by
      refine b371 ?_
      refine ⟨(show -2147483648 ≤ (6 * a1) ∧ (6 * a1) ≤ 2147483647 by first | omega | (simp [upS, hz, E900, E45, E46]; done) | (simp [upS, hz, E900, E45, E46]; omega)), ?_⟩
      refine ⟨(show -2147483648 ≤ ((6 * a1) + 0) ∧ ((6 * a1) + 0) ≤ 2147483647 by first | omega | (simp [upS, hz, E900, E45, E46]; done) | (simp [upS, hz, E900, E45, E46]; omega)), ?_⟩
      refine ⟨(show 0 ≤ ((6 * a1) + 0) ∧ ((6 * a1) + 0) < 18 by first | omega | (simp [upS, hz, E900, E45, E46]; done) | (simp [upS, hz, E900, E45, E46]; omega)), ?_⟩
      refine ⟨(show ¬ ((S46 717 (((6 * a1) + 0)).toNat) = 0) → -2147483648 ≤ (6 * a2) ∧ (6 * a2) ≤ 2147483647 by (first | (intros; first | omega | (simp [upS, hz, E900, E45, E46]; done) | (simp [upS, hz, E900, E45, E46]; omega)) | (intros; simp_all [upS, hz, E900, E45, E46]; done) | (intros; simp_all [upS, hz, E900, E45, E46]; omega))), ?_⟩
      refine ⟨(show ¬ ((S46 717 (((6 * a1) + 0)).toNat) = 0) → -2147483648 ≤ ((6 * a2) + 0) ∧ ((6 * a2) + 0) ≤ 2147483647 by (first | (intros; first | omega | (simp [upS, hz, E900, E45, E46]; done) | (simp [upS, hz, E900, E45, E46]; omega)) | (intros; simp_all [upS, hz, E900, E45, E46]; done) | (intros; simp_all [upS, hz, E900, E45, E46]; omega))), ?_⟩
      refine ⟨(show ¬ ((S46 717 (((6 * a1) + 0)).toNat) = 0) → 0 ≤ ((6 * a2) + 0) ∧ ((6 * a2) + 0) < 18 by (first | (intros; first | omega | (simp [upS, hz, E900, E45, E46]; done) | (simp [upS, hz, E900, E45, E46]; omega)) | (intros; simp_all [upS, hz, E900, E45, E46]; done) | (intros; simp_all [upS, hz, E900, E45, E46]; omega))), ?_⟩
      try rw [if_pos (show (S46 717 (((6 * a1) + 0)).toNat) = 0 by first | omega | (simp [upS, hz, E900, E45, E46]; done) | (simp [upS, hz, E900, E45, E46]; omega))]
      all_goals rfl
    refine ⟨_, _, hD52, ?_⟩
    clear hD52
    rw [if_pos (show (0 : Int) = 0 by first | omega | (simp [upS, hz, E900, E45, E46]; done) | (simp [upS, hz, E900, E45, E46]; omega))]
    refine b374_194 ?_
    refine b374_195 ?_
    rw [if_pos (show (0 : Int) = 0 by first | omega | (simp [upS, hz, E900, E45, E46]; done) | (simp [upS, hz, E900, E45, E46]; omega))]
    refine b374_231 ?_
    refine ⟨(show (-2147483648 : Int) ≤ (5 + 1) ∧ ((5 + 1) : Int) ≤ 2147483647 by first | omega | (simp [upS, hz, E900, E45, E46]; done) | (simp [upS, hz, E900, E45, E46]; omega)), ?_⟩
    rw [show ((5 + 1) : Int) = 6 by (first | omega | (simp [upS, hz, E900, E45, E46]; done) | (simp [upS, hz, E900, E45, E46]; omega))]
    refine b374_134 ?_
    rw [if_neg (show ¬ ((6 : Int) < 6) by first | omega | (simp [upS, hz, E900, E45, E46]; done) | (simp [upS, hz, E900, E45, E46]; omega))]
    refine ⟨(show (-2147483648 : Int) ≤ (0 + 1) ∧ ((0 + 1) : Int) ≤ 2147483647 by first | omega | (simp [upS, hz, E900, E45, E46]; done) | (simp [upS, hz, E900, E45, E46]; omega)), ?_⟩
    rw [show ((0 + 1) : Int) = 1 by (first | omega | (simp [upS, hz, E900, E45, E46]; done) | (simp [upS, hz, E900, E45, E46]; omega))]
    refine b374_125 ?_
    rw [if_pos (show (1 : Int) < 6 by first | omega | (simp [upS, hz, E900, E45, E46]; done) | (simp [upS, hz, E900, E45, E46]; omega))]
    refine b374_134 ?_
    rw [if_pos (show (0 : Int) < 6 by first | omega | (simp [upS, hz, E900, E45, E46]; done) | (simp [upS, hz, E900, E45, E46]; omega))]
    have hD53 : Dd 371 [(.inr (.inr (some 682))), (.inl a1), (.inl a2), (.inl 1)] S46 (.inl (some (.inl 0)), S46) := by
      refine b371 ?_
      refine ⟨(show -2147483648 ≤ (6 * a1) ∧ (6 * a1) ≤ 2147483647 by first | omega | (simp [upS, hz, E900, E45, E46]; done) | (simp [upS, hz, E900, E45, E46]; omega)), ?_⟩
      refine ⟨(show -2147483648 ≤ ((6 * a1) + 1) ∧ ((6 * a1) + 1) ≤ 2147483647 by first | omega | (simp [upS, hz, E900, E45, E46]; done) | (simp [upS, hz, E900, E45, E46]; omega)), ?_⟩
      refine ⟨(show 0 ≤ ((6 * a1) + 1) ∧ ((6 * a1) + 1) < 18 by first | omega | (simp [upS, hz, E900, E45, E46]; done) | (simp [upS, hz, E900, E45, E46]; omega)), ?_⟩
      refine ⟨(show ¬ ((S46 717 (((6 * a1) + 1)).toNat) = 0) → -2147483648 ≤ (6 * a2) ∧ (6 * a2) ≤ 2147483647 by (first | (intros; first | omega | (simp [upS, hz, E900, E45, E46]; done) | (simp [upS, hz, E900, E45, E46]; omega)) | (intros; simp_all [upS, hz, E900, E45, E46]; done) | (intros; simp_all [upS, hz, E900, E45, E46]; omega))), ?_⟩
      refine ⟨(show ¬ ((S46 717 (((6 * a1) + 1)).toNat) = 0) → -2147483648 ≤ ((6 * a2) + 1) ∧ ((6 * a2) + 1) ≤ 2147483647 by (first | (intros; first | omega | (simp [upS, hz, E900, E45, E46]; done) | (simp [upS, hz, E900, E45, E46]; omega)) | (intros; simp_all [upS, hz, E900, E45, E46]; done) | (intros; simp_all [upS, hz, E900, E45, E46]; omega))), ?_⟩
      refine ⟨(show ¬ ((S46 717 (((6 * a1) + 1)).toNat) = 0) → 0 ≤ ((6 * a2) + 1) ∧ ((6 * a2) + 1) < 18 by (first | (intros; first | omega | (simp [upS, hz, E900, E45, E46]; done) | (simp [upS, hz, E900, E45, E46]; omega)) | (intros; simp_all [upS, hz, E900, E45, E46]; done) | (intros; simp_all [upS, hz, E900, E45, E46]; omega))), ?_⟩
      try rw [if_pos (show (S46 717 (((6 * a1) + 1)).toNat) = 0 by first | omega | (simp [upS, hz, E900, E45, E46]; done) | (simp [upS, hz, E900, E45, E46]; omega))]
      all_goals rfl
    refine ⟨_, _, hD53, ?_⟩
    clear hD53
    rw [if_pos (show (0 : Int) = 0 by first | omega | (simp [upS, hz, E900, E45, E46]; done) | (simp [upS, hz, E900, E45, E46]; omega))]
    refine b374_194 ?_
    refine b374_195 ?_
    rw [if_pos (show (0 : Int) = 0 by first | omega | (simp [upS, hz, E900, E45, E46]; done) | (simp [upS, hz, E900, E45, E46]; omega))]
    refine b374_231 ?_
    refine ⟨(show (-2147483648 : Int) ≤ (0 + 1) ∧ ((0 + 1) : Int) ≤ 2147483647 by first | omega | (simp [upS, hz, E900, E45, E46]; done) | (simp [upS, hz, E900, E45, E46]; omega)), ?_⟩
    rw [show ((0 + 1) : Int) = 1 by (first | omega | (simp [upS, hz, E900, E45, E46]; done) | (simp [upS, hz, E900, E45, E46]; omega))]
    refine b374_134 ?_
    rw [if_pos (show (1 : Int) < 6 by first | omega | (simp [upS, hz, E900, E45, E46]; done) | (simp [upS, hz, E900, E45, E46]; omega))]
    have hD54 : Dd 371 [(.inr (.inr (some 682))), (.inl a1), (.inl a2), (.inl 1)] S46 (.inl (some (.inl 0)), S46) := by
      refine b371 ?_
      refine ⟨(show -2147483648 ≤ (6 * a1) ∧ (6 * a1) ≤ 2147483647 by first | omega | (simp [upS, hz, E900, E45, E46]; done) | (simp [upS, hz, E900, E45, E46]; omega)), ?_⟩
      refine ⟨(show -2147483648 ≤ ((6 * a1) + 1) ∧ ((6 * a1) + 1) ≤ 2147483647 by first | omega | (simp [upS, hz, E900, E45, E46]; done) | (simp [upS, hz, E900, E45, E46]; omega)), ?_⟩
      refine ⟨(show 0 ≤ ((6 * a1) + 1) ∧ ((6 * a1) + 1) < 18 by first | omega | (simp [upS, hz, E900, E45, E46]; done) | (simp [upS, hz, E900, E45, E46]; omega)), ?_⟩
      refine ⟨(show ¬ ((S46 717 (((6 * a1) + 1)).toNat) = 0) → -2147483648 ≤ (6 * a2) ∧ (6 * a2) ≤ 2147483647 by (first | (intros; first | omega | (simp [upS, hz, E900, E45, E46]; done) | (simp [upS, hz, E900, E45, E46]; omega)) | (intros; simp_all [upS, hz, E900, E45, E46]; done) | (intros; simp_all [upS, hz, E900, E45, E46]; omega))), ?_⟩
      refine ⟨(show ¬ ((S46 717 (((6 * a1) + 1)).toNat) = 0) → -2147483648 ≤ ((6 * a2) + 1) ∧ ((6 * a2) + 1) ≤ 2147483647 by (first | (intros; first | omega | (simp [upS, hz, E900, E45, E46]; done) | (simp [upS, hz, E900, E45, E46]; omega)) | (intros; simp_all [upS, hz, E900, E45, E46]; done) | (intros; simp_all [upS, hz, E900, E45, E46]; omega))), ?_⟩
      refine ⟨(show ¬ ((S46 717 (((6 * a1) + 1)).toNat) = 0) → 0 ≤ ((6 * a2) + 1) ∧ ((6 * a2) + 1) < 18 by (first | (intros; first | omega | (simp [upS, hz, E900, E45, E46]; done) | (simp [upS, hz, E900, E45, E46]; omega)) | (intros; simp_all [upS, hz, E900, E45, E46]; done) | (intros; simp_all [upS, hz, E900, E45, E46]; omega))), ?_⟩
      try rw [if_pos (show (S46 717 (((6 * a1) + 1)).toNat) = 0 by first | omega | (simp [upS, hz, E900, E45, E46]; done) | (simp [upS, hz, E900, E45, E46]; omega))]
      all_goals rfl
    refine ⟨_, _, hD54, ?_⟩
    clear hD54
    rw [if_pos (show (0 : Int) = 0 by first | omega | (simp [upS, hz, E900, E45, E46]; done) | (simp [upS, hz, E900, E45, E46]; omega))]
    refine b374_194 ?_
    refine b374_195 ?_
    rw [if_pos (show (0 : Int) = 0 by first | omega | (simp [upS, hz, E900, E45, E46]; done) | (simp [upS, hz, E900, E45, E46]; omega))]
    refine b374_231 ?_
    refine ⟨(show (-2147483648 : Int) ≤ (1 + 1) ∧ ((1 + 1) : Int) ≤ 2147483647 by first | omega | (simp [upS, hz, E900, E45, E46]; done) | (simp [upS, hz, E900, E45, E46]; omega)), ?_⟩
    rw [show ((1 + 1) : Int) = 2 by (first | omega | (simp [upS, hz, E900, E45, E46]; done) | (simp [upS, hz, E900, E45, E46]; omega))]
    refine b374_134 ?_
    rw [if_pos (show (2 : Int) < 6 by first | omega | (simp [upS, hz, E900, E45, E46]; done) | (simp [upS, hz, E900, E45, E46]; omega))]
    have hD55 : Dd 371 [(.inr (.inr (some 682))), (.inl a1), (.inl a2), (.inl 1)] S46 (.inl (some (.inl 0)), S46) := by
      refine b371 ?_
      refine ⟨(show -2147483648 ≤ (6 * a1) ∧ (6 * a1) ≤ 2147483647 by first | omega | (simp [upS, hz, E900, E45, E46]; done) | (simp [upS, hz, E900, E45, E46]; omega)), ?_⟩
      refine ⟨(show -2147483648 ≤ ((6 * a1) + 1) ∧ ((6 * a1) + 1) ≤ 2147483647 by first | omega | (simp [upS, hz, E900, E45, E46]; done) | (simp [upS, hz, E900, E45, E46]; omega)), ?_⟩
      refine ⟨(show 0 ≤ ((6 * a1) + 1) ∧ ((6 * a1) + 1) < 18 by first | omega | (simp [upS, hz, E900, E45, E46]; done) | (simp [upS, hz, E900, E45, E46]; omega)), ?_⟩
      refine ⟨(show ¬ ((S46 717 (((6 * a1) + 1)).toNat) = 0) → -2147483648 ≤ (6 * a2) ∧ (6 * a2) ≤ 2147483647 by (first | (intros; first | omega | (simp [upS, hz, E900, E45, E46]; done) | (simp [upS, hz, E900, E45, E46]; omega)) | (intros; simp_all [upS, hz, E900, E45, E46]; done) | (intros; simp_all [upS, hz, E900, E45, E46]; omega))), ?_⟩
      refine ⟨(show ¬ ((S46 717 (((6 * a1) + 1)).toNat) = 0) → -2147483648 ≤ ((6 * a2) + 1) ∧ ((6 * a2) + 1) ≤ 2147483647 by (first | (intros; first | omega | (simp [upS, hz, E900, E45, E46]; done) | (simp [upS, hz, E900, E45, E46]; omega)) | (intros; simp_all [upS, hz, E900, E45, E46]; done) | (intros; simp_all [upS, hz, E900, E45, E46]; omega))), ?_⟩
      refine ⟨(show ¬ ((S46 717 (((6 * a1) + 1)).toNat) = 0) → 0 ≤ ((6 * a2) + 1) ∧ ((6 * a2) + 1) < 18 by (first | (intros; first | omega | (simp [upS, hz, E900, E45, E46]; done) | (simp [upS, hz, E900, E45, E46]; omega)) | (intros; simp_all [upS, hz, E900, E45, E46]; done) | (intros; simp_all [upS, hz, E900, E45, E46]; omega))), ?_⟩
      try rw [if_pos (show (S46 717 (((6 * a1) + 1)).toNat) = 0 by first | omega | (simp [upS, hz, E900, E45, E46]; done) | (simp [upS, hz, E900, E45, E46]; omega))]
      all_goals rfl
    refine ⟨_, _, hD55, ?_⟩
    clear hD55
    rw [if_pos (show (0 : Int) = 0 by first | omega | (simp [upS, hz, E900, E45, E46]; done) | (simp [upS, hz, E900, E45, E46]; omega))]
    refine b374_194 ?_
    refine b374_195 ?_
    rw [if_pos (show (0 : Int) = 0 by first | omega | (simp [upS, hz, E900, E45, E46]; done) | (simp [upS, hz, E900, E45, E46]; omega))]
    refine b374_231 ?_
    refine ⟨(show (-2147483648 : Int) ≤ (2 + 1) ∧ ((2 + 1) : Int) ≤ 2147483647 by first | omega | (simp [upS, hz, E900, E45, E46]; done) | (simp [upS, hz, E900, E45, E46]; omega)), ?_⟩
    rw [show ((2 + 1) : Int) = 3 by (first | omega | (simp [upS, hz, E900, E45, E46]; done) | (simp [upS, hz, E900, E45, E46]; omega))]
    refine b374_134 ?_
    rw [if_pos (show (3 : Int) < 6 by first | omega | (simp [upS, hz, E900, E45, E46]; done) | (simp [upS, hz, E900, E45, E46]; omega))]
    have hD56 : Dd 371 [(.inr (.inr (some 682))), (.inl a1), (.inl a2), (.inl 1)] S46 (.inl (some (.inl 0)), S46) := by
      refine b371 ?_
      refine ⟨(show -2147483648 ≤ (6 * a1) ∧ (6 * a1) ≤ 2147483647 by first | omega | (simp [upS, hz, E900, E45, E46]; done) | (simp [upS, hz, E900, E45, E46]; omega)), ?_⟩
      refine ⟨(show -2147483648 ≤ ((6 * a1) + 1) ∧ ((6 * a1) + 1) ≤ 2147483647 by first | omega | (simp [upS, hz, E900, E45, E46]; done) | (simp [upS, hz, E900, E45, E46]; omega)), ?_⟩
      refine ⟨(show 0 ≤ ((6 * a1) + 1) ∧ ((6 * a1) + 1) < 18 by first | omega | (simp [upS, hz, E900, E45, E46]; done) | (simp [upS, hz, E900, E45, E46]; omega)), ?_⟩
      refine ⟨(show ¬ ((S46 717 (((6 * a1) + 1)).toNat) = 0) → -2147483648 ≤ (6 * a2) ∧ (6 * a2) ≤ 2147483647 by (first | (intros; first | omega | (simp [upS, hz, E900, E45, E46]; done) | (simp [upS, hz, E900, E45, E46]; omega)) | (intros; simp_all [upS, hz, E900, E45, E46]; done) | (intros; simp_all [upS, hz, E900, E45, E46]; omega))), ?_⟩
      refine ⟨(show ¬ ((S46 717 (((6 * a1) + 1)).toNat) = 0) → -2147483648 ≤ ((6 * a2) + 1) ∧ ((6 * a2) + 1) ≤ 2147483647 by (first | (intros; first | omega | (simp [upS, hz, E900, E45, E46]; done) | (simp [upS, hz, E900, E45, E46]; omega)) | (intros; simp_all [upS, hz, E900, E45, E46]; done) | (intros; simp_all [upS, hz, E900, E45, E46]; omega))), ?_⟩
      refine ⟨(show ¬ ((S46 717 (((6 * a1) + 1)).toNat) = 0) → 0 ≤ ((6 * a2) + 1) ∧ ((6 * a2) + 1) < 18 by (first | (intros; first | omega | (simp [upS, hz, E900, E45, E46]; done) | (simp [upS, hz, E900, E45, E46]; omega)) | (intros; simp_all [upS, hz, E900, E45, E46]; done) | (intros; simp_all [upS, hz, E900, E45, E46]; omega))), ?_⟩
      try rw [if_pos (show (S46 717 (((6 * a1) + 1)).toNat) = 0 by first | omega | (simp [upS, hz, E900, E45, E46]; done) | (simp [upS, hz, E900, E45, E46]; omega))]
      all_goals rfl
    refine ⟨_, _, hD56, ?_⟩
    clear hD56
    rw [if_pos (show (0 : Int) = 0 by first | omega | (simp [upS, hz, E900, E45, E46]; done) | (simp [upS, hz, E900, E45, E46]; omega))]
    refine b374_194 ?_
    refine b374_195 ?_
    rw [if_pos (show (0 : Int) = 0 by first | omega | (simp [upS, hz, E900, E45, E46]; done) | (simp [upS, hz, E900, E45, E46]; omega))]
    refine b374_231 ?_
    refine ⟨(show (-2147483648 : Int) ≤ (3 + 1) ∧ ((3 + 1) : Int) ≤ 2147483647 by first | omega | (simp [upS, hz, E900, E45, E46]; done) | (simp [upS, hz, E900, E45, E46]; omega)), ?_⟩
    rw [show ((3 + 1) : Int) = 4 by (first | omega | (simp [upS, hz, E900, E45, E46]; done) | (simp [upS, hz, E900, E45, E46]; omega))]
    refine b374_134 ?_
    rw [if_pos (show (4 : Int) < 6 by first | omega | (simp [upS, hz, E900, E45, E46]; done) | (simp [upS, hz, E900, E45, E46]; omega))]
    have hD57 : Dd 371 [(.inr (.inr (some 682))), (.inl a1), (.inl a2), (.inl 1)] S46 (.inl (some (.inl 0)), S46) := by
      refine b371 ?_
      refine ⟨(show -2147483648 ≤ (6 * a1) ∧ (6 * a1) ≤ 2147483647 by first | omega | (simp [upS, hz, E900, E45, E46]; done) | (simp [upS, hz, E900, E45, E46]; omega)), ?_⟩
      refine ⟨(show -2147483648 ≤ ((6 * a1) + 1) ∧ ((6 * a1) + 1) ≤ 2147483647 by first | omega | (simp [upS, hz, E900, E45, E46]; done) | (simp [upS, hz, E900, E45, E46]; omega)), ?_⟩
      refine ⟨(show 0 ≤ ((6 * a1) + 1) ∧ ((6 * a1) + 1) < 18 by first | omega | (simp [upS, hz, E900, E45, E46]; done) | (simp [upS, hz, E900, E45, E46]; omega)), ?_⟩
      refine ⟨(show ¬ ((S46 717 (((6 * a1) + 1)).toNat) = 0) → -2147483648 ≤ (6 * a2) ∧ (6 * a2) ≤ 2147483647 by (first | (intros; first | omega | (simp [upS, hz, E900, E45, E46]; done) | (simp [upS, hz, E900, E45, E46]; omega)) | (intros; simp_all [upS, hz, E900, E45, E46]; done) | (intros; simp_all [upS, hz, E900, E45, E46]; omega))), ?_⟩
      refine ⟨(show ¬ ((S46 717 (((6 * a1) + 1)).toNat) = 0) → -2147483648 ≤ ((6 * a2) + 1) ∧ ((6 * a2) + 1) ≤ 2147483647 by (first | (intros; first | omega | (simp [upS, hz, E900, E45, E46]; done) | (simp [upS, hz, E900, E45, E46]; omega)) | (intros; simp_all [upS, hz, E900, E45, E46]; done) | (intros; simp_all [upS, hz, E900, E45, E46]; omega))), ?_⟩
      refine ⟨(show ¬ ((S46 717 (((6 * a1) + 1)).toNat) = 0) → 0 ≤ ((6 * a2) + 1) ∧ ((6 * a2) + 1) < 18 by (first | (intros; first | omega | (simp [upS, hz, E900, E45, E46]; done) | (simp [upS, hz, E900, E45, E46]; omega)) | (intros; simp_all [upS, hz, E900, E45, E46]; done) | (intros; simp_all [upS, hz, E900, E45, E46]; omega))), ?_⟩
      try rw [if_pos (show (S46 717 (((6 * a1) + 1)).toNat) = 0 by first | omega | (simp [upS, hz, E900, E45, E46]; done) | (simp [upS, hz, E900, E45, E46]; omega))]
      all_goals rfl
    refine ⟨_, _, hD57, ?_⟩
    clear hD57
    rw [if_pos (show (0 : Int) = 0 by first | omega | (simp [upS, hz, E900, E45, E46]; done) | (simp [upS, hz, E900, E45, E46]; omega))]
    refine b374_194 ?_
    refine b374_195 ?_
    rw [if_pos (show (0 : Int) = 0 by first | omega | (simp [upS, hz, E900, E45, E46]; done) | (simp [upS, hz, E900, E45, E46]; omega))]
    refine b374_231 ?_
    refine ⟨(show (-2147483648 : Int) ≤ (4 + 1) ∧ ((4 + 1) : Int) ≤ 2147483647 by first | omega | (simp [upS, hz, E900, E45, E46]; done) | (simp [upS, hz, E900, E45, E46]; omega)), ?_⟩
    rw [show ((4 + 1) : Int) = 5 by (first | omega | (simp [upS, hz, E900, E45, E46]; done) | (simp [upS, hz, E900, E45, E46]; omega))]
    refine b374_134 ?_
    rw [if_pos (show (5 : Int) < 6 by first | omega | (simp [upS, hz, E900, E45, E46]; done) | (simp [upS, hz, E900, E45, E46]; omega))]
    have hD58 : Dd 371 [(.inr (.inr (some 682))), (.inl a1), (.inl a2), (.inl 1)] S46 (.inl (some (.inl 0)), S46) := by
      refine b371 ?_
      refine ⟨(show -2147483648 ≤ (6 * a1) ∧ (6 * a1) ≤ 2147483647 by first | omega | (simp [upS, hz, E900, E45, E46]; done) | (simp [upS, hz, E900, E45, E46]; omega)), ?_⟩
      refine ⟨(show -2147483648 ≤ ((6 * a1) + 1) ∧ ((6 * a1) + 1) ≤ 2147483647 by first | omega | (simp [upS, hz, E900, E45, E46]; done) | (simp [upS, hz, E900, E45, E46]; omega)), ?_⟩
      refine ⟨(show 0 ≤ ((6 * a1) + 1) ∧ ((6 * a1) + 1) < 18 by first | omega | (simp [upS, hz, E900, E45, E46]; done) | (simp [upS, hz, E900, E45, E46]; omega)), ?_⟩
      refine ⟨(show ¬ ((S46 717 (((6 * a1) + 1)).toNat) = 0) → -2147483648 ≤ (6 * a2) ∧ (6 * a2) ≤ 2147483647 by (first | (intros; first | omega | (simp [upS, hz, E900, E45, E46]; done) | (simp [upS, hz, E900, E45, E46]; omega)) | (intros; simp_all [upS, hz, E900, E45, E46]; done) | (intros; simp_all [upS, hz, E900, E45, E46]; omega))), ?_⟩
      refine ⟨(show ¬ ((S46 717 (((6 * a1) + 1)).toNat) = 0) → -2147483648 ≤ ((6 * a2) + 1) ∧ ((6 * a2) + 1) ≤ 2147483647 by (first | (intros; first | omega | (simp [upS, hz, E900, E45, E46]; done) | (simp [upS, hz, E900, E45, E46]; omega)) | (intros; simp_all [upS, hz, E900, E45, E46]; done) | (intros; simp_all [upS, hz, E900, E45, E46]; omega))), ?_⟩
      refine ⟨(show ¬ ((S46 717 (((6 * a1) + 1)).toNat) = 0) → 0 ≤ ((6 * a2) + 1) ∧ ((6 * a2) + 1) < 18 by (first | (intros; first | omega | (simp [upS, hz, E900, E45, E46]; done) | (simp [upS, hz, E900, E45, E46]; omega)) | (intros; simp_all [upS, hz, E900, E45, E46]; done) | (intros; simp_all [upS, hz, E900, E45, E46]; omega))), ?_⟩
      try rw [if_pos (show (S46 717 (((6 * a1) + 1)).toNat) = 0 by first | omega | (simp [upS, hz, E900, E45, E46]; done) | (simp [upS, hz, E900, E45, E46]; omega))]
      all_goals rfl
    refine ⟨_, _, hD58, ?_⟩
    clear hD58
    rw [if_pos (show (0 : Int) = 0 by first | omega | (simp [upS, hz, E900, E45, E46]; done) | (simp [upS, hz, E900, E45, E46]; omega))]
    refine b374_194 ?_
    refine b374_195 ?_
    rw [if_pos (show (0 : Int) = 0 by first | omega | (simp [upS, hz, E900, E45, E46]; done) | (simp [upS, hz, E900, E45, E46]; omega))]
    refine b374_231 ?_
    refine ⟨(show (-2147483648 : Int) ≤ (5 + 1) ∧ ((5 + 1) : Int) ≤ 2147483647 by first | omega | (simp [upS, hz, E900, E45, E46]; done) | (simp [upS, hz, E900, E45, E46]; omega)), ?_⟩
    rw [show ((5 + 1) : Int) = 6 by (first | omega | (simp [upS, hz, E900, E45, E46]; done) | (simp [upS, hz, E900, E45, E46]; omega))]
    refine b374_134 ?_
    rw [if_neg (show ¬ ((6 : Int) < 6) by first | omega | (simp [upS, hz, E900, E45, E46]; done) | (simp [upS, hz, E900, E45, E46]; omega))]
    refine ⟨(show (-2147483648 : Int) ≤ (1 + 1) ∧ ((1 + 1) : Int) ≤ 2147483647 by first | omega | (simp [upS, hz, E900, E45, E46]; done) | (simp [upS, hz, E900, E45, E46]; omega)), ?_⟩
    rw [show ((1 + 1) : Int) = 2 by (first | omega | (simp [upS, hz, E900, E45, E46]; done) | (simp [upS, hz, E900, E45, E46]; omega))]
    refine b374_125 ?_
    rw [if_pos (show (2 : Int) < 6 by first | omega | (simp [upS, hz, E900, E45, E46]; done) | (simp [upS, hz, E900, E45, E46]; omega))]
    refine b374_134 ?_
    rw [if_pos (show (0 : Int) < 6 by first | omega | (simp [upS, hz, E900, E45, E46]; done) | (simp [upS, hz, E900, E45, E46]; omega))]
    have hD59 : Dd 371 [(.inr (.inr (some 682))), (.inl a1), (.inl a2), (.inl 2)] S46 (.inl (some (.inl 0)), S46) := by
      refine b371 ?_
      refine ⟨(show -2147483648 ≤ (6 * a1) ∧ (6 * a1) ≤ 2147483647 by first | omega | (simp [upS, hz, E900, E45, E46]; done) | (simp [upS, hz, E900, E45, E46]; omega)), ?_⟩
      refine ⟨(show -2147483648 ≤ ((6 * a1) + 2) ∧ ((6 * a1) + 2) ≤ 2147483647 by first | omega | (simp [upS, hz, E900, E45, E46]; done) | (simp [upS, hz, E900, E45, E46]; omega)), ?_⟩
      refine ⟨(show 0 ≤ ((6 * a1) + 2) ∧ ((6 * a1) + 2) < 18 by first | omega | (simp [upS, hz, E900, E45, E46]; done) | (simp [upS, hz, E900, E45, E46]; omega)), ?_⟩
      refine ⟨(show ¬ ((S46 717 (((6 * a1) + 2)).toNat) = 0) → -2147483648 ≤ (6 * a2) ∧ (6 * a2) ≤ 2147483647 by (first | (intros; first | omega | (simp [upS, hz, E900, E45, E46]; done) | (simp [upS, hz, E900, E45, E46]; omega)) | (intros; simp_all [upS, hz, E900, E45, E46]; done) | (intros; simp_all [upS, hz, E900, E45, E46]; omega))), ?_⟩
      refine ⟨(show ¬ ((S46 717 (((6 * a1) + 2)).toNat) = 0) → -2147483648 ≤ ((6 * a2) + 2) ∧ ((6 * a2) + 2) ≤ 2147483647 by (first | (intros; first | omega | (simp [upS, hz, E900, E45, E46]; done) | (simp [upS, hz, E900, E45, E46]; omega)) | (intros; simp_all [upS, hz, E900, E45, E46]; done) | (intros; simp_all [upS, hz, E900, E45, E46]; omega))), ?_⟩
      refine ⟨(show ¬ ((S46 717 (((6 * a1) + 2)).toNat) = 0) → 0 ≤ ((6 * a2) + 2) ∧ ((6 * a2) + 2) < 18 by (first | (intros; first | omega | (simp [upS, hz, E900, E45, E46]; done) | (simp [upS, hz, E900, E45, E46]; omega)) | (intros; simp_all [upS, hz, E900, E45, E46]; done) | (intros; simp_all [upS, hz, E900, E45, E46]; omega))), ?_⟩
      try rw [if_pos (show (S46 717 (((6 * a1) + 2)).toNat) = 0 by first | omega | (simp [upS, hz, E900, E45, E46]; done) | (simp [upS, hz, E900, E45, E46]; omega))]
      all_goals rfl
    refine ⟨_, _, hD59, ?_⟩
    clear hD59
    rw [if_pos (show (0 : Int) = 0 by first | omega | (simp [upS, hz, E900, E45, E46]; done) | (simp [upS, hz, E900, E45, E46]; omega))]
    refine b374_194 ?_
    refine b374_195 ?_
    rw [if_pos (show (0 : Int) = 0 by first | omega | (simp [upS, hz, E900, E45, E46]; done) | (simp [upS, hz, E900, E45, E46]; omega))]
    refine b374_231 ?_
    refine ⟨(show (-2147483648 : Int) ≤ (0 + 1) ∧ ((0 + 1) : Int) ≤ 2147483647 by first | omega | (simp [upS, hz, E900, E45, E46]; done) | (simp [upS, hz, E900, E45, E46]; omega)), ?_⟩
    rw [show ((0 + 1) : Int) = 1 by (first | omega | (simp [upS, hz, E900, E45, E46]; done) | (simp [upS, hz, E900, E45, E46]; omega))]
    refine b374_134 ?_
    rw [if_pos (show (1 : Int) < 6 by first | omega | (simp [upS, hz, E900, E45, E46]; done) | (simp [upS, hz, E900, E45, E46]; omega))]
    have hD60 : Dd 371 [(.inr (.inr (some 682))), (.inl a1), (.inl a2), (.inl 2)] S46 (.inl (some (.inl 0)), S46) := by
      refine b371 ?_
      refine ⟨(show -2147483648 ≤ (6 * a1) ∧ (6 * a1) ≤ 2147483647 by first | omega | (simp [upS, hz, E900, E45, E46]; done) | (simp [upS, hz, E900, E45, E46]; omega)), ?_⟩
      refine ⟨(show -2147483648 ≤ ((6 * a1) + 2) ∧ ((6 * a1) + 2) ≤ 2147483647 by first | omega | (simp [upS, hz, E900, E45, E46]; done) | (simp [upS, hz, E900, E45, E46]; omega)), ?_⟩
      refine ⟨(show 0 ≤ ((6 * a1) + 2) ∧ ((6 * a1) + 2) < 18 by first | omega | (simp [upS, hz, E900, E45, E46]; done) | (simp [upS, hz, E900, E45, E46]; omega)), ?_⟩
      refine ⟨(show ¬ ((S46 717 (((6 * a1) + 2)).toNat) = 0) → -2147483648 ≤ (6 * a2) ∧ (6 * a2) ≤ 2147483647 by (first | (intros; first | omega | (simp [upS, hz, E900, E45, E46]; done) | (simp [upS, hz, E900, E45, E46]; omega)) | (intros; simp_all [upS, hz, E900, E45, E46]; done) | (intros; simp_all [upS, hz, E900, E45, E46]; omega))), ?_⟩
      refine ⟨(show ¬ ((S46 717 (((6 * a1) + 2)).toNat) = 0) → -2147483648 ≤ ((6 * a2) + 2) ∧ ((6 * a2) + 2) ≤ 2147483647 by (first | (intros; first | omega | (simp [upS, hz, E900, E45, E46]; done) | (simp [upS, hz, E900, E45, E46]; omega)) | (intros; simp_all [upS, hz, E900, E45, E46]; done) | (intros; simp_all [upS, hz, E900, E45, E46]; omega))), ?_⟩
      refine ⟨(show ¬ ((S46 717 (((6 * a1) + 2)).toNat) = 0) → 0 ≤ ((6 * a2) + 2) ∧ ((6 * a2) + 2) < 18 by (first | (intros; first | omega | (simp [upS, hz, E900, E45, E46]; done) | (simp [upS, hz, E900, E45, E46]; omega)) | (intros; simp_all [upS, hz, E900, E45, E46]; done) | (intros; simp_all [upS, hz, E900, E45, E46]; omega))), ?_⟩
      try rw [if_pos (show (S46 717 (((6 * a1) + 2)).toNat) = 0 by first | omega | (simp [upS, hz, E900, E45, E46]; done) | (simp [upS, hz, E900, E45, E46]; omega))]
      all_goals rfl
    refine ⟨_, _, hD60, ?_⟩
    clear hD60
    rw [if_pos (show (0 : Int) = 0 by first | omega | (simp [upS, hz, E900, E45, E46]; done) | (simp [upS, hz, E900, E45, E46]; omega))]
    refine b374_194 ?_
    refine b374_195 ?_
    rw [if_pos (show (0 : Int) = 0 by first | omega | (simp [upS, hz, E900, E45, E46]; done) | (simp [upS, hz, E900, E45, E46]; omega))]
    refine b374_231 ?_
    refine ⟨(show (-2147483648 : Int) ≤ (1 + 1) ∧ ((1 + 1) : Int) ≤ 2147483647 by first | omega | (simp [upS, hz, E900, E45, E46]; done) | (simp [upS, hz, E900, E45, E46]; omega)), ?_⟩
    rw [show ((1 + 1) : Int) = 2 by (first | omega | (simp [upS, hz, E900, E45, E46]; done) | (simp [upS, hz, E900, E45, E46]; omega))]
    refine b374_134 ?_
    rw [if_pos (show (2 : Int) < 6 by first | omega | (simp [upS, hz, E900, E45, E46]; done) | (simp [upS, hz, E900, E45, E46]; omega))]
    have hD61 : Dd 371 [(.inr (.inr (some 682))), (.inl a1), (.inl a2), (.inl 2)] S46 (.inl (some (.inl 0)), S46) := by
      refine b371 ?_
      refine ⟨(show -2147483648 ≤ (6 * a1) ∧ (6 * a1) ≤ 2147483647 by first | omega | (simp [upS, hz, E900, E45, E46]; done) | (simp [upS, hz, E900, E45, E46]; omega)), ?_⟩
      refine ⟨(show -2147483648 ≤ ((6 * a1) + 2) ∧ ((6 * a1) + 2) ≤ 2147483647 by first | omega | (simp [upS, hz, E900, E45, E46]; done) | (simp [upS, hz, E900, E45, E46]; omega)), ?_⟩
      refine ⟨(show 0 ≤ ((6 * a1) + 2) ∧ ((6 * a1) + 2) < 18 by first | omega | (simp [upS, hz, E900, E45, E46]; done) | (simp [upS, hz, E900, E45, E46]; omega)), ?_⟩
      refine ⟨(show ¬ ((S46 717 (((6 * a1) + 2)).toNat) = 0) → -2147483648 ≤ (6 * a2) ∧ (6 * a2) ≤ 2147483647 by (first | (intros; first | omega | (simp [upS, hz, E900, E45, E46]; done) | (simp [upS, hz, E900, E45, E46]; omega)) | (intros; simp_all [upS, hz, E900, E45, E46]; done) | (intros; simp_all [upS, hz, E900, E45, E46]; omega))), ?_⟩
      refine ⟨(show ¬ ((S46 717 (((6 * a1) + 2)).toNat) = 0) → -2147483648 ≤ ((6 * a2) + 2) ∧ ((6 * a2) + 2) ≤ 2147483647 by (first | (intros; first | omega | (simp [upS, hz, E900, E45, E46]; done) | (simp [upS, hz, E900, E45, E46]; omega)) | (intros; simp_all [upS, hz, E900, E45, E46]; done) | (intros; simp_all [upS, hz, E900, E45, E46]; omega))), ?_⟩
      refine ⟨(show ¬ ((S46 717 (((6 * a1) + 2)).toNat) = 0) → 0 ≤ ((6 * a2) + 2) ∧ ((6 * a2) + 2) < 18 by (first | (intros; first | omega | (simp [upS, hz, E900, E45, E46]; done) | (simp [upS, hz, E900, E45, E46]; omega)) | (intros; simp_all [upS, hz, E900, E45, E46]; done) | (intros; simp_all [upS, hz, E900, E45, E46]; omega))), ?_⟩
      try rw [if_pos (show (S46 717 (((6 * a1) + 2)).toNat) = 0 by first | omega | (simp [upS, hz, E900, E45, E46]; done) | (simp [upS, hz, E900, E45, E46]; omega))]
      all_goals rfl
    refine ⟨_, _, hD61, ?_⟩
    clear hD61
    rw [if_pos (show (0 : Int) = 0 by first | omega | (simp [upS, hz, E900, E45, E46]; done) | (simp [upS, hz, E900, E45, E46]; omega))]
    refine b374_194 ?_
    refine b374_195 ?_
    rw [if_pos (show (0 : Int) = 0 by first | omega | (simp [upS, hz, E900, E45, E46]; done) | (simp [upS, hz, E900, E45, E46]; omega))]
    refine b374_231 ?_
    refine ⟨(show (-2147483648 : Int) ≤ (2 + 1) ∧ ((2 + 1) : Int) ≤ 2147483647 by first | omega | (simp [upS, hz, E900, E45, E46]; done) | (simp [upS, hz, E900, E45, E46]; omega)), ?_⟩
    rw [show ((2 + 1) : Int) = 3 by (first | omega | (simp [upS, hz, E900, E45, E46]; done) | (simp [upS, hz, E900, E45, E46]; omega))]
    refine b374_134 ?_
    rw [if_pos (show (3 : Int) < 6 by first | omega | (simp [upS, hz, E900, E45, E46]; done) | (simp [upS, hz, E900, E45, E46]; omega))]
    have hD62 : Dd 371 [(.inr (.inr (some 682))), (.inl a1), (.inl a2), (.inl 2)] S46 (.inl (some (.inl 0)), S46) := by
      refine b371 ?_
      refine ⟨(show -2147483648 ≤ (6 * a1) ∧ (6 * a1) ≤ 2147483647 by first | omega | (simp [upS, hz, E900, E45, E46]; done) | (simp [upS, hz, E900, E45, E46]; omega)), ?_⟩
      refine ⟨(show -2147483648 ≤ ((6 * a1) + 2) ∧ ((6 * a1) + 2) ≤ 2147483647 by first | omega | (simp [upS, hz, E900, E45, E46]; done) | (simp [upS, hz, E900, E45, E46]; omega)), ?_⟩
      refine ⟨(show 0 ≤ ((6 * a1) + 2) ∧ ((6 * a1) + 2) < 18 by first | omega | (simp [upS, hz, E900, E45, E46]; done) | (simp [upS, hz, E900, E45, E46]; omega)), ?_⟩
      refine ⟨(show ¬ ((S46 717 (((6 * a1) + 2)).toNat) = 0) → -2147483648 ≤ (6 * a2) ∧ (6 * a2) ≤ 2147483647 by (first | (intros; first | omega | (simp [upS, hz, E900, E45, E46]; done) | (simp [upS, hz, E900, E45, E46]; omega)) | (intros; simp_all [upS, hz, E900, E45, E46]; done) | (intros; simp_all [upS, hz, E900, E45, E46]; omega))), ?_⟩
      refine ⟨(show ¬ ((S46 717 (((6 * a1) + 2)).toNat) = 0) → -2147483648 ≤ ((6 * a2) + 2) ∧ ((6 * a2) + 2) ≤ 2147483647 by (first | (intros; first | omega | (simp [upS, hz, E900, E45, E46]; done) | (simp [upS, hz, E900, E45, E46]; omega)) | (intros; simp_all [upS, hz, E900, E45, E46]; done) | (intros; simp_all [upS, hz, E900, E45, E46]; omega))), ?_⟩
      refine ⟨(show ¬ ((S46 717 (((6 * a1) + 2)).toNat) = 0) → 0 ≤ ((6 * a2) + 2) ∧ ((6 * a2) + 2) < 18 by (first | (intros; first | omega | (simp [upS, hz, E900, E45, E46]; done) | (simp [upS, hz, E900, E45, E46]; omega)) | (intros; simp_all [upS, hz, E900, E45, E46]; done) | (intros; simp_all [upS, hz, E900, E45, E46]; omega))), ?_⟩
      try rw [if_pos (show (S46 717 (((6 * a1) + 2)).toNat) = 0 by first | omega | (simp [upS, hz, E900, E45, E46]; done) | (simp [upS, hz, E900, E45, E46]; omega))]
      all_goals rfl
    refine ⟨_, _, hD62, ?_⟩
    clear hD62
    rw [if_pos (show (0 : Int) = 0 by first | omega | (simp [upS, hz, E900, E45, E46]; done) | (simp [upS, hz, E900, E45, E46]; omega))]
    refine b374_194 ?_
    refine b374_195 ?_
    rw [if_pos (show (0 : Int) = 0 by first | omega | (simp [upS, hz, E900, E45, E46]; done) | (simp [upS, hz, E900, E45, E46]; omega))]
    refine b374_231 ?_
    refine ⟨(show (-2147483648 : Int) ≤ (3 + 1) ∧ ((3 + 1) : Int) ≤ 2147483647 by first | omega | (simp [upS, hz, E900, E45, E46]; done) | (simp [upS, hz, E900, E45, E46]; omega)), ?_⟩
    rw [show ((3 + 1) : Int) = 4 by (first | omega | (simp [upS, hz, E900, E45, E46]; done) | (simp [upS, hz, E900, E45, E46]; omega))]
    refine b374_134 ?_
    rw [if_pos (show (4 : Int) < 6 by first | omega | (simp [upS, hz, E900, E45, E46]; done) | (simp [upS, hz, E900, E45, E46]; omega))]
    have hD63 : Dd 371 [(.inr (.inr (some 682))), (.inl a1), (.inl a2), (.inl 2)] S46 (.inl (some (.inl 0)), S46) := by
      refine b371 ?_
      refine ⟨(show -2147483648 ≤ (6 * a1) ∧ (6 * a1) ≤ 2147483647 by first | omega | (simp [upS, hz, E900, E45, E46]; done) | (simp [upS, hz, E900, E45, E46]; omega)), ?_⟩
      refine ⟨(show -2147483648 ≤ ((6 * a1) + 2) ∧ ((6 * a1) + 2) ≤ 2147483647 by first | omega | (simp [upS, hz, E900, E45, E46]; done) | (simp [upS, hz, E900, E45, E46]; omega)), ?_⟩
      refine ⟨(show 0 ≤ ((6 * a1) + 2) ∧ ((6 * a1) + 2) < 18 by first | omega | (simp [upS, hz, E900, E45, E46]; done) | (simp [upS, hz, E900, E45, E46]; omega)), ?_⟩
      refine ⟨(show ¬ ((S46 717 (((6 * a1) + 2)).toNat) = 0) → -2147483648 ≤ (6 * a2) ∧ (6 * a2) ≤ 2147483647 by (first | (intros; first | omega | (simp [upS, hz, E900, E45, E46]; done) | (simp [upS, hz, E900, E45, E46]; omega)) | (intros; simp_all [upS, hz, E900, E45, E46]; done) | (intros; simp_all [upS, hz, E900, E45, E46]; omega))), ?_⟩
      refine ⟨(show ¬ ((S46 717 (((6 * a1) + 2)).toNat) = 0) → -2147483648 ≤ ((6 * a2) + 2) ∧ ((6 * a2) + 2) ≤ 2147483647 by (first | (intros; first | omega | (simp [upS, hz, E900, E45, E46]; done) | (simp [upS, hz, E900, E45, E46]; omega)) | (intros; simp_all [upS, hz, E900, E45, E46]; done) | (intros; simp_all [upS, hz, E900, E45, E46]; omega))), ?_⟩
      refine ⟨(show ¬ ((S46 717 (((6 * a1) + 2)).toNat) = 0) → 0 ≤ ((6 * a2) + 2) ∧ ((6 * a2) + 2) < 18 by (first | (intros; first | omega | (simp [upS, hz, E900, E45, E46]; done) | (simp [upS, hz, E900, E45, E46]; omega)) | (intros; simp_all [upS, hz, E900, E45, E46]; done) | (intros; simp_all [upS, hz, E900, E45, E46]; omega))), ?_⟩
      try rw [if_pos (show (S46 717 (((6 * a1) + 2)).toNat) = 0 by first | omega | (simp [upS, hz, E900, E45, E46]; done) | (simp [upS, hz, E900, E45, E46]; omega))]
      all_goals rfl
    refine ⟨_, _, hD63, ?_⟩
    clear hD63
    rw [if_pos (show (0 : Int) = 0 by first | omega | (simp [upS, hz, E900, E45, E46]; done) | (simp [upS, hz, E900, E45, E46]; omega))]
    refine b374_194 ?_
    refine b374_195 ?_
    rw [if_pos (show (0 : Int) = 0 by first | omega | (simp [upS, hz, E900, E45, E46]; done) | (simp [upS, hz, E900, E45, E46]; omega))]
    refine b374_231 ?_
    refine ⟨(show (-2147483648 : Int) ≤ (4 + 1) ∧ ((4 + 1) : Int) ≤ 2147483647 by first | omega | (simp [upS, hz, E900, E45, E46]; done) | (simp [upS, hz, E900, E45, E46]; omega)), ?_⟩
    rw [show ((4 + 1) : Int) = 5 by (first | omega | (simp [upS, hz, E900, E45, E46]; done) | (simp [upS, hz, E900, E45, E46]; omega))]
    refine b374_134 ?_
    rw [if_pos (show (5 : Int) < 6 by first | omega | (simp [upS, hz, E900, E45, E46]; done) | (simp [upS, hz, E900, E45, E46]; omega))]
    have hD64 : Dd 371 [(.inr (.inr (some 682))), (.inl a1), (.inl a2), (.inl 2)] S46 (.inl (some (.inl 0)), S46) := by
      refine b371 ?_
      refine ⟨(show -2147483648 ≤ (6 * a1) ∧ (6 * a1) ≤ 2147483647 by first | omega | (simp [upS, hz, E900, E45, E46]; done) | (simp [upS, hz, E900, E45, E46]; omega)), ?_⟩
      refine ⟨(show -2147483648 ≤ ((6 * a1) + 2) ∧ ((6 * a1) + 2) ≤ 2147483647 by first | omega | (simp [upS, hz, E900, E45, E46]; done) | (simp [upS, hz, E900, E45, E46]; omega)), ?_⟩
      refine ⟨(show 0 ≤ ((6 * a1) + 2) ∧ ((6 * a1) + 2) < 18 by first | omega | (simp [upS, hz, E900, E45, E46]; done) | (simp [upS, hz, E900, E45, E46]; omega)), ?_⟩
      refine ⟨(show ¬ ((S46 717 (((6 * a1) + 2)).toNat) = 0) → -2147483648 ≤ (6 * a2) ∧ (6 * a2) ≤ 2147483647 by (first | (intros; first | omega | (simp [upS, hz, E900, E45, E46]; done) | (simp [upS, hz, E900, E45, E46]; omega)) | (intros; simp_all [upS, hz, E900, E45, E46]; done) | (intros; simp_all [upS, hz, E900, E45, E46]; omega))), ?_⟩
      refine ⟨(show ¬ ((S46 717 (((6 * a1) + 2)).toNat) = 0) → -2147483648 ≤ ((6 * a2) + 2) ∧ ((6 * a2) + 2) ≤ 2147483647 by (first | (intros; first | omega | (simp [upS, hz, E900, E45, E46]; done) | (simp [upS, hz, E900, E45, E46]; omega)) | (intros; simp_all [upS, hz, E900, E45, E46]; done) | (intros; simp_all [upS, hz, E900, E45, E46]; omega))), ?_⟩
      refine ⟨(show ¬ ((S46 717 (((6 * a1) + 2)).toNat) = 0) → 0 ≤ ((6 * a2) + 2) ∧ ((6 * a2) + 2) < 18 by (first | (intros; first | omega | (simp [upS, hz, E900, E45, E46]; done) | (simp [upS, hz, E900, E45, E46]; omega)) | (intros; simp_all [upS, hz, E900, E45, E46]; done) | (intros; simp_all [upS, hz, E900, E45, E46]; omega))), ?_⟩
      try rw [if_pos (show (S46 717 (((6 * a1) + 2)).toNat) = 0 by first | omega | (simp [upS, hz, E900, E45, E46]; done) | (simp [upS, hz, E900, E45, E46]; omega))]
      all_goals rfl
    refine ⟨_, _, hD64, ?_⟩
    clear hD64
    rw [if_pos (show (0 : Int) = 0 by first | omega | (simp [upS, hz, E900, E45, E46]; done) | (simp [upS, hz, E900, E45, E46]; omega))]
    refine b374_194 ?_
    refine b374_195 ?_
    rw [if_pos (show (0 : Int) = 0 by first | omega | (simp [upS, hz, E900, E45, E46]; done) | (simp [upS, hz, E900, E45, E46]; omega))]
    refine b374_231 ?_
    refine ⟨(show (-2147483648 : Int) ≤ (5 + 1) ∧ ((5 + 1) : Int) ≤ 2147483647 by first | omega | (simp [upS, hz, E900, E45, E46]; done) | (simp [upS, hz, E900, E45, E46]; omega)), ?_⟩
    rw [show ((5 + 1) : Int) = 6 by (first | omega | (simp [upS, hz, E900, E45, E46]; done) | (simp [upS, hz, E900, E45, E46]; omega))]
    refine b374_134 ?_
    rw [if_neg (show ¬ ((6 : Int) < 6) by first | omega | (simp [upS, hz, E900, E45, E46]; done) | (simp [upS, hz, E900, E45, E46]; omega))]
    refine ⟨(show (-2147483648 : Int) ≤ (2 + 1) ∧ ((2 + 1) : Int) ≤ 2147483647 by first | omega | (simp [upS, hz, E900, E45, E46]; done) | (simp [upS, hz, E900, E45, E46]; omega)), ?_⟩
    rw [show ((2 + 1) : Int) = 3 by (first | omega | (simp [upS, hz, E900, E45, E46]; done) | (simp [upS, hz, E900, E45, E46]; omega))]
    refine b374_125 ?_
    rw [if_pos (show (3 : Int) < 6 by first | omega | (simp [upS, hz, E900, E45, E46]; done) | (simp [upS, hz, E900, E45, E46]; omega))]
    refine b374_134 ?_
    rw [if_pos (show (0 : Int) < 6 by first | omega | (simp [upS, hz, E900, E45, E46]; done) | (simp [upS, hz, E900, E45, E46]; omega))]
    have hD65 : Dd 371 [(.inr (.inr (some 682))), (.inl a1), (.inl a2), (.inl 3)] S46 (.inl (some (.inl 0)), S46) := by
      refine b371 ?_
      refine ⟨(show -2147483648 ≤ (6 * a1) ∧ (6 * a1) ≤ 2147483647 by first | omega | (simp [upS, hz, E900, E45, E46]; done) | (simp [upS, hz, E900, E45, E46]; omega)), ?_⟩
      refine ⟨(show -2147483648 ≤ ((6 * a1) + 3) ∧ ((6 * a1) + 3) ≤ 2147483647 by first | omega | (simp [upS, hz, E900, E45, E46]; done) | (simp [upS, hz, E900, E45, E46]; omega)), ?_⟩
      refine ⟨(show 0 ≤ ((6 * a1) + 3) ∧ ((6 * a1) + 3) < 18 by first | omega | (simp [upS, hz, E900, E45, E46]; done) | (simp [upS, hz, E900, E45, E46]; omega)), ?_⟩
      refine ⟨(show ¬ ((S46 717 (((6 * a1) + 3)).toNat) = 0) → -2147483648 ≤ (6 * a2) ∧ (6 * a2) ≤ 2147483647 by (first | (intros; first | omega | (simp [upS, hz, E900, E45, E46]; done) | (simp [upS, hz, E900, E45, E46]; omega)) | (intros; simp_all [upS, hz, E900, E45, E46]; done) | (intros; simp_all [upS, hz, E900, E45, E46]; omega))), ?_⟩
      refine ⟨(show ¬ ((S46 717 (((6 * a1) + 3)).toNat) = 0) → -2147483648 ≤ ((6 * a2) + 3) ∧ ((6 * a2) + 3) ≤ 2147483647 by (first | (intros; first | omega | (simp [upS, hz, E900, E45, E46]; done) | (simp [upS, hz, E900, E45, E46]; omega)) | (intros; simp_all [upS, hz, E900, E45, E46]; done) | (intros; simp_all [upS, hz, E900, E45, E46]; omega))), ?_⟩
      refine ⟨(show ¬ ((S46 717 (((6 * a1) + 3)).toNat) = 0) → 0 ≤ ((6 * a2) + 3) ∧ ((6 * a2) + 3) < 18 by (first | (intros; first | omega | (simp [upS, hz, E900, E45, E46]; done) | (simp [upS, hz, E900, E45, E46]; omega)) | (intros; simp_all [upS, hz, E900, E45, E46]; done) | (intros; simp_all [upS, hz, E900, E45, E46]; omega))), ?_⟩
      try rw [if_pos (show (S46 717 (((6 * a1) + 3)).toNat) = 0 by first | omega | (simp [upS, hz, E900, E45, E46]; done) | (simp [upS, hz, E900, E45, E46]; omega))]
      all_goals rfl
    refine ⟨_, _, hD65, ?_⟩
    clear hD65
    rw [if_pos (show (0 : Int) = 0 by first | omega | (simp [upS, hz, E900, E45, E46]; done) | (simp [upS, hz, E900, E45, E46]; omega))]
    refine b374_194 ?_
    refine b374_195 ?_
    rw [if_pos (show (0 : Int) = 0 by first | omega | (simp [upS, hz, E900, E45, E46]; done) | (simp [upS, hz, E900, E45, E46]; omega))]
    refine b374_231 ?_
    refine ⟨(show (-2147483648 : Int) ≤ (0 + 1) ∧ ((0 + 1) : Int) ≤ 2147483647 by first | omega | (simp [upS, hz, E900, E45, E46]; done) | (simp [upS, hz, E900, E45, E46]; omega)), ?_⟩
    rw [show ((0 + 1) : Int) = 1 by (first | omega | (simp [upS, hz, E900, E45, E46]; done) | (simp [upS, hz, E900, E45, E46]; omega))]
    refine b374_134 ?_
    rw [if_pos (show (1 : Int) < 6 by first | omega | (simp [upS, hz, E900, E45, E46]; done) | (simp [upS, hz, E900, E45, E46]; omega))]
    have hD66 : Dd 371 [(.inr (.inr (some 682))), (.inl a1), (.inl a2), (.inl 3)] S46 (.inl (some (.inl 0)), S46) := by
      refine b371 ?_
      refine ⟨(show -2147483648 ≤ (6 * a1) ∧ (6 * a1) ≤ 2147483647 by first | omega | (simp [upS, hz, E900, E45, E46]; done) | (simp [upS, hz, E900, E45, E46]; omega)), ?_⟩
      refine ⟨(show -2147483648 ≤ ((6 * a1) + 3) ∧ ((6 * a1) + 3) ≤ 2147483647 by first | omega | (simp [upS, hz, E900, E45, E46]; done) | (simp [upS, hz, E900, E45, E46]; omega)), ?_⟩
      refine ⟨(show 0 ≤ ((6 * a1) + 3) ∧ ((6 * a1) + 3) < 18 by first | omega | (simp [upS, hz, E900, E45, E46]; done) | (simp [upS, hz, E900, E45, E46]; omega)), ?_⟩
      refine ⟨(show ¬ ((S46 717 (((6 * a1) + 3)).toNat) = 0) → -2147483648 ≤ (6 * a2) ∧ (6 * a2) ≤ 2147483647 by (first | (intros; first | omega | (simp [upS, hz, E900, E45, E46]; done) | (simp [upS, hz, E900, E45, E46]; omega)) | (intros; simp_all [upS, hz, E900, E45, E46]; done) | (intros; simp_all [upS, hz, E900, E45, E46]; omega))), ?_⟩
      refine ⟨(show ¬ ((S46 717 (((6 * a1) + 3)).toNat) = 0) → -2147483648 ≤ ((6 * a2) + 3) ∧ ((6 * a2) + 3) ≤ 2147483647 by (first | (intros; first | omega | (simp [upS, hz, E900, E45, E46]; done) | (simp [upS, hz, E900, E45, E46]; omega)) | (intros; simp_all [upS, hz, E900, E45, E46]; done) | (intros; simp_all [upS, hz, E900, E45, E46]; omega))), ?_⟩
      refine ⟨(show ¬ ((S46 717 (((6 * a1) + 3)).toNat) = 0) → 0 ≤ ((6 * a2) + 3) ∧ ((6 * a2) + 3) < 18 by (first | (intros; first | omega | (simp [upS, hz, E900, E45, E46]; done) | (simp [upS, hz, E900, E45, E46]; omega)) | (intros; simp_all [upS, hz, E900, E45, E46]; done) | (intros; simp_all [upS, hz, E900, E45, E46]; omega))), ?_⟩
      try rw [if_pos (show (S46 717 (((6 * a1) + 3)).toNat) = 0 by first | omega | (simp [upS, hz, E900, E45, E46]; done) | (simp [upS, hz, E900, E45, E46]; omega))]
      all_goals rfl
    refine ⟨_, _, hD66, ?_⟩
    clear hD66
    rw [if_pos (show (0 : Int) = 0 by first | omega | (simp [upS, hz, E900, E45, E46]; done) | (simp [upS, hz, E900, E45, E46]; omega))]
    refine b374_194 ?_
    refine b374_195 ?_
    rw [if_pos (show (0 : Int) = 0 by first | omega | (simp [upS, hz, E900, E45, E46]; done) | (simp [upS, hz, E900, E45, E46]; omega))]
    refine b374_231 ?_
    refine ⟨(show (-2147483648 : Int) ≤ (1 + 1) ∧ ((1 + 1) : Int) ≤ 2147483647 by first | omega | (simp [upS, hz, E900, E45, E46]; done) | (simp [upS, hz, E900, E45, E46]; omega)), ?_⟩
    rw [show ((1 + 1) : Int) = 2 by (first | omega | (simp [upS, hz, E900, E45, E46]; done) | (simp [upS, hz, E900, E45, E46]; omega))]
    refine b374_134 ?_
    rw [if_pos (show (2 : Int) < 6 by first | omega | (simp [upS, hz, E900, E45, E46]; done) | (simp [upS, hz, E900, E45, E46]; omega))]
    have hD67 : Dd 371 [(.inr (.inr (some 682))), (.inl a1), (.inl a2), (.inl 3)] S46 (.inl (some (.inl 0)), S46) := by
      refine b371 ?_
      refine ⟨(show -2147483648 ≤ (6 * a1) ∧ (6 * a1) ≤ 2147483647 by first | omega | (simp [upS, hz, E900, E45, E46]; done) | (simp [upS, hz, E900, E45, E46]; omega)), ?_⟩
      refine ⟨(show -2147483648 ≤ ((6 * a1) + 3) ∧ ((6 * a1) + 3) ≤ 2147483647 by first | omega | (simp [upS, hz, E900, E45, E46]; done) | (simp [upS, hz, E900, E45, E46]; omega)), ?_⟩
      refine ⟨(show 0 ≤ ((6 * a1) + 3) ∧ ((6 * a1) + 3) < 18 by first | omega | (simp [upS, hz, E900, E45, E46]; done) | (simp [upS, hz, E900, E45, E46]; omega)), ?_⟩
      refine ⟨(show ¬ ((S46 717 (((6 * a1) + 3)).toNat) = 0) → -2147483648 ≤ (6 * a2) ∧ (6 * a2) ≤ 2147483647 by (first | (intros; first | omega | (simp [upS, hz, E900, E45, E46]; done) | (simp [upS, hz, E900, E45, E46]; omega)) | (intros; simp_all [upS, hz, E900, E45, E46]; done) | (intros; simp_all [upS, hz, E900, E45, E46]; omega))), ?_⟩
      refine ⟨(show ¬ ((S46 717 (((6 * a1) + 3)).toNat) = 0) → -2147483648 ≤ ((6 * a2) + 3) ∧ ((6 * a2) + 3) ≤ 2147483647 by (first | (intros; first | omega | (simp [upS, hz, E900, E45, E46]; done) | (simp [upS, hz, E900, E45, E46]; omega)) | (intros; simp_all [upS, hz, E900, E45, E46]; done) | (intros; simp_all [upS, hz, E900, E45, E46]; omega))), ?_⟩
      refine ⟨(show ¬ ((S46 717 (((6 * a1) + 3)).toNat) = 0) → 0 ≤ ((6 * a2) + 3) ∧ ((6 * a2) + 3) < 18 by (first | (intros; first | omega | (simp [upS, hz, E900, E45, E46]; done) | (simp [upS, hz, E900, E45, E46]; omega)) | (intros; simp_all [upS, hz, E900, E45, E46]; done) | (intros; simp_all [upS, hz, E900, E45, E46]; omega))), ?_⟩
      try rw [if_pos (show (S46 717 (((6 * a1) + 3)).toNat) = 0 by first | omega | (simp [upS, hz, E900, E45, E46]; done) | (simp [upS, hz, E900, E45, E46]; omega))]
      all_goals rfl
    refine ⟨_, _, hD67, ?_⟩
    clear hD67
    rw [if_pos (show (0 : Int) = 0 by first | omega | (simp [upS, hz, E900, E45, E46]; done) | (simp [upS, hz, E900, E45, E46]; omega))]
    refine b374_194 ?_
    refine b374_195 ?_
    rw [if_pos (show (0 : Int) = 0 by first | omega | (simp [upS, hz, E900, E45, E46]; done) | (simp [upS, hz, E900, E45, E46]; omega))]
    refine b374_231 ?_
    refine ⟨(show (-2147483648 : Int) ≤ (2 + 1) ∧ ((2 + 1) : Int) ≤ 2147483647 by first | omega | (simp [upS, hz, E900, E45, E46]; done) | (simp [upS, hz, E900, E45, E46]; omega)), ?_⟩
    rw [show ((2 + 1) : Int) = 3 by (first | omega | (simp [upS, hz, E900, E45, E46]; done) | (simp [upS, hz, E900, E45, E46]; omega))]
    refine b374_134 ?_
    rw [if_pos (show (3 : Int) < 6 by first | omega | (simp [upS, hz, E900, E45, E46]; done) | (simp [upS, hz, E900, E45, E46]; omega))]
    have hD68 : Dd 371 [(.inr (.inr (some 682))), (.inl a1), (.inl a2), (.inl 3)] S46 (.inl (some (.inl 0)), S46) := by
      refine b371 ?_
      refine ⟨(show -2147483648 ≤ (6 * a1) ∧ (6 * a1) ≤ 2147483647 by first | omega | (simp [upS, hz, E900, E45, E46]; done) | (simp [upS, hz, E900, E45, E46]; omega)), ?_⟩
      refine ⟨(show -2147483648 ≤ ((6 * a1) + 3) ∧ ((6 * a1) + 3) ≤ 2147483647 by first | omega | (simp [upS, hz, E900, E45, E46]; done) | (simp [upS, hz, E900, E45, E46]; omega)), ?_⟩
      refine ⟨(show 0 ≤ ((6 * a1) + 3) ∧ ((6 * a1) + 3) < 18 by first | omega | (simp [upS, hz, E900, E45, E46]; done) | (simp [upS, hz, E900, E45, E46]; omega)), ?_⟩
      refine ⟨(show ¬ ((S46 717 (((6 * a1) + 3)).toNat) = 0) → -2147483648 ≤ (6 * a2) ∧ (6 * a2) ≤ 2147483647 by (first | (intros; first | omega | (simp [upS, hz, E900, E45, E46]; done) | (simp [upS, hz, E900, E45, E46]; omega)) | (intros; simp_all [upS, hz, E900, E45, E46]; done) | (intros; simp_all [upS, hz, E900, E45, E46]; omega))), ?_⟩
      refine ⟨(show ¬ ((S46 717 (((6 * a1) + 3)).toNat) = 0) → -2147483648 ≤ ((6 * a2) + 3) ∧ ((6 * a2) + 3) ≤ 2147483647 by (first | (intros; first | omega | (simp [upS, hz, E900, E45, E46]; done) | (simp [upS, hz, E900, E45, E46]; omega)) | (intros; simp_all [upS, hz, E900, E45, E46]; done) | (intros; simp_all [upS, hz, E900, E45, E46]; omega))), ?_⟩
      refine ⟨(show ¬ ((S46 717 (((6 * a1) + 3)).toNat) = 0) → 0 ≤ ((6 * a2) + 3) ∧ ((6 * a2) + 3) < 18 by (first | (intros; first | omega | (simp [upS, hz, E900, E45, E46]; done) | (simp [upS, hz, E900, E45, E46]; omega)) | (intros; simp_all [upS, hz, E900, E45, E46]; done) | (intros; simp_all [upS, hz, E900, E45, E46]; omega))), ?_⟩
      try rw [if_pos (show (S46 717 (((6 * a1) + 3)).toNat) = 0 by first | omega | (simp [upS, hz, E900, E45, E46]; done) | (simp [upS, hz, E900, E45, E46]; omega))]
      all_goals rfl
    refine ⟨_, _, hD68, ?_⟩
    clear hD68
    rw [if_pos (show (0 : Int) = 0 by first | omega | (simp [upS, hz, E900, E45, E46]; done) | (simp [upS, hz, E900, E45, E46]; omega))]
    refine b374_194 ?_
    refine b374_195 ?_
    rw [if_pos (show (0 : Int) = 0 by first | omega | (simp [upS, hz, E900, E45, E46]; done) | (simp [upS, hz, E900, E45, E46]; omega))]
    refine b374_231 ?_
    refine ⟨(show (-2147483648 : Int) ≤ (3 + 1) ∧ ((3 + 1) : Int) ≤ 2147483647 by first | omega | (simp [upS, hz, E900, E45, E46]; done) | (simp [upS, hz, E900, E45, E46]; omega)), ?_⟩
    rw [show ((3 + 1) : Int) = 4 by (first | omega | (simp [upS, hz, E900, E45, E46]; done) | (simp [upS, hz, E900, E45, E46]; omega))]
    refine b374_134 ?_
    rw [if_pos (show (4 : Int) < 6 by first | omega | (simp [upS, hz, E900, E45, E46]; done) | (simp [upS, hz, E900, E45, E46]; omega))]
    have hD69 : Dd 371 [(.inr (.inr (some 682))), (.inl a1), (.inl a2), (.inl 3)] S46 (.inl (some (.inl 0)), S46) := by
      refine b371 ?_
      refine ⟨(show -2147483648 ≤ (6 * a1) ∧ (6 * a1) ≤ 2147483647 by first | omega | (simp [upS, hz, E900, E45, E46]; done) | (simp [upS, hz, E900, E45, E46]; omega)), ?_⟩
      refine ⟨(show -2147483648 ≤ ((6 * a1) + 3) ∧ ((6 * a1) + 3) ≤ 2147483647 by first | omega | (simp [upS, hz, E900, E45, E46]; done) | (simp [upS, hz, E900, E45, E46]; omega)), ?_⟩
      refine ⟨(show 0 ≤ ((6 * a1) + 3) ∧ ((6 * a1) + 3) < 18 by first | omega | (simp [upS, hz, E900, E45, E46]; done) | (simp [upS, hz, E900, E45, E46]; omega)), ?_⟩
      refine ⟨(show ¬ ((S46 717 (((6 * a1) + 3)).toNat) = 0) → -2147483648 ≤ (6 * a2) ∧ (6 * a2) ≤ 2147483647 by (first | (intros; first | omega | (simp [upS, hz, E900, E45, E46]; done) | (simp [upS, hz, E900, E45, E46]; omega)) | (intros; simp_all [upS, hz, E900, E45, E46]; done) | (intros; simp_all [upS, hz, E900, E45, E46]; omega))), ?_⟩
      refine ⟨(show ¬ ((S46 717 (((6 * a1) + 3)).toNat) = 0) → -2147483648 ≤ ((6 * a2) + 3) ∧ ((6 * a2) + 3) ≤ 2147483647 by (first | (intros; first | omega | (simp [upS, hz, E900, E45, E46]; done) | (simp [upS, hz, E900, E45, E46]; omega)) | (intros; simp_all [upS, hz, E900, E45, E46]; done) | (intros; simp_all [upS, hz, E900, E45, E46]; omega))), ?_⟩
      refine ⟨(show ¬ ((S46 717 (((6 * a1) + 3)).toNat) = 0) → 0 ≤ ((6 * a2) + 3) ∧ ((6 * a2) + 3) < 18 by (first | (intros; first | omega | (simp [upS, hz, E900, E45, E46]; done) | (simp [upS, hz, E900, E45, E46]; omega)) | (intros; simp_all [upS, hz, E900, E45, E46]; done) | (intros; simp_all [upS, hz, E900, E45, E46]; omega))), ?_⟩
      try rw [if_pos (show (S46 717 (((6 * a1) + 3)).toNat) = 0 by first | omega | (simp [upS, hz, E900, E45, E46]; done) | (simp [upS, hz, E900, E45, E46]; omega))]
      all_goals rfl
    refine ⟨_, _, hD69, ?_⟩
    clear hD69
    rw [if_pos (show (0 : Int) = 0 by first | omega | (simp [upS, hz, E900, E45, E46]; done) | (simp [upS, hz, E900, E45, E46]; omega))]
    refine b374_194 ?_
    refine b374_195 ?_
    rw [if_pos (show (0 : Int) = 0 by first | omega | (simp [upS, hz, E900, E45, E46]; done) | (simp [upS, hz, E900, E45, E46]; omega))]
    refine b374_231 ?_
    refine ⟨(show (-2147483648 : Int) ≤ (4 + 1) ∧ ((4 + 1) : Int) ≤ 2147483647 by first | omega | (simp [upS, hz, E900, E45, E46]; done) | (simp [upS, hz, E900, E45, E46]; omega)), ?_⟩
    rw [show ((4 + 1) : Int) = 5 by (first | omega | (simp [upS, hz, E900, E45, E46]; done) | (simp [upS, hz, E900, E45, E46]; omega))]
    refine b374_134 ?_
    rw [if_pos (show (5 : Int) < 6 by first | omega | (simp [upS, hz, E900, E45, E46]; done) | (simp [upS, hz, E900, E45, E46]; omega))]
    have hD70 : Dd 371 [(.inr (.inr (some 682))), (.inl a1), (.inl a2), (.inl 3)] S46 (.inl (some (.inl 0)), S46) := by
      refine b371 ?_
      refine ⟨(show -2147483648 ≤ (6 * a1) ∧ (6 * a1) ≤ 2147483647 by first | omega | (simp [upS, hz, E900, E45, E46]; done) | (simp [upS, hz, E900, E45, E46]; omega)), ?_⟩
      refine ⟨(show -2147483648 ≤ ((6 * a1) + 3) ∧ ((6 * a1) + 3) ≤ 2147483647 by first | omega | (simp [upS, hz, E900, E45, E46]; done) | (simp [upS, hz, E900, E45, E46]; omega)), ?_⟩
      refine ⟨(show 0 ≤ ((6 * a1) + 3) ∧ ((6 * a1) + 3) < 18 by first | omega | (simp [upS, hz, E900, E45, E46]; done) | (simp [upS, hz, E900, E45, E46]; omega)), ?_⟩
      refine ⟨(show ¬ ((S46 717 (((6 * a1) + 3)).toNat) = 0) → -2147483648 ≤ (6 * a2) ∧ (6 * a2) ≤ 2147483647 by (first | (intros; first | omega | (simp [upS, hz, E900, E45, E46]; done) | (simp [upS, hz, E900, E45, E46]; omega)) | (intros; simp_all [upS, hz, E900, E45, E46]; done) | (intros; simp_all [upS, hz, E900, E45, E46]; omega))), ?_⟩
      refine ⟨(show ¬ ((S46 717 (((6 * a1) + 3)).toNat) = 0) → -2147483648 ≤ ((6 * a2) + 3) ∧ ((6 * a2) + 3) ≤ 2147483647 by (first | (intros; first | omega | (simp [upS, hz, E900, E45, E46]; done) | (simp [upS, hz, E900, E45, E46]; omega)) | (intros; simp_all [upS, hz, E900, E45, E46]; done) | (intros; simp_all [upS, hz, E900, E45, E46]; omega))), ?_⟩
      refine ⟨(show ¬ ((S46 717 (((6 * a1) + 3)).toNat) = 0) → 0 ≤ ((6 * a2) + 3) ∧ ((6 * a2) + 3) < 18 by (first | (intros; first | omega | (simp [upS, hz, E900, E45, E46]; done) | (simp [upS, hz, E900, E45, E46]; omega)) | (intros; simp_all [upS, hz, E900, E45, E46]; done) | (intros; simp_all [upS, hz, E900, E45, E46]; omega))), ?_⟩
      try rw [if_pos (show (S46 717 (((6 * a1) + 3)).toNat) = 0 by first | omega | (simp [upS, hz, E900, E45, E46]; done) | (simp [upS, hz, E900, E45, E46]; omega))]
      all_goals rfl
    refine ⟨_, _, hD70, ?_⟩
    clear hD70
    rw [if_pos (show (0 : Int) = 0 by first | omega | (simp [upS, hz, E900, E45, E46]; done) | (simp [upS, hz, E900, E45, E46]; omega))]
    refine b374_194 ?_
    refine b374_195 ?_
    rw [if_pos (show (0 : Int) = 0 by first | omega | (simp [upS, hz, E900, E45, E46]; done) | (simp [upS, hz, E900, E45, E46]; omega))]
    refine b374_231 ?_
    refine ⟨(show (-2147483648 : Int) ≤ (5 + 1) ∧ ((5 + 1) : Int) ≤ 2147483647 by first | omega | (simp [upS, hz, E900, E45, E46]; done) | (simp [upS, hz, E900, E45, E46]; omega)), ?_⟩
    rw [show ((5 + 1) : Int) = 6 by (first | omega | (simp [upS, hz, E900, E45, E46]; done) | (simp [upS, hz, E900, E45, E46]; omega))]
    refine b374_134 ?_
    rw [if_neg (show ¬ ((6 : Int) < 6) by first | omega | (simp [upS, hz, E900, E45, E46]; done) | (simp [upS, hz, E900, E45, E46]; omega))]
    refine ⟨(show (-2147483648 : Int) ≤ (3 + 1) ∧ ((3 + 1) : Int) ≤ 2147483647 by first | omega | (simp [upS, hz, E900, E45, E46]; done) | (simp [upS, hz, E900, E45, E46]; omega)), ?_⟩
    rw [show ((3 + 1) : Int) = 4 by (first | omega | (simp [upS, hz, E900, E45, E46]; done) | (simp [upS, hz, E900, E45, E46]; omega))]
    refine b374_125 ?_
    rw [if_pos (show (4 : Int) < 6 by first | omega | (simp [upS, hz, E900, E45, E46]; done) | (simp [upS, hz, E900, E45, E46]; omega))]
    refine b374_134 ?_
    rw [if_pos (show (0 : Int) < 6 by first | omega | (simp [upS, hz, E900, E45, E46]; done) | (simp [upS, hz, E900, E45, E46]; omega))]
    have hD71 : Dd 371 [(.inr (.inr (some 682))), (.inl a1), (.inl a2), (.inl 4)] S46 (.inl (some (.inl 0)), S46) := by
      refine b371 ?_
      refine ⟨(show -2147483648 ≤ (6 * a1) ∧ (6 * a1) ≤ 2147483647 by first | omega | (simp [upS, hz, E900, E45, E46]; done) | (simp [upS, hz, E900, E45, E46]; omega)), ?_⟩
      refine ⟨(show -2147483648 ≤ ((6 * a1) + 4) ∧ ((6 * a1) + 4) ≤ 2147483647 by first | omega | (simp [upS, hz, E900, E45, E46]; done) | (simp [upS, hz, E900, E45, E46]; omega)), ?_⟩
      refine ⟨(show 0 ≤ ((6 * a1) + 4) ∧ ((6 * a1) + 4) < 18 by first | omega | (simp [upS, hz, E900, E45, E46]; done) | (simp [upS, hz, E900, E45, E46]; omega)), ?_⟩
      refine ⟨(show ¬ ((S46 717 (((6 * a1) + 4)).toNat) = 0) → -2147483648 ≤ (6 * a2) ∧ (6 * a2) ≤ 2147483647 by (first | (intros; first | omega | (simp [upS, hz, E900, E45, E46]; done) | (simp [upS, hz, E900, E45, E46]; omega)) | (intros; simp_all [upS, hz, E900, E45, E46]; done) | (intros; simp_all [upS, hz, E900, E45, E46]; omega))), ?_⟩
      refine ⟨(show ¬ ((S46 717 (((6 * a1) + 4)).toNat) = 0) → -2147483648 ≤ ((6 * a2) + 4) ∧ ((6 * a2) + 4) ≤ 2147483647 by (first | (intros; first | omega | (simp [upS, hz, E900, E45, E46]; done) | (simp [upS, hz, E900, E45, E46]; omega)) | (intros; simp_all [upS, hz, E900, E45, E46]; done) | (intros; simp_all [upS, hz, E900, E45, E46]; omega))), ?_⟩
      refine ⟨(show ¬ ((S46 717 (((6 * a1) + 4)).toNat) = 0) → 0 ≤ ((6 * a2) + 4) ∧ ((6 * a2) + 4) < 18 by (first | (intros; first | omega | (simp [upS, hz, E900, E45, E46]; done) | (simp [upS, hz, E900, E45, E46]; omega)) | (intros; simp_all [upS, hz, E900, E45, E46]; done) | (intros; simp_all [upS, hz, E900, E45, E46]; omega))), ?_⟩
      try rw [if_pos (show (S46 717 (((6 * a1) + 4)).toNat) = 0 by first | omega | (simp [upS, hz, E900, E45, E46]; done) | (simp [upS, hz, E900, E45, E46]; omega))]
      all_goals rfl
    refine ⟨_, _, hD71, ?_⟩
    clear hD71
    rw [if_pos (show (0 : Int) = 0 by first | omega | (simp [upS, hz, E900, E45, E46]; done) | (simp [upS, hz, E900, E45, E46]; omega))]
    refine b374_194 ?_
    refine b374_195 ?_
    rw [if_pos (show (0 : Int) = 0 by first | omega | (simp [upS, hz, E900, E45, E46]; done) | (simp [upS, hz, E900, E45, E46]; omega))]
    refine b374_231 ?_
    refine ⟨(show (-2147483648 : Int) ≤ (0 + 1) ∧ ((0 + 1) : Int) ≤ 2147483647 by first | omega | (simp [upS, hz, E900, E45, E46]; done) | (simp [upS, hz, E900, E45, E46]; omega)), ?_⟩
    rw [show ((0 + 1) : Int) = 1 by (first | omega | (simp [upS, hz, E900, E45, E46]; done) | (simp [upS, hz, E900, E45, E46]; omega))]
    refine b374_134 ?_
    rw [if_pos (show (1 : Int) < 6 by first | omega | (simp [upS, hz, E900, E45, E46]; done) | (simp [upS, hz, E900, E45, E46]; omega))]
    have hD72 : Dd 371 [(.inr (.inr (some 682))), (.inl a1), (.inl a2), (.inl 4)] S46 (.inl (some (.inl 0)), S46) := by
      refine b371 ?_
      refine ⟨(show -2147483648 ≤ (6 * a1) ∧ (6 * a1) ≤ 2147483647 by first | omega | (simp [upS, hz, E900, E45, E46]; done) | (simp [upS, hz, E900, E45, E46]; omega)), ?_⟩
      refine ⟨(show -2147483648 ≤ ((6 * a1) + 4) ∧ ((6 * a1) + 4) ≤ 2147483647 by first | omega | (simp [upS, hz, E900, E45, E46]; done) | (simp [upS, hz, E900, E45, E46]; omega)), ?_⟩
      refine ⟨(show 0 ≤ ((6 * a1) + 4) ∧ ((6 * a1) + 4) < 18 by first | omega | (simp [upS, hz, E900, E45, E46]; done) | (simp [upS, hz, E900, E45, E46]; omega)), ?_⟩
      refine ⟨(show ¬ ((S46 717 (((6 * a1) + 4)).toNat) = 0) → -2147483648 ≤ (6 * a2) ∧ (6 * a2) ≤ 2147483647 by (first | (intros; first | omega | (simp [upS, hz, E900, E45, E46]; done) | (simp [upS, hz, E900, E45, E46]; omega)) | (intros; simp_all [upS, hz, E900, E45, E46]; done) | (intros; simp_all [upS, hz, E900, E45, E46]; omega))), ?_⟩
      refine ⟨(show ¬ ((S46 717 (((6 * a1) + 4)).toNat) = 0) → -2147483648 ≤ ((6 * a2) + 4) ∧ ((6 * a2) + 4) ≤ 2147483647 by (first | (intros; first | omega | (simp [upS, hz, E900, E45, E46]; done) | (simp [upS, hz, E900, E45, E46]; omega)) | (intros; simp_all [upS, hz, E900, E45, E46]; done) | (intros; simp_all [upS, hz, E900, E45, E46]; omega))), ?_⟩
      refine ⟨(show ¬ ((S46 717 (((6 * a1) + 4)).toNat) = 0) → 0 ≤ ((6 * a2) + 4) ∧ ((6 * a2) + 4) < 18 by (first | (intros; first | omega | (simp [upS, hz, E900, E45, E46]; done) | (simp [upS, hz, E900, E45, E46]; omega)) | (intros; simp_all [upS, hz, E900, E45, E46]; done) | (intros; simp_all [upS, hz, E900, E45, E46]; omega))), ?_⟩
      try rw [if_pos (show (S46 717 (((6 * a1) + 4)).toNat) = 0 by first | omega | (simp [upS, hz, E900, E45, E46]; done) | (simp [upS, hz, E900, E45, E46]; omega))]
      all_goals rfl
    refine ⟨_, _, hD72, ?_⟩
    clear hD72
    rw [if_pos (show (0 : Int) = 0 by first | omega | (simp [upS, hz, E900, E45, E46]; done) | (simp [upS, hz, E900, E45, E46]; omega))]
    refine b374_194 ?_
    refine b374_195 ?_
    rw [if_pos (show (0 : Int) = 0 by first | omega | (simp [upS, hz, E900, E45, E46]; done) | (simp [upS, hz, E900, E45, E46]; omega))]
    refine b374_231 ?_
    refine ⟨(show (-2147483648 : Int) ≤ (1 + 1) ∧ ((1 + 1) : Int) ≤ 2147483647 by first | omega | (simp [upS, hz, E900, E45, E46]; done) | (simp [upS, hz, E900, E45, E46]; omega)), ?_⟩
    rw [show ((1 + 1) : Int) = 2 by (first | omega | (simp [upS, hz, E900, E45, E46]; done) | (simp [upS, hz, E900, E45, E46]; omega))]
    refine b374_134 ?_
    rw [if_pos (show (2 : Int) < 6 by first | omega | (simp [upS, hz, E900, E45, E46]; done) | (simp [upS, hz, E900, E45, E46]; omega))]
    have hD73 : Dd 371 [(.inr (.inr (some 682))), (.inl a1), (.inl a2), (.inl 4)] S46 (.inl (some (.inl 0)), S46) := by
      refine b371 ?_
      refine ⟨(show -2147483648 ≤ (6 * a1) ∧ (6 * a1) ≤ 2147483647 by first | omega | (simp [upS, hz, E900, E45, E46]; done) | (simp [upS, hz, E900, E45, E46]; omega)), ?_⟩
      refine ⟨(show -2147483648 ≤ ((6 * a1) + 4) ∧ ((6 * a1) + 4) ≤ 2147483647 by first | omega | (simp [upS, hz, E900, E45, E46]; done) | (simp [upS, hz, E900, E45, E46]; omega)), ?_⟩
      refine ⟨(show 0 ≤ ((6 * a1) + 4) ∧ ((6 * a1) + 4) < 18 by first | omega | (simp [upS, hz, E900, E45, E46]; done) | (simp [upS, hz, E900, E45, E46]; omega)), ?_⟩
      refine ⟨(show ¬ ((S46 717 (((6 * a1) + 4)).toNat) = 0) → -2147483648 ≤ (6 * a2) ∧ (6 * a2) ≤ 2147483647 by (first | (intros; first | omega | (simp [upS, hz, E900, E45, E46]; done) | (simp [upS, hz, E900, E45, E46]; omega)) | (intros; simp_all [upS, hz, E900, E45, E46]; done) | (intros; simp_all [upS, hz, E900, E45, E46]; omega))), ?_⟩
      refine ⟨(show ¬ ((S46 717 (((6 * a1) + 4)).toNat) = 0) → -2147483648 ≤ ((6 * a2) + 4) ∧ ((6 * a2) + 4) ≤ 2147483647 by (first | (intros; first | omega | (simp [upS, hz, E900, E45, E46]; done) | (simp [upS, hz, E900, E45, E46]; omega)) | (intros; simp_all [upS, hz, E900, E45, E46]; done) | (intros; simp_all [upS, hz, E900, E45, E46]; omega))), ?_⟩
      refine ⟨(show ¬ ((S46 717 (((6 * a1) + 4)).toNat) = 0) → 0 ≤ ((6 * a2) + 4) ∧ ((6 * a2) + 4) < 18 by (first | (intros; first | omega | (simp [upS, hz, E900, E45, E46]; done) | (simp [upS, hz, E900, E45, E46]; omega)) | (intros; simp_all [upS, hz, E900, E45, E46]; done) | (intros; simp_all [upS, hz, E900, E45, E46]; omega))), ?_⟩
      try rw [if_pos (show (S46 717 (((6 * a1) + 4)).toNat) = 0 by first | omega | (simp [upS, hz, E900, E45, E46]; done) | (simp [upS, hz, E900, E45, E46]; omega))]
      all_goals rfl
    refine ⟨_, _, hD73, ?_⟩
    clear hD73
    rw [if_pos (show (0 : Int) = 0 by first | omega | (simp [upS, hz, E900, E45, E46]; done) | (simp [upS, hz, E900, E45, E46]; omega))]
    refine b374_194 ?_
    refine b374_195 ?_
    rw [if_pos (show (0 : Int) = 0 by first | omega | (simp [upS, hz, E900, E45, E46]; done) | (simp [upS, hz, E900, E45, E46]; omega))]
    refine b374_231 ?_
    refine ⟨(show (-2147483648 : Int) ≤ (2 + 1) ∧ ((2 + 1) : Int) ≤ 2147483647 by first | omega | (simp [upS, hz, E900, E45, E46]; done) | (simp [upS, hz, E900, E45, E46]; omega)), ?_⟩
    rw [show ((2 + 1) : Int) = 3 by (first | omega | (simp [upS, hz, E900, E45, E46]; done) | (simp [upS, hz, E900, E45, E46]; omega))]
    refine b374_134 ?_
    rw [if_pos (show (3 : Int) < 6 by first | omega | (simp [upS, hz, E900, E45, E46]; done) | (simp [upS, hz, E900, E45, E46]; omega))]
    have hD74 : Dd 371 [(.inr (.inr (some 682))), (.inl a1), (.inl a2), (.inl 4)] S46 (.inl (some (.inl 0)), S46) := by
      refine b371 ?_
      refine ⟨(show -2147483648 ≤ (6 * a1) ∧ (6 * a1) ≤ 2147483647 by first | omega | (simp [upS, hz, E900, E45, E46]; done) | (simp [upS, hz, E900, E45, E46]; omega)), ?_⟩
      refine ⟨(show -2147483648 ≤ ((6 * a1) + 4) ∧ ((6 * a1) + 4) ≤ 2147483647 by first | omega | (simp [upS, hz, E900, E45, E46]; done) | (simp [upS, hz, E900, E45, E46]; omega)), ?_⟩
      refine ⟨(show 0 ≤ ((6 * a1) + 4) ∧ ((6 * a1) + 4) < 18 by first | omega | (simp [upS, hz, E900, E45, E46]; done) | (simp [upS, hz, E900, E45, E46]; omega)), ?_⟩
      refine ⟨(show ¬ ((S46 717 (((6 * a1) + 4)).toNat) = 0) → -2147483648 ≤ (6 * a2) ∧ (6 * a2) ≤ 2147483647 by (first | (intros; first | omega | (simp [upS, hz, E900, E45, E46]; done) | (simp [upS, hz, E900, E45, E46]; omega)) | (intros; simp_all [upS, hz, E900, E45, E46]; done) | (intros; simp_all [upS, hz, E900, E45, E46]; omega))), ?_⟩
      refine ⟨(show ¬ ((S46 717 (((6 * a1) + 4)).toNat) = 0) → -2147483648 ≤ ((6 * a2) + 4) ∧ ((6 * a2) + 4) ≤ 2147483647 by (first | (intros; first | omega | (simp [upS, hz, E900, E45, E46]; done) | (simp [upS, hz, E900, E45, E46]; omega)) | (intros; simp_all [upS, hz, E900, E45, E46]; done) | (intros; simp_all [upS, hz, E900, E45, E46]; omega))), ?_⟩
      refine ⟨(show ¬ ((S46 717 (((6 * a1) + 4)).toNat) = 0) → 0 ≤ ((6 * a2) + 4) ∧ ((6 * a2) + 4) < 18 by (first | (intros; first | omega | (simp [upS, hz, E900, E45, E46]; done) | (simp [upS, hz, E900, E45, E46]; omega)) | (intros; simp_all [upS, hz, E900, E45, E46]; done) | (intros; simp_all [upS, hz, E900, E45, E46]; omega))), ?_⟩
      try rw [if_pos (show (S46 717 (((6 * a1) + 4)).toNat) = 0 by first | omega | (simp [upS, hz, E900, E45, E46]; done) | (simp [upS, hz, E900, E45, E46]; omega))]
      all_goals rfl
    refine ⟨_, _, hD74, ?_⟩
    clear hD74
    rw [if_pos (show (0 : Int) = 0 by first | omega | (simp [upS, hz, E900, E45, E46]; done) | (simp [upS, hz, E900, E45, E46]; omega))]
    refine b374_194 ?_
    refine b374_195 ?_
    rw [if_pos (show (0 : Int) = 0 by first | omega | (simp [upS, hz, E900, E45, E46]; done) | (simp [upS, hz, E900, E45, E46]; omega))]
    refine b374_231 ?_
    refine ⟨(show (-2147483648 : Int) ≤ (3 + 1) ∧ ((3 + 1) : Int) ≤ 2147483647 by first | omega | (simp [upS, hz, E900, E45, E46]; done) | (simp [upS, hz, E900, E45, E46]; omega)), ?_⟩
    rw [show ((3 + 1) : Int) = 4 by (first | omega | (simp [upS, hz, E900, E45, E46]; done) | (simp [upS, hz, E900, E45, E46]; omega))]
    refine b374_134 ?_
    rw [if_pos (show (4 : Int) < 6 by first | omega | (simp [upS, hz, E900, E45, E46]; done) | (simp [upS, hz, E900, E45, E46]; omega))]
    have hD75 : Dd 371 [(.inr (.inr (some 682))), (.inl a1), (.inl a2), (.inl 4)] S46 (.inl (some (.inl 0)), S46) := by
      refine b371 ?_
      refine ⟨(show -2147483648 ≤ (6 * a1) ∧ (6 * a1) ≤ 2147483647 by first | omega | (simp [upS, hz, E900, E45, E46]; done) | (simp [upS, hz, E900, E45, E46]; omega)), ?_⟩
      refine ⟨(show -2147483648 ≤ ((6 * a1) + 4) ∧ ((6 * a1) + 4) ≤ 2147483647 by first | omega | (simp [upS, hz, E900, E45, E46]; done) | (simp [upS, hz, E900, E45, E46]; omega)), ?_⟩
      refine ⟨(show 0 ≤ ((6 * a1) + 4) ∧ ((6 * a1) + 4) < 18 by first | omega | (simp [upS, hz, E900, E45, E46]; done) | (simp [upS, hz, E900, E45, E46]; omega)), ?_⟩
      refine ⟨(show ¬ ((S46 717 (((6 * a1) + 4)).toNat) = 0) → -2147483648 ≤ (6 * a2) ∧ (6 * a2) ≤ 2147483647 by (first | (intros; first | omega | (simp [upS, hz, E900, E45, E46]; done) | (simp [upS, hz, E900, E45, E46]; omega)) | (intros; simp_all [upS, hz, E900, E45, E46]; done) | (intros; simp_all [upS, hz, E900, E45, E46]; omega))), ?_⟩
      refine ⟨(show ¬ ((S46 717 (((6 * a1) + 4)).toNat) = 0) → -2147483648 ≤ ((6 * a2) + 4) ∧ ((6 * a2) + 4) ≤ 2147483647 by (first | (intros; first | omega | (simp [upS, hz, E900, E45, E46]; done) | (simp [upS, hz, E900, E45, E46]; omega)) | (intros; simp_all [upS, hz, E900, E45, E46]; done) | (intros; simp_all [upS, hz, E900, E45, E46]; omega))), ?_⟩
      refine ⟨(show ¬ ((S46 717 (((6 * a1) + 4)).toNat) = 0) → 0 ≤ ((6 * a2) + 4) ∧ ((6 * a2) + 4) < 18 by (first | (intros; first | omega | (simp [upS, hz, E900, E45, E46]; done) | (simp [upS, hz, E900, E45, E46]; omega)) | (intros; simp_all [upS, hz, E900, E45, E46]; done) | (intros; simp_all [upS, hz, E900, E45, E46]; omega))), ?_⟩
      try rw [if_pos (show (S46 717 (((6 * a1) + 4)).toNat) = 0 by first | omega | (simp [upS, hz, E900, E45, E46]; done) | (simp [upS, hz, E900, E45, E46]; omega))]
      all_goals rfl
    refine ⟨_, _, hD75, ?_⟩
    clear hD75
    rw [if_pos (show (0 : Int) = 0 by first | omega | (simp [upS, hz, E900, E45, E46]; done) | (simp [upS, hz, E900, E45, E46]; omega))]
    refine b374_194 ?_
    refine b374_195 ?_
    rw [if_pos (show (0 : Int) = 0 by first | omega | (simp [upS, hz, E900, E45, E46]; done) | (simp [upS, hz, E900, E45, E46]; omega))]
    refine b374_231 ?_
    refine ⟨(show (-2147483648 : Int) ≤ (4 + 1) ∧ ((4 + 1) : Int) ≤ 2147483647 by first | omega | (simp [upS, hz, E900, E45, E46]; done) | (simp [upS, hz, E900, E45, E46]; omega)), ?_⟩
    rw [show ((4 + 1) : Int) = 5 by (first | omega | (simp [upS, hz, E900, E45, E46]; done) | (simp [upS, hz, E900, E45, E46]; omega))]
    refine b374_134 ?_
    rw [if_pos (show (5 : Int) < 6 by first | omega | (simp [upS, hz, E900, E45, E46]; done) | (simp [upS, hz, E900, E45, E46]; omega))]
    have hD76 : Dd 371 [(.inr (.inr (some 682))), (.inl a1), (.inl a2), (.inl 4)] S46 (.inl (some (.inl 0)), S46) := by
      refine b371 ?_
      refine ⟨(show -2147483648 ≤ (6 * a1) ∧ (6 * a1) ≤ 2147483647 by first | omega | (simp [upS, hz, E900, E45, E46]; done) | (simp [upS, hz, E900, E45, E46]; omega)), ?_⟩
      refine ⟨(show -2147483648 ≤ ((6 * a1) + 4) ∧ ((6 * a1) + 4) ≤ 2147483647 by first | omega | (simp [upS, hz, E900, E45, E46]; done) | (simp [upS, hz, E900, E45, E46]; omega)), ?_⟩
      refine ⟨(show 0 ≤ ((6 * a1) + 4) ∧ ((6 * a1) + 4) < 18 by first | omega | (simp [upS, hz, E900, E45, E46]; done) | (simp [upS, hz, E900, E45, E46]; omega)), ?_⟩
      refine ⟨(show ¬ ((S46 717 (((6 * a1) + 4)).toNat) = 0) → -2147483648 ≤ (6 * a2) ∧ (6 * a2) ≤ 2147483647 by (first | (intros; first | omega | (simp [upS, hz, E900, E45, E46]; done) | (simp [upS, hz, E900, E45, E46]; omega)) | (intros; simp_all [upS, hz, E900, E45, E46]; done) | (intros; simp_all [upS, hz, E900, E45, E46]; omega))), ?_⟩
      refine ⟨(show ¬ ((S46 717 (((6 * a1) + 4)).toNat) = 0) → -2147483648 ≤ ((6 * a2) + 4) ∧ ((6 * a2) + 4) ≤ 2147483647 by (first | (intros; first | omega | (simp [upS, hz, E900, E45, E46]; done) | (simp [upS, hz, E900, E45, E46]; omega)) | (intros; simp_all [upS, hz, E900, E45, E46]; done) | (intros; simp_all [upS, hz, E900, E45, E46]; omega))), ?_⟩
      refine ⟨(show ¬ ((S46 717 (((6 * a1) + 4)).toNat) = 0) → 0 ≤ ((6 * a2) + 4) ∧ ((6 * a2) + 4) < 18 by (first | (intros; first | omega | (simp [upS, hz, E900, E45, E46]; done) | (simp [upS, hz, E900, E45, E46]; omega)) | (intros; simp_all [upS, hz, E900, E45, E46]; done) | (intros; simp_all [upS, hz, E900, E45, E46]; omega))), ?_⟩
      try rw [if_pos (show (S46 717 (((6 * a1) + 4)).toNat) = 0 by first | omega | (simp [upS, hz, E900, E45, E46]; done) | (simp [upS, hz, E900, E45, E46]; omega))]
      all_goals rfl
    refine ⟨_, _, hD76, ?_⟩
    clear hD76
    rw [if_pos (show (0 : Int) = 0 by first | omega | (simp [upS, hz, E900, E45, E46]; done) | (simp [upS, hz, E900, E45, E46]; omega))]
    refine b374_194 ?_
    refine b374_195 ?_
    rw [if_pos (show (0 : Int) = 0 by first | omega | (simp [upS, hz, E900, E45, E46]; done) | (simp [upS, hz, E900, E45, E46]; omega))]
    refine b374_231 ?_
    refine ⟨(show (-2147483648 : Int) ≤ (5 + 1) ∧ ((5 + 1) : Int) ≤ 2147483647 by first | omega | (simp [upS, hz, E900, E45, E46]; done) | (simp [upS, hz, E900, E45, E46]; omega)), ?_⟩
    rw [show ((5 + 1) : Int) = 6 by (first | omega | (simp [upS, hz, E900, E45, E46]; done) | (simp [upS, hz, E900, E45, E46]; omega))]
    refine b374_134 ?_
    rw [if_neg (show ¬ ((6 : Int) < 6) by first | omega | (simp [upS, hz, E900, E45, E46]; done) | (simp [upS, hz, E900, E45, E46]; omega))]
    refine ⟨(show (-2147483648 : Int) ≤ (4 + 1) ∧ ((4 + 1) : Int) ≤ 2147483647 by first | omega | (simp [upS, hz, E900, E45, E46]; done) | (simp [upS, hz, E900, E45, E46]; omega)), ?_⟩
    rw [show ((4 + 1) : Int) = 5 by (first | omega | (simp [upS, hz, E900, E45, E46]; done) | (simp [upS, hz, E900, E45, E46]; omega))]
    refine b374_125 ?_
    rw [if_pos (show (5 : Int) < 6 by first | omega | (simp [upS, hz, E900, E45, E46]; done) | (simp [upS, hz, E900, E45, E46]; omega))]
    refine b374_134 ?_
    rw [if_pos (show (0 : Int) < 6 by first | omega | (simp [upS, hz, E900, E45, E46]; done) | (simp [upS, hz, E900, E45, E46]; omega))]
    have hD77 : Dd 371 [(.inr (.inr (some 682))), (.inl a1), (.inl a2), (.inl 5)] S46 (.inl (some (.inl 0)), S46) := by
      refine b371 ?_
      refine ⟨(show -2147483648 ≤ (6 * a1) ∧ (6 * a1) ≤ 2147483647 by first | omega | (simp [upS, hz, E900, E45, E46]; done) | (simp [upS, hz, E900, E45, E46]; omega)), ?_⟩
      refine ⟨(show -2147483648 ≤ ((6 * a1) + 5) ∧ ((6 * a1) + 5) ≤ 2147483647 by first | omega | (simp [upS, hz, E900, E45, E46]; done) | (simp [upS, hz, E900, E45, E46]; omega)), ?_⟩
      refine ⟨(show 0 ≤ ((6 * a1) + 5) ∧ ((6 * a1) + 5) < 18 by first | omega | (simp [upS, hz, E900, E45, E46]; done) | (simp [upS, hz, E900, E45, E46]; omega)), ?_⟩
      refine ⟨(show ¬ ((S46 717 (((6 * a1) + 5)).toNat) = 0) → -2147483648 ≤ (6 * a2) ∧ (6 * a2) ≤ 2147483647 by (first | (intros; first | omega | (simp [upS, hz, E900, E45, E46]; done) | (simp [upS, hz, E900, E45, E46]; omega)) | (intros; simp_all [upS, hz, E900, E45, E46]; done) | (intros; simp_all [upS, hz, E900, E45, E46]; omega))), ?_⟩
      refine ⟨(show ¬ ((S46 717 (((6 * a1) + 5)).toNat) = 0) → -2147483648 ≤ ((6 * a2) + 5) ∧ ((6 * a2) + 5) ≤ 2147483647 by (first | (intros; first | omega | (simp [upS, hz, E900, E45, E46]; done) | (simp [upS, hz, E900, E45, E46]; omega)) | (intros; simp_all [upS, hz, E900, E45, E46]; done) | (intros; simp_all [upS, hz, E900, E45, E46]; omega))), ?_⟩
      refine ⟨(show ¬ ((S46 717 (((6 * a1) + 5)).toNat) = 0) → 0 ≤ ((6 * a2) + 5) ∧ ((6 * a2) + 5) < 18 by (first | (intros; first | omega | (simp [upS, hz, E900, E45, E46]; done) | (simp [upS, hz, E900, E45, E46]; omega)) | (intros; simp_all [upS, hz, E900, E45, E46]; done) | (intros; simp_all [upS, hz, E900, E45, E46]; omega))), ?_⟩
      try rw [if_pos (show (S46 717 (((6 * a1) + 5)).toNat) = 0 by first | omega | (simp [upS, hz, E900, E45, E46]; done) | (simp [upS, hz, E900, E45, E46]; omega))]
      all_goals rfl
    refine ⟨_, _, hD77, ?_⟩
    clear hD77
    rw [if_pos (show (0 : Int) = 0 by first | omega | (simp [upS, hz, E900, E45, E46]; done) | (simp [upS, hz, E900, E45, E46]; omega))]
    refine b374_194 ?_
    refine b374_195 ?_
    rw [if_pos (show (0 : Int) = 0 by first | omega | (simp [upS, hz, E900, E45, E46]; done) | (simp [upS, hz, E900, E45, E46]; omega))]
    refine b374_231 ?_
    refine ⟨(show (-2147483648 : Int) ≤ (0 + 1) ∧ ((0 + 1) : Int) ≤ 2147483647 by first | omega | (simp [upS, hz, E900, E45, E46]; done) | (simp [upS, hz, E900, E45, E46]; omega)), ?_⟩
    rw [show ((0 + 1) : Int) = 1 by (first | omega | (simp [upS, hz, E900, E45, E46]; done) | (simp [upS, hz, E900, E45, E46]; omega))]
    refine b374_134 ?_
    rw [if_pos (show (1 : Int) < 6 by first | omega | (simp [upS, hz, E900, E45, E46]; done) | (simp [upS, hz, E900, E45, E46]; omega))]
    have hD78 : Dd 371 [(.inr (.inr (some 682))), (.inl a1), (.inl a2), (.inl 5)] S46 (.inl (some (.inl 0)), S46) := by
      refine b371 ?_
      refine ⟨(show -2147483648 ≤ (6 * a1) ∧ (6 * a1) ≤ 2147483647 by first | omega | (simp [upS, hz, E900, E45, E46]; done) | (simp [upS, hz, E900, E45, E46]; omega)), ?_⟩
      refine ⟨(show -2147483648 ≤ ((6 * a1) + 5) ∧ ((6 * a1) + 5) ≤ 2147483647 by first | omega | (simp [upS, hz, E900, E45, E46]; done) | (simp [upS, hz, E900, E45, E46]; omega)), ?_⟩
      refine ⟨(show 0 ≤ ((6 * a1) + 5) ∧ ((6 * a1) + 5) < 18 by first | omega | (simp [upS, hz, E900, E45, E46]; done) | (simp [upS, hz, E900, E45, E46]; omega)), ?_⟩
      refine ⟨(show ¬ ((S46 717 (((6 * a1) + 5)).toNat) = 0) → -2147483648 ≤ (6 * a2) ∧ (6 * a2) ≤ 2147483647 by (first | (intros; first | omega | (simp [upS, hz, E900, E45, E46]; done) | (simp [upS, hz, E900, E45, E46]; omega)) | (intros; simp_all [upS, hz, E900, E45, E46]; done) | (intros; simp_all [upS, hz, E900, E45, E46]; omega))), ?_⟩
      refine ⟨(show ¬ ((S46 717 (((6 * a1) + 5)).toNat) = 0) → -2147483648 ≤ ((6 * a2) + 5) ∧ ((6 * a2) + 5) ≤ 2147483647 by (first | (intros; first | omega | (simp [upS, hz, E900, E45, E46]; done) | (simp [upS, hz, E900, E45, E46]; omega)) | (intros; simp_all [upS, hz, E900, E45, E46]; done) | (intros; simp_all [upS, hz, E900, E45, E46]; omega))), ?_⟩
      refine ⟨(show ¬ ((S46 717 (((6 * a1) + 5)).toNat) = 0) → 0 ≤ ((6 * a2) + 5) ∧ ((6 * a2) + 5) < 18 by (first | (intros; first | omega | (simp [upS, hz, E900, E45, E46]; done) | (simp [upS, hz, E900, E45, E46]; omega)) | (intros; simp_all [upS, hz, E900, E45, E46]; done) | (intros; simp_all [upS, hz, E900, E45, E46]; omega))), ?_⟩
      try rw [if_pos (show (S46 717 (((6 * a1) + 5)).toNat) = 0 by first | omega | (simp [upS, hz, E900, E45, E46]; done) | (simp [upS, hz, E900, E45, E46]; omega))]
      all_goals rfl
    refine ⟨_, _, hD78, ?_⟩
    clear hD78
    rw [if_pos (show (0 : Int) = 0 by first | omega | (simp [upS, hz, E900, E45, E46]; done) | (simp [upS, hz, E900, E45, E46]; omega))]
    refine b374_194 ?_
    refine b374_195 ?_
    rw [if_pos (show (0 : Int) = 0 by first | omega | (simp [upS, hz, E900, E45, E46]; done) | (simp [upS, hz, E900, E45, E46]; omega))]
    refine b374_231 ?_
    refine ⟨(show (-2147483648 : Int) ≤ (1 + 1) ∧ ((1 + 1) : Int) ≤ 2147483647 by first | omega | (simp [upS, hz, E900, E45, E46]; done) | (simp [upS, hz, E900, E45, E46]; omega)), ?_⟩
    rw [show ((1 + 1) : Int) = 2 by (first | omega | (simp [upS, hz, E900, E45, E46]; done) | (simp [upS, hz, E900, E45, E46]; omega))]
    refine b374_134 ?_
    rw [if_pos (show (2 : Int) < 6 by first | omega | (simp [upS, hz, E900, E45, E46]; done) | (simp [upS, hz, E900, E45, E46]; omega))]
    have hD79 : Dd 371 [(.inr (.inr (some 682))), (.inl a1), (.inl a2), (.inl 5)] S46 (.inl (some (.inl 0)), S46) := by
      refine b371 ?_
      refine ⟨(show -2147483648 ≤ (6 * a1) ∧ (6 * a1) ≤ 2147483647 by first | omega | (simp [upS, hz, E900, E45, E46]; done) | (simp [upS, hz, E900, E45, E46]; omega)), ?_⟩
      refine ⟨(show -2147483648 ≤ ((6 * a1) + 5) ∧ ((6 * a1) + 5) ≤ 2147483647 by first | omega | (simp [upS, hz, E900, E45, E46]; done) | (simp [upS, hz, E900, E45, E46]; omega)), ?_⟩
      refine ⟨(show 0 ≤ ((6 * a1) + 5) ∧ ((6 * a1) + 5) < 18 by first | omega | (simp [upS, hz, E900, E45, E46]; done) | (simp [upS, hz, E900, E45, E46]; omega)), ?_⟩
      refine ⟨(show ¬ ((S46 717 (((6 * a1) + 5)).toNat) = 0) → -2147483648 ≤ (6 * a2) ∧ (6 * a2) ≤ 2147483647 by (first | (intros; first | omega | (simp [upS, hz, E900, E45, E46]; done) | (simp [upS, hz, E900, E45, E46]; omega)) | (intros; simp_all [upS, hz, E900, E45, E46]; done) | (intros; simp_all [upS, hz, E900, E45, E46]; omega))), ?_⟩
      refine ⟨(show ¬ ((S46 717 (((6 * a1) + 5)).toNat) = 0) → -2147483648 ≤ ((6 * a2) + 5) ∧ ((6 * a2) + 5) ≤ 2147483647 by (first | (intros; first | omega | (simp [upS, hz, E900, E45, E46]; done) | (simp [upS, hz, E900, E45, E46]; omega)) | (intros; simp_all [upS, hz, E900, E45, E46]; done) | (intros; simp_all [upS, hz, E900, E45, E46]; omega))), ?_⟩
      refine ⟨(show ¬ ((S46 717 (((6 * a1) + 5)).toNat) = 0) → 0 ≤ ((6 * a2) + 5) ∧ ((6 * a2) + 5) < 18 by (first | (intros; first | omega | (simp [upS, hz, E900, E45, E46]; done) | (simp [upS, hz, E900, E45, E46]; omega)) | (intros; simp_all [upS, hz, E900, E45, E46]; done) | (intros; simp_all [upS, hz, E900, E45, E46]; omega))), ?_⟩
      try rw [if_pos (show (S46 717 (((6 * a1) + 5)).toNat) = 0 by first | omega | (simp [upS, hz, E900, E45, E46]; done) | (simp [upS, hz, E900, E45, E46]; omega))]
      all_goals rfl
    refine ⟨_, _, hD79, ?_⟩
    clear hD79
    rw [if_pos (show (0 : Int) = 0 by first | omega | (simp [upS, hz, E900, E45, E46]; done) | (simp [upS, hz, E900, E45, E46]; omega))]
    refine b374_194 ?_
    refine b374_195 ?_
    rw [if_pos (show (0 : Int) = 0 by first | omega | (simp [upS, hz, E900, E45, E46]; done) | (simp [upS, hz, E900, E45, E46]; omega))]
    refine b374_231 ?_
    refine ⟨(show (-2147483648 : Int) ≤ (2 + 1) ∧ ((2 + 1) : Int) ≤ 2147483647 by first | omega | (simp [upS, hz, E900, E45, E46]; done) | (simp [upS, hz, E900, E45, E46]; omega)), ?_⟩
    rw [show ((2 + 1) : Int) = 3 by (first | omega | (simp [upS, hz, E900, E45, E46]; done) | (simp [upS, hz, E900, E45, E46]; omega))]
    refine b374_134 ?_
    rw [if_pos (show (3 : Int) < 6 by first | omega | (simp [upS, hz, E900, E45, E46]; done) | (simp [upS, hz, E900, E45, E46]; omega))]
    have hD80 : Dd 371 [(.inr (.inr (some 682))), (.inl a1), (.inl a2), (.inl 5)] S46 (.inl (some (.inl 0)), S46) := by
      refine b371 ?_
      refine ⟨(show -2147483648 ≤ (6 * a1) ∧ (6 * a1) ≤ 2147483647 by first | omega | (simp [upS, hz, E900, E45, E46]; done) | (simp [upS, hz, E900, E45, E46]; omega)), ?_⟩
      refine ⟨(show -2147483648 ≤ ((6 * a1) + 5) ∧ ((6 * a1) + 5) ≤ 2147483647 by first | omega | (simp [upS, hz, E900, E45, E46]; done) | (simp [upS, hz, E900, E45, E46]; omega)), ?_⟩
      refine ⟨(show 0 ≤ ((6 * a1) + 5) ∧ ((6 * a1) + 5) < 18 by first | omega | (simp [upS, hz, E900, E45, E46]; done) | (simp [upS, hz, E900, E45, E46]; omega)), ?_⟩
      refine ⟨(show ¬ ((S46 717 (((6 * a1) + 5)).toNat) = 0) → -2147483648 ≤ (6 * a2) ∧ (6 * a2) ≤ 2147483647 by (first | (intros; first | omega | (simp [upS, hz, E900, E45, E46]; done) | (simp [upS, hz, E900, E45, E46]; omega)) | (intros; simp_all [upS, hz, E900, E45, E46]; done) | (intros; simp_all [upS, hz, E900, E45, E46]; omega))), ?_⟩
      refine ⟨(show ¬ ((S46 717 (((6 * a1) + 5)).toNat) = 0) → -2147483648 ≤ ((6 * a2) + 5) ∧ ((6 * a2) + 5) ≤ 2147483647 by (first | (intros; first | omega | (simp [upS, hz, E900, E45, E46]; done) | (simp [upS, hz, E900, E45, E46]; omega)) | (intros; simp_all [upS, hz, E900, E45, E46]; done) | (intros; simp_all [upS, hz, E900, E45, E46]; omega))), ?_⟩
      refine ⟨(show ¬ ((S46 717 (((6 * a1) + 5)).toNat) = 0) → 0 ≤ ((6 * a2) + 5) ∧ ((6 * a2) + 5) < 18 by (first | (intros; first | omega | (simp [upS, hz, E900, E45, E46]; done) | (simp [upS, hz, E900, E45, E46]; omega)) | (intros; simp_all [upS, hz, E900, E45, E46]; done) | (intros; simp_all [upS, hz, E900, E45, E46]; omega))), ?_⟩
      try rw [if_pos (show (S46 717 (((6 * a1) + 5)).toNat) = 0 by first | omega | (simp [upS, hz, E900, E45, E46]; done) | (simp [upS, hz, E900, E45, E46]; omega))]
      all_goals rfl
    refine ⟨_, _, hD80, ?_⟩
    clear hD80
    rw [if_pos (show (0 : Int) = 0 by first | omega | (simp [upS, hz, E900, E45, E46]; done) | (simp [upS, hz, E900, E45, E46]; omega))]
    refine b374_194 ?_
    refine b374_195 ?_
    rw [if_pos (show (0 : Int) = 0 by first | omega | (simp [upS, hz, E900, E45, E46]; done) | (simp [upS, hz, E900, E45, E46]; omega))]
    refine b374_231 ?_
    refine ⟨(show (-2147483648 : Int) ≤ (3 + 1) ∧ ((3 + 1) : Int) ≤ 2147483647 by first | omega | (simp [upS, hz, E900, E45, E46]; done) | (simp [upS, hz, E900, E45, E46]; omega)), ?_⟩
    rw [show ((3 + 1) : Int) = 4 by (first | omega | (simp [upS, hz, E900, E45, E46]; done) | (simp [upS, hz, E900, E45, E46]; omega))]
    refine b374_134 ?_
    rw [if_pos (show (4 : Int) < 6 by first | omega | (simp [upS, hz, E900, E45, E46]; done) | (simp [upS, hz, E900, E45, E46]; omega))]
    have hD81 : Dd 371 [(.inr (.inr (some 682))), (.inl a1), (.inl a2), (.inl 5)] S46 (.inl (some (.inl 0)), S46) := by
      refine b371 ?_
      refine ⟨(show -2147483648 ≤ (6 * a1) ∧ (6 * a1) ≤ 2147483647 by first | omega | (simp [upS, hz, E900, E45, E46]; done) | (simp [upS, hz, E900, E45, E46]; omega)), ?_⟩
      refine ⟨(show -2147483648 ≤ ((6 * a1) + 5) ∧ ((6 * a1) + 5) ≤ 2147483647 by first | omega | (simp [upS, hz, E900, E45, E46]; done) | (simp [upS, hz, E900, E45, E46]; omega)), ?_⟩
      refine ⟨(show 0 ≤ ((6 * a1) + 5) ∧ ((6 * a1) + 5) < 18 by first | omega | (simp [upS, hz, E900, E45, E46]; done) | (simp [upS, hz, E900, E45, E46]; omega)), ?_⟩
      refine ⟨(show ¬ ((S46 717 (((6 * a1) + 5)).toNat) = 0) → -2147483648 ≤ (6 * a2) ∧ (6 * a2) ≤ 2147483647 by (first | (intros; first | omega | (simp [upS, hz, E900, E45, E46]; done) | (simp [upS, hz, E900, E45, E46]; omega)) | (intros; simp_all [upS, hz, E900, E45, E46]; done) | (intros; simp_all [upS, hz, E900, E45, E46]; omega))), ?_⟩
      refine ⟨(show ¬ ((S46 717 (((6 * a1) + 5)).toNat) = 0) → -2147483648 ≤ ((6 * a2) + 5) ∧ ((6 * a2) + 5) ≤ 2147483647 by (first | (intros; first | omega | (simp [upS, hz, E900, E45, E46]; done) | (simp [upS, hz, E900, E45, E46]; omega)) | (intros; simp_all [upS, hz, E900, E45, E46]; done) | (intros; simp_all [upS, hz, E900, E45, E46]; omega))), ?_⟩
      refine ⟨(show ¬ ((S46 717 (((6 * a1) + 5)).toNat) = 0) → 0 ≤ ((6 * a2) + 5) ∧ ((6 * a2) + 5) < 18 by (first | (intros; first | omega | (simp [upS, hz, E900, E45, E46]; done) | (simp [upS, hz, E900, E45, E46]; omega)) | (intros; simp_all [upS, hz, E900, E45, E46]; done) | (intros; simp_all [upS, hz, E900, E45, E46]; omega))), ?_⟩
      try rw [if_pos (show (S46 717 (((6 * a1) + 5)).toNat) = 0 by first | omega | (simp [upS, hz, E900, E45, E46]; done) | (simp [upS, hz, E900, E45, E46]; omega))]
      all_goals rfl
    refine ⟨_, _, hD81, ?_⟩
    clear hD81
    rw [if_pos (show (0 : Int) = 0 by first | omega | (simp [upS, hz, E900, E45, E46]; done) | (simp [upS, hz, E900, E45, E46]; omega))]
    refine b374_194 ?_
    refine b374_195 ?_
    rw [if_pos (show (0 : Int) = 0 by first | omega | (simp [upS, hz, E900, E45, E46]; done) | (simp [upS, hz, E900, E45, E46]; omega))]
    refine b374_231 ?_
    refine ⟨(show (-2147483648 : Int) ≤ (4 + 1) ∧ ((4 + 1) : Int) ≤ 2147483647 by first | omega | (simp [upS, hz, E900, E45, E46]; done) | (simp [upS, hz, E900, E45, E46]; omega)), ?_⟩
    rw [show ((4 + 1) : Int) = 5 by (first | omega | (simp [upS, hz, E900, E45, E46]; done) | (simp [upS, hz, E900, E45, E46]; omega))]
    refine b374_134 ?_
    rw [if_pos (show (5 : Int) < 6 by first | omega | (simp [upS, hz, E900, E45, E46]; done) | (simp [upS, hz, E900, E45, E46]; omega))]
    have hD82 : Dd 371 [(.inr (.inr (some 682))), (.inl a1), (.inl a2), (.inl 5)] S46 (.inl (some (.inl 0)), S46) := by
      refine b371 ?_
      refine ⟨(show -2147483648 ≤ (6 * a1) ∧ (6 * a1) ≤ 2147483647 by first | omega | (simp [upS, hz, E900, E45, E46]; done) | (simp [upS, hz, E900, E45, E46]; omega)), ?_⟩
      refine ⟨(show -2147483648 ≤ ((6 * a1) + 5) ∧ ((6 * a1) + 5) ≤ 2147483647 by first | omega | (simp [upS, hz, E900, E45, E46]; done) | (simp [upS, hz, E900, E45, E46]; omega)), ?_⟩
      refine ⟨(show 0 ≤ ((6 * a1) + 5) ∧ ((6 * a1) + 5) < 18 by first | omega | (simp [upS, hz, E900, E45, E46]; done) | (simp [upS, hz, E900, E45, E46]; omega)), ?_⟩
      refine ⟨(show ¬ ((S46 717 (((6 * a1) + 5)).toNat) = 0) → -2147483648 ≤ (6 * a2) ∧ (6 * a2) ≤ 2147483647 by (first | (intros; first | omega | (simp [upS, hz, E900, E45, E46]; done) | (simp [upS, hz, E900, E45, E46]; omega)) | (intros; simp_all [upS, hz, E900, E45, E46]; done) | (intros; simp_all [upS, hz, E900, E45, E46]; omega))), ?_⟩
      refine ⟨(show ¬ ((S46 717 (((6 * a1) + 5)).toNat) = 0) → -2147483648 ≤ ((6 * a2) + 5) ∧ ((6 * a2) + 5) ≤ 2147483647 by (first | (intros; first | omega | (simp [upS, hz, E900, E45, E46]; done) | (simp [upS, hz, E900, E45, E46]; omega)) | (intros; simp_all [upS, hz, E900, E45, E46]; done) | (intros; simp_all [upS, hz, E900, E45, E46]; omega))), ?_⟩
      refine ⟨(show ¬ ((S46 717 (((6 * a1) + 5)).toNat) = 0) → 0 ≤ ((6 * a2) + 5) ∧ ((6 * a2) + 5) < 18 by (first | (intros; first | omega | (simp [upS, hz, E900, E45, E46]; done) | (simp [upS, hz, E900, E45, E46]; omega)) | (intros; simp_all [upS, hz, E900, E45, E46]; done) | (intros; simp_all [upS, hz, E900, E45, E46]; omega))), ?_⟩
      try rw [if_pos (show (S46 717 (((6 * a1) + 5)).toNat) = 0 by first | omega | (simp [upS, hz, E900, E45, E46]; done) | (simp [upS, hz, E900, E45, E46]; omega))]
      all_goals rfl
    refine ⟨_, _, hD82, ?_⟩
    clear hD82
    rw [if_pos (show (0 : Int) = 0 by first | omega | (simp [upS, hz, E900, E45, E46]; done) | (simp [upS, hz, E900, E45, E46]; omega))]
    refine b374_194 ?_
    refine b374_195 ?_
    rw [if_pos (show (0 : Int) = 0 by first | omega | (simp [upS, hz, E900, E45, E46]; done) | (simp [upS, hz, E900, E45, E46]; omega))]
    refine b374_231 ?_
    refine ⟨(show (-2147483648 : Int) ≤ (5 + 1) ∧ ((5 + 1) : Int) ≤ 2147483647 by first | omega | (simp [upS, hz, E900, E45, E46]; done) | (simp [upS, hz, E900, E45, E46]; omega)), ?_⟩
    rw [show ((5 + 1) : Int) = 6 by (first | omega | (simp [upS, hz, E900, E45, E46]; done) | (simp [upS, hz, E900, E45, E46]; omega))]
    refine b374_134 ?_
    rw [if_neg (show ¬ ((6 : Int) < 6) by first | omega | (simp [upS, hz, E900, E45, E46]; done) | (simp [upS, hz, E900, E45, E46]; omega))]
    refine ⟨(show (-2147483648 : Int) ≤ (5 + 1) ∧ ((5 + 1) : Int) ≤ 2147483647 by first | omega | (simp [upS, hz, E900, E45, E46]; done) | (simp [upS, hz, E900, E45, E46]; omega)), ?_⟩
    rw [show ((5 + 1) : Int) = 6 by (first | omega | (simp [upS, hz, E900, E45, E46]; done) | (simp [upS, hz, E900, E45, E46]; omega))]
    refine b374_125 ?_
    rw [if_neg (show ¬ ((6 : Int) < 6) by first | omega | (simp [upS, hz, E900, E45, E46]; done) | (simp [upS, hz, E900, E45, E46]; omega))]
    refine b374_245 ?_
    rw [if_neg (show ¬ ((1 : Int) = 0) by first | omega | (simp [upS, hz, E900, E45, E46]; done) | (simp [upS, hz, E900, E45, E46]; omega))]
    have hD119 : Dd 373 [(.inr (.inr (some 682))), (.inl a1), (.inl a2)] S46 (.inl (some (.inl 0)), S46) := by
      refine b373 ?_
      refine b373_12 ?_
      rw [if_pos (show (0 : Int) < 6 by first | omega | (simp [upS, hz, E900, E45, E46]; done) | (simp [upS, hz, E900, E45, E46]; omega))]
      refine b373_22 ?_
      rw [if_pos (show (0 : Int) < 6 by first | omega | (simp [upS, hz, E900, E45, E46]; done) | (simp [upS, hz, E900, E45, E46]; omega))]
      have hD83 : Dd 371 [(.inr (.inr (some 682))), (.inl a1), (.inl a2), (.inl 0)] S46 (.inl (some (.inl 0)), S46) := by
        refine b371 ?_
        refine ⟨(show -2147483648 ≤ (6 * a1) ∧ (6 * a1) ≤ 2147483647 by first | omega | (simp [upS, hz, E900, E45, E46]; done) | (simp [upS, hz, E900, E45, E46]; omega)), ?_⟩
        refine ⟨(show -2147483648 ≤ ((6 * a1) + 0) ∧ ((6 * a1) + 0) ≤ 2147483647 by first | omega | (simp [upS, hz, E900, E45, E46]; done) | (simp [upS, hz, E900, E45, E46]; omega)), ?_⟩
        refine ⟨(show 0 ≤ ((6 * a1) + 0) ∧ ((6 * a1) + 0) < 18 by first | omega | (simp [upS, hz, E900, E45, E46]; done) | (simp [upS, hz, E900, E45, E46]; omega)), ?_⟩
        refine ⟨(show ¬ ((S46 717 (((6 * a1) + 0)).toNat) = 0) → -2147483648 ≤ (6 * a2) ∧ (6 * a2) ≤ 2147483647 by (first | (intros; first | omega | (simp [upS, hz, E900, E45, E46]; done) | (simp [upS, hz, E900, E45, E46]; omega)) | (intros; simp_all [upS, hz, E900, E45, E46]; done) | (intros; simp_all [upS, hz, E900, E45, E46]; omega))), ?_⟩
        refine ⟨(show ¬ ((S46 717 (((6 * a1) + 0)).toNat) = 0) → -2147483648 ≤ ((6 * a2) + 0) ∧ ((6 * a2) + 0) ≤ 2147483647 by (first | (intros; first | omega | (simp [upS, hz, E900, E45, E46]; done) | (simp [upS, hz, E900, E45, E46]; omega)) | (intros; simp_all [upS, hz, E900, E45, E46]; done) | (intros; simp_all [upS, hz, E900, E45, E46]; omega))), ?_⟩
        refine ⟨(show ¬ ((S46 717 (((6 * a1) + 0)).toNat) = 0) → 0 ≤ ((6 * a2) + 0) ∧ ((6 * a2) + 0) < 18 by (first | (intros; first | omega | (simp [upS, hz, E900, E45, E46]; done) | (simp [upS, hz, E900, E45, E46]; omega)) | (intros; simp_all [upS, hz, E900, E45, E46]; done) | (intros; simp_all [upS, hz, E900, E45, E46]; omega))), ?_⟩
        try rw [if_pos (show (S46 717 (((6 * a1) + 0)).toNat) = 0 by first | omega | (simp [upS, hz, E900, E45, E46]; done) | (simp [upS, hz, E900, E45, E46]; omega))]
        all_goals rfl
      refine ⟨_, _, hD83, ?_⟩
      clear hD83
      rw [if_pos (show (0 : Int) = 0 by first | omega | (simp [upS, hz, E900, E45, E46]; done) | (simp [upS, hz, E900, E45, E46]; omega))]
      refine b373_84 ?_
      refine b373_85 ?_
      rw [if_pos (show (0 : Int) = 0 by first | omega | (simp [upS, hz, E900, E45, E46]; done) | (simp [upS, hz, E900, E45, E46]; omega))]
      refine b373_114 ?_
      try rw [if_neg (show ¬ ((59 : Int) < (-1)) by first | omega | (simp [upS, hz, E900, E45, E46]; done) | (simp [upS, hz, E900, E45, E46]; omega))]
      refine b373_129 ?_
      try rw [if_neg (show ¬ ((59 : Int) < (-1)) by first | omega | (simp [upS, hz, E900, E45, E46]; done) | (simp [upS, hz, E900, E45, E46]; omega))]
      refine b373_144 ?_
      try rw [if_neg (show ¬ ((59 : Int) < (-1)) by first | omega | (simp [upS, hz, E900, E45, E46]; done) | (simp [upS, hz, E900, E45, E46]; omega))]
      refine b373_158 ?_
      refine ⟨(show (-2147483648 : Int) ≤ (0 + 1) ∧ ((0 + 1) : Int) ≤ 2147483647 by first | omega | (simp [upS, hz, E900, E45, E46]; done) | (simp [upS, hz, E900, E45, E46]; omega)), ?_⟩
      rw [show ((0 + 1) : Int) = 1 by (first | omega | (simp [upS, hz, E900, E45, E46]; done) | (simp [upS, hz, E900, E45, E46]; omega))]
      refine b373_22 ?_
      rw [if_pos (show (1 : Int) < 6 by first | omega | (simp [upS, hz, E900, E45, E46]; done) | (simp [upS, hz, E900, E45, E46]; omega))]
      have hD84 : Dd 371 [(.inr (.inr (some 682))), (.inl a1), (.inl a2), (.inl 0)] S46 (.inl (some (.inl 0)), S46) := by
        refine b371 ?_
        refine ⟨(show -2147483648 ≤ (6 * a1) ∧ (6 * a1) ≤ 2147483647 by first | omega | (simp [upS, hz, E900, E45, E46]; done) | (simp [upS, hz, E900, E45, E46]; omega)), ?_⟩
        refine ⟨(show -2147483648 ≤ ((6 * a1) + 0) ∧ ((6 * a1) + 0) ≤ 2147483647 by first | omega | (simp [upS, hz, E900, E45, E46]; done) | (simp [upS, hz, E900, E45, E46]; omega)), ?_⟩
        refine ⟨(show 0 ≤ ((6 * a1) + 0) ∧ ((6 * a1) + 0) < 18 by first | omega | (simp [upS, hz, E900, E45, E46]; done) | (simp [upS, hz, E900, E45, E46]; omega)), ?_⟩
        refine ⟨(show ¬ ((S46 717 (((6 * a1) + 0)).toNat) = 0) → -2147483648 ≤ (6 * a2) ∧ (6 * a2) ≤ 2147483647 by (first | (intros; first | omega | (simp [upS, hz, E900, E45, E46]; done) | (simp [upS, hz, E900, E45, E46]; omega)) | (intros; simp_all [upS, hz, E900, E45, E46]; done) | (intros; simp_all [upS, hz, E900, E45, E46]; omega))), ?_⟩
        refine ⟨(show ¬ ((S46 717 (((6 * a1) + 0)).toNat) = 0) → -2147483648 ≤ ((6 * a2) + 0) ∧ ((6 * a2) + 0) ≤ 2147483647 by (first | (intros; first | omega | (simp [upS, hz, E900, E45, E46]; done) | (simp [upS, hz, E900, E45, E46]; omega)) | (intros; simp_all [upS, hz, E900, E45, E46]; done) | (intros; simp_all [upS, hz, E900, E45, E46]; omega))), ?_⟩
        refine ⟨(show ¬ ((S46 717 (((6 * a1) + 0)).toNat) = 0) → 0 ≤ ((6 * a2) + 0) ∧ ((6 * a2) + 0) < 18 by (first | (intros; first | omega | (simp [upS, hz, E900, E45, E46]; done) | (simp [upS, hz, E900, E45, E46]; omega)) | (intros; simp_all [upS, hz, E900, E45, E46]; done) | (intros; simp_all [upS, hz, E900, E45, E46]; omega))), ?_⟩
        try rw [if_pos (show (S46 717 (((6 * a1) + 0)).toNat) = 0 by first | omega | (simp [upS, hz, E900, E45, E46]; done) | (simp [upS, hz, E900, E45, E46]; omega))]
        all_goals rfl
      refine ⟨_, _, hD84, ?_⟩
      clear hD84
      rw [if_pos (show (0 : Int) = 0 by first | omega | (simp [upS, hz, E900, E45, E46]; done) | (simp [upS, hz, E900, E45, E46]; omega))]
      refine b373_84 ?_
      refine b373_85 ?_
      rw [if_pos (show (0 : Int) = 0 by first | omega | (simp [upS, hz, E900, E45, E46]; done) | (simp [upS, hz, E900, E45, E46]; omega))]
      refine b373_114 ?_
      try rw [if_neg (show ¬ ((59 : Int) < (-1)) by first | omega | (simp [upS, hz, E900, E45, E46]; done) | (simp [upS, hz, E900, E45, E46]; omega))]
      refine b373_129 ?_
      try rw [if_neg (show ¬ ((59 : Int) < (-1)) by first | omega | (simp [upS, hz, E900, E45, E46]; done) | (simp [upS, hz, E900, E45, E46]; omega))]
      refine b373_144 ?_
      try rw [if_neg (show ¬ ((59 : Int) < (-1)) by first | omega | (simp [upS, hz, E900, E45, E46]; done) | (simp [upS, hz, E900, E45, E46]; omega))]
      refine b373_158 ?_
      refine ⟨(show (-2147483648 : Int) ≤ (1 + 1) ∧ ((1 + 1) : Int) ≤ 2147483647 by first | omega | (simp [upS, hz, E900, E45, E46]; done) | (simp [upS, hz, E900, E45, E46]; omega)), ?_⟩
      rw [show ((1 + 1) : Int) = 2 by (first | omega | (simp [upS, hz, E900, E45, E46]; done) | (simp [upS, hz, E900, E45, E46]; omega))]
      refine b373_22 ?_
      rw [if_pos (show (2 : Int) < 6 by first | omega | (simp [upS, hz, E900, E45, E46]; done) | (simp [upS, hz, E900, E45, E46]; omega))]
      have hD85 : Dd 371 [(.inr (.inr (some 682))), (.inl a1), (.inl a2), (.inl 0)] S46 (.inl (some (.inl 0)), S46) := by
        refine b371 ?_
        refine ⟨(show -2147483648 ≤ (6 * a1) ∧ (6 * a1) ≤ 2147483647 by first | omega | (simp [upS, hz, E900, E45, E46]; done) | (simp [upS, hz, E900, E45, E46]; omega)), ?_⟩
        refine ⟨(show -2147483648 ≤ ((6 * a1) + 0) ∧ ((6 * a1) + 0) ≤ 2147483647 by first | omega | (simp [upS, hz, E900, E45, E46]; done) | (simp [upS, hz, E900, E45, E46]; omega)), ?_⟩
        refine ⟨(show 0 ≤ ((6 * a1) + 0) ∧ ((6 * a1) + 0) < 18 by first | omega | (simp [upS, hz, E900, E45, E46]; done) | (simp [upS, hz, E900, E45, E46]; omega)), ?_⟩
        refine ⟨(show ¬ ((S46 717 (((6 * a1) + 0)).toNat) = 0) → -2147483648 ≤ (6 * a2) ∧ (6 * a2) ≤ 2147483647 by (first | (intros; first | omega | (simp [upS, hz, E900, E45, E46]; done) | (simp [upS, hz, E900, E45, E46]; omega)) | (intros; simp_all [upS, hz, E900, E45, E46]; done) | (intros; simp_all [upS, hz, E900, E45, E46]; omega))), ?_⟩
        refine ⟨(show ¬ ((S46 717 (((6 * a1) + 0)).toNat) = 0) → -2147483648 ≤ ((6 * a2) + 0) ∧ ((6 * a2) + 0) ≤ 2147483647 by (first | (intros; first | omega | (simp [upS, hz, E900, E45, E46]; done) | (simp [upS, hz, E900, E45, E46]; omega)) | (intros; simp_all [upS, hz, E900, E45, E46]; done) | (intros; simp_all [upS, hz, E900, E45, E46]; omega))), ?_⟩
        refine ⟨(show ¬ ((S46 717 (((6 * a1) + 0)).toNat) = 0) → 0 ≤ ((6 * a2) + 0) ∧ ((6 * a2) + 0) < 18 by (first | (intros; first | omega | (simp [upS, hz, E900, E45, E46]; done) | (simp [upS, hz, E900, E45, E46]; omega)) | (intros; simp_all [upS, hz, E900, E45, E46]; done) | (intros; simp_all [upS, hz, E900, E45, E46]; omega))), ?_⟩
        try rw [if_pos (show (S46 717 (((6 * a1) + 0)).toNat) = 0 by first | omega | (simp [upS, hz, E900, E45, E46]; done) | (simp [upS, hz, E900, E45, E46]; omega))]
        all_goals rfl
      refine ⟨_, _, hD85, ?_⟩
      clear hD85
      rw [if_pos (show (0 : Int) = 0 by first | omega | (simp [upS, hz, E900, E45, E46]; done) | (simp [upS, hz, E900, E45, E46]; omega))]
      refine b373_84 ?_
      refine b373_85 ?_
      rw [if_pos (show (0 : Int) = 0 by first | omega | (simp [upS, hz, E900, E45, E46]; done) | (simp [upS, hz, E900, E45, E46]; omega))]
      refine b373_114 ?_
      try rw [if_neg (show ¬ ((59 : Int) < (-1)) by first | omega | (simp [upS, hz, E900, E45, E46]; done) | (simp [upS, hz, E900, E45, E46]; omega))]
      refine b373_129 ?_
      try rw [if_neg (show ¬ ((59 : Int) < (-1)) by first | omega | (simp [upS, hz, E900, E45, E46]; done) | (simp [upS, hz, E900, E45, E46]; omega))]
      refine b373_144 ?_
      try rw [if_neg (show ¬ ((59 : Int) < (-1)) by first | omega | (simp [upS, hz, E900, E45, E46]; done) | (simp [upS, hz, E900, E45, E46]; omega))]
      refine b373_158 ?_
      refine ⟨(show (-2147483648 : Int) ≤ (2 + 1) ∧ ((2 + 1) : Int) ≤ 2147483647 by first | omega | (simp [upS, hz, E900, E45, E46]; done) | (simp [upS, hz, E900, E45, E46]; omega)), ?_⟩
      rw [show ((2 + 1) : Int) = 3 by (first | omega | (simp [upS, hz, E900, E45, E46]; done) | (simp [upS, hz, E900, E45, E46]; omega))]
      refine b373_22 ?_
      rw [if_pos (show (3 : Int) < 6 by first | omega | (simp [upS, hz, E900, E45, E46]; done) | (simp [upS, hz, E900, E45, E46]; omega))]
      have hD86 : Dd 371 [(.inr (.inr (some 682))), (.inl a1), (.inl a2), (.inl 0)] S46 (.inl (some (.inl 0)), S46) := by
        refine b371 ?_
        refine ⟨(show -2147483648 ≤ (6 * a1) ∧ (6 * a1) ≤ 2147483647 by first | omega | (simp [upS, hz, E900, E45, E46]; done) | (simp [upS, hz, E900, E45, E46]; omega)), ?_⟩
        refine ⟨(show -2147483648 ≤ ((6 * a1) + 0) ∧ ((6 * a1) + 0) ≤ 2147483647 by first | omega | (simp [upS, hz, E900, E45, E46]; done) | (simp [upS, hz, E900, E45, E46]; omega)), ?_⟩
        refine ⟨(show 0 ≤ ((6 * a1) + 0) ∧ ((6 * a1) + 0) < 18 by first | omega | (simp [upS, hz, E900, E45, E46]; done) | (simp [upS, hz, E900, E45, E46]; omega)), ?_⟩
        refine ⟨(show ¬ ((S46 717 (((6 * a1) + 0)).toNat) = 0) → -2147483648 ≤ (6 * a2) ∧ (6 * a2) ≤ 2147483647 by (first | (intros; first | omega | (simp [upS, hz, E900, E45, E46]; done) | (simp [upS, hz, E900, E45, E46]; omega)) | (intros; simp_all [upS, hz, E900, E45, E46]; done) | (intros; simp_all [upS, hz, E900, E45, E46]; omega))), ?_⟩
        refine ⟨(show ¬ ((S46 717 (((6 * a1) + 0)).toNat) = 0) → -2147483648 ≤ ((6 * a2) + 0) ∧ ((6 * a2) + 0) ≤ 2147483647 by (first | (intros; first | omega | (simp [upS, hz, E900, E45, E46]; done) | (simp [upS, hz, E900, E45, E46]; omega)) | (intros; simp_all [upS, hz, E900, E45, E46]; done) | (intros; simp_all [upS, hz, E900, E45, E46]; omega))), ?_⟩
        refine ⟨(show ¬ ((S46 717 (((6 * a1) + 0)).toNat) = 0) → 0 ≤ ((6 * a2) + 0) ∧ ((6 * a2) + 0) < 18 by (first | (intros; first | omega | (simp [upS, hz, E900, E45, E46]; done) | (simp [upS, hz, E900, E45, E46]; omega)) | (intros; simp_all [upS, hz, E900, E45, E46]; done) | (intros; simp_all [upS, hz, E900, E45, E46]; omega))), ?_⟩
        try rw [if_pos (show (S46 717 (((6 * a1) + 0)).toNat) = 0 by first | omega | (simp [upS, hz, E900, E45, E46]; done) | (simp [upS, hz, E900, E45, E46]; omega))]
        all_goals rfl
      refine ⟨_, _, hD86, ?_⟩
      clear hD86
      rw [if_pos (show (0 : Int) = 0 by first | omega | (simp [upS, hz, E900, E45, E46]; done) | (simp [upS, hz, E900, E45, E46]; omega))]
      refine b373_84 ?_
      refine b373_85 ?_
      rw [if_pos (show (0 : Int) = 0 by first | omega | (simp [upS, hz, E900, E45, E46]; done) | (simp [upS, hz, E900, E45, E46]; omega))]
      refine b373_114 ?_
      try rw [if_neg (show ¬ ((59 : Int) < (-1)) by first | omega | (simp [upS, hz, E900, E45, E46]; done) | (simp [upS, hz, E900, E45, E46]; omega))]
      refine b373_129 ?_
      try rw [if_neg (show ¬ ((59 : Int) < (-1)) by first | omega | (simp [upS, hz, E900, E45, E46]; done) | (simp [upS, hz, E900, E45, E46]; omega))]
      refine b373_144 ?_
      try rw [if_neg (show ¬ ((59 : Int) < (-1)) by first | omega | (simp [upS, hz, E900, E45, E46]; done) | (simp [upS, hz, E900, E45, E46]; omega))]
      refine b373_158 ?_
      refine ⟨(show (-2147483648 : Int) ≤ (3 + 1) ∧ ((3 + 1) : Int) ≤ 2147483647 by first | omega | (simp [upS, hz, E900, E45, E46]; done) | (simp [upS, hz, E900, E45, E46]; omega)), ?_⟩
      rw [show ((3 + 1) : Int) = 4 by (first | omega | (simp [upS, hz, E900, E45, E46]; done) | (simp [upS, hz, E900, E45, E46]; omega))]
      refine b373_22 ?_
      rw [if_pos (show (4 : Int) < 6 by first | omega | (simp [upS, hz, E900, E45, E46]; done) | (simp [upS, hz, E900, E45, E46]; omega))]
      have hD87 : Dd 371 [(.inr (.inr (some 682))), (.inl a1), (.inl a2), (.inl 0)] S46 (.inl (some (.inl 0)), S46) := by
        refine b371 ?_
        refine ⟨(show -2147483648 ≤ (6 * a1) ∧ (6 * a1) ≤ 2147483647 by first | omega | (simp [upS, hz, E900, E45, E46]; done) | (simp [upS, hz, E900, E45, E46]; omega)), ?_⟩
        refine ⟨(show -2147483648 ≤ ((6 * a1) + 0) ∧ ((6 * a1) + 0) ≤ 2147483647 by first | omega | (simp [upS, hz, E900, E45, E46]; done) | (simp [upS, hz, E900, E45, E46]; omega)), ?_⟩
        refine ⟨(show 0 ≤ ((6 * a1) + 0) ∧ ((6 * a1) + 0) < 18 by first | omega | (simp [upS, hz, E900, E45, E46]; done) | (simp [upS, hz, E900, E45, E46]; omega)), ?_⟩
        refine ⟨(show ¬ ((S46 717 (((6 * a1) + 0)).toNat) = 0) → -2147483648 ≤ (6 * a2) ∧ (6 * a2) ≤ 2147483647 by (first | (intros; first | omega | (simp [upS, hz, E900, E45, E46]; done) | (simp [upS, hz, E900, E45, E46]; omega)) | (intros; simp_all [upS, hz, E900, E45, E46]; done) | (intros; simp_all [upS, hz, E900, E45, E46]; omega))), ?_⟩
        refine ⟨(show ¬ ((S46 717 (((6 * a1) + 0)).toNat) = 0) → -2147483648 ≤ ((6 * a2) + 0) ∧ ((6 * a2) + 0) ≤ 2147483647 by (first | (intros; first | omega | (simp [upS, hz, E900, E45, E46]; done) | (simp [upS, hz, E900, E45, E46]; omega)) | (intros; simp_all [upS, hz, E900, E45, E46]; done) | (intros; simp_all [upS, hz, E900, E45, E46]; omega))), ?_⟩
        refine ⟨(show ¬ ((S46 717 (((6 * a1) + 0)).toNat) = 0) → 0 ≤ ((6 * a2) + 0) ∧ ((6 * a2) + 0) < 18 by (first | (intros; first | omega | (simp [upS, hz, E900, E45, E46]; done) | (simp [upS, hz, E900, E45, E46]; omega)) | (intros; simp_all [upS, hz, E900, E45, E46]; done) | (intros; simp_all [upS, hz, E900, E45, E46]; omega))), ?_⟩
        try rw [if_pos (show (S46 717 (((6 * a1) + 0)).toNat) = 0 by first | omega | (simp [upS, hz, E900, E45, E46]; done) | (simp [upS, hz, E900, E45, E46]; omega))]
        all_goals rfl
      refine ⟨_, _, hD87, ?_⟩
      clear hD87
      rw [if_pos (show (0 : Int) = 0 by first | omega | (simp [upS, hz, E900, E45, E46]; done) | (simp [upS, hz, E900, E45, E46]; omega))]
      refine b373_84 ?_
      refine b373_85 ?_
      rw [if_pos (show (0 : Int) = 0 by first | omega | (simp [upS, hz, E900, E45, E46]; done) | (simp [upS, hz, E900, E45, E46]; omega))]
      refine b373_114 ?_
      try rw [if_neg (show ¬ ((59 : Int) < (-1)) by first | omega | (simp [upS, hz, E900, E45, E46]; done) | (simp [upS, hz, E900, E45, E46]; omega))]
      refine b373_129 ?_
      try rw [if_neg (show ¬ ((59 : Int) < (-1)) by first | omega | (simp [upS, hz, E900, E45, E46]; done) | (simp [upS, hz, E900, E45, E46]; omega))]
      refine b373_144 ?_
      try rw [if_neg (show ¬ ((59 : Int) < (-1)) by first | omega | (simp [upS, hz, E900, E45, E46]; done) | (simp [upS, hz, E900, E45, E46]; omega))]
      refine b373_158 ?_
      refine ⟨(show (-2147483648 : Int) ≤ (4 + 1) ∧ ((4 + 1) : Int) ≤ 2147483647 by first | omega | (simp [upS, hz, E900, E45, E46]; done) | (simp [upS, hz, E900, E45, E46]; omega)), ?_⟩
      rw [show ((4 + 1) : Int) = 5 by (first | omega | (simp [upS, hz, E900, E45, E46]; done) | (simp [upS, hz, E900, E45, E46]; omega))]
      refine b373_22 ?_
      rw [if_pos (show (5 : Int) < 6 by first | omega | (simp [upS, hz, E900, E45, E46]; done) | (simp [upS, hz, E900, E45, E46]; omega))]
      have hD88 : Dd 371 [(.inr (.inr (some 682))), (.inl a1), (.inl a2), (.inl 0)] S46 (.inl (some (.inl 0)), S46) := by
        refine b371 ?_
        refine ⟨(show -2147483648 ≤ (6 * a1) ∧ (6 * a1) ≤ 2147483647 by first | omega | (simp [upS, hz, E900, E45, E46]; done) | (simp [upS, hz, E900, E45, E46]; omega)), ?_⟩
        refine ⟨(show -2147483648 ≤ ((6 * a1) + 0) ∧ ((6 * a1) + 0) ≤ 2147483647 by first | omega | (simp [upS, hz, E900, E45, E46]; done) | (simp [upS, hz, E900, E45, E46]; omega)), ?_⟩
        refine ⟨(show 0 ≤ ((6 * a1) + 0) ∧ ((6 * a1) + 0) < 18 by first | omega | (simp [upS, hz, E900, E45, E46]; done) | (simp [upS, hz, E900, E45, E46]; omega)), ?_⟩
        refine ⟨(show ¬ ((S46 717 (((6 * a1) + 0)).toNat) = 0) → -2147483648 ≤ (6 * a2) ∧ (6 * a2) ≤ 2147483647 by (first | (intros; first | omega | (simp [upS, hz, E900, E45, E46]; done) | (simp [upS, hz, E900, E45, E46]; omega)) | (intros; simp_all [upS, hz, E900, E45, E46]; done) | (intros; simp_all [upS, hz, E900, E45, E46]; omega))), ?_⟩
        refine ⟨(show ¬ ((S46 717 (((6 * a1) + 0)).toNat) = 0) → -2147483648 ≤ ((6 * a2) + 0) ∧ ((6 * a2) + 0) ≤ 2147483647 by (first | (intros; first | omega | (simp [upS, hz, E900, E45, E46]; done) | (simp [upS, hz, E900, E45, E46]; omega)) | (intros; simp_all [upS, hz, E900, E45, E46]; done) | (intros; simp_all [upS, hz, E900, E45, E46]; omega))), ?_⟩
        refine ⟨(show ¬ ((S46 717 (((6 * a1) + 0)).toNat) = 0) → 0 ≤ ((6 * a2) + 0) ∧ ((6 * a2) + 0) < 18 by (first | (intros; first | omega | (simp [upS, hz, E900, E45, E46]; done) | (simp [upS, hz, E900, E45, E46]; omega)) | (intros; simp_all [upS, hz, E900, E45, E46]; done) | (intros; simp_all [upS, hz, E900, E45, E46]; omega))), ?_⟩
        try rw [if_pos (show (S46 717 (((6 * a1) + 0)).toNat) = 0 by first | omega | (simp [upS, hz, E900, E45, E46]; done) | (simp [upS, hz, E900, E45, E46]; omega))]
        all_goals rfl
      refine ⟨_, _, hD88, ?_⟩
      clear hD88
      rw [if_pos (show (0 : Int) = 0 by first | omega | (simp [upS, hz, E900, E45, E46]; done) | (simp [upS, hz, E900, E45, E46]; omega))]
      refine b373_84 ?_
      refine b373_85 ?_
      rw [if_pos (show (0 : Int) = 0 by first | omega | (simp [upS, hz, E900, E45, E46]; done) | (simp [upS, hz, E900, E45, E46]; omega))]
      refine b373_114 ?_
      try rw [if_neg (show ¬ ((59 : Int) < (-1)) by first | omega | (simp [upS, hz, E900, E45, E46]; done) | (simp [upS, hz, E900, E45, E46]; omega))]
      refine b373_129 ?_
      try rw [if_neg (show ¬ ((59 : Int) < (-1)) by first | omega | (simp [upS, hz, E900, E45, E46]; done) | (simp [upS, hz, E900, E45, E46]; omega))]
      refine b373_144 ?_
      try rw [if_neg (show ¬ ((59 : Int) < (-1)) by first | omega | (simp [upS, hz, E900, E45, E46]; done) | (simp [upS, hz, E900, E45, E46]; omega))]
      refine b373_158 ?_
      refine ⟨(show (-2147483648 : Int) ≤ (5 + 1) ∧ ((5 + 1) : Int) ≤ 2147483647 by first | omega | (simp [upS, hz, E900, E45, E46]; done) | (simp [upS, hz, E900, E45, E46]; omega)), ?_⟩
      rw [show ((5 + 1) : Int) = 6 by (first | omega | (simp [upS, hz, E900, E45, E46]; done) | (simp [upS, hz, E900, E45, E46]; omega))]
      refine b373_22 ?_
      rw [if_neg (show ¬ ((6 : Int) < 6) by first | omega | (simp [upS, hz, E900, E45, E46]; done) | (simp [upS, hz, E900, E45, E46]; omega))]
      refine ⟨(show (-2147483648 : Int) ≤ (0 + 1) ∧ ((0 + 1) : Int) ≤ 2147483647 by first | omega | (simp [upS, hz, E900, E45, E46]; done) | (simp [upS, hz, E900, E45, E46]; omega)), ?_⟩
      rw [show ((0 + 1) : Int) = 1 by (first | omega | (simp [upS, hz, E900, E45, E46]; done) | (simp [upS, hz, E900, E45, E46]; omega))]
      refine b373_12 ?_
      rw [if_pos (show (1 : Int) < 6 by first | omega | (simp [upS, hz, E900, E45, E46]; done) | (simp [upS, hz, E900, E45, E46]; omega))]
      refine b373_22 ?_
      rw [if_pos (show (0 : Int) < 6 by first | omega | (simp [upS, hz, E900, E45, E46]; done) | (simp [upS, hz, E900, E45, E46]; omega))]
      have hD89 : Dd 371 [(.inr (.inr (some 682))), (.inl a1), (.inl a2), (.inl 1)] S46 (.inl (some (.inl 0)), S46) := by
        refine b371 ?_
        refine ⟨(show -2147483648 ≤ (6 * a1) ∧ (6 * a1) ≤ 2147483647 by first | omega | (simp [upS, hz, E900, E45, E46]; done) | (simp [upS, hz, E900, E45, E46]; omega)), ?_⟩
        refine ⟨(show -2147483648 ≤ ((6 * a1) + 1) ∧ ((6 * a1) + 1) ≤ 2147483647 by first | omega | (simp [upS, hz, E900, E45, E46]; done) | (simp [upS, hz, E900, E45, E46]; omega)), ?_⟩
        refine ⟨(show 0 ≤ ((6 * a1) + 1) ∧ ((6 * a1) + 1) < 18 by first | omega | (simp [upS, hz, E900, E45, E46]; done) | (simp [upS, hz, E900, E45, E46]; omega)), ?_⟩
        refine ⟨(show ¬ ((S46 717 (((6 * a1) + 1)).toNat) = 0) → -2147483648 ≤ (6 * a2) ∧ (6 * a2) ≤ 2147483647 by (first | (intros; first | omega | (simp [upS, hz, E900, E45, E46]; done) | (simp [upS, hz, E900, E45, E46]; omega)) | (intros; simp_all [upS, hz, E900, E45, E46]; done) | (intros; simp_all [upS, hz, E900, E45, E46]; omega))), ?_⟩
        refine ⟨(show ¬ ((S46 717 (((6 * a1) + 1)).toNat) = 0) → -2147483648 ≤ ((6 * a2) + 1) ∧ ((6 * a2) + 1) ≤ 2147483647 by (first | (intros; first | omega | (simp [upS, hz, E900, E45, E46]; done) | (simp [upS, hz, E900, E45, E46]; omega)) | (intros; simp_all [upS, hz, E900, E45, E46]; done) | (intros; simp_all [upS, hz, E900, E45, E46]; omega))), ?_⟩
        refine ⟨(show ¬ ((S46 717 (((6 * a1) + 1)).toNat) = 0) → 0 ≤ ((6 * a2) + 1) ∧ ((6 * a2) + 1) < 18 by (first | (intros; first | omega | (simp [upS, hz, E900, E45, E46]; done) | (simp [upS, hz, E900, E45, E46]; omega)) | (intros; simp_all [upS, hz, E900, E45, E46]; done) | (intros; simp_all [upS, hz, E900, E45, E46]; omega))), ?_⟩
        try rw [if_pos (show (S46 717 (((6 * a1) + 1)).toNat) = 0 by first | omega | (simp [upS, hz, E900, E45, E46]; done) | (simp [upS, hz, E900, E45, E46]; omega))]
        all_goals rfl
      refine ⟨_, _, hD89, ?_⟩
      clear hD89
      rw [if_pos (show (0 : Int) = 0 by first | omega | (simp [upS, hz, E900, E45, E46]; done) | (simp [upS, hz, E900, E45, E46]; omega))]
      refine b373_84 ?_
      refine b373_85 ?_
      rw [if_pos (show (0 : Int) = 0 by first | omega | (simp [upS, hz, E900, E45, E46]; done) | (simp [upS, hz, E900, E45, E46]; omega))]
      refine b373_114 ?_
      try rw [if_neg (show ¬ ((59 : Int) < (-1)) by first | omega | (simp [upS, hz, E900, E45, E46]; done) | (simp [upS, hz, E900, E45, E46]; omega))]
      refine b373_129 ?_
      try rw [if_neg (show ¬ ((59 : Int) < (-1)) by first | omega | (simp [upS, hz, E900, E45, E46]; done) | (simp [upS, hz, E900, E45, E46]; omega))]
      refine b373_144 ?_
      try rw [if_neg (show ¬ ((59 : Int) < (-1)) by first | omega | (simp [upS, hz, E900, E45, E46]; done) | (simp [upS, hz, E900, E45, E46]; omega))]
      refine b373_158 ?_
      refine ⟨(show (-2147483648 : Int) ≤ (0 + 1) ∧ ((0 + 1) : Int) ≤ 2147483647 by first | omega | (simp [upS, hz, E900, E45, E46]; done) | (simp [upS, hz, E900, E45, E46]; omega)), ?_⟩
      rw [show ((0 + 1) : Int) = 1 by (first | omega | (simp [upS, hz, E900, E45, E46]; done) | (simp [upS, hz, E900, E45, E46]; omega))]
      refine b373_22 ?_
      rw [if_pos (show (1 : Int) < 6 by first | omega | (simp [upS, hz, E900, E45, E46]; done) | (simp [upS, hz, E900, E45, E46]; omega))]
      have hD90 : Dd 371 [(.inr (.inr (some 682))), (.inl a1), (.inl a2), (.inl 1)] S46 (.inl (some (.inl 0)), S46) := by
        refine b371 ?_
        refine ⟨(show -2147483648 ≤ (6 * a1) ∧ (6 * a1) ≤ 2147483647 by first | omega | (simp [upS, hz, E900, E45, E46]; done) | (simp [upS, hz, E900, E45, E46]; omega)), ?_⟩
        refine ⟨(show -2147483648 ≤ ((6 * a1) + 1) ∧ ((6 * a1) + 1) ≤ 2147483647 by first | omega | (simp [upS, hz, E900, E45, E46]; done) | (simp [upS, hz, E900, E45, E46]; omega)), ?_⟩
        refine ⟨(show 0 ≤ ((6 * a1) + 1) ∧ ((6 * a1) + 1) < 18 by first | omega | (simp [upS, hz, E900, E45, E46]; done) | (simp [upS, hz, E900, E45, E46]; omega)), ?_⟩
        refine ⟨(show ¬ ((S46 717 (((6 * a1) + 1)).toNat) = 0) → -2147483648 ≤ (6 * a2) ∧ (6 * a2) ≤ 2147483647 by (first | (intros; first | omega | (simp [upS, hz, E900, E45, E46]; done) | (simp [upS, hz, E900, E45, E46]; omega)) | (intros; simp_all [upS, hz, E900, E45, E46]; done) | (intros; simp_all [upS, hz, E900, E45, E46]; omega))), ?_⟩
        refine ⟨(show ¬ ((S46 717 (((6 * a1) + 1)).toNat) = 0) → -2147483648 ≤ ((6 * a2) + 1) ∧ ((6 * a2) + 1) ≤ 2147483647 by (first | (intros; first | omega | (simp [upS, hz, E900, E45, E46]; done) | (simp [upS, hz, E900, E45, E46]; omega)) | (intros; simp_all [upS, hz, E900, E45, E46]; done) | (intros; simp_all [upS, hz, E900, E45, E46]; omega))), ?_⟩
        refine ⟨(show ¬ ((S46 717 (((6 * a1) + 1)).toNat) = 0) → 0 ≤ ((6 * a2) + 1) ∧ ((6 * a2) + 1) < 18 by (first | (intros; first | omega | (simp [upS, hz, E900, E45, E46]; done) | (simp [upS, hz, E900, E45, E46]; omega)) | (intros; simp_all [upS, hz, E900, E45, E46]; done) | (intros; simp_all [upS, hz, E900, E45, E46]; omega))), ?_⟩
        try rw [if_pos (show (S46 717 (((6 * a1) + 1)).toNat) = 0 by first | omega | (simp [upS, hz, E900, E45, E46]; done) | (simp [upS, hz, E900, E45, E46]; omega))]
        all_goals rfl
      refine ⟨_, _, hD90, ?_⟩
      clear hD90
      rw [if_pos (show (0 : Int) = 0 by first | omega | (simp [upS, hz, E900, E45, E46]; done) | (simp [upS, hz, E900, E45, E46]; omega))]
      refine b373_84 ?_
      refine b373_85 ?_
      rw [if_pos (show (0 : Int) = 0 by first | omega | (simp [upS, hz, E900, E45, E46]; done) | (simp [upS, hz, E900, E45, E46]; omega))]
      refine b373_114 ?_
      try rw [if_neg (show ¬ ((59 : Int) < (-1)) by first | omega | (simp [upS, hz, E900, E45, E46]; done) | (simp [upS, hz, E900, E45, E46]; omega))]
      refine b373_129 ?_
      try rw [if_neg (show ¬ ((59 : Int) < (-1)) by first | omega | (simp [upS, hz, E900, E45, E46]; done) | (simp [upS, hz, E900, E45, E46]; omega))]
      refine b373_144 ?_
      try rw [if_neg (show ¬ ((59 : Int) < (-1)) by first | omega | (simp [upS, hz, E900, E45, E46]; done) | (simp [upS, hz, E900, E45, E46]; omega))]
      refine b373_158 ?_
      refine ⟨(show (-2147483648 : Int) ≤ (1 + 1) ∧ ((1 + 1) : Int) ≤ 2147483647 by first | omega | (simp [upS, hz, E900, E45, E46]; done) | (simp [upS, hz, E900, E45, E46]; omega)), ?_⟩
      rw [show ((1 + 1) : Int) = 2 by (first | omega | (simp [upS, hz, E900, E45, E46]; done) | (simp [upS, hz, E900, E45, E46]; omega))]
      refine b373_22 ?_
      rw [if_pos (show (2 : Int) < 6 by first | omega | (simp [upS, hz, E900, E45, E46]; done) | (simp [upS, hz, E900, E45, E46]; omega))]
      have hD91 : Dd 371 [(.inr (.inr (some 682))), (.inl a1), (.inl a2), (.inl 1)] S46 (.inl (some (.inl 0)), S46) := by
        refine b371 ?_
        refine ⟨(show -2147483648 ≤ (6 * a1) ∧ (6 * a1) ≤ 2147483647 by first | omega | (simp [upS, hz, E900, E45, E46]; done) | (simp [upS, hz, E900, E45, E46]; omega)), ?_⟩
        refine ⟨(show -2147483648 ≤ ((6 * a1) + 1) ∧ ((6 * a1) + 1) ≤ 2147483647 by first | omega | (simp [upS, hz, E900, E45, E46]; done) | (simp [upS, hz, E900, E45, E46]; omega)), ?_⟩
        refine ⟨(show 0 ≤ ((6 * a1) + 1) ∧ ((6 * a1) + 1) < 18 by first | omega | (simp [upS, hz, E900, E45, E46]; done) | (simp [upS, hz, E900, E45, E46]; omega)), ?_⟩
        refine ⟨(show ¬ ((S46 717 (((6 * a1) + 1)).toNat) = 0) → -2147483648 ≤ (6 * a2) ∧ (6 * a2) ≤ 2147483647 by (first | (intros; first | omega | (simp [upS, hz, E900, E45, E46]; done) | (simp [upS, hz, E900, E45, E46]; omega)) | (intros; simp_all [upS, hz, E900, E45, E46]; done) | (intros; simp_all [upS, hz, E900, E45, E46]; omega))), ?_⟩
        refine ⟨(show ¬ ((S46 717 (((6 * a1) + 1)).toNat) = 0) → -2147483648 ≤ ((6 * a2) + 1) ∧ ((6 * a2) + 1) ≤ 2147483647 by (first | (intros; first | omega | (simp [upS, hz, E900, E45, E46]; done) | (simp [upS, hz, E900, E45, E46]; omega)) | (intros; simp_all [upS, hz, E900, E45, E46]; done) | (intros; simp_all [upS, hz, E900, E45, E46]; omega))), ?_⟩
        refine ⟨(show ¬ ((S46 717 (((6 * a1) + 1)).toNat) = 0) → 0 ≤ ((6 * a2) + 1) ∧ ((6 * a2) + 1) < 18 by (first | (intros; first | omega | (simp [upS, hz, E900, E45, E46]; done) | (simp [upS, hz, E900, E45, E46]; omega)) | (intros; simp_all [upS, hz, E900, E45, E46]; done) | (intros; simp_all [upS, hz, E900, E45, E46]; omega))), ?_⟩
        try rw [if_pos (show (S46 717 (((6 * a1) + 1)).toNat) = 0 by first | omega | (simp [upS, hz, E900, E45, E46]; done) | (simp [upS, hz, E900, E45, E46]; omega))]
        all_goals rfl
      refine ⟨_, _, hD91, ?_⟩
      clear hD91
      rw [if_pos (show (0 : Int) = 0 by first | omega | (simp [upS, hz, E900, E45, E46]; done) | (simp [upS, hz, E900, E45, E46]; omega))]
      refine b373_84 ?_
      refine b373_85 ?_
      rw [if_pos (show (0 : Int) = 0 by first | omega | (simp [upS, hz, E900, E45, E46]; done) | (simp [upS, hz, E900, E45, E46]; omega))]
      refine b373_114 ?_
      try rw [if_neg (show ¬ ((59 : Int) < (-1)) by first | omega | (simp [upS, hz, E900, E45, E46]; done) | (simp [upS, hz, E900, E45, E46]; omega))]
      refine b373_129 ?_
      try rw [if_neg (show ¬ ((59 : Int) < (-1)) by first | omega | (simp [upS, hz, E900, E45, E46]; done) | (simp [upS, hz, E900, E45, E46]; omega))]
      refine b373_144 ?_
      try rw [if_neg (show ¬ ((59 : Int) < (-1)) by first | omega | (simp [upS, hz, E900, E45, E46]; done) | (simp [upS, hz, E900, E45, E46]; omega))]
      refine b373_158 ?_
      refine ⟨(show (-2147483648 : Int) ≤ (2 + 1) ∧ ((2 + 1) : Int) ≤ 2147483647 by first | omega | (simp [upS, hz, E900, E45, E46]; done) | (simp [upS, hz, E900, E45, E46]; omega)), ?_⟩
      rw [show ((2 + 1) : Int) = 3 by (first | omega | (simp [upS, hz, E900, E45, E46]; done) | (simp [upS, hz, E900, E45, E46]; omega))]
      refine b373_22 ?_
      rw [if_pos (show (3 : Int) < 6 by first | omega | (simp [upS, hz, E900, E45, E46]; done) | (simp [upS, hz, E900, E45, E46]; omega))]
      have hD92 : Dd 371 [(.inr (.inr (some 682))), (.inl a1), (.inl a2), (.inl 1)] S46 (.inl (some (.inl 0)), S46) := by
        refine b371 ?_
        refine ⟨(show -2147483648 ≤ (6 * a1) ∧ (6 * a1) ≤ 2147483647 by first | omega | (simp [upS, hz, E900, E45, E46]; done) | (simp [upS, hz, E900, E45, E46]; omega)), ?_⟩
        refine ⟨(show -2147483648 ≤ ((6 * a1) + 1) ∧ ((6 * a1) + 1) ≤ 2147483647 by first | omega | (simp [upS, hz, E900, E45, E46]; done) | (simp [upS, hz, E900, E45, E46]; omega)), ?_⟩
        refine ⟨(show 0 ≤ ((6 * a1) + 1) ∧ ((6 * a1) + 1) < 18 by first | omega | (simp [upS, hz, E900, E45, E46]; done) | (simp [upS, hz, E900, E45, E46]; omega)), ?_⟩
        refine ⟨(show ¬ ((S46 717 (((6 * a1) + 1)).toNat) = 0) → -2147483648 ≤ (6 * a2) ∧ (6 * a2) ≤ 2147483647 by (first | (intros; first | omega | (simp [upS, hz, E900, E45, E46]; done) | (simp [upS, hz, E900, E45, E46]; omega)) | (intros; simp_all [upS, hz, E900, E45, E46]; done) | (intros; simp_all [upS, hz, E900, E45, E46]; omega))), ?_⟩
        refine ⟨(show ¬ ((S46 717 (((6 * a1) + 1)).toNat) = 0) → -2147483648 ≤ ((6 * a2) + 1) ∧ ((6 * a2) + 1) ≤ 2147483647 by (first | (intros; first | omega | (simp [upS, hz, E900, E45, E46]; done) | (simp [upS, hz, E900, E45, E46]; omega)) | (intros; simp_all [upS, hz, E900, E45, E46]; done) | (intros; simp_all [upS, hz, E900, E45, E46]; omega))), ?_⟩
        refine ⟨(show ¬ ((S46 717 (((6 * a1) + 1)).toNat) = 0) → 0 ≤ ((6 * a2) + 1) ∧ ((6 * a2) + 1) < 18 by (first | (intros; first | omega | (simp [upS, hz, E900, E45, E46]; done) | (simp [upS, hz, E900, E45, E46]; omega)) | (intros; simp_all [upS, hz, E900, E45, E46]; done) | (intros; simp_all [upS, hz, E900, E45, E46]; omega))), ?_⟩
        try rw [if_pos (show (S46 717 (((6 * a1) + 1)).toNat) = 0 by first | omega | (simp [upS, hz, E900, E45, E46]; done) | (simp [upS, hz, E900, E45, E46]; omega))]
        all_goals rfl
      refine ⟨_, _, hD92, ?_⟩
      clear hD92
      rw [if_pos (show (0 : Int) = 0 by first | omega | (simp [upS, hz, E900, E45, E46]; done) | (simp [upS, hz, E900, E45, E46]; omega))]
      refine b373_84 ?_
      refine b373_85 ?_
      rw [if_pos (show (0 : Int) = 0 by first | omega | (simp [upS, hz, E900, E45, E46]; done) | (simp [upS, hz, E900, E45, E46]; omega))]
      refine b373_114 ?_
      try rw [if_neg (show ¬ ((59 : Int) < (-1)) by first | omega | (simp [upS, hz, E900, E45, E46]; done) | (simp [upS, hz, E900, E45, E46]; omega))]
      refine b373_129 ?_
      try rw [if_neg (show ¬ ((59 : Int) < (-1)) by first | omega | (simp [upS, hz, E900, E45, E46]; done) | (simp [upS, hz, E900, E45, E46]; omega))]
      refine b373_144 ?_
      try rw [if_neg (show ¬ ((59 : Int) < (-1)) by first | omega | (simp [upS, hz, E900, E45, E46]; done) | (simp [upS, hz, E900, E45, E46]; omega))]
      refine b373_158 ?_
      refine ⟨(show (-2147483648 : Int) ≤ (3 + 1) ∧ ((3 + 1) : Int) ≤ 2147483647 by first | omega | (simp [upS, hz, E900, E45, E46]; done) | (simp [upS, hz, E900, E45, E46]; omega)), ?_⟩
      rw [show ((3 + 1) : Int) = 4 by (first | omega | (simp [upS, hz, E900, E45, E46]; done) | (simp [upS, hz, E900, E45, E46]; omega))]
      refine b373_22 ?_
      rw [if_pos (show (4 : Int) < 6 by first | omega | (simp [upS, hz, E900, E45, E46]; done) | (simp [upS, hz, E900, E45, E46]; omega))]
      have hD93 : Dd 371 [(.inr (.inr (some 682))), (.inl a1), (.inl a2), (.inl 1)] S46 (.inl (some (.inl 0)), S46) := by
        refine b371 ?_
        refine ⟨(show -2147483648 ≤ (6 * a1) ∧ (6 * a1) ≤ 2147483647 by first | omega | (simp [upS, hz, E900, E45, E46]; done) | (simp [upS, hz, E900, E45, E46]; omega)), ?_⟩
        refine ⟨(show -2147483648 ≤ ((6 * a1) + 1) ∧ ((6 * a1) + 1) ≤ 2147483647 by first | omega | (simp [upS, hz, E900, E45, E46]; done) | (simp [upS, hz, E900, E45, E46]; omega)), ?_⟩
        refine ⟨(show 0 ≤ ((6 * a1) + 1) ∧ ((6 * a1) + 1) < 18 by first | omega | (simp [upS, hz, E900, E45, E46]; done) | (simp [upS, hz, E900, E45, E46]; omega)), ?_⟩
        refine ⟨(show ¬ ((S46 717 (((6 * a1) + 1)).toNat) = 0) → -2147483648 ≤ (6 * a2) ∧ (6 * a2) ≤ 2147483647 by (first | (intros; first | omega | (simp [upS, hz, E900, E45, E46]; done) | (simp [upS, hz, E900, E45, E46]; omega)) | (intros; simp_all [upS, hz, E900, E45, E46]; done) | (intros; simp_all [upS, hz, E900, E45, E46]; omega))), ?_⟩
        refine ⟨(show ¬ ((S46 717 (((6 * a1) + 1)).toNat) = 0) → -2147483648 ≤ ((6 * a2) + 1) ∧ ((6 * a2) + 1) ≤ 2147483647 by (first | (intros; first | omega | (simp [upS, hz, E900, E45, E46]; done) | (simp [upS, hz, E900, E45, E46]; omega)) | (intros; simp_all [upS, hz, E900, E45, E46]; done) | (intros; simp_all [upS, hz, E900, E45, E46]; omega))), ?_⟩
        refine ⟨(show ¬ ((S46 717 (((6 * a1) + 1)).toNat) = 0) → 0 ≤ ((6 * a2) + 1) ∧ ((6 * a2) + 1) < 18 by (first | (intros; first | omega | (simp [upS, hz, E900, E45, E46]; done) | (simp [upS, hz, E900, E45, E46]; omega)) | (intros; simp_all [upS, hz, E900, E45, E46]; done) | (intros; simp_all [upS, hz, E900, E45, E46]; omega))), ?_⟩
        try rw [if_pos (show (S46 717 (((6 * a1) + 1)).toNat) = 0 by first | omega | (simp [upS, hz, E900, E45, E46]; done) | (simp [upS, hz, E900, E45, E46]; omega))]
        all_goals rfl
      refine ⟨_, _, hD93, ?_⟩
      clear hD93
      rw [if_pos (show (0 : Int) = 0 by first | omega | (simp [upS, hz, E900, E45, E46]; done) | (simp [upS, hz, E900, E45, E46]; omega))]
      refine b373_84 ?_
      refine b373_85 ?_
      rw [if_pos (show (0 : Int) = 0 by first | omega | (simp [upS, hz, E900, E45, E46]; done) | (simp [upS, hz, E900, E45, E46]; omega))]
      refine b373_114 ?_
      try rw [if_neg (show ¬ ((59 : Int) < (-1)) by first | omega | (simp [upS, hz, E900, E45, E46]; done) | (simp [upS, hz, E900, E45, E46]; omega))]
      refine b373_129 ?_
      try rw [if_neg (show ¬ ((59 : Int) < (-1)) by first | omega | (simp [upS, hz, E900, E45, E46]; done) | (simp [upS, hz, E900, E45, E46]; omega))]
      refine b373_144 ?_
      try rw [if_neg (show ¬ ((59 : Int) < (-1)) by first | omega | (simp [upS, hz, E900, E45, E46]; done) | (simp [upS, hz, E900, E45, E46]; omega))]
      refine b373_158 ?_
      refine ⟨(show (-2147483648 : Int) ≤ (4 + 1) ∧ ((4 + 1) : Int) ≤ 2147483647 by first | omega | (simp [upS, hz, E900, E45, E46]; done) | (simp [upS, hz, E900, E45, E46]; omega)), ?_⟩
      rw [show ((4 + 1) : Int) = 5 by (first | omega | (simp [upS, hz, E900, E45, E46]; done) | (simp [upS, hz, E900, E45, E46]; omega))]
      refine b373_22 ?_
      rw [if_pos (show (5 : Int) < 6 by first | omega | (simp [upS, hz, E900, E45, E46]; done) | (simp [upS, hz, E900, E45, E46]; omega))]
      have hD94 : Dd 371 [(.inr (.inr (some 682))), (.inl a1), (.inl a2), (.inl 1)] S46 (.inl (some (.inl 0)), S46) := by
        refine b371 ?_
        refine ⟨(show -2147483648 ≤ (6 * a1) ∧ (6 * a1) ≤ 2147483647 by first | omega | (simp [upS, hz, E900, E45, E46]; done) | (simp [upS, hz, E900, E45, E46]; omega)), ?_⟩
        refine ⟨(show -2147483648 ≤ ((6 * a1) + 1) ∧ ((6 * a1) + 1) ≤ 2147483647 by first | omega | (simp [upS, hz, E900, E45, E46]; done) | (simp [upS, hz, E900, E45, E46]; omega)), ?_⟩
        refine ⟨(show 0 ≤ ((6 * a1) + 1) ∧ ((6 * a1) + 1) < 18 by first | omega | (simp [upS, hz, E900, E45, E46]; done) | (simp [upS, hz, E900, E45, E46]; omega)), ?_⟩
        refine ⟨(show ¬ ((S46 717 (((6 * a1) + 1)).toNat) = 0) → -2147483648 ≤ (6 * a2) ∧ (6 * a2) ≤ 2147483647 by (first | (intros; first | omega | (simp [upS, hz, E900, E45, E46]; done) | (simp [upS, hz, E900, E45, E46]; omega)) | (intros; simp_all [upS, hz, E900, E45, E46]; done) | (intros; simp_all [upS, hz, E900, E45, E46]; omega))), ?_⟩
        refine ⟨(show ¬ ((S46 717 (((6 * a1) + 1)).toNat) = 0) → -2147483648 ≤ ((6 * a2) + 1) ∧ ((6 * a2) + 1) ≤ 2147483647 by (first | (intros; first | omega | (simp [upS, hz, E900, E45, E46]; done) | (simp [upS, hz, E900, E45, E46]; omega)) | (intros; simp_all [upS, hz, E900, E45, E46]; done) | (intros; simp_all [upS, hz, E900, E45, E46]; omega))), ?_⟩
        refine ⟨(show ¬ ((S46 717 (((6 * a1) + 1)).toNat) = 0) → 0 ≤ ((6 * a2) + 1) ∧ ((6 * a2) + 1) < 18 by (first | (intros; first | omega | (simp [upS, hz, E900, E45, E46]; done) | (simp [upS, hz, E900, E45, E46]; omega)) | (intros; simp_all [upS, hz, E900, E45, E46]; done) | (intros; simp_all [upS, hz, E900, E45, E46]; omega))), ?_⟩
        try rw [if_pos (show (S46 717 (((6 * a1) + 1)).toNat) = 0 by first | omega | (simp [upS, hz, E900, E45, E46]; done) | (simp [upS, hz, E900, E45, E46]; omega))]
        all_goals rfl
      refine ⟨_, _, hD94, ?_⟩
      clear hD94
      rw [if_pos (show (0 : Int) = 0 by first | omega | (simp [upS, hz, E900, E45, E46]; done) | (simp [upS, hz, E900, E45, E46]; omega))]
      refine b373_84 ?_
      refine b373_85 ?_
      rw [if_pos (show (0 : Int) = 0 by first | omega | (simp [upS, hz, E900, E45, E46]; done) | (simp [upS, hz, E900, E45, E46]; omega))]
      refine b373_114 ?_
      try rw [if_neg (show ¬ ((59 : Int) < (-1)) by first | omega | (simp [upS, hz, E900, E45, E46]; done) | (simp [upS, hz, E900, E45, E46]; omega))]
      refine b373_129 ?_
      try rw [if_neg (show ¬ ((59 : Int) < (-1)) by first | omega | (simp [upS, hz, E900, E45, E46]; done) | (simp [upS, hz, E900, E45, E46]; omega))]
      refine b373_144 ?_
      try rw [if_neg (show ¬ ((59 : Int) < (-1)) by first | omega | (simp [upS, hz, E900, E45, E46]; done) | (simp [upS, hz, E900, E45, E46]; omega))]
      refine b373_158 ?_
      refine ⟨(show (-2147483648 : Int) ≤ (5 + 1) ∧ ((5 + 1) : Int) ≤ 2147483647 by first | omega | (simp [upS, hz, E900, E45, E46]; done) | (simp [upS, hz, E900, E45, E46]; omega)), ?_⟩
      rw [show ((5 + 1) : Int) = 6 by (first | omega | (simp [upS, hz, E900, E45, E46]; done) | (simp [upS, hz, E900, E45, E46]; omega))]
      refine b373_22 ?_
      rw [if_neg (show ¬ ((6 : Int) < 6) by first | omega | (simp [upS, hz, E900, E45, E46]; done) | (simp [upS, hz, E900, E45, E46]; omega))]
      refine ⟨(show (-2147483648 : Int) ≤ (1 + 1) ∧ ((1 + 1) : Int) ≤ 2147483647 by first | omega | (simp [upS, hz, E900, E45, E46]; done) | (simp [upS, hz, E900, E45, E46]; omega)), ?_⟩
      rw [show ((1 + 1) : Int) = 2 by (first | omega | (simp [upS, hz, E900, E45, E46]; done) | (simp [upS, hz, E900, E45, E46]; omega))]
      refine b373_12 ?_
      rw [if_pos (show (2 : Int) < 6 by first | omega | (simp [upS, hz, E900, E45, E46]; done) | (simp [upS, hz, E900, E45, E46]; omega))]
      refine b373_22 ?_
      rw [if_pos (show (0 : Int) < 6 by first | omega | (simp [upS, hz, E900, E45, E46]; done) | (simp [upS, hz, E900, E45, E46]; omega))]
      have hD95 : Dd 371 [(.inr (.inr (some 682))), (.inl a1), (.inl a2), (.inl 2)] S46 (.inl (some (.inl 0)), S46) := by
        refine b371 ?_
        refine ⟨(show -2147483648 ≤ (6 * a1) ∧ (6 * a1) ≤ 2147483647 by first | omega | (simp [upS, hz, E900, E45, E46]; done) | (simp [upS, hz, E900, E45, E46]; omega)), ?_⟩
        refine ⟨(show -2147483648 ≤ ((6 * a1) + 2) ∧ ((6 * a1) + 2) ≤ 2147483647 by first | omega | (simp [upS, hz, E900, E45, E46]; done) | (simp [upS, hz, E900, E45, E46]; omega)), ?_⟩
        refine ⟨(show 0 ≤ ((6 * a1) + 2) ∧ ((6 * a1) + 2) < 18 by first | omega | (simp [upS, hz, E900, E45, E46]; done) | (simp [upS, hz, E900, E45, E46]; omega)), ?_⟩
        refine ⟨(show ¬ ((S46 717 (((6 * a1) + 2)).toNat) = 0) → -2147483648 ≤ (6 * a2) ∧ (6 * a2) ≤ 2147483647 by (first | (intros; first | omega | (simp [upS, hz, E900, E45, E46]; done) | (simp [upS, hz, E900, E45, E46]; omega)) | (intros; simp_all [upS, hz, E900, E45, E46]; done) | (intros; simp_all [upS, hz, E900, E45, E46]; omega))), ?_⟩
        refine ⟨(show ¬ ((S46 717 (((6 * a1) + 2)).toNat) = 0) → -2147483648 ≤ ((6 * a2) + 2) ∧ ((6 * a2) + 2) ≤ 2147483647 by (first | (intros; first | omega | (simp [upS, hz, E900, E45, E46]; done) | (simp [upS, hz, E900, E45, E46]; omega)) | (intros; simp_all [upS, hz, E900, E45, E46]; done) | (intros; simp_all [upS, hz, E900, E45, E46]; omega))), ?_⟩
        refine ⟨(show ¬ ((S46 717 (((6 * a1) + 2)).toNat) = 0) → 0 ≤ ((6 * a2) + 2) ∧ ((6 * a2) + 2) < 18 by (first | (intros; first | omega | (simp [upS, hz, E900, E45, E46]; done) | (simp [upS, hz, E900, E45, E46]; omega)) | (intros; simp_all [upS, hz, E900, E45, E46]; done) | (intros; simp_all [upS, hz, E900, E45, E46]; omega))), ?_⟩
        try rw [if_pos (show (S46 717 (((6 * a1) + 2)).toNat) = 0 by first | omega | (simp [upS, hz, E900, E45, E46]; done) | (simp [upS, hz, E900, E45, E46]; omega))]
        all_goals rfl
      refine ⟨_, _, hD95, ?_⟩
      clear hD95
      rw [if_pos (show (0 : Int) = 0 by first | omega | (simp [upS, hz, E900, E45, E46]; done) | (simp [upS, hz, E900, E45, E46]; omega))]
      refine b373_84 ?_
      refine b373_85 ?_
      rw [if_pos (show (0 : Int) = 0 by first | omega | (simp [upS, hz, E900, E45, E46]; done) | (simp [upS, hz, E900, E45, E46]; omega))]
      refine b373_114 ?_
      try rw [if_neg (show ¬ ((59 : Int) < (-1)) by first | omega | (simp [upS, hz, E900, E45, E46]; done) | (simp [upS, hz, E900, E45, E46]; omega))]
      refine b373_129 ?_
      try rw [if_neg (show ¬ ((59 : Int) < (-1)) by first | omega | (simp [upS, hz, E900, E45, E46]; done) | (simp [upS, hz, E900, E45, E46]; omega))]
      refine b373_144 ?_
      try rw [if_neg (show ¬ ((59 : Int) < (-1)) by first | omega | (simp [upS, hz, E900, E45, E46]; done) | (simp [upS, hz, E900, E45, E46]; omega))]
      refine b373_158 ?_
      refine ⟨(show (-2147483648 : Int) ≤ (0 + 1) ∧ ((0 + 1) : Int) ≤ 2147483647 by first | omega | (simp [upS, hz, E900, E45, E46]; done) | (simp [upS, hz, E900, E45, E46]; omega)), ?_⟩
      rw [show ((0 + 1) : Int) = 1 by (first | omega | (simp [upS, hz, E900, E45, E46]; done) | (simp [upS, hz, E900, E45, E46]; omega))]
      refine b373_22 ?_
      rw [if_pos (show (1 : Int) < 6 by first | omega | (simp [upS, hz, E900, E45, E46]; done) | (simp [upS, hz, E900, E45, E46]; omega))]
      have hD96 : Dd 371 [(.inr (.inr (some 682))), (.inl a1), (.inl a2), (.inl 2)] S46 (.inl (some (.inl 0)), S46) := by
        refine b371 ?_
        refine ⟨(show -2147483648 ≤ (6 * a1) ∧ (6 * a1) ≤ 2147483647 by first | omega | (simp [upS, hz, E900, E45, E46]; done) | (simp [upS, hz, E900, E45, E46]; omega)), ?_⟩
        refine ⟨(show -2147483648 ≤ ((6 * a1) + 2) ∧ ((6 * a1) + 2) ≤ 2147483647 by first | omega | (simp [upS, hz, E900, E45, E46]; done) | (simp [upS, hz, E900, E45, E46]; omega)), ?_⟩
        refine ⟨(show 0 ≤ ((6 * a1) + 2) ∧ ((6 * a1) + 2) < 18 by first | omega | (simp [upS, hz, E900, E45, E46]; done) | (simp [upS, hz, E900, E45, E46]; omega)), ?_⟩
        refine ⟨(show ¬ ((S46 717 (((6 * a1) + 2)).toNat) = 0) → -2147483648 ≤ (6 * a2) ∧ (6 * a2) ≤ 2147483647 by (first | (intros; first | omega | (simp [upS, hz, E900, E45, E46]; done) | (simp [upS, hz, E900, E45, E46]; omega)) | (intros; simp_all [upS, hz, E900, E45, E46]; done) | (intros; simp_all [upS, hz, E900, E45, E46]; omega))), ?_⟩
        refine ⟨(show ¬ ((S46 717 (((6 * a1) + 2)).toNat) = 0) → -2147483648 ≤ ((6 * a2) + 2) ∧ ((6 * a2) + 2) ≤ 2147483647 by (first | (intros; first | omega | (simp [upS, hz, E900, E45, E46]; done) | (simp [upS, hz, E900, E45, E46]; omega)) | (intros; simp_all [upS, hz, E900, E45, E46]; done) | (intros; simp_all [upS, hz, E900, E45, E46]; omega))), ?_⟩
        refine ⟨(show ¬ ((S46 717 (((6 * a1) + 2)).toNat) = 0) → 0 ≤ ((6 * a2) + 2) ∧ ((6 * a2) + 2) < 18 by (first | (intros; first | omega | (simp [upS, hz, E900, E45, E46]; done) | (simp [upS, hz, E900, E45, E46]; omega)) | (intros; simp_all [upS, hz, E900, E45, E46]; done) | (intros; simp_all [upS, hz, E900, E45, E46]; omega))), ?_⟩
        try rw [if_pos (show (S46 717 (((6 * a1) + 2)).toNat) = 0 by first | omega | (simp [upS, hz, E900, E45, E46]; done) | (simp [upS, hz, E900, E45, E46]; omega))]
        all_goals rfl
      refine ⟨_, _, hD96, ?_⟩
      clear hD96
      rw [if_pos (show (0 : Int) = 0 by first | omega | (simp [upS, hz, E900, E45, E46]; done) | (simp [upS, hz, E900, E45, E46]; omega))]
      refine b373_84 ?_
      refine b373_85 ?_
      rw [if_pos (show (0 : Int) = 0 by first | omega | (simp [upS, hz, E900, E45, E46]; done) | (simp [upS, hz, E900, E45, E46]; omega))]
      refine b373_114 ?_
      try rw [if_neg (show ¬ ((59 : Int) < (-1)) by first | omega | (simp [upS, hz, E900, E45, E46]; done) | (simp [upS, hz, E900, E45, E46]; omega))]
      refine b373_129 ?_
      try rw [if_neg (show ¬ ((59 : Int) < (-1)) by first | omega | (simp [upS, hz, E900, E45, E46]; done) | (simp [upS, hz, E900, E45, E46]; omega))]
      refine b373_144 ?_
      try rw [if_neg (show ¬ ((59 : Int) < (-1)) by first | omega | (simp [upS, hz, E900, E45, E46]; done) | (simp [upS, hz, E900, E45, E46]; omega))]
      refine b373_158 ?_
      refine ⟨(show (-2147483648 : Int) ≤ (1 + 1) ∧ ((1 + 1) : Int) ≤ 2147483647 by first | omega | (simp [upS, hz, E900, E45, E46]; done) | (simp [upS, hz, E900, E45, E46]; omega)), ?_⟩
      rw [show ((1 + 1) : Int) = 2 by (first | omega | (simp [upS, hz, E900, E45, E46]; done) | (simp [upS, hz, E900, E45, E46]; omega))]
      refine b373_22 ?_
      rw [if_pos (show (2 : Int) < 6 by first | omega | (simp [upS, hz, E900, E45, E46]; done) | (simp [upS, hz, E900, E45, E46]; omega))]
      have hD97 : Dd 371 [(.inr (.inr (some 682))), (.inl a1), (.inl a2), (.inl 2)] S46 (.inl (some (.inl 0)), S46) := by
        refine b371 ?_
        refine ⟨(show -2147483648 ≤ (6 * a1) ∧ (6 * a1) ≤ 2147483647 by first | omega | (simp [upS, hz, E900, E45, E46]; done) | (simp [upS, hz, E900, E45, E46]; omega)), ?_⟩
        refine ⟨(show -2147483648 ≤ ((6 * a1) + 2) ∧ ((6 * a1) + 2) ≤ 2147483647 by first | omega | (simp [upS, hz, E900, E45, E46]; done) | (simp [upS, hz, E900, E45, E46]; omega)), ?_⟩
        refine ⟨(show 0 ≤ ((6 * a1) + 2) ∧ ((6 * a1) + 2) < 18 by first | omega | (simp [upS, hz, E900, E45, E46]; done) | (simp [upS, hz, E900, E45, E46]; omega)), ?_⟩
        refine ⟨(show ¬ ((S46 717 (((6 * a1) + 2)).toNat) = 0) → -2147483648 ≤ (6 * a2) ∧ (6 * a2) ≤ 2147483647 by (first | (intros; first | omega | (simp [upS, hz, E900, E45, E46]; done) | (simp [upS, hz, E900, E45, E46]; omega)) | (intros; simp_all [upS, hz, E900, E45, E46]; done) | (intros; simp_all [upS, hz, E900, E45, E46]; omega))), ?_⟩
        refine ⟨(show ¬ ((S46 717 (((6 * a1) + 2)).toNat) = 0) → -2147483648 ≤ ((6 * a2) + 2) ∧ ((6 * a2) + 2) ≤ 2147483647 by (first | (intros; first | omega | (simp [upS, hz, E900, E45, E46]; done) | (simp [upS, hz, E900, E45, E46]; omega)) | (intros; simp_all [upS, hz, E900, E45, E46]; done) | (intros; simp_all [upS, hz, E900, E45, E46]; omega))), ?_⟩
        refine ⟨(show ¬ ((S46 717 (((6 * a1) + 2)).toNat) = 0) → 0 ≤ ((6 * a2) + 2) ∧ ((6 * a2) + 2) < 18 by (first | (intros; first | omega | (simp [upS, hz, E900, E45, E46]; done) | (simp [upS, hz, E900, E45, E46]; omega)) | (intros; simp_all [upS, hz, E900, E45, E46]; done) | (intros; simp_all [upS, hz, E900, E45, E46]; omega))), ?_⟩
        try rw [if_pos (show (S46 717 (((6 * a1) + 2)).toNat) = 0 by first | omega | (simp [upS, hz, E900, E45, E46]; done) | (simp [upS, hz, E900, E45, E46]; omega))]
        all_goals rfl
      refine ⟨_, _, hD97, ?_⟩
      clear hD97
      rw [if_pos (show (0 : Int) = 0 by first | omega | (simp [upS, hz, E900, E45, E46]; done) | (simp [upS, hz, E900, E45, E46]; omega))]
      refine b373_84 ?_
      refine b373_85 ?_
      rw [if_pos (show (0 : Int) = 0 by first | omega | (simp [upS, hz, E900, E45, E46]; done) | (simp [upS, hz, E900, E45, E46]; omega))]
      refine b373_114 ?_
      try rw [if_neg (show ¬ ((59 : Int) < (-1)) by first | omega | (simp [upS, hz, E900, E45, E46]; done) | (simp [upS, hz, E900, E45, E46]; omega))]
      refine b373_129 ?_
      try rw [if_neg (show ¬ ((59 : Int) < (-1)) by first | omega | (simp [upS, hz, E900, E45, E46]; done) | (simp [upS, hz, E900, E45, E46]; omega))]
      refine b373_144 ?_
      try rw [if_neg (show ¬ ((59 : Int) < (-1)) by first | omega | (simp [upS, hz, E900, E45, E46]; done) | (simp [upS, hz, E900, E45, E46]; omega))]
      refine b373_158 ?_
      refine ⟨(show (-2147483648 : Int) ≤ (2 + 1) ∧ ((2 + 1) : Int) ≤ 2147483647 by first | omega | (simp [upS, hz, E900, E45, E46]; done) | (simp [upS, hz, E900, E45, E46]; omega)), ?_⟩
      rw [show ((2 + 1) : Int) = 3 by (first | omega | (simp [upS, hz, E900, E45, E46]; done) | (simp [upS, hz, E900, E45, E46]; omega))]
      refine b373_22 ?_
      rw [if_pos (show (3 : Int) < 6 by first | omega | (simp [upS, hz, E900, E45, E46]; done) | (simp [upS, hz, E900, E45, E46]; omega))]
      have hD98 : Dd 371 [(.inr (.inr (some 682))), (.inl a1), (.inl a2), (.inl 2)] S46 (.inl (some (.inl 0)), S46) := by
        refine b371 ?_
        refine ⟨(show -2147483648 ≤ (6 * a1) ∧ (6 * a1) ≤ 2147483647 by first | omega | (simp [upS, hz, E900, E45, E46]; done) | (simp [upS, hz, E900, E45, E46]; omega)), ?_⟩
        refine ⟨(show -2147483648 ≤ ((6 * a1) + 2) ∧ ((6 * a1) + 2) ≤ 2147483647 by first | omega | (simp [upS, hz, E900, E45, E46]; done) | (simp [upS, hz, E900, E45, E46]; omega)), ?_⟩
        refine ⟨(show 0 ≤ ((6 * a1) + 2) ∧ ((6 * a1) + 2) < 18 by first | omega | (simp [upS, hz, E900, E45, E46]; done) | (simp [upS, hz, E900, E45, E46]; omega)), ?_⟩
        refine ⟨(show ¬ ((S46 717 (((6 * a1) + 2)).toNat) = 0) → -2147483648 ≤ (6 * a2) ∧ (6 * a2) ≤ 2147483647 by (first | (intros; first | omega | (simp [upS, hz, E900, E45, E46]; done) | (simp [upS, hz, E900, E45, E46]; omega)) | (intros; simp_all [upS, hz, E900, E45, E46]; done) | (intros; simp_all [upS, hz, E900, E45, E46]; omega))), ?_⟩
        refine ⟨(show ¬ ((S46 717 (((6 * a1) + 2)).toNat) = 0) → -2147483648 ≤ ((6 * a2) + 2) ∧ ((6 * a2) + 2) ≤ 2147483647 by (first | (intros; first | omega | (simp [upS, hz, E900, E45, E46]; done) | (simp [upS, hz, E900, E45, E46]; omega)) | (intros; simp_all [upS, hz, E900, E45, E46]; done) | (intros; simp_all [upS, hz, E900, E45, E46]; omega))), ?_⟩
        refine ⟨(show ¬ ((S46 717 (((6 * a1) + 2)).toNat) = 0) → 0 ≤ ((6 * a2) + 2) ∧ ((6 * a2) + 2) < 18 by (first | (intros; first | omega | (simp [upS, hz, E900, E45, E46]; done) | (simp [upS, hz, E900, E45, E46]; omega)) | (intros; simp_all [upS, hz, E900, E45, E46]; done) | (intros; simp_all [upS, hz, E900, E45, E46]; omega))), ?_⟩
        try rw [if_pos (show (S46 717 (((6 * a1) + 2)).toNat) = 0 by first | omega | (simp [upS, hz, E900, E45, E46]; done) | (simp [upS, hz, E900, E45, E46]; omega))]
        all_goals rfl
      refine ⟨_, _, hD98, ?_⟩
      clear hD98
      rw [if_pos (show (0 : Int) = 0 by first | omega | (simp [upS, hz, E900, E45, E46]; done) | (simp [upS, hz, E900, E45, E46]; omega))]
      refine b373_84 ?_
      refine b373_85 ?_
      rw [if_pos (show (0 : Int) = 0 by first | omega | (simp [upS, hz, E900, E45, E46]; done) | (simp [upS, hz, E900, E45, E46]; omega))]
      refine b373_114 ?_
      try rw [if_neg (show ¬ ((59 : Int) < (-1)) by first | omega | (simp [upS, hz, E900, E45, E46]; done) | (simp [upS, hz, E900, E45, E46]; omega))]
      refine b373_129 ?_
      try rw [if_neg (show ¬ ((59 : Int) < (-1)) by first | omega | (simp [upS, hz, E900, E45, E46]; done) | (simp [upS, hz, E900, E45, E46]; omega))]
      refine b373_144 ?_
      try rw [if_neg (show ¬ ((59 : Int) < (-1)) by first | omega | (simp [upS, hz, E900, E45, E46]; done) | (simp [upS, hz, E900, E45, E46]; omega))]
      refine b373_158 ?_
      refine ⟨(show (-2147483648 : Int) ≤ (3 + 1) ∧ ((3 + 1) : Int) ≤ 2147483647 by first | omega | (simp [upS, hz, E900, E45, E46]; done) | (simp [upS, hz, E900, E45, E46]; omega)), ?_⟩
      rw [show ((3 + 1) : Int) = 4 by (first | omega | (simp [upS, hz, E900, E45, E46]; done) | (simp [upS, hz, E900, E45, E46]; omega))]
      refine b373_22 ?_
      rw [if_pos (show (4 : Int) < 6 by first | omega | (simp [upS, hz, E900, E45, E46]; done) | (simp [upS, hz, E900, E45, E46]; omega))]
      have hD99 : Dd 371 [(.inr (.inr (some 682))), (.inl a1), (.inl a2), (.inl 2)] S46 (.inl (some (.inl 0)), S46) := by
        refine b371 ?_
        refine ⟨(show -2147483648 ≤ (6 * a1) ∧ (6 * a1) ≤ 2147483647 by first | omega | (simp [upS, hz, E900, E45, E46]; done) | (simp [upS, hz, E900, E45, E46]; omega)), ?_⟩
        refine ⟨(show -2147483648 ≤ ((6 * a1) + 2) ∧ ((6 * a1) + 2) ≤ 2147483647 by first | omega | (simp [upS, hz, E900, E45, E46]; done) | (simp [upS, hz, E900, E45, E46]; omega)), ?_⟩
        refine ⟨(show 0 ≤ ((6 * a1) + 2) ∧ ((6 * a1) + 2) < 18 by first | omega | (simp [upS, hz, E900, E45, E46]; done) | (simp [upS, hz, E900, E45, E46]; omega)), ?_⟩
        refine ⟨(show ¬ ((S46 717 (((6 * a1) + 2)).toNat) = 0) → -2147483648 ≤ (6 * a2) ∧ (6 * a2) ≤ 2147483647 by (first | (intros; first | omega | (simp [upS, hz, E900, E45, E46]; done) | (simp [upS, hz, E900, E45, E46]; omega)) | (intros; simp_all [upS, hz, E900, E45, E46]; done) | (intros; simp_all [upS, hz, E900, E45, E46]; omega))), ?_⟩
        refine ⟨(show ¬ ((S46 717 (((6 * a1) + 2)).toNat) = 0) → -2147483648 ≤ ((6 * a2) + 2) ∧ ((6 * a2) + 2) ≤ 2147483647 by (first | (intros; first | omega | (simp [upS, hz, E900, E45, E46]; done) | (simp [upS, hz, E900, E45, E46]; omega)) | (intros; simp_all [upS, hz, E900, E45, E46]; done) | (intros; simp_all [upS, hz, E900, E45, E46]; omega))), ?_⟩
        refine ⟨(show ¬ ((S46 717 (((6 * a1) + 2)).toNat) = 0) → 0 ≤ ((6 * a2) + 2) ∧ ((6 * a2) + 2) < 18 by (first | (intros; first | omega | (simp [upS, hz, E900, E45, E46]; done) | (simp [upS, hz, E900, E45, E46]; omega)) | (intros; simp_all [upS, hz, E900, E45, E46]; done) | (intros; simp_all [upS, hz, E900, E45, E46]; omega))), ?_⟩
        try rw [if_pos (show (S46 717 (((6 * a1) + 2)).toNat) = 0 by first | omega | (simp [upS, hz, E900, E45, E46]; done) | (simp [upS, hz, E900, E45, E46]; omega))]
        all_goals rfl
      refine ⟨_, _, hD99, ?_⟩
      clear hD99
      rw [if_pos (show (0 : Int) = 0 by first | omega | (simp [upS, hz, E900, E45, E46]; done) | (simp [upS, hz, E900, E45, E46]; omega))]
      refine b373_84 ?_
      refine b373_85 ?_
      rw [if_pos (show (0 : Int) = 0 by first | omega | (simp [upS, hz, E900, E45, E46]; done) | (simp [upS, hz, E900, E45, E46]; omega))]
      refine b373_114 ?_
      try rw [if_neg (show ¬ ((59 : Int) < (-1)) by first | omega | (simp [upS, hz, E900, E45, E46]; done) | (simp [upS, hz, E900, E45, E46]; omega))]
      refine b373_129 ?_
      try rw [if_neg (show ¬ ((59 : Int) < (-1)) by first | omega | (simp [upS, hz, E900, E45, E46]; done) | (simp [upS, hz, E900, E45, E46]; omega))]
      refine b373_144 ?_
      try rw [if_neg (show ¬ ((59 : Int) < (-1)) by first | omega | (simp [upS, hz, E900, E45, E46]; done) | (simp [upS, hz, E900, E45, E46]; omega))]
      refine b373_158 ?_
      refine ⟨(show (-2147483648 : Int) ≤ (4 + 1) ∧ ((4 + 1) : Int) ≤ 2147483647 by first | omega | (simp [upS, hz, E900, E45, E46]; done) | (simp [upS, hz, E900, E45, E46]; omega)), ?_⟩
      rw [show ((4 + 1) : Int) = 5 by (first | omega | (simp [upS, hz, E900, E45, E46]; done) | (simp [upS, hz, E900, E45, E46]; omega))]
      refine b373_22 ?_
      rw [if_pos (show (5 : Int) < 6 by first | omega | (simp [upS, hz, E900, E45, E46]; done) | (simp [upS, hz, E900, E45, E46]; omega))]
      have hD100 : Dd 371 [(.inr (.inr (some 682))), (.inl a1), (.inl a2), (.inl 2)] S46 (.inl (some (.inl 0)), S46) := by
        refine b371 ?_
        refine ⟨(show -2147483648 ≤ (6 * a1) ∧ (6 * a1) ≤ 2147483647 by first | omega | (simp [upS, hz, E900, E45, E46]; done) | (simp [upS, hz, E900, E45, E46]; omega)), ?_⟩
        refine ⟨(show -2147483648 ≤ ((6 * a1) + 2) ∧ ((6 * a1) + 2) ≤ 2147483647 by first | omega | (simp [upS, hz, E900, E45, E46]; done) | (simp [upS, hz, E900, E45, E46]; omega)), ?_⟩
        refine ⟨(show 0 ≤ ((6 * a1) + 2) ∧ ((6 * a1) + 2) < 18 by first | omega | (simp [upS, hz, E900, E45, E46]; done) | (simp [upS, hz, E900, E45, E46]; omega)), ?_⟩
        refine ⟨(show ¬ ((S46 717 (((6 * a1) + 2)).toNat) = 0) → -2147483648 ≤ (6 * a2) ∧ (6 * a2) ≤ 2147483647 by (first | (intros; first | omega | (simp [upS, hz, E900, E45, E46]; done) | (simp [upS, hz, E900, E45, E46]; omega)) | (intros; simp_all [upS, hz, E900, E45, E46]; done) | (intros; simp_all [upS, hz, E900, E45, E46]; omega))), ?_⟩
        refine ⟨(show ¬ ((S46 717 (((6 * a1) + 2)).toNat) = 0) → -2147483648 ≤ ((6 * a2) + 2) ∧ ((6 * a2) + 2) ≤ 2147483647 by (first | (intros; first | omega | (simp [upS, hz, E900, E45, E46]; done) | (simp [upS, hz, E900, E45, E46]; omega)) | (intros; simp_all [upS, hz, E900, E45, E46]; done) | (intros; simp_all [upS, hz, E900, E45, E46]; omega))), ?_⟩
        refine ⟨(show ¬ ((S46 717 (((6 * a1) + 2)).toNat) = 0) → 0 ≤ ((6 * a2) + 2) ∧ ((6 * a2) + 2) < 18 by (first | (intros; first | omega | (simp [upS, hz, E900, E45, E46]; done) | (simp [upS, hz, E900, E45, E46]; omega)) | (intros; simp_all [upS, hz, E900, E45, E46]; done) | (intros; simp_all [upS, hz, E900, E45, E46]; omega))), ?_⟩
        try rw [if_pos (show (S46 717 (((6 * a1) + 2)).toNat) = 0 by first | omega | (simp [upS, hz, E900, E45, E46]; done) | (simp [upS, hz, E900, E45, E46]; omega))]
        all_goals rfl
      refine ⟨_, _, hD100, ?_⟩
      clear hD100
      rw [if_pos (show (0 : Int) = 0 by first | omega | (simp [upS, hz, E900, E45, E46]; done) | (simp [upS, hz, E900, E45, E46]; omega))]
      refine b373_84 ?_
      refine b373_85 ?_
      rw [if_pos (show (0 : Int) = 0 by first | omega | (simp [upS, hz, E900, E45, E46]; done) | (simp [upS, hz, E900, E45, E46]; omega))]
      refine b373_114 ?_
      try rw [if_neg (show ¬ ((59 : Int) < (-1)) by first | omega | (simp [upS, hz, E900, E45, E46]; done) | (simp [upS, hz, E900, E45, E46]; omega))]
      refine b373_129 ?_
      try rw [if_neg (show ¬ ((59 : Int) < (-1)) by first | omega | (simp [upS, hz, E900, E45, E46]; done) | (simp [upS, hz, E900, E45, E46]; omega))]
      refine b373_144 ?_
      try rw [if_neg (show ¬ ((59 : Int) < (-1)) by first | omega | (simp [upS, hz, E900, E45, E46]; done) | (simp [upS, hz, E900, E45, E46]; omega))]
      refine b373_158 ?_
      refine ⟨(show (-2147483648 : Int) ≤ (5 + 1) ∧ ((5 + 1) : Int) ≤ 2147483647 by first | omega | (simp [upS, hz, E900, E45, E46]; done) | (simp [upS, hz, E900, E45, E46]; omega)), ?_⟩
      rw [show ((5 + 1) : Int) = 6 by (first | omega | (simp [upS, hz, E900, E45, E46]; done) | (simp [upS, hz, E900, E45, E46]; omega))]
      refine b373_22 ?_
      rw [if_neg (show ¬ ((6 : Int) < 6) by first | omega | (simp [upS, hz, E900, E45, E46]; done) | (simp [upS, hz, E900, E45, E46]; omega))]
      refine ⟨(show (-2147483648 : Int) ≤ (2 + 1) ∧ ((2 + 1) : Int) ≤ 2147483647 by first | omega | (simp [upS, hz, E900, E45, E46]; done) | (simp [upS, hz, E900, E45, E46]; omega)), ?_⟩
      rw [show ((2 + 1) : Int) = 3 by (first | omega | (simp [upS, hz, E900, E45, E46]; done) | (simp [upS, hz, E900, E45, E46]; omega))]
      refine b373_12 ?_
      rw [if_pos (show (3 : Int) < 6 by first | omega | (simp [upS, hz, E900, E45, E46]; done) | (simp [upS, hz, E900, E45, E46]; omega))]
      refine b373_22 ?_
      rw [if_pos (show (0 : Int) < 6 by first | omega | (simp [upS, hz, E900, E45, E46]; done) | (simp [upS, hz, E900, E45, E46]; omega))]
      have hD101 : Dd 371 [(.inr (.inr (some 682))), (.inl a1), (.inl a2), (.inl 3)] S46 (.inl (some (.inl 0)), S46) := by
        refine b371 ?_
        refine ⟨(show -2147483648 ≤ (6 * a1) ∧ (6 * a1) ≤ 2147483647 by first | omega | (simp [upS, hz, E900, E45, E46]; done) | (simp [upS, hz, E900, E45, E46]; omega)), ?_⟩
        refine ⟨(show -2147483648 ≤ ((6 * a1) + 3) ∧ ((6 * a1) + 3) ≤ 2147483647 by first | omega | (simp [upS, hz, E900, E45, E46]; done) | (simp [upS, hz, E900, E45, E46]; omega)), ?_⟩
        refine ⟨(show 0 ≤ ((6 * a1) + 3) ∧ ((6 * a1) + 3) < 18 by first | omega | (simp [upS, hz, E900, E45, E46]; done) | (simp [upS, hz, E900, E45, E46]; omega)), ?_⟩
        refine ⟨(show ¬ ((S46 717 (((6 * a1) + 3)).toNat) = 0) → -2147483648 ≤ (6 * a2) ∧ (6 * a2) ≤ 2147483647 by (first | (intros; first | omega | (simp [upS, hz, E900, E45, E46]; done) | (simp [upS, hz, E900, E45, E46]; omega)) | (intros; simp_all [upS, hz, E900, E45, E46]; done) | (intros; simp_all [upS, hz, E900, E45, E46]; omega))), ?_⟩
        refine ⟨(show ¬ ((S46 717 (((6 * a1) + 3)).toNat) = 0) → -2147483648 ≤ ((6 * a2) + 3) ∧ ((6 * a2) + 3) ≤ 2147483647 by (first | (intros; first | omega | (simp [upS, hz, E900, E45, E46]; done) | (simp [upS, hz, E900, E45, E46]; omega)) | (intros; simp_all [upS, hz, E900, E45, E46]; done) | (intros; simp_all [upS, hz, E900, E45, E46]; omega))), ?_⟩
        refine ⟨(show ¬ ((S46 717 (((6 * a1) + 3)).toNat) = 0) → 0 ≤ ((6 * a2) + 3) ∧ ((6 * a2) + 3) < 18 by (first | (intros; first | omega | (simp [upS, hz, E900, E45, E46]; done) | (simp [upS, hz, E900, E45, E46]; omega)) | (intros; simp_all [upS, hz, E900, E45, E46]; done) | (intros; simp_all [upS, hz, E900, E45, E46]; omega))), ?_⟩
        try rw [if_pos (show (S46 717 (((6 * a1) + 3)).toNat) = 0 by first | omega | (simp [upS, hz, E900, E45, E46]; done) | (simp [upS, hz, E900, E45, E46]; omega))]
        all_goals rfl
      refine ⟨_, _, hD101, ?_⟩
      clear hD101
      rw [if_pos (show (0 : Int) = 0 by first | omega | (simp [upS, hz, E900, E45, E46]; done) | (simp [upS, hz, E900, E45, E46]; omega))]
      refine b373_84 ?_
      refine b373_85 ?_
      rw [if_pos (show (0 : Int) = 0 by first | omega | (simp [upS, hz, E900, E45, E46]; done) | (simp [upS, hz, E900, E45, E46]; omega))]
      refine b373_114 ?_
      try rw [if_neg (show ¬ ((59 : Int) < (-1)) by first | omega | (simp [upS, hz, E900, E45, E46]; done) | (simp [upS, hz, E900, E45, E46]; omega))]
      refine b373_129 ?_
      try rw [if_neg (show ¬ ((59 : Int) < (-1)) by first | omega | (simp [upS, hz, E900, E45, E46]; done) | (simp [upS, hz, E900, E45, E46]; omega))]
      refine b373_144 ?_
      try rw [if_neg (show ¬ ((59 : Int) < (-1)) by first | omega | (simp [upS, hz, E900, E45, E46]; done) | (simp [upS, hz, E900, E45, E46]; omega))]
      refine b373_158 ?_
      refine ⟨(show (-2147483648 : Int) ≤ (0 + 1) ∧ ((0 + 1) : Int) ≤ 2147483647 by first | omega | (simp [upS, hz, E900, E45, E46]; done) | (simp [upS, hz, E900, E45, E46]; omega)), ?_⟩
      rw [show ((0 + 1) : Int) = 1 by (first | omega | (simp [upS, hz, E900, E45, E46]; done) | (simp [upS, hz, E900, E45, E46]; omega))]
      refine b373_22 ?_
      rw [if_pos (show (1 : Int) < 6 by first | omega | (simp [upS, hz, E900, E45, E46]; done) | (simp [upS, hz, E900, E45, E46]; omega))]
      have hD102 : Dd 371 [(.inr (.inr (some 682))), (.inl a1), (.inl a2), (.inl 3)] S46 (.inl (some (.inl 0)), S46) := by
        refine b371 ?_
        refine ⟨(show -2147483648 ≤ (6 * a1) ∧ (6 * a1) ≤ 2147483647 by first | omega | (simp [upS, hz, E900, E45, E46]; done) | (simp [upS, hz, E900, E45, E46]; omega)), ?_⟩
        refine ⟨(show -2147483648 ≤ ((6 * a1) + 3) ∧ ((6 * a1) + 3) ≤ 2147483647 by first | omega | (simp [upS, hz, E900, E45, E46]; done) | (simp [upS, hz, E900, E45, E46]; omega)), ?_⟩
        refine ⟨(show 0 ≤ ((6 * a1) + 3) ∧ ((6 * a1) + 3) < 18 by first | omega | (simp [upS, hz, E900, E45, E46]; done) | (simp [upS, hz, E900, E45, E46]; omega)), ?_⟩
        refine ⟨(show ¬ ((S46 717 (((6 * a1) + 3)).toNat) = 0) → -2147483648 ≤ (6 * a2) ∧ (6 * a2) ≤ 2147483647 by (first | (intros; first | omega | (simp [upS, hz, E900, E45, E46]; done) | (simp [upS, hz, E900, E45, E46]; omega)) | (intros; simp_all [upS, hz, E900, E45, E46]; done) | (intros; simp_all [upS, hz, E900, E45, E46]; omega))), ?_⟩
        refine ⟨(show ¬ ((S46 717 (((6 * a1) + 3)).toNat) = 0) → -2147483648 ≤ ((6 * a2) + 3) ∧ ((6 * a2) + 3) ≤ 2147483647 by (first | (intros; first | omega | (simp [upS, hz, E900, E45, E46]; done) | (simp [upS, hz, E900, E45, E46]; omega)) | (intros; simp_all [upS, hz, E900, E45, E46]; done) | (intros; simp_all [upS, hz, E900, E45, E46]; omega))), ?_⟩
        refine ⟨(show ¬ ((S46 717 (((6 * a1) + 3)).toNat) = 0) → 0 ≤ ((6 * a2) + 3) ∧ ((6 * a2) + 3) < 18 by (first | (intros; first | omega | (simp [upS, hz, E900, E45, E46]; done) | (simp [upS, hz, E900, E45, E46]; omega)) | (intros; simp_all [upS, hz, E900, E45, E46]; done) | (intros; simp_all [upS, hz, E900, E45, E46]; omega))), ?_⟩
        try rw [if_pos (show (S46 717 (((6 * a1) + 3)).toNat) = 0 by first | omega | (simp [upS, hz, E900, E45, E46]; done) | (simp [upS, hz, E900, E45, E46]; omega))]
        all_goals rfl
      refine ⟨_, _, hD102, ?_⟩
      clear hD102
      rw [if_pos (show (0 : Int) = 0 by first | omega | (simp [upS, hz, E900, E45, E46]; done) | (simp [upS, hz, E900, E45, E46]; omega))]
      refine b373_84 ?_
      refine b373_85 ?_
      rw [if_pos (show (0 : Int) = 0 by first | omega | (simp [upS, hz, E900, E45, E46]; done) | (simp [upS, hz, E900, E45, E46]; omega))]
      refine b373_114 ?_
      try rw [if_neg (show ¬ ((59 : Int) < (-1)) by first | omega | (simp [upS, hz, E900, E45, E46]; done) | (simp [upS, hz, E900, E45, E46]; omega))]
      refine b373_129 ?_
      try rw [if_neg (show ¬ ((59 : Int) < (-1)) by first | omega | (simp [upS, hz, E900, E45, E46]; done) | (simp [upS, hz, E900, E45, E46]; omega))]
      refine b373_144 ?_
      try rw [if_neg (show ¬ ((59 : Int) < (-1)) by first | omega | (simp [upS, hz, E900, E45, E46]; done) | (simp [upS, hz, E900, E45, E46]; omega))]
      refine b373_158 ?_
      refine ⟨(show (-2147483648 : Int) ≤ (1 + 1) ∧ ((1 + 1) : Int) ≤ 2147483647 by first | omega | (simp [upS, hz, E900, E45, E46]; done) | (simp [upS, hz, E900, E45, E46]; omega)), ?_⟩
      rw [show ((1 + 1) : Int) = 2 by (first | omega | (simp [upS, hz, E900, E45, E46]; done) | (simp [upS, hz, E900, E45, E46]; omega))]
      refine b373_22 ?_
      rw [if_pos (show (2 : Int) < 6 by first | omega | (simp [upS, hz, E900, E45, E46]; done) | (simp [upS, hz, E900, E45, E46]; omega))]
      have hD103 : Dd 371 [(.inr (.inr (some 682))), (.inl a1), (.inl a2), (.inl 3)] S46 (.inl (some (.inl 0)), S46) := by
        refine b371 ?_
        refine ⟨(show -2147483648 ≤ (6 * a1) ∧ (6 * a1) ≤ 2147483647 by first | omega | (simp [upS, hz, E900, E45, E46]; done) | (simp [upS, hz, E900, E45, E46]; omega)), ?_⟩
        refine ⟨(show -2147483648 ≤ ((6 * a1) + 3) ∧ ((6 * a1) + 3) ≤ 2147483647 by first | omega | (simp [upS, hz, E900, E45, E46]; done) | (simp [upS, hz, E900, E45, E46]; omega)), ?_⟩
        refine ⟨(show 0 ≤ ((6 * a1) + 3) ∧ ((6 * a1) + 3) < 18 by first | omega | (simp [upS, hz, E900, E45, E46]; done) | (simp [upS, hz, E900, E45, E46]; omega)), ?_⟩
        refine ⟨(show ¬ ((S46 717 (((6 * a1) + 3)).toNat) = 0) → -2147483648 ≤ (6 * a2) ∧ (6 * a2) ≤ 2147483647 by (first | (intros; first | omega | (simp [upS, hz, E900, E45, E46]; done) | (simp [upS, hz, E900, E45, E46]; omega)) | (intros; simp_all [upS, hz, E900, E45, E46]; done) | (intros; simp_all [upS, hz, E900, E45, E46]; omega))), ?_⟩
        refine ⟨(show ¬ ((S46 717 (((6 * a1) + 3)).toNat) = 0) → -2147483648 ≤ ((6 * a2) + 3) ∧ ((6 * a2) + 3) ≤ 2147483647 by (first | (intros; first | omega | (simp [upS, hz, E900, E45, E46]; done) | (simp [upS, hz, E900, E45, E46]; omega)) | (intros; simp_all [upS, hz, E900, E45, E46]; done) | (intros; simp_all [upS, hz, E900, E45, E46]; omega))), ?_⟩
        refine ⟨(show ¬ ((S46 717 (((6 * a1) + 3)).toNat) = 0) → 0 ≤ ((6 * a2) + 3) ∧ ((6 * a2) + 3) < 18 by (first | (intros; first | omega | (simp [upS, hz, E900, E45, E46]; done) | (simp [upS, hz, E900, E45, E46]; omega)) | (intros; simp_all [upS, hz, E900, E45, E46]; done) | (intros; simp_all [upS, hz, E900, E45, E46]; omega))), ?_⟩
        try rw [if_pos (show (S46 717 (((6 * a1) + 3)).toNat) = 0 by first | omega | (simp [upS, hz, E900, E45, E46]; done) | (simp [upS, hz, E900, E45, E46]; omega))]
        all_goals rfl
      refine ⟨_, _, hD103, ?_⟩
      clear hD103
      rw [if_pos (show (0 : Int) = 0 by first | omega | (simp [upS, hz, E900, E45, E46]; done) | (simp [upS, hz, E900, E45, E46]; omega))]
      refine b373_84 ?_
      refine b373_85 ?_
      rw [if_pos (show (0 : Int) = 0 by first | omega | (simp [upS, hz, E900, E45, E46]; done) | (simp [upS, hz, E900, E45, E46]; omega))]
      refine b373_114 ?_
      try rw [if_neg (show ¬ ((59 : Int) < (-1)) by first | omega | (simp [upS, hz, E900, E45, E46]; done) | (simp [upS, hz, E900, E45, E46]; omega))]
      refine b373_129 ?_
      try rw [if_neg (show ¬ ((59 : Int) < (-1)) by first | omega | (simp [upS, hz, E900, E45, E46]; done) | (simp [upS, hz, E900, E45, E46]; omega))]
      refine b373_144 ?_
      try rw [if_neg (show ¬ ((59 : Int) < (-1)) by first | omega | (simp [upS, hz, E900, E45, E46]; done) | (simp [upS, hz, E900, E45, E46]; omega))]
      refine b373_158 ?_
      refine ⟨(show (-2147483648 : Int) ≤ (2 + 1) ∧ ((2 + 1) : Int) ≤ 2147483647 by first | omega | (simp [upS, hz, E900, E45, E46]; done) | (simp [upS, hz, E900, E45, E46]; omega)), ?_⟩
      rw [show ((2 + 1) : Int) = 3 by (first | omega | (simp [upS, hz, E900, E45, E46]; done) | (simp [upS, hz, E900, E45, E46]; omega))]
      refine b373_22 ?_
      rw [if_pos (show (3 : Int) < 6 by first | omega | (simp [upS, hz, E900, E45, E46]; done) | (simp [upS, hz, E900, E45, E46]; omega))]
      have hD104 : Dd 371 [(.inr (.inr (some 682))), (.inl a1), (.inl a2), (.inl 3)] S46 (.inl (some (.inl 0)), S46) := by
        refine b371 ?_
        refine ⟨(show -2147483648 ≤ (6 * a1) ∧ (6 * a1) ≤ 2147483647 by first | omega | (simp [upS, hz, E900, E45, E46]; done) | (simp [upS, hz, E900, E45, E46]; omega)), ?_⟩
        refine ⟨(show -2147483648 ≤ ((6 * a1) + 3) ∧ ((6 * a1) + 3) ≤ 2147483647 by first | omega | (simp [upS, hz, E900, E45, E46]; done) | (simp [upS, hz, E900, E45, E46]; omega)), ?_⟩
        refine ⟨(show 0 ≤ ((6 * a1) + 3) ∧ ((6 * a1) + 3) < 18 by first | omega | (simp [upS, hz, E900, E45, E46]; done) | (simp [upS, hz, E900, E45, E46]; omega)), ?_⟩
        refine ⟨(show ¬ ((S46 717 (((6 * a1) + 3)).toNat) = 0) → -2147483648 ≤ (6 * a2) ∧ (6 * a2) ≤ 2147483647 by (first | (intros; first | omega | (simp [upS, hz, E900, E45, E46]; done) | (simp [upS, hz, E900, E45, E46]; omega)) | (intros; simp_all [upS, hz, E900, E45, E46]; done) | (intros; simp_all [upS, hz, E900, E45, E46]; omega))), ?_⟩
        refine ⟨(show ¬ ((S46 717 (((6 * a1) + 3)).toNat) = 0) → -2147483648 ≤ ((6 * a2) + 3) ∧ ((6 * a2) + 3) ≤ 2147483647 by (first | (intros; first | omega | (simp [upS, hz, E900, E45, E46]; done) | (simp [upS, hz, E900, E45, E46]; omega)) | (intros; simp_all [upS, hz, E900, E45, E46]; done) | (intros; simp_all [upS, hz, E900, E45, E46]; omega))), ?_⟩
        refine ⟨(show ¬ ((S46 717 (((6 * a1) + 3)).toNat) = 0) → 0 ≤ ((6 * a2) + 3) ∧ ((6 * a2) + 3) < 18 by (first | (intros; first | omega | (simp [upS, hz, E900, E45, E46]; done) | (simp [upS, hz, E900, E45, E46]; omega)) | (intros; simp_all [upS, hz, E900, E45, E46]; done) | (intros; simp_all [upS, hz, E900, E45, E46]; omega))), ?_⟩
        try rw [if_pos (show (S46 717 (((6 * a1) + 3)).toNat) = 0 by first | omega | (simp [upS, hz, E900, E45, E46]; done) | (simp [upS, hz, E900, E45, E46]; omega))]
        all_goals rfl
      refine ⟨_, _, hD104, ?_⟩
      clear hD104
      rw [if_pos (show (0 : Int) = 0 by first | omega | (simp [upS, hz, E900, E45, E46]; done) | (simp [upS, hz, E900, E45, E46]; omega))]
      refine b373_84 ?_
      refine b373_85 ?_
      rw [if_pos (show (0 : Int) = 0 by first | omega | (simp [upS, hz, E900, E45, E46]; done) | (simp [upS, hz, E900, E45, E46]; omega))]
      refine b373_114 ?_
      try rw [if_neg (show ¬ ((59 : Int) < (-1)) by first | omega | (simp [upS, hz, E900, E45, E46]; done) | (simp [upS, hz, E900, E45, E46]; omega))]
      refine b373_129 ?_
      try rw [if_neg (show ¬ ((59 : Int) < (-1)) by first | omega | (simp [upS, hz, E900, E45, E46]; done) | (simp [upS, hz, E900, E45, E46]; omega))]
      refine b373_144 ?_
      try rw [if_neg (show ¬ ((59 : Int) < (-1)) by first | omega | (simp [upS, hz, E900, E45, E46]; done) | (simp [upS, hz, E900, E45, E46]; omega))]
      refine b373_158 ?_
      refine ⟨(show (-2147483648 : Int) ≤ (3 + 1) ∧ ((3 + 1) : Int) ≤ 2147483647 by first | omega | (simp [upS, hz, E900, E45, E46]; done) | (simp [upS, hz, E900, E45, E46]; omega)), ?_⟩
      rw [show ((3 + 1) : Int) = 4 by (first | omega | (simp [upS, hz, E900, E45, E46]; done) | (simp [upS, hz, E900, E45, E46]; omega))]
      refine b373_22 ?_
      rw [if_pos (show (4 : Int) < 6 by first | omega | (simp [upS, hz, E900, E45, E46]; done) | (simp [upS, hz, E900, E45, E46]; omega))]
      have hD105 : Dd 371 [(.inr (.inr (some 682))), (.inl a1), (.inl a2), (.inl 3)] S46 (.inl (some (.inl 0)), S46) := by
        refine b371 ?_
        refine ⟨(show -2147483648 ≤ (6 * a1) ∧ (6 * a1) ≤ 2147483647 by first | omega | (simp [upS, hz, E900, E45, E46]; done) | (simp [upS, hz, E900, E45, E46]; omega)), ?_⟩
        refine ⟨(show -2147483648 ≤ ((6 * a1) + 3) ∧ ((6 * a1) + 3) ≤ 2147483647 by first | omega | (simp [upS, hz, E900, E45, E46]; done) | (simp [upS, hz, E900, E45, E46]; omega)), ?_⟩
        refine ⟨(show 0 ≤ ((6 * a1) + 3) ∧ ((6 * a1) + 3) < 18 by first | omega | (simp [upS, hz, E900, E45, E46]; done) | (simp [upS, hz, E900, E45, E46]; omega)), ?_⟩
        refine ⟨(show ¬ ((S46 717 (((6 * a1) + 3)).toNat) = 0) → -2147483648 ≤ (6 * a2) ∧ (6 * a2) ≤ 2147483647 by (first | (intros; first | omega | (simp [upS, hz, E900, E45, E46]; done) | (simp [upS, hz, E900, E45, E46]; omega)) | (intros; simp_all [upS, hz, E900, E45, E46]; done) | (intros; simp_all [upS, hz, E900, E45, E46]; omega))), ?_⟩
        refine ⟨(show ¬ ((S46 717 (((6 * a1) + 3)).toNat) = 0) → -2147483648 ≤ ((6 * a2) + 3) ∧ ((6 * a2) + 3) ≤ 2147483647 by (first | (intros; first | omega | (simp [upS, hz, E900, E45, E46]; done) | (simp [upS, hz, E900, E45, E46]; omega)) | (intros; simp_all [upS, hz, E900, E45, E46]; done) | (intros; simp_all [upS, hz, E900, E45, E46]; omega))), ?_⟩
        refine ⟨(show ¬ ((S46 717 (((6 * a1) + 3)).toNat) = 0) → 0 ≤ ((6 * a2) + 3) ∧ ((6 * a2) + 3) < 18 by (first | (intros; first | omega | (simp [upS, hz, E900, E45, E46]; done) | (simp [upS, hz, E900, E45, E46]; omega)) | (intros; simp_all [upS, hz, E900, E45, E46]; done) | (intros; simp_all [upS, hz, E900, E45, E46]; omega))), ?_⟩
        try rw [if_pos (show (S46 717 (((6 * a1) + 3)).toNat) = 0 by first | omega | (simp [upS, hz, E900, E45, E46]; done) | (simp [upS, hz, E900, E45, E46]; omega))]
        all_goals rfl
      refine ⟨_, _, hD105, ?_⟩
      clear hD105
      rw [if_pos (show (0 : Int) = 0 by first | omega | (simp [upS, hz, E900, E45, E46]; done) | (simp [upS, hz, E900, E45, E46]; omega))]
      refine b373_84 ?_
      refine b373_85 ?_
      rw [if_pos (show (0 : Int) = 0 by first | omega | (simp [upS, hz, E900, E45, E46]; done) | (simp [upS, hz, E900, E45, E46]; omega))]
      refine b373_114 ?_
      try rw [if_neg (show ¬ ((59 : Int) < (-1)) by first | omega | (simp [upS, hz, E900, E45, E46]; done) | (simp [upS, hz, E900, E45, E46]; omega))]
      refine b373_129 ?_
      try rw [if_neg (show ¬ ((59 : Int) < (-1)) by first | omega | (simp [upS, hz, E900, E45, E46]; done) | (simp [upS, hz, E900, E45, E46]; omega))]
      refine b373_144 ?_
      try rw [if_neg (show ¬ ((59 : Int) < (-1)) by first | omega | (simp [upS, hz, E900, E45, E46]; done) | (simp [upS, hz, E900, E45, E46]; omega))]
      refine b373_158 ?_
      refine ⟨(show (-2147483648 : Int) ≤ (4 + 1) ∧ ((4 + 1) : Int) ≤ 2147483647 by first | omega | (simp [upS, hz, E900, E45, E46]; done) | (simp [upS, hz, E900, E45, E46]; omega)), ?_⟩
      rw [show ((4 + 1) : Int) = 5 by (first | omega | (simp [upS, hz, E900, E45, E46]; done) | (simp [upS, hz, E900, E45, E46]; omega))]
      refine b373_22 ?_
      rw [if_pos (show (5 : Int) < 6 by first | omega | (simp [upS, hz, E900, E45, E46]; done) | (simp [upS, hz, E900, E45, E46]; omega))]
      have hD106 : Dd 371 [(.inr (.inr (some 682))), (.inl a1), (.inl a2), (.inl 3)] S46 (.inl (some (.inl 0)), S46) := by
        refine b371 ?_
        refine ⟨(show -2147483648 ≤ (6 * a1) ∧ (6 * a1) ≤ 2147483647 by first | omega | (simp [upS, hz, E900, E45, E46]; done) | (simp [upS, hz, E900, E45, E46]; omega)), ?_⟩
        refine ⟨(show -2147483648 ≤ ((6 * a1) + 3) ∧ ((6 * a1) + 3) ≤ 2147483647 by first | omega | (simp [upS, hz, E900, E45, E46]; done) | (simp [upS, hz, E900, E45, E46]; omega)), ?_⟩
        refine ⟨(show 0 ≤ ((6 * a1) + 3) ∧ ((6 * a1) + 3) < 18 by first | omega | (simp [upS, hz, E900, E45, E46]; done) | (simp [upS, hz, E900, E45, E46]; omega)), ?_⟩
        refine ⟨(show ¬ ((S46 717 (((6 * a1) + 3)).toNat) = 0) → -2147483648 ≤ (6 * a2) ∧ (6 * a2) ≤ 2147483647 by (first | (intros; first | omega | (simp [upS, hz, E900, E45, E46]; done) | (simp [upS, hz, E900, E45, E46]; omega)) | (intros; simp_all [upS, hz, E900, E45, E46]; done) | (intros; simp_all [upS, hz, E900, E45, E46]; omega))), ?_⟩
        refine ⟨(show ¬ ((S46 717 (((6 * a1) + 3)).toNat) = 0) → -2147483648 ≤ ((6 * a2) + 3) ∧ ((6 * a2) + 3) ≤ 2147483647 by (first | (intros; first | omega | (simp [upS, hz, E900, E45, E46]; done) | (simp [upS, hz, E900, E45, E46]; omega)) | (intros; simp_all [upS, hz, E900, E45, E46]; done) | (intros; simp_all [upS, hz, E900, E45, E46]; omega))), ?_⟩
        refine ⟨(show ¬ ((S46 717 (((6 * a1) + 3)).toNat) = 0) → 0 ≤ ((6 * a2) + 3) ∧ ((6 * a2) + 3) < 18 by (first | (intros; first | omega | (simp [upS, hz, E900, E45, E46]; done) | (simp [upS, hz, E900, E45, E46]; omega)) | (intros; simp_all [upS, hz, E900, E45, E46]; done) | (intros; simp_all [upS, hz, E900, E45, E46]; omega))), ?_⟩
        try rw [if_pos (show (S46 717 (((6 * a1) + 3)).toNat) = 0 by first | omega | (simp [upS, hz, E900, E45, E46]; done) | (simp [upS, hz, E900, E45, E46]; omega))]
        all_goals rfl
      refine ⟨_, _, hD106, ?_⟩
      clear hD106
      rw [if_pos (show (0 : Int) = 0 by first | omega | (simp [upS, hz, E900, E45, E46]; done) | (simp [upS, hz, E900, E45, E46]; omega))]
      refine b373_84 ?_
      refine b373_85 ?_
      rw [if_pos (show (0 : Int) = 0 by first | omega | (simp [upS, hz, E900, E45, E46]; done) | (simp [upS, hz, E900, E45, E46]; omega))]
      refine b373_114 ?_
      try rw [if_neg (show ¬ ((59 : Int) < (-1)) by first | omega | (simp [upS, hz, E900, E45, E46]; done) | (simp [upS, hz, E900, E45, E46]; omega))]
      refine b373_129 ?_
      try rw [if_neg (show ¬ ((59 : Int) < (-1)) by first | omega | (simp [upS, hz, E900, E45, E46]; done) | (simp [upS, hz, E900, E45, E46]; omega))]
      refine b373_144 ?_
      try rw [if_neg (show ¬ ((59 : Int) < (-1)) by first | omega | (simp [upS, hz, E900, E45, E46]; done) | (simp [upS, hz, E900, E45, E46]; omega))]
      refine b373_158 ?_
      refine ⟨(show (-2147483648 : Int) ≤ (5 + 1) ∧ ((5 + 1) : Int) ≤ 2147483647 by first | omega | (simp [upS, hz, E900, E45, E46]; done) | (simp [upS, hz, E900, E45, E46]; omega)), ?_⟩
      rw [show ((5 + 1) : Int) = 6 by (first | omega | (simp [upS, hz, E900, E45, E46]; done) | (simp [upS, hz, E900, E45, E46]; omega))]
      refine b373_22 ?_
      rw [if_neg (show ¬ ((6 : Int) < 6) by first | omega | (simp [upS, hz, E900, E45, E46]; done) | (simp [upS, hz, E900, E45, E46]; omega))]
      refine ⟨(show (-2147483648 : Int) ≤ (3 + 1) ∧ ((3 + 1) : Int) ≤ 2147483647 by first | omega | (simp [upS, hz, E900, E45, E46]; done) | (simp [upS, hz, E900, E45, E46]; omega)), ?_⟩
      rw [show ((3 + 1) : Int) = 4 by (first | omega | (simp [upS, hz, E900, E45, E46]; done) | (simp [upS, hz, E900, E45, E46]; omega))]
      refine b373_12 ?_
      rw [if_pos (show (4 : Int) < 6 by first | omega | (simp [upS, hz, E900, E45, E46]; done) | (simp [upS, hz, E900, E45, E46]; omega))]
      refine b373_22 ?_
      rw [if_pos (show (0 : Int) < 6 by first | omega | (simp [upS, hz, E900, E45, E46]; done) | (simp [upS, hz, E900, E45, E46]; omega))]
      have hD107 : Dd 371 [(.inr (.inr (some 682))), (.inl a1), (.inl a2), (.inl 4)] S46 (.inl (some (.inl 0)), S46) := by
        refine b371 ?_
        refine ⟨(show -2147483648 ≤ (6 * a1) ∧ (6 * a1) ≤ 2147483647 by first | omega | (simp [upS, hz, E900, E45, E46]; done) | (simp [upS, hz, E900, E45, E46]; omega)), ?_⟩
        refine ⟨(show -2147483648 ≤ ((6 * a1) + 4) ∧ ((6 * a1) + 4) ≤ 2147483647 by first | omega | (simp [upS, hz, E900, E45, E46]; done) | (simp [upS, hz, E900, E45, E46]; omega)), ?_⟩
        refine ⟨(show 0 ≤ ((6 * a1) + 4) ∧ ((6 * a1) + 4) < 18 by first | omega | (simp [upS, hz, E900, E45, E46]; done) | (simp [upS, hz, E900, E45, E46]; omega)), ?_⟩
        refine ⟨(show ¬ ((S46 717 (((6 * a1) + 4)).toNat) = 0) → -2147483648 ≤ (6 * a2) ∧ (6 * a2) ≤ 2147483647 by (first | (intros; first | omega | (simp [upS, hz, E900, E45, E46]; done) | (simp [upS, hz, E900, E45, E46]; omega)) | (intros; simp_all [upS, hz, E900, E45, E46]; done) | (intros; simp_all [upS, hz, E900, E45, E46]; omega))), ?_⟩
        refine ⟨(show ¬ ((S46 717 (((6 * a1) + 4)).toNat) = 0) → -2147483648 ≤ ((6 * a2) + 4) ∧ ((6 * a2) + 4) ≤ 2147483647 by (first | (intros; first | omega | (simp [upS, hz, E900, E45, E46]; done) | (simp [upS, hz, E900, E45, E46]; omega)) | (intros; simp_all [upS, hz, E900, E45, E46]; done) | (intros; simp_all [upS, hz, E900, E45, E46]; omega))), ?_⟩
        refine ⟨(show ¬ ((S46 717 (((6 * a1) + 4)).toNat) = 0) → 0 ≤ ((6 * a2) + 4) ∧ ((6 * a2) + 4) < 18 by (first | (intros; first | omega | (simp [upS, hz, E900, E45, E46]; done) | (simp [upS, hz, E900, E45, E46]; omega)) | (intros; simp_all [upS, hz, E900, E45, E46]; done) | (intros; simp_all [upS, hz, E900, E45, E46]; omega))), ?_⟩
        try rw [if_pos (show (S46 717 (((6 * a1) + 4)).toNat) = 0 by first | omega | (simp [upS, hz, E900, E45, E46]; done) | (simp [upS, hz, E900, E45, E46]; omega))]
        all_goals rfl
      refine ⟨_, _, hD107, ?_⟩
      clear hD107
      rw [if_pos (show (0 : Int) = 0 by first | omega | (simp [upS, hz, E900, E45, E46]; done) | (simp [upS, hz, E900, E45, E46]; omega))]
      refine b373_84 ?_
      refine b373_85 ?_
      rw [if_pos (show (0 : Int) = 0 by first | omega | (simp [upS, hz, E900, E45, E46]; done) | (simp [upS, hz, E900, E45, E46]; omega))]
      refine b373_114 ?_
      try rw [if_neg (show ¬ ((59 : Int) < (-1)) by first | omega | (simp [upS, hz, E900, E45, E46]; done) | (simp [upS, hz, E900, E45, E46]; omega))]
      refine b373_129 ?_
      try rw [if_neg (show ¬ ((59 : Int) < (-1)) by first | omega | (simp [upS, hz, E900, E45, E46]; done) | (simp [upS, hz, E900, E45, E46]; omega))]
      refine b373_144 ?_
      try rw [if_neg (show ¬ ((59 : Int) < (-1)) by first | omega | (simp [upS, hz, E900, E45, E46]; done) | (simp [upS, hz, E900, E45, E46]; omega))]
      refine b373_158 ?_
      refine ⟨(show (-2147483648 : Int) ≤ (0 + 1) ∧ ((0 + 1) : Int) ≤ 2147483647 by first | omega | (simp [upS, hz, E900, E45, E46]; done) | (simp [upS, hz, E900, E45, E46]; omega)), ?_⟩
      rw [show ((0 + 1) : Int) = 1 by (first | omega | (simp [upS, hz, E900, E45, E46]; done) | (simp [upS, hz, E900, E45, E46]; omega))]
      refine b373_22 ?_
      rw [if_pos (show (1 : Int) < 6 by first | omega | (simp [upS, hz, E900, E45, E46]; done) | (simp [upS, hz, E900, E45, E46]; omega))]
      have hD108 : Dd 371 [(.inr (.inr (some 682))), (.inl a1), (.inl a2), (.inl 4)] S46 (.inl (some (.inl 0)), S46) := by
        refine b371 ?_
        refine ⟨(show -2147483648 ≤ (6 * a1) ∧ (6 * a1) ≤ 2147483647 by first | omega | (simp [upS, hz, E900, E45, E46]; done) | (simp [upS, hz, E900, E45, E46]; omega)), ?_⟩
        refine ⟨(show -2147483648 ≤ ((6 * a1) + 4) ∧ ((6 * a1) + 4) ≤ 2147483647 by first | omega | (simp [upS, hz, E900, E45, E46]; done) | (simp [upS, hz, E900, E45, E46]; omega)), ?_⟩
        refine ⟨(show 0 ≤ ((6 * a1) + 4) ∧ ((6 * a1) + 4) < 18 by first | omega | (simp [upS, hz, E900, E45, E46]; done) | (simp [upS, hz, E900, E45, E46]; omega)), ?_⟩
        refine ⟨(show ¬ ((S46 717 (((6 * a1) + 4)).toNat) = 0) → -2147483648 ≤ (6 * a2) ∧ (6 * a2) ≤ 2147483647 by (first | (intros; first | omega | (simp [upS, hz, E900, E45, E46]; done) | (simp [upS, hz, E900, E45, E46]; omega)) | (intros; simp_all [upS, hz, E900, E45, E46]; done) | (intros; simp_all [upS, hz, E900, E45, E46]; omega))), ?_⟩
        refine ⟨(show ¬ ((S46 717 (((6 * a1) + 4)).toNat) = 0) → -2147483648 ≤ ((6 * a2) + 4) ∧ ((6 * a2) + 4) ≤ 2147483647 by (first | (intros; first | omega | (simp [upS, hz, E900, E45, E46]; done) | (simp [upS, hz, E900, E45, E46]; omega)) | (intros; simp_all [upS, hz, E900, E45, E46]; done) | (intros; simp_all [upS, hz, E900, E45, E46]; omega))), ?_⟩
        refine ⟨(show ¬ ((S46 717 (((6 * a1) + 4)).toNat) = 0) → 0 ≤ ((6 * a2) + 4) ∧ ((6 * a2) + 4) < 18 by (first | (intros; first | omega | (simp [upS, hz, E900, E45, E46]; done) | (simp [upS, hz, E900, E45, E46]; omega)) | (intros; simp_all [upS, hz, E900, E45, E46]; done) | (intros; simp_all [upS, hz, E900, E45, E46]; omega))), ?_⟩
        try rw [if_pos (show (S46 717 (((6 * a1) + 4)).toNat) = 0 by first | omega | (simp [upS, hz, E900, E45, E46]; done) | (simp [upS, hz, E900, E45, E46]; omega))]
        all_goals rfl
      refine ⟨_, _, hD108, ?_⟩
      clear hD108
      rw [if_pos (show (0 : Int) = 0 by first | omega | (simp [upS, hz, E900, E45, E46]; done) | (simp [upS, hz, E900, E45, E46]; omega))]
      refine b373_84 ?_
      refine b373_85 ?_
      rw [if_pos (show (0 : Int) = 0 by first | omega | (simp [upS, hz, E900, E45, E46]; done) | (simp [upS, hz, E900, E45, E46]; omega))]
      refine b373_114 ?_
      try rw [if_neg (show ¬ ((59 : Int) < (-1)) by first | omega | (simp [upS, hz, E900, E45, E46]; done) | (simp [upS, hz, E900, E45, E46]; omega))]
      refine b373_129 ?_
      try rw [if_neg (show ¬ ((59 : Int) < (-1)) by first | omega | (simp [upS, hz, E900, E45, E46]; done) | (simp [upS, hz, E900, E45, E46]; omega))]
      refine b373_144 ?_
      try rw [if_neg (show ¬ ((59 : Int) < (-1)) by first | omega | (simp [upS, hz, E900, E45, E46]; done) | (simp [upS, hz, E900, E45, E46]; omega))]
      refine b373_158 ?_
      refine ⟨(show (-2147483648 : Int) ≤ (1 + 1) ∧ ((1 + 1) : Int) ≤ 2147483647 by first | omega | (simp [upS, hz, E900, E45, E46]; done) | (simp [upS, hz, E900, E45, E46]; omega)), ?_⟩
      rw [show ((1 + 1) : Int) = 2 by (first | omega | (simp [upS, hz, E900, E45, E46]; done) | (simp [upS, hz, E900, E45, E46]; omega))]
      refine b373_22 ?_
      rw [if_pos (show (2 : Int) < 6 by first | omega | (simp [upS, hz, E900, E45, E46]; done) | (simp [upS, hz, E900, E45, E46]; omega))]
      have hD109 : Dd 371 [(.inr (.inr (some 682))), (.inl a1), (.inl a2), (.inl 4)] S46 (.inl (some (.inl 0)), S46) := by
        refine b371 ?_
        refine ⟨(show -2147483648 ≤ (6 * a1) ∧ (6 * a1) ≤ 2147483647 by first | omega | (simp [upS, hz, E900, E45, E46]; done) | (simp [upS, hz, E900, E45, E46]; omega)), ?_⟩
        refine ⟨(show -2147483648 ≤ ((6 * a1) + 4) ∧ ((6 * a1) + 4) ≤ 2147483647 by first | omega | (simp [upS, hz, E900, E45, E46]; done) | (simp [upS, hz, E900, E45, E46]; omega)), ?_⟩
        refine ⟨(show 0 ≤ ((6 * a1) + 4) ∧ ((6 * a1) + 4) < 18 by first | omega | (simp [upS, hz, E900, E45, E46]; done) | (simp [upS, hz, E900, E45, E46]; omega)), ?_⟩
        refine ⟨(show ¬ ((S46 717 (((6 * a1) + 4)).toNat) = 0) → -2147483648 ≤ (6 * a2) ∧ (6 * a2) ≤ 2147483647 by (first | (intros; first | omega | (simp [upS, hz, E900, E45, E46]; done) | (simp [upS, hz, E900, E45, E46]; omega)) | (intros; simp_all [upS, hz, E900, E45, E46]; done) | (intros; simp_all [upS, hz, E900, E45, E46]; omega))), ?_⟩
        refine ⟨(show ¬ ((S46 717 (((6 * a1) + 4)).toNat) = 0) → -2147483648 ≤ ((6 * a2) + 4) ∧ ((6 * a2) + 4) ≤ 2147483647 by (first | (intros; first | omega | (simp [upS, hz, E900, E45, E46]; done) | (simp [upS, hz, E900, E45, E46]; omega)) | (intros; simp_all [upS, hz, E900, E45, E46]; done) | (intros; simp_all [upS, hz, E900, E45, E46]; omega))), ?_⟩
        refine ⟨(show ¬ ((S46 717 (((6 * a1) + 4)).toNat) = 0) → 0 ≤ ((6 * a2) + 4) ∧ ((6 * a2) + 4) < 18 by (first | (intros; first | omega | (simp [upS, hz, E900, E45, E46]; done) | (simp [upS, hz, E900, E45, E46]; omega)) | (intros; simp_all [upS, hz, E900, E45, E46]; done) | (intros; simp_all [upS, hz, E900, E45, E46]; omega))), ?_⟩
        try rw [if_pos (show (S46 717 (((6 * a1) + 4)).toNat) = 0 by first | omega | (simp [upS, hz, E900, E45, E46]; done) | (simp [upS, hz, E900, E45, E46]; omega))]
        all_goals rfl
      refine ⟨_, _, hD109, ?_⟩
      clear hD109
      rw [if_pos (show (0 : Int) = 0 by first | omega | (simp [upS, hz, E900, E45, E46]; done) | (simp [upS, hz, E900, E45, E46]; omega))]
      refine b373_84 ?_
      refine b373_85 ?_
      rw [if_pos (show (0 : Int) = 0 by first | omega | (simp [upS, hz, E900, E45, E46]; done) | (simp [upS, hz, E900, E45, E46]; omega))]
      refine b373_114 ?_
      try rw [if_neg (show ¬ ((59 : Int) < (-1)) by first | omega | (simp [upS, hz, E900, E45, E46]; done) | (simp [upS, hz, E900, E45, E46]; omega))]
      refine b373_129 ?_
      try rw [if_neg (show ¬ ((59 : Int) < (-1)) by first | omega | (simp [upS, hz, E900, E45, E46]; done) | (simp [upS, hz, E900, E45, E46]; omega))]
      refine b373_144 ?_
      try rw [if_neg (show ¬ ((59 : Int) < (-1)) by first | omega | (simp [upS, hz, E900, E45, E46]; done) | (simp [upS, hz, E900, E45, E46]; omega))]
      refine b373_158 ?_
      refine ⟨(show (-2147483648 : Int) ≤ (2 + 1) ∧ ((2 + 1) : Int) ≤ 2147483647 by first | omega | (simp [upS, hz, E900, E45, E46]; done) | (simp [upS, hz, E900, E45, E46]; omega)), ?_⟩
      rw [show ((2 + 1) : Int) = 3 by (first | omega | (simp [upS, hz, E900, E45, E46]; done) | (simp [upS, hz, E900, E45, E46]; omega))]
      refine b373_22 ?_
      rw [if_pos (show (3 : Int) < 6 by first | omega | (simp [upS, hz, E900, E45, E46]; done) | (simp [upS, hz, E900, E45, E46]; omega))]
      have hD110 : Dd 371 [(.inr (.inr (some 682))), (.inl a1), (.inl a2), (.inl 4)] S46 (.inl (some (.inl 0)), S46) := by
        refine b371 ?_
        refine ⟨(show -2147483648 ≤ (6 * a1) ∧ (6 * a1) ≤ 2147483647 by first | omega | (simp [upS, hz, E900, E45, E46]; done) | (simp [upS, hz, E900, E45, E46]; omega)), ?_⟩
        refine ⟨(show -2147483648 ≤ ((6 * a1) + 4) ∧ ((6 * a1) + 4) ≤ 2147483647 by first | omega | (simp [upS, hz, E900, E45, E46]; done) | (simp [upS, hz, E900, E45, E46]; omega)), ?_⟩
        refine ⟨(show 0 ≤ ((6 * a1) + 4) ∧ ((6 * a1) + 4) < 18 by first | omega | (simp [upS, hz, E900, E45, E46]; done) | (simp [upS, hz, E900, E45, E46]; omega)), ?_⟩
        refine ⟨(show ¬ ((S46 717 (((6 * a1) + 4)).toNat) = 0) → -2147483648 ≤ (6 * a2) ∧ (6 * a2) ≤ 2147483647 by (first | (intros; first | omega | (simp [upS, hz, E900, E45, E46]; done) | (simp [upS, hz, E900, E45, E46]; omega)) | (intros; simp_all [upS, hz, E900, E45, E46]; done) | (intros; simp_all [upS, hz, E900, E45, E46]; omega))), ?_⟩
        refine ⟨(show ¬ ((S46 717 (((6 * a1) + 4)).toNat) = 0) → -2147483648 ≤ ((6 * a2) + 4) ∧ ((6 * a2) + 4) ≤ 2147483647 by (first | (intros; first | omega | (simp [upS, hz, E900, E45, E46]; done) | (simp [upS, hz, E900, E45, E46]; omega)) | (intros; simp_all [upS, hz, E900, E45, E46]; done) | (intros; simp_all [upS, hz, E900, E45, E46]; omega))), ?_⟩
        refine ⟨(show ¬ ((S46 717 (((6 * a1) + 4)).toNat) = 0) → 0 ≤ ((6 * a2) + 4) ∧ ((6 * a2) + 4) < 18 by (first | (intros; first | omega | (simp [upS, hz, E900, E45, E46]; done) | (simp [upS, hz, E900, E45, E46]; omega)) | (intros; simp_all [upS, hz, E900, E45, E46]; done) | (intros; simp_all [upS, hz, E900, E45, E46]; omega))), ?_⟩
        try rw [if_pos (show (S46 717 (((6 * a1) + 4)).toNat) = 0 by first | omega | (simp [upS, hz, E900, E45, E46]; done) | (simp [upS, hz, E900, E45, E46]; omega))]
        all_goals rfl
      refine ⟨_, _, hD110, ?_⟩
      clear hD110
      rw [if_pos (show (0 : Int) = 0 by first | omega | (simp [upS, hz, E900, E45, E46]; done) | (simp [upS, hz, E900, E45, E46]; omega))]
      refine b373_84 ?_
      refine b373_85 ?_
      rw [if_pos (show (0 : Int) = 0 by first | omega | (simp [upS, hz, E900, E45, E46]; done) | (simp [upS, hz, E900, E45, E46]; omega))]
      refine b373_114 ?_
      try rw [if_neg (show ¬ ((59 : Int) < (-1)) by first | omega | (simp [upS, hz, E900, E45, E46]; done) | (simp [upS, hz, E900, E45, E46]; omega))]
      refine b373_129 ?_
      try rw [if_neg (show ¬ ((59 : Int) < (-1)) by first | omega | (simp [upS, hz, E900, E45, E46]; done) | (simp [upS, hz, E900, E45, E46]; omega))]
      refine b373_144 ?_
      try rw [if_neg (show ¬ ((59 : Int) < (-1)) by first | omega | (simp [upS, hz, E900, E45, E46]; done) | (simp [upS, hz, E900, E45, E46]; omega))]
      refine b373_158 ?_
      refine ⟨(show (-2147483648 : Int) ≤ (3 + 1) ∧ ((3 + 1) : Int) ≤ 2147483647 by first | omega | (simp [upS, hz, E900, E45, E46]; done) | (simp [upS, hz, E900, E45, E46]; omega)), ?_⟩
      rw [show ((3 + 1) : Int) = 4 by (first | omega | (simp [upS, hz, E900, E45, E46]; done) | (simp [upS, hz, E900, E45, E46]; omega))]
      refine b373_22 ?_
      rw [if_pos (show (4 : Int) < 6 by first | omega | (simp [upS, hz, E900, E45, E46]; done) | (simp [upS, hz, E900, E45, E46]; omega))]
      have hD111 : Dd 371 [(.inr (.inr (some 682))), (.inl a1), (.inl a2), (.inl 4)] S46 (.inl (some (.inl 0)), S46) := by
        refine b371 ?_
        refine ⟨(show -2147483648 ≤ (6 * a1) ∧ (6 * a1) ≤ 2147483647 by first | omega | (simp [upS, hz, E900, E45, E46]; done) | (simp [upS, hz, E900, E45, E46]; omega)), ?_⟩
        refine ⟨(show -2147483648 ≤ ((6 * a1) + 4) ∧ ((6 * a1) + 4) ≤ 2147483647 by first | omega | (simp [upS, hz, E900, E45, E46]; done) | (simp [upS, hz, E900, E45, E46]; omega)), ?_⟩
        refine ⟨(show 0 ≤ ((6 * a1) + 4) ∧ ((6 * a1) + 4) < 18 by first | omega | (simp [upS, hz, E900, E45, E46]; done) | (simp [upS, hz, E900, E45, E46]; omega)), ?_⟩
        refine ⟨(show ¬ ((S46 717 (((6 * a1) + 4)).toNat) = 0) → -2147483648 ≤ (6 * a2) ∧ (6 * a2) ≤ 2147483647 by (first | (intros; first | omega | (simp [upS, hz, E900, E45, E46]; done) | (simp [upS, hz, E900, E45, E46]; omega)) | (intros; simp_all [upS, hz, E900, E45, E46]; done) | (intros; simp_all [upS, hz, E900, E45, E46]; omega))), ?_⟩
        refine ⟨(show ¬ ((S46 717 (((6 * a1) + 4)).toNat) = 0) → -2147483648 ≤ ((6 * a2) + 4) ∧ ((6 * a2) + 4) ≤ 2147483647 by (first | (intros; first | omega | (simp [upS, hz, E900, E45, E46]; done) | (simp [upS, hz, E900, E45, E46]; omega)) | (intros; simp_all [upS, hz, E900, E45, E46]; done) | (intros; simp_all [upS, hz, E900, E45, E46]; omega))), ?_⟩
        refine ⟨(show ¬ ((S46 717 (((6 * a1) + 4)).toNat) = 0) → 0 ≤ ((6 * a2) + 4) ∧ ((6 * a2) + 4) < 18 by (first | (intros; first | omega | (simp [upS, hz, E900, E45, E46]; done) | (simp [upS, hz, E900, E45, E46]; omega)) | (intros; simp_all [upS, hz, E900, E45, E46]; done) | (intros; simp_all [upS, hz, E900, E45, E46]; omega))), ?_⟩
        try rw [if_pos (show (S46 717 (((6 * a1) + 4)).toNat) = 0 by first | omega | (simp [upS, hz, E900, E45, E46]; done) | (simp [upS, hz, E900, E45, E46]; omega))]
        all_goals rfl
      refine ⟨_, _, hD111, ?_⟩
      clear hD111
      rw [if_pos (show (0 : Int) = 0 by first | omega | (simp [upS, hz, E900, E45, E46]; done) | (simp [upS, hz, E900, E45, E46]; omega))]
      refine b373_84 ?_
      refine b373_85 ?_
      rw [if_pos (show (0 : Int) = 0 by first | omega | (simp [upS, hz, E900, E45, E46]; done) | (simp [upS, hz, E900, E45, E46]; omega))]
      refine b373_114 ?_
      try rw [if_neg (show ¬ ((59 : Int) < (-1)) by first | omega | (simp [upS, hz, E900, E45, E46]; done) | (simp [upS, hz, E900, E45, E46]; omega))]
      refine b373_129 ?_
      try rw [if_neg (show ¬ ((59 : Int) < (-1)) by first | omega | (simp [upS, hz, E900, E45, E46]; done) | (simp [upS, hz, E900, E45, E46]; omega))]
      refine b373_144 ?_
      try rw [if_neg (show ¬ ((59 : Int) < (-1)) by first | omega | (simp [upS, hz, E900, E45, E46]; done) | (simp [upS, hz, E900, E45, E46]; omega))]
      refine b373_158 ?_
      refine ⟨(show (-2147483648 : Int) ≤ (4 + 1) ∧ ((4 + 1) : Int) ≤ 2147483647 by first | omega | (simp [upS, hz, E900, E45, E46]; done) | (simp [upS, hz, E900, E45, E46]; omega)), ?_⟩
      rw [show ((4 + 1) : Int) = 5 by (first | omega | (simp [upS, hz, E900, E45, E46]; done) | (simp [upS, hz, E900, E45, E46]; omega))]
      refine b373_22 ?_
      rw [if_pos (show (5 : Int) < 6 by first | omega | (simp [upS, hz, E900, E45, E46]; done) | (simp [upS, hz, E900, E45, E46]; omega))]
      have hD112 : Dd 371 [(.inr (.inr (some 682))), (.inl a1), (.inl a2), (.inl 4)] S46 (.inl (some (.inl 0)), S46) := by
        refine b371 ?_
        refine ⟨(show -2147483648 ≤ (6 * a1) ∧ (6 * a1) ≤ 2147483647 by first | omega | (simp [upS, hz, E900, E45, E46]; done) | (simp [upS, hz, E900, E45, E46]; omega)), ?_⟩
        refine ⟨(show -2147483648 ≤ ((6 * a1) + 4) ∧ ((6 * a1) + 4) ≤ 2147483647 by first | omega | (simp [upS, hz, E900, E45, E46]; done) | (simp [upS, hz, E900, E45, E46]; omega)), ?_⟩
        refine ⟨(show 0 ≤ ((6 * a1) + 4) ∧ ((6 * a1) + 4) < 18 by first | omega | (simp [upS, hz, E900, E45, E46]; done) | (simp [upS, hz, E900, E45, E46]; omega)), ?_⟩
        refine ⟨(show ¬ ((S46 717 (((6 * a1) + 4)).toNat) = 0) → -2147483648 ≤ (6 * a2) ∧ (6 * a2) ≤ 2147483647 by (first | (intros; first | omega | (simp [upS, hz, E900, E45, E46]; done) | (simp [upS, hz, E900, E45, E46]; omega)) | (intros; simp_all [upS, hz, E900, E45, E46]; done) | (intros; simp_all [upS, hz, E900, E45, E46]; omega))), ?_⟩
        refine ⟨(show ¬ ((S46 717 (((6 * a1) + 4)).toNat) = 0) → -2147483648 ≤ ((6 * a2) + 4) ∧ ((6 * a2) + 4) ≤ 2147483647 by (first | (intros; first | omega | (simp [upS, hz, E900, E45, E46]; done) | (simp [upS, hz, E900, E45, E46]; omega)) | (intros; simp_all [upS, hz, E900, E45, E46]; done) | (intros; simp_all [upS, hz, E900, E45, E46]; omega))), ?_⟩
        refine ⟨(show ¬ ((S46 717 (((6 * a1) + 4)).toNat) = 0) → 0 ≤ ((6 * a2) + 4) ∧ ((6 * a2) + 4) < 18 by (first | (intros; first | omega | (simp [upS, hz, E900, E45, E46]; done) | (simp [upS, hz, E900, E45, E46]; omega)) | (intros; simp_all [upS, hz, E900, E45, E46]; done) | (intros; simp_all [upS, hz, E900, E45, E46]; omega))), ?_⟩
        try rw [if_pos (show (S46 717 (((6 * a1) + 4)).toNat) = 0 by first | omega | (simp [upS, hz, E900, E45, E46]; done) | (simp [upS, hz, E900, E45, E46]; omega))]
        all_goals rfl
      refine ⟨_, _, hD112, ?_⟩
      clear hD112
      rw [if_pos (show (0 : Int) = 0 by first | omega | (simp [upS, hz, E900, E45, E46]; done) | (simp [upS, hz, E900, E45, E46]; omega))]
      refine b373_84 ?_
      refine b373_85 ?_
      rw [if_pos (show (0 : Int) = 0 by first | omega | (simp [upS, hz, E900, E45, E46]; done) | (simp [upS, hz, E900, E45, E46]; omega))]
      refine b373_114 ?_
      try rw [if_neg (show ¬ ((59 : Int) < (-1)) by first | omega | (simp [upS, hz, E900, E45, E46]; done) | (simp [upS, hz, E900, E45, E46]; omega))]
      refine b373_129 ?_
      try rw [if_neg (show ¬ ((59 : Int) < (-1)) by first | omega | (simp [upS, hz, E900, E45, E46]; done) | (simp [upS, hz, E900, E45, E46]; omega))]
      refine b373_144 ?_
      try rw [if_neg (show ¬ ((59 : Int) < (-1)) by first | omega | (simp [upS, hz, E900, E45, E46]; done) | (simp [upS, hz, E900, E45, E46]; omega))]
      refine b373_158 ?_
      refine ⟨(show (-2147483648 : Int) ≤ (5 + 1) ∧ ((5 + 1) : Int) ≤ 2147483647 by first | omega | (simp [upS, hz, E900, E45, E46]; done) | (simp [upS, hz, E900, E45, E46]; omega)), ?_⟩
      rw [show ((5 + 1) : Int) = 6 by (first | omega | (simp [upS, hz, E900, E45, E46]; done) | (simp [upS, hz, E900, E45, E46]; omega))]
      refine b373_22 ?_
      rw [if_neg (show ¬ ((6 : Int) < 6) by first | omega | (simp [upS, hz, E900, E45, E46]; done) | (simp [upS, hz, E900, E45, E46]; omega))]
      refine ⟨(show (-2147483648 : Int) ≤ (4 + 1) ∧ ((4 + 1) : Int) ≤ 2147483647 by first | omega | (simp [upS, hz, E900, E45, E46]; done) | (simp [upS, hz, E900, E45, E46]; omega)), ?_⟩
      rw [show ((4 + 1) : Int) = 5 by (first | omega | (simp [upS, hz, E900, E45, E46]; done) | (simp [upS, hz, E900, E45, E46]; omega))]
      refine b373_12 ?_
      rw [if_pos (show (5 : Int) < 6 by first | omega | (simp [upS, hz, E900, E45, E46]; done) | (simp [upS, hz, E900, E45, E46]; omega))]
      refine b373_22 ?_
      rw [if_pos (show (0 : Int) < 6 by first | omega | (simp [upS, hz, E900, E45, E46]; done) | (simp [upS, hz, E900, E45, E46]; omega))]
      have hD113 : Dd 371 [(.inr (.inr (some 682))), (.inl a1), (.inl a2), (.inl 5)] S46 (.inl (some (.inl 0)), S46) := by
        refine b371 ?_
        refine ⟨(show -2147483648 ≤ (6 * a1) ∧ (6 * a1) ≤ 2147483647 by first | omega | (simp [upS, hz, E900, E45, E46]; done) | (simp [upS, hz, E900, E45, E46]; omega)), ?_⟩
        refine ⟨(show -2147483648 ≤ ((6 * a1) + 5) ∧ ((6 * a1) + 5) ≤ 2147483647 by first | omega | (simp [upS, hz, E900, E45, E46]; done) | (simp [upS, hz, E900, E45, E46]; omega)), ?_⟩
        refine ⟨(show 0 ≤ ((6 * a1) + 5) ∧ ((6 * a1) + 5) < 18 by first | omega | (simp [upS, hz, E900, E45, E46]; done) | (simp [upS, hz, E900, E45, E46]; omega)), ?_⟩
        refine ⟨(show ¬ ((S46 717 (((6 * a1) + 5)).toNat) = 0) → -2147483648 ≤ (6 * a2) ∧ (6 * a2) ≤ 2147483647 by (first | (intros; first | omega | (simp [upS, hz, E900, E45, E46]; done) | (simp [upS, hz, E900, E45, E46]; omega)) | (intros; simp_all [upS, hz, E900, E45, E46]; done) | (intros; simp_all [upS, hz, E900, E45, E46]; omega))), ?_⟩
        refine ⟨(show ¬ ((S46 717 (((6 * a1) + 5)).toNat) = 0) → -2147483648 ≤ ((6 * a2) + 5) ∧ ((6 * a2) + 5) ≤ 2147483647 by (first | (intros; first | omega | (simp [upS, hz, E900, E45, E46]; done) | (simp [upS, hz, E900, E45, E46]; omega)) | (intros; simp_all [upS, hz, E900, E45, E46]; done) | (intros; simp_all [upS, hz, E900, E45, E46]; omega))), ?_⟩
        refine ⟨(show ¬ ((S46 717 (((6 * a1) + 5)).toNat) = 0) → 0 ≤ ((6 * a2) + 5) ∧ ((6 * a2) + 5) < 18 by (first | (intros; first | omega | (simp [upS, hz, E900, E45, E46]; done) | (simp [upS, hz, E900, E45, E46]; omega)) | (intros; simp_all [upS, hz, E900, E45, E46]; done) | (intros; simp_all [upS, hz, E900, E45, E46]; omega))), ?_⟩
        try rw [if_pos (show (S46 717 (((6 * a1) + 5)).toNat) = 0 by first | omega | (simp [upS, hz, E900, E45, E46]; done) | (simp [upS, hz, E900, E45, E46]; omega))]
        all_goals rfl
      refine ⟨_, _, hD113, ?_⟩
      clear hD113
      rw [if_pos (show (0 : Int) = 0 by first | omega | (simp [upS, hz, E900, E45, E46]; done) | (simp [upS, hz, E900, E45, E46]; omega))]
      refine b373_84 ?_
      refine b373_85 ?_
      rw [if_pos (show (0 : Int) = 0 by first | omega | (simp [upS, hz, E900, E45, E46]; done) | (simp [upS, hz, E900, E45, E46]; omega))]
      refine b373_114 ?_
      try rw [if_neg (show ¬ ((59 : Int) < (-1)) by first | omega | (simp [upS, hz, E900, E45, E46]; done) | (simp [upS, hz, E900, E45, E46]; omega))]
      refine b373_129 ?_
      try rw [if_neg (show ¬ ((59 : Int) < (-1)) by first | omega | (simp [upS, hz, E900, E45, E46]; done) | (simp [upS, hz, E900, E45, E46]; omega))]
      refine b373_144 ?_
      try rw [if_neg (show ¬ ((59 : Int) < (-1)) by first | omega | (simp [upS, hz, E900, E45, E46]; done) | (simp [upS, hz, E900, E45, E46]; omega))]
      refine b373_158 ?_
      refine ⟨(show (-2147483648 : Int) ≤ (0 + 1) ∧ ((0 + 1) : Int) ≤ 2147483647 by first | omega | (simp [upS, hz, E900, E45, E46]; done) | (simp [upS, hz, E900, E45, E46]; omega)), ?_⟩
      rw [show ((0 + 1) : Int) = 1 by (first | omega | (simp [upS, hz, E900, E45, E46]; done) | (simp [upS, hz, E900, E45, E46]; omega))]
      refine b373_22 ?_
      rw [if_pos (show (1 : Int) < 6 by first | omega | (simp [upS, hz, E900, E45, E46]; done) | (simp [upS, hz, E900, E45, E46]; omega))]
      have hD114 : Dd 371 [(.inr (.inr (some 682))), (.inl a1), (.inl a2), (.inl 5)] S46 (.inl (some (.inl 0)), S46) := by
        refine b371 ?_
        refine ⟨(show -2147483648 ≤ (6 * a1) ∧ (6 * a1) ≤ 2147483647 by first | omega | (simp [upS, hz, E900, E45, E46]; done) | (simp [upS, hz, E900, E45, E46]; omega)), ?_⟩
        refine ⟨(show -2147483648 ≤ ((6 * a1) + 5) ∧ ((6 * a1) + 5) ≤ 2147483647 by first | omega | (simp [upS, hz, E900, E45, E46]; done) | (simp [upS, hz, E900, E45, E46]; omega)), ?_⟩
        refine ⟨(show 0 ≤ ((6 * a1) + 5) ∧ ((6 * a1) + 5) < 18 by first | omega | (simp [upS, hz, E900, E45, E46]; done) | (simp [upS, hz, E900, E45, E46]; omega)), ?_⟩
        refine ⟨(show ¬ ((S46 717 (((6 * a1) + 5)).toNat) = 0) → -2147483648 ≤ (6 * a2) ∧ (6 * a2) ≤ 2147483647 by (first | (intros; first | omega | (simp [upS, hz, E900, E45, E46]; done) | (simp [upS, hz, E900, E45, E46]; omega)) | (intros; simp_all [upS, hz, E900, E45, E46]; done) | (intros; simp_all [upS, hz, E900, E45, E46]; omega))), ?_⟩
        refine ⟨(show ¬ ((S46 717 (((6 * a1) + 5)).toNat) = 0) → -2147483648 ≤ ((6 * a2) + 5) ∧ ((6 * a2) + 5) ≤ 2147483647 by (first | (intros; first | omega | (simp [upS, hz, E900, E45, E46]; done) | (simp [upS, hz, E900, E45, E46]; omega)) | (intros; simp_all [upS, hz, E900, E45, E46]; done) | (intros; simp_all [upS, hz, E900, E45, E46]; omega))), ?_⟩
        refine ⟨(show ¬ ((S46 717 (((6 * a1) + 5)).toNat) = 0) → 0 ≤ ((6 * a2) + 5) ∧ ((6 * a2) + 5) < 18 by (first | (intros; first | omega | (simp [upS, hz, E900, E45, E46]; done) | (simp [upS, hz, E900, E45, E46]; omega)) | (intros; simp_all [upS, hz, E900, E45, E46]; done) | (intros; simp_all [upS, hz, E900, E45, E46]; omega))), ?_⟩
        try rw [if_pos (show (S46 717 (((6 * a1) + 5)).toNat) = 0 by first | omega | (simp [upS, hz, E900, E45, E46]; done) | (simp [upS, hz, E900, E45, E46]; omega))]
        all_goals rfl
      refine ⟨_, _, hD114, ?_⟩
      clear hD114
      rw [if_pos (show (0 : Int) = 0 by first | omega | (simp [upS, hz, E900, E45, E46]; done) | (simp [upS, hz, E900, E45, E46]; omega))]
      refine b373_84 ?_
      refine b373_85 ?_
      rw [if_pos (show (0 : Int) = 0 by first | omega | (simp [upS, hz, E900, E45, E46]; done) | (simp [upS, hz, E900, E45, E46]; omega))]
      refine b373_114 ?_
      try rw [if_neg (show ¬ ((59 : Int) < (-1)) by first | omega | (simp [upS, hz, E900, E45, E46]; done) | (simp [upS, hz, E900, E45, E46]; omega))]
      refine b373_129 ?_
      try rw [if_neg (show ¬ ((59 : Int) < (-1)) by first | omega | (simp [upS, hz, E900, E45, E46]; done) | (simp [upS, hz, E900, E45, E46]; omega))]
      refine b373_144 ?_
      try rw [if_neg (show ¬ ((59 : Int) < (-1)) by first | omega | (simp [upS, hz, E900, E45, E46]; done) | (simp [upS, hz, E900, E45, E46]; omega))]
      refine b373_158 ?_
      refine ⟨(show (-2147483648 : Int) ≤ (1 + 1) ∧ ((1 + 1) : Int) ≤ 2147483647 by first | omega | (simp [upS, hz, E900, E45, E46]; done) | (simp [upS, hz, E900, E45, E46]; omega)), ?_⟩
      rw [show ((1 + 1) : Int) = 2 by (first | omega | (simp [upS, hz, E900, E45, E46]; done) | (simp [upS, hz, E900, E45, E46]; omega))]
      refine b373_22 ?_
      rw [if_pos (show (2 : Int) < 6 by first | omega | (simp [upS, hz, E900, E45, E46]; done) | (simp [upS, hz, E900, E45, E46]; omega))]
      have hD115 : Dd 371 [(.inr (.inr (some 682))), (.inl a1), (.inl a2), (.inl 5)] S46 (.inl (some (.inl 0)), S46) := by
        refine b371 ?_
        refine ⟨(show -2147483648 ≤ (6 * a1) ∧ (6 * a1) ≤ 2147483647 by first | omega | (simp [upS, hz, E900, E45, E46]; done) | (simp [upS, hz, E900, E45, E46]; omega)), ?_⟩
        refine ⟨(show -2147483648 ≤ ((6 * a1) + 5) ∧ ((6 * a1) + 5) ≤ 2147483647 by first | omega | (simp [upS, hz, E900, E45, E46]; done) | (simp [upS, hz, E900, E45, E46]; omega)), ?_⟩
        refine ⟨(show 0 ≤ ((6 * a1) + 5) ∧ ((6 * a1) + 5) < 18 by first | omega | (simp [upS, hz, E900, E45, E46]; done) | (simp [upS, hz, E900, E45, E46]; omega)), ?_⟩
        refine ⟨(show ¬ ((S46 717 (((6 * a1) + 5)).toNat) = 0) → -2147483648 ≤ (6 * a2) ∧ (6 * a2) ≤ 2147483647 by (first | (intros; first | omega | (simp [upS, hz, E900, E45, E46]; done) | (simp [upS, hz, E900, E45, E46]; omega)) | (intros; simp_all [upS, hz, E900, E45, E46]; done) | (intros; simp_all [upS, hz, E900, E45, E46]; omega))), ?_⟩
        refine ⟨(show ¬ ((S46 717 (((6 * a1) + 5)).toNat) = 0) → -2147483648 ≤ ((6 * a2) + 5) ∧ ((6 * a2) + 5) ≤ 2147483647 by (first | (intros; first | omega | (simp [upS, hz, E900, E45, E46]; done) | (simp [upS, hz, E900, E45, E46]; omega)) | (intros; simp_all [upS, hz, E900, E45, E46]; done) | (intros; simp_all [upS, hz, E900, E45, E46]; omega))), ?_⟩
        refine ⟨(show ¬ ((S46 717 (((6 * a1) + 5)).toNat) = 0) → 0 ≤ ((6 * a2) + 5) ∧ ((6 * a2) + 5) < 18 by (first | (intros; first | omega | (simp [upS, hz, E900, E45, E46]; done) | (simp [upS, hz, E900, E45, E46]; omega)) | (intros; simp_all [upS, hz, E900, E45, E46]; done) | (intros; simp_all [upS, hz, E900, E45, E46]; omega))), ?_⟩
        try rw [if_pos (show (S46 717 (((6 * a1) + 5)).toNat) = 0 by first | omega | (simp [upS, hz, E900, E45, E46]; done) | (simp [upS, hz, E900, E45, E46]; omega))]
        all_goals rfl
      refine ⟨_, _, hD115, ?_⟩
      clear hD115
      rw [if_pos (show (0 : Int) = 0 by first | omega | (simp [upS, hz, E900, E45, E46]; done) | (simp [upS, hz, E900, E45, E46]; omega))]
      refine b373_84 ?_
      refine b373_85 ?_
      rw [if_pos (show (0 : Int) = 0 by first | omega | (simp [upS, hz, E900, E45, E46]; done) | (simp [upS, hz, E900, E45, E46]; omega))]
      refine b373_114 ?_
      try rw [if_neg (show ¬ ((59 : Int) < (-1)) by first | omega | (simp [upS, hz, E900, E45, E46]; done) | (simp [upS, hz, E900, E45, E46]; omega))]
      refine b373_129 ?_
      try rw [if_neg (show ¬ ((59 : Int) < (-1)) by first | omega | (simp [upS, hz, E900, E45, E46]; done) | (simp [upS, hz, E900, E45, E46]; omega))]
      refine b373_144 ?_
      try rw [if_neg (show ¬ ((59 : Int) < (-1)) by first | omega | (simp [upS, hz, E900, E45, E46]; done) | (simp [upS, hz, E900, E45, E46]; omega))]
      refine b373_158 ?_
      refine ⟨(show (-2147483648 : Int) ≤ (2 + 1) ∧ ((2 + 1) : Int) ≤ 2147483647 by first | omega | (simp [upS, hz, E900, E45, E46]; done) | (simp [upS, hz, E900, E45, E46]; omega)), ?_⟩
      rw [show ((2 + 1) : Int) = 3 by (first | omega | (simp [upS, hz, E900, E45, E46]; done) | (simp [upS, hz, E900, E45, E46]; omega))]
      refine b373_22 ?_
      rw [if_pos (show (3 : Int) < 6 by first | omega | (simp [upS, hz, E900, E45, E46]; done) | (simp [upS, hz, E900, E45, E46]; omega))]
      have hD116 : Dd 371 [(.inr (.inr (some 682))), (.inl a1), (.inl a2), (.inl 5)] S46 (.inl (some (.inl 0)), S46) := by
        refine b371 ?_
        refine ⟨(show -2147483648 ≤ (6 * a1) ∧ (6 * a1) ≤ 2147483647 by first | omega | (simp [upS, hz, E900, E45, E46]; done) | (simp [upS, hz, E900, E45, E46]; omega)), ?_⟩
        refine ⟨(show -2147483648 ≤ ((6 * a1) + 5) ∧ ((6 * a1) + 5) ≤ 2147483647 by first | omega | (simp [upS, hz, E900, E45, E46]; done) | (simp [upS, hz, E900, E45, E46]; omega)), ?_⟩
        refine ⟨(show 0 ≤ ((6 * a1) + 5) ∧ ((6 * a1) + 5) < 18 by first | omega | (simp [upS, hz, E900, E45, E46]; done) | (simp [upS, hz, E900, E45, E46]; omega)), ?_⟩
        refine ⟨(show ¬ ((S46 717 (((6 * a1) + 5)).toNat) = 0) → -2147483648 ≤ (6 * a2) ∧ (6 * a2) ≤ 2147483647 by (first | (intros; first | omega | (simp [upS, hz, E900, E45, E46]; done) | (simp [upS, hz, E900, E45, E46]; omega)) | (intros; simp_all [upS, hz, E900, E45, E46]; done) | (intros; simp_all [upS, hz, E900, E45, E46]; omega))), ?_⟩
        refine ⟨(show ¬ ((S46 717 (((6 * a1) + 5)).toNat) = 0) → -2147483648 ≤ ((6 * a2) + 5) ∧ ((6 * a2) + 5) ≤ 2147483647 by (first | (intros; first | omega | (simp [upS, hz, E900, E45, E46]; done) | (simp [upS, hz, E900, E45, E46]; omega)) | (intros; simp_all [upS, hz, E900, E45, E46]; done) | (intros; simp_all [upS, hz, E900, E45, E46]; omega))), ?_⟩
        refine ⟨(show ¬ ((S46 717 (((6 * a1) + 5)).toNat) = 0) → 0 ≤ ((6 * a2) + 5) ∧ ((6 * a2) + 5) < 18 by (first | (intros; first | omega | (simp [upS, hz, E900, E45, E46]; done) | (simp [upS, hz, E900, E45, E46]; omega)) | (intros; simp_all [upS, hz, E900, E45, E46]; done) | (intros; simp_all [upS, hz, E900, E45, E46]; omega))), ?_⟩
        try rw [if_pos (show (S46 717 (((6 * a1) + 5)).toNat) = 0 by first | omega | (simp [upS, hz, E900, E45, E46]; done) | (simp [upS, hz, E900, E45, E46]; omega))]
        all_goals rfl
      refine ⟨_, _, hD116, ?_⟩
      clear hD116
      rw [if_pos (show (0 : Int) = 0 by first | omega | (simp [upS, hz, E900, E45, E46]; done) | (simp [upS, hz, E900, E45, E46]; omega))]
      refine b373_84 ?_
      refine b373_85 ?_
      rw [if_pos (show (0 : Int) = 0 by first | omega | (simp [upS, hz, E900, E45, E46]; done) | (simp [upS, hz, E900, E45, E46]; omega))]
      refine b373_114 ?_
      try rw [if_neg (show ¬ ((59 : Int) < (-1)) by first | omega | (simp [upS, hz, E900, E45, E46]; done) | (simp [upS, hz, E900, E45, E46]; omega))]
      refine b373_129 ?_
      try rw [if_neg (show ¬ ((59 : Int) < (-1)) by first | omega | (simp [upS, hz, E900, E45, E46]; done) | (simp [upS, hz, E900, E45, E46]; omega))]
      refine b373_144 ?_
      try rw [if_neg (show ¬ ((59 : Int) < (-1)) by first | omega | (simp [upS, hz, E900, E45, E46]; done) | (simp [upS, hz, E900, E45, E46]; omega))]
      refine b373_158 ?_
      refine ⟨(show (-2147483648 : Int) ≤ (3 + 1) ∧ ((3 + 1) : Int) ≤ 2147483647 by first | omega | (simp [upS, hz, E900, E45, E46]; done) | (simp [upS, hz, E900, E45, E46]; omega)), ?_⟩
      rw [show ((3 + 1) : Int) = 4 by (first | omega | (simp [upS, hz, E900, E45, E46]; done) | (simp [upS, hz, E900, E45, E46]; omega))]
      refine b373_22 ?_
      rw [if_pos (show (4 : Int) < 6 by first | omega | (simp [upS, hz, E900, E45, E46]; done) | (simp [upS, hz, E900, E45, E46]; omega))]
      have hD117 : Dd 371 [(.inr (.inr (some 682))), (.inl a1), (.inl a2), (.inl 5)] S46 (.inl (some (.inl 0)), S46) := by
        refine b371 ?_
        refine ⟨(show -2147483648 ≤ (6 * a1) ∧ (6 * a1) ≤ 2147483647 by first | omega | (simp [upS, hz, E900, E45, E46]; done) | (simp [upS, hz, E900, E45, E46]; omega)), ?_⟩
        refine ⟨(show -2147483648 ≤ ((6 * a1) + 5) ∧ ((6 * a1) + 5) ≤ 2147483647 by first | omega | (simp [upS, hz, E900, E45, E46]; done) | (simp [upS, hz, E900, E45, E46]; omega)), ?_⟩
        refine ⟨(show 0 ≤ ((6 * a1) + 5) ∧ ((6 * a1) + 5) < 18 by first | omega | (simp [upS, hz, E900, E45, E46]; done) | (simp [upS, hz, E900, E45, E46]; omega)), ?_⟩
        refine ⟨(show ¬ ((S46 717 (((6 * a1) + 5)).toNat) = 0) → -2147483648 ≤ (6 * a2) ∧ (6 * a2) ≤ 2147483647 by (first | (intros; first | omega | (simp [upS, hz, E900, E45, E46]; done) | (simp [upS, hz, E900, E45, E46]; omega)) | (intros; simp_all [upS, hz, E900, E45, E46]; done) | (intros; simp_all [upS, hz, E900, E45, E46]; omega))), ?_⟩
        refine ⟨(show ¬ ((S46 717 (((6 * a1) + 5)).toNat) = 0) → -2147483648 ≤ ((6 * a2) + 5) ∧ ((6 * a2) + 5) ≤ 2147483647 by (first | (intros; first | omega | (simp [upS, hz, E900, E45, E46]; done) | (simp [upS, hz, E900, E45, E46]; omega)) | (intros; simp_all [upS, hz, E900, E45, E46]; done) | (intros; simp_all [upS, hz, E900, E45, E46]; omega))), ?_⟩
        refine ⟨(show ¬ ((S46 717 (((6 * a1) + 5)).toNat) = 0) → 0 ≤ ((6 * a2) + 5) ∧ ((6 * a2) + 5) < 18 by (first | (intros; first | omega | (simp [upS, hz, E900, E45, E46]; done) | (simp [upS, hz, E900, E45, E46]; omega)) | (intros; simp_all [upS, hz, E900, E45, E46]; done) | (intros; simp_all [upS, hz, E900, E45, E46]; omega))), ?_⟩
        try rw [if_pos (show (S46 717 (((6 * a1) + 5)).toNat) = 0 by first | omega | (simp [upS, hz, E900, E45, E46]; done) | (simp [upS, hz, E900, E45, E46]; omega))]
        all_goals rfl
      refine ⟨_, _, hD117, ?_⟩
      clear hD117
      rw [if_pos (show (0 : Int) = 0 by first | omega | (simp [upS, hz, E900, E45, E46]; done) | (simp [upS, hz, E900, E45, E46]; omega))]
      refine b373_84 ?_
      refine b373_85 ?_
      rw [if_pos (show (0 : Int) = 0 by first | omega | (simp [upS, hz, E900, E45, E46]; done) | (simp [upS, hz, E900, E45, E46]; omega))]
      refine b373_114 ?_
      try rw [if_neg (show ¬ ((59 : Int) < (-1)) by first | omega | (simp [upS, hz, E900, E45, E46]; done) | (simp [upS, hz, E900, E45, E46]; omega))]
      refine b373_129 ?_
      try rw [if_neg (show ¬ ((59 : Int) < (-1)) by first | omega | (simp [upS, hz, E900, E45, E46]; done) | (simp [upS, hz, E900, E45, E46]; omega))]
      refine b373_144 ?_
      try rw [if_neg (show ¬ ((59 : Int) < (-1)) by first | omega | (simp [upS, hz, E900, E45, E46]; done) | (simp [upS, hz, E900, E45, E46]; omega))]
      refine b373_158 ?_
      refine ⟨(show (-2147483648 : Int) ≤ (4 + 1) ∧ ((4 + 1) : Int) ≤ 2147483647 by first | omega | (simp [upS, hz, E900, E45, E46]; done) | (simp [upS, hz, E900, E45, E46]; omega)), ?_⟩
      rw [show ((4 + 1) : Int) = 5 by (first | omega | (simp [upS, hz, E900, E45, E46]; done) | (simp [upS, hz, E900, E45, E46]; omega))]
      refine b373_22 ?_
      rw [if_pos (show (5 : Int) < 6 by first | omega | (simp [upS, hz, E900, E45, E46]; done) | (simp [upS, hz, E900, E45, E46]; omega))]
      have hD118 : Dd 371 [(.inr (.inr (some 682))), (.inl a1), (.inl a2), (.inl 5)] S46 (.inl (some (.inl 0)), S46) := by
        refine b371 ?_
        refine ⟨(show -2147483648 ≤ (6 * a1) ∧ (6 * a1) ≤ 2147483647 by first | omega | (simp [upS, hz, E900, E45, E46]; done) | (simp [upS, hz, E900, E45, E46]; omega)), ?_⟩
        refine ⟨(show -2147483648 ≤ ((6 * a1) + 5) ∧ ((6 * a1) + 5) ≤ 2147483647 by first | omega | (simp [upS, hz, E900, E45, E46]; done) | (simp [upS, hz, E900, E45, E46]; omega)), ?_⟩
        refine ⟨(show 0 ≤ ((6 * a1) + 5) ∧ ((6 * a1) + 5) < 18 by first | omega | (simp [upS, hz, E900, E45, E46]; done) | (simp [upS, hz, E900, E45, E46]; omega)), ?_⟩
        refine ⟨(show ¬ ((S46 717 (((6 * a1) + 5)).toNat) = 0) → -2147483648 ≤ (6 * a2) ∧ (6 * a2) ≤ 2147483647 by (first | (intros; first | omega | (simp [upS, hz, E900, E45, E46]; done) | (simp [upS, hz, E900, E45, E46]; omega)) | (intros; simp_all [upS, hz, E900, E45, E46]; done) | (intros; simp_all [upS, hz, E900, E45, E46]; omega))), ?_⟩
        refine ⟨(show ¬ ((S46 717 (((6 * a1) + 5)).toNat) = 0) → -2147483648 ≤ ((6 * a2) + 5) ∧ ((6 * a2) + 5) ≤ 2147483647 by (first | (intros; first | omega | (simp [upS, hz, E900, E45, E46]; done) | (simp [upS, hz, E900, E45, E46]; omega)) | (intros; simp_all [upS, hz, E900, E45, E46]; done) | (intros; simp_all [upS, hz, E900, E45, E46]; omega))), ?_⟩
        refine ⟨(show ¬ ((S46 717 (((6 * a1) + 5)).toNat) = 0) → 0 ≤ ((6 * a2) + 5) ∧ ((6 * a2) + 5) < 18 by (first | (intros; first | omega | (simp [upS, hz, E900, E45, E46]; done) | (simp [upS, hz, E900, E45, E46]; omega)) | (intros; simp_all [upS, hz, E900, E45, E46]; done) | (intros; simp_all [upS, hz, E900, E45, E46]; omega))), ?_⟩
        try rw [if_pos (show (S46 717 (((6 * a1) + 5)).toNat) = 0 by first | omega | (simp [upS, hz, E900, E45, E46]; done) | (simp [upS, hz, E900, E45, E46]; omega))]
        all_goals rfl
      refine ⟨_, _, hD118, ?_⟩
      clear hD118
      rw [if_pos (show (0 : Int) = 0 by first | omega | (simp [upS, hz, E900, E45, E46]; done) | (simp [upS, hz, E900, E45, E46]; omega))]
      refine b373_84 ?_
      refine b373_85 ?_
      rw [if_pos (show (0 : Int) = 0 by first | omega | (simp [upS, hz, E900, E45, E46]; done) | (simp [upS, hz, E900, E45, E46]; omega))]
      refine b373_114 ?_
      try rw [if_neg (show ¬ ((59 : Int) < (-1)) by first | omega | (simp [upS, hz, E900, E45, E46]; done) | (simp [upS, hz, E900, E45, E46]; omega))]
      refine b373_129 ?_
      try rw [if_neg (show ¬ ((59 : Int) < (-1)) by first | omega | (simp [upS, hz, E900, E45, E46]; done) | (simp [upS, hz, E900, E45, E46]; omega))]
      refine b373_144 ?_
      try rw [if_neg (show ¬ ((59 : Int) < (-1)) by first | omega | (simp [upS, hz, E900, E45, E46]; done) | (simp [upS, hz, E900, E45, E46]; omega))]
      refine b373_158 ?_
      refine ⟨(show (-2147483648 : Int) ≤ (5 + 1) ∧ ((5 + 1) : Int) ≤ 2147483647 by first | omega | (simp [upS, hz, E900, E45, E46]; done) | (simp [upS, hz, E900, E45, E46]; omega)), ?_⟩
      rw [show ((5 + 1) : Int) = 6 by (first | omega | (simp [upS, hz, E900, E45, E46]; done) | (simp [upS, hz, E900, E45, E46]; omega))]
      refine b373_22 ?_
      rw [if_neg (show ¬ ((6 : Int) < 6) by first | omega | (simp [upS, hz, E900, E45, E46]; done) | (simp [upS, hz, E900, E45, E46]; omega))]
      refine ⟨(show (-2147483648 : Int) ≤ (5 + 1) ∧ ((5 + 1) : Int) ≤ 2147483647 by first | omega | (simp [upS, hz, E900, E45, E46]; done) | (simp [upS, hz, E900, E45, E46]; omega)), ?_⟩
      rw [show ((5 + 1) : Int) = 6 by (first | omega | (simp [upS, hz, E900, E45, E46]; done) | (simp [upS, hz, E900, E45, E46]; omega))]
      refine b373_12 ?_
      rw [if_neg (show ¬ ((6 : Int) < 6) by first | omega | (simp [upS, hz, E900, E45, E46]; done) | (simp [upS, hz, E900, E45, E46]; omega))]
      rw [if_pos (show ((-1) : Int) = (-1) by first | omega | (simp [upS, hz, E900, E45, E46]; done) | (simp [upS, hz, E900, E45, E46]; omega))]
      refine b373_187 ?_
      try rw [if_pos (show ((-1) : Int) = (-1) by first | omega | (simp [upS, hz, E900, E45, E46]; done) | (simp [upS, hz, E900, E45, E46]; omega))]
      all_goals rfl
    refine ⟨_, _, hD119, ?_⟩
    clear hD119
    refine b374_245 ?_
    rw [if_pos (show (0 : Int) = 0 by first | omega | (simp [upS, hz, E900, E45, E46]; done) | (simp [upS, hz, E900, E45, E46]; omega))]
    refine ⟨(show -2147483648 ≤ ((S46 682 53) + 1) ∧ ((S46 682 53) + 1) ≤ 2147483647 by first | omega | (simp [upS, hz, E900, E45, E46]; done) | (simp [upS, hz, E900, E45, E46]; omega)), ?_⟩
    refine ⟨(show -2147483648 ≤ (((upS S46 682 53 ((S46 682 53) + 1)) 682 53) - 1) ∧ (((upS S46 682 53 ((S46 682 53) + 1)) 682 53) - 1) ≤ 2147483647 by first | omega | (simp [upS, hz, E900, E45, E46]; done) | (simp [upS, hz, E900, E45, E46]; omega)), ?_⟩
    rw [(show (upS S46 682 53 ((S46 682 53) + 1)) = (upS S46 682 53 1) from by rw [show ((S46 682 53) + 1) = 1 by (first | omega | (simp [upS, hz, E900, E45, E46]; done) | (simp [upS, hz, E900, E45, E46]; omega))])]
    rw [show (((upS S46 682 53 1) 682 53) - 1) = 0 by (first | omega | (simp [upS, hz, E900, E45, E46]; done) | (simp [upS, hz, E900, E45, E46]; omega))]
    all_goals (first | rfl | (simp only [E45, E46]))
  refine ⟨_, _, _, _, hA, hB, ?_, ?_, ?_, ?_, ?_⟩
  all_goals subst E900
  · (first | rfl | (simp [upS, SCR, hz]; done) | (simp [upS, SCR, hz]; omega))
  · first | (intro h9; omega) | (intro _; first | rfl | (simp [upS, SCR, hz]; done) | (simp [upS, SCR, hz]; omega))
  · intro i; first | rfl | (unfold upS SCR; (repeat' split) <;> first | rfl | omega)
  · first | rfl | (unfold upS SCR; (repeat' split) <;> first | rfl | omega)
  · first | rfl | (unfold upS SCR; (repeat' split) <;> first | rfl | omega)
end
