noncomputable section
theorem q10_0 {σ : Sg} {a1 : Int} (hz : ∀ a i, a < 1000 → σ a i = 0) (h0 : a1 < 0) : ∃ (kx b : Int) (s1 s2 : Sg), Dd 400 [(.inr (.inr (some 0))), (.inl a1), (.inr (.inr (some 726)))] σ (.inl (some (.inl kx)), s1) ∧ Dd 300 [(.inr (.inr (some 682))), (.inl a1)] s1 (.inl (some (.inl b)), s2) ∧ s2 682 0 = kx ∧ (kx = 0 → s2 726 0 = b) ∧ (∀ i, s1 SCR i = σ SCR i) ∧ s1 (SCR + 1) 0 = σ (SCR + 1) 0 ∧ s2 (SCR + 1) 0 = σ (SCR + 1) 0 := by
  have hA : Dd 400 [(.inr (.inr (some 0))), (.inl a1), (.inr (.inr (some 726)))] σ (.inl (some (.inl 1)), σ) := by
    refine b400 ?_
    have hD4 : Dd 182 [(.inr (.inr (some 0))), (.inl a1)] σ (.inr 0, σ) := by
      refine b182 ?_
      have hD3 : Dd 230 [(.inr (.inr (some 0))), (.inl a1)] σ (.inr 0, σ) := by
        refine b230 ?_
        rw [show (σ 0 3) = 0 by (first | omega | (simp [upS, hz]; done) | (simp [upS, hz]; omega))]
        have hD1 : Dd 89 [(.inr (.inr (some 19))), (.inl a1), (.inl 0)] σ (.inl (some (.inr (.inr none))), σ) := by
          refine b89 ?_
          rw [if_neg (show ¬ ((0 : Int) ≤ a1) by first | omega | (simp [upS, hz]; done) | (simp [upS, hz]; omega))]
          all_goals rfl
        refine ⟨_, _, hD1, ?_⟩
        clear hD1
        refine ⟨fun _ => ?_, fun _ hz2 => (by cases hz2)⟩
        all_goals rfl
      refine Or.inr ⟨_, _, hD3, ?_⟩
      all_goals rfl
    exact Or.inr (Or.inl ⟨_, hD4, rfl⟩)
  have hB : Dd 300 [(.inr (.inr (some 682))), (.inl a1)] σ (.inl (some (.inl 0)), (upS σ 682 0 1)) := by
    refine b300 ?_
    have hD6 : Dd 248 [(.inr (.inr (some 682))), (.inl a1)] σ (.inl (some (.inl 0)), σ) := by
      refine b248 ?_
      rw [show (σ 682 3) = 0 by (first | omega | (simp [upS, hz]; done) | (simp [upS, hz]; omega))]
      have hD5 : Dd 246 [(.inl a1), (.inl 0)] σ (.inl (some (.inl 0)), σ) := by
        refine b246 ?_
        try rw [if_neg (show ¬ ((0 : Int) ≤ a1) by first | omega | (simp [upS, hz]; done) | (simp [upS, hz]; omega))]
        all_goals rfl
      refine ⟨_, _, hD5, ?_⟩
      clear hD5
      refine ⟨(show 0 = 0 ∨ 0 = 1 by first | omega | (simp [upS, hz]; done) | (simp [upS, hz]; omega)), ?_⟩
      all_goals rfl
    refine ⟨_, _, hD6, ?_⟩
    clear hD6
    try rw [if_pos (show (0 : Int) = 0 by first | omega | (simp [upS, hz]; done) | (simp [upS, hz]; omega))]
    refine b300_27 ?_
    have hD7 : Dd 245 [(.inr (.inr (some 682))), (.inl 1)] σ (.inl (some (.inl 0)), (upS σ 682 0 1)) := by
      refine b245 ?_
      try rw [if_neg (show ¬ ((1 : Int) = 0) by first | omega | (simp [upS, hz]; done) | (simp [upS, hz]; omega))]
      all_goals rfl
    refine ⟨_, _, hD7, ?_⟩
    clear hD7
    rw [if_pos (show (0 : Int) = 0 by first | omega | (simp [upS, hz]; done) | (simp [upS, hz]; omega))]
    all_goals rfl
  refine ⟨_, _, _, _, hA, hB, ?_, ?_, ?_, ?_, ?_⟩
  · (first | rfl | (simp [upS, SCR, hz]; done) | (simp [upS, SCR, hz]; omega))
  · first | (intro h9; omega) | (intro _; first | rfl | (simp [upS, SCR, hz]; done) | (simp [upS, SCR, hz]; omega))
  · intro i; first | rfl | (unfold upS SCR; (repeat' split) <;> first | rfl | omega)
  · first | rfl | (unfold upS SCR; (repeat' split) <;> first | rfl | omega)
  · first | rfl | (unfold upS SCR; (repeat' split) <;> first | rfl | omega)
theorem q10_1 {σ : Sg} {a1 : Int} (hz : ∀ a i, a < 1000 → σ a i = 0) (h0 : 0 ≤ a1) : ∃ (kx b : Int) (s1 s2 : Sg), Dd 400 [(.inr (.inr (some 0))), (.inl a1), (.inr (.inr (some 726)))] σ (.inl (some (.inl kx)), s1) ∧ Dd 300 [(.inr (.inr (some 682))), (.inl a1)] s1 (.inl (some (.inl b)), s2) ∧ s2 682 0 = kx ∧ (kx = 0 → s2 726 0 = b) ∧ (∀ i, s1 SCR i = σ SCR i) ∧ s1 (SCR + 1) 0 = σ (SCR + 1) 0 ∧ s2 (SCR + 1) 0 = σ (SCR + 1) 0 := by
  have hA : Dd 400 [(.inr (.inr (some 0))), (.inl a1), (.inr (.inr (some 726)))] σ (.inl (some (.inl 1)), σ) := by
    refine b400 ?_
    have hD4 : Dd 182 [(.inr (.inr (some 0))), (.inl a1)] σ (.inr 0, σ) := by
      refine b182 ?_
      have hD3 : Dd 230 [(.inr (.inr (some 0))), (.inl a1)] σ (.inr 0, σ) := by
        refine b230 ?_
        rw [show (σ 0 3) = 0 by (first | omega | (simp [upS, hz]; done) | (simp [upS, hz]; omega))]
        have hD1 : Dd 89 [(.inr (.inr (some 19))), (.inl a1), (.inl 0)] σ (.inl (some (.inr (.inr none))), σ) := by
          refine b89 ?_
          rw [if_pos (show (0 : Int) ≤ a1 by first | omega | (simp [upS, hz]; done) | (simp [upS, hz]; omega))]
          rw [if_neg (show ¬ (a1 < 0) by first | omega | (simp [upS, hz]; done) | (simp [upS, hz]; omega))]
          all_goals rfl
        refine ⟨_, _, hD1, ?_⟩
        clear hD1
        refine ⟨fun _ => ?_, fun _ hz2 => (by cases hz2)⟩
        all_goals rfl
      refine Or.inr ⟨_, _, hD3, ?_⟩
      all_goals rfl
    exact Or.inr (Or.inl ⟨_, hD4, rfl⟩)
  have hB : Dd 300 [(.inr (.inr (some 682))), (.inl a1)] σ (.inl (some (.inl 0)), (upS σ 682 0 1)) := by
    refine b300 ?_
    have hD6 : Dd 248 [(.inr (.inr (some 682))), (.inl a1)] σ (.inl (some (.inl 0)), σ) := by
      refine b248 ?_
      rw [show (σ 682 3) = 0 by (first | omega | (simp [upS, hz]; done) | (simp [upS, hz]; omega))]
      have hD5 : Dd 246 [(.inl a1), (.inl 0)] σ (.inl (some (.inl 0)), σ) := by
        refine b246 ?_
        try rw [if_pos (show (0 : Int) ≤ a1 by first | omega | (simp [upS, hz]; done) | (simp [upS, hz]; omega))]
        try rw [if_neg (show ¬ (a1 < 0) by first | omega | (simp [upS, hz]; done) | (simp [upS, hz]; omega))]
        all_goals rfl
      refine ⟨_, _, hD5, ?_⟩
      clear hD5
      refine ⟨(show 0 = 0 ∨ 0 = 1 by first | omega | (simp [upS, hz]; done) | (simp [upS, hz]; omega)), ?_⟩
      all_goals rfl
    refine ⟨_, _, hD6, ?_⟩
    clear hD6
    try rw [if_pos (show (0 : Int) = 0 by first | omega | (simp [upS, hz]; done) | (simp [upS, hz]; omega))]
    refine b300_27 ?_
    have hD7 : Dd 245 [(.inr (.inr (some 682))), (.inl 1)] σ (.inl (some (.inl 0)), (upS σ 682 0 1)) := by
      refine b245 ?_
      try rw [if_neg (show ¬ ((1 : Int) = 0) by first | omega | (simp [upS, hz]; done) | (simp [upS, hz]; omega))]
      all_goals rfl
    refine ⟨_, _, hD7, ?_⟩
    clear hD7
    rw [if_pos (show (0 : Int) = 0 by first | omega | (simp [upS, hz]; done) | (simp [upS, hz]; omega))]
    all_goals rfl
  refine ⟨_, _, _, _, hA, hB, ?_, ?_, ?_, ?_, ?_⟩
  · (first | rfl | (simp [upS, SCR, hz]; done) | (simp [upS, SCR, hz]; omega))
  · first | (intro h9; omega) | (intro _; first | rfl | (simp [upS, SCR, hz]; done) | (simp [upS, SCR, hz]; omega))
  · intro i; first | rfl | (unfold upS SCR; (repeat' split) <;> first | rfl | omega)
  · first | rfl | (unfold upS SCR; (repeat' split) <;> first | rfl | omega)
  · first | rfl | (unfold upS SCR; (repeat' split) <;> first | rfl | omega)
theorem q11_0 {σ : Sg} {a1 : Int} {a2 : Int} (hz : ∀ a i, a < 1000 → σ a i = 0) (h0 : a1 < 0) : ∃ (kx b : Int) (s1 s2 : Sg), Dd 401 [(.inr (.inr (some 0))), (.inl a1), (.inl a2), (.inr (.inr (some 726)))] σ (.inl (some (.inl kx)), s1) ∧ Dd 301 [(.inr (.inr (some 682))), (.inl a1), (.inl a2)] s1 (.inl (some (.inl b)), s2) ∧ s2 682 0 = kx ∧ (kx = 0 → s2 726 0 = b) ∧ (∀ i, s1 SCR i = σ SCR i) ∧ s1 (SCR + 1) 0 = σ (SCR + 1) 0 ∧ s2 (SCR + 1) 0 = σ (SCR + 1) 0 := by
  have hA : Dd 401 [(.inr (.inr (some 0))), (.inl a1), (.inl a2), (.inr (.inr (some 726)))] σ (.inl (some (.inl 1)), σ) := by
    refine b401 ?_
    have hD4 : Dd 183 [(.inr (.inr (some 0))), (.inl a1), (.inl a2)] σ (.inr 0, σ) := by
      refine b183 ?_
      have hD3 : Dd 230 [(.inr (.inr (some 0))), (.inl a1)] σ (.inr 0, σ) := by
        refine b230 ?_
        rw [show (σ 0 3) = 0 by (first | omega | (simp [upS, hz]; done) | (simp [upS, hz]; omega))]
        have hD1 : Dd 89 [(.inr (.inr (some 19))), (.inl a1), (.inl 0)] σ (.inl (some (.inr (.inr none))), σ) := by
          refine b89 ?_
          rw [if_neg (show ¬ ((0 : Int) ≤ a1) by first | omega | (simp [upS, hz]; done) | (simp [upS, hz]; omega))]
          all_goals rfl
        refine ⟨_, _, hD1, ?_⟩
        clear hD1
        refine ⟨fun _ => ?_, fun _ hz2 => (by cases hz2)⟩
        all_goals rfl
      refine Or.inr ⟨_, _, hD3, ?_⟩
      all_goals rfl
    exact Or.inr (Or.inl ⟨_, hD4, rfl⟩)
  have hB : Dd 301 [(.inr (.inr (some 682))), (.inl a1), (.inl a2)] σ (.inl (some (.inl 0)), (upS σ 682 0 1)) := by
    refine b301 ?_
    have hD6 : Dd 248 [(.inr (.inr (some 682))), (.inl a1)] σ (.inl (some (.inl 0)), σ) := by
      refine b248 ?_
      rw [show (σ 682 3) = 0 by (first | omega | (simp [upS, hz]; done) | (simp [upS, hz]; omega))]
      have hD5 : Dd 246 [(.inl a1), (.inl 0)] σ (.inl (some (.inl 0)), σ) := by
        refine b246 ?_
        try rw [if_neg (show ¬ ((0 : Int) ≤ a1) by first | omega | (simp [upS, hz]; done) | (simp [upS, hz]; omega))]
        all_goals rfl
      refine ⟨_, _, hD5, ?_⟩
      clear hD5
      refine ⟨(show 0 = 0 ∨ 0 = 1 by first | omega | (simp [upS, hz]; done) | (simp [upS, hz]; omega)), ?_⟩
      all_goals rfl
    refine ⟨_, _, hD6, ?_⟩
    clear hD6
    rw [if_pos (show (0 : Int) = 0 by first | omega | (simp [upS, hz]; done) | (simp [upS, hz]; omega))]
    refine b301_20 ?_
    refine b301_21 ?_
    rw [if_pos (show (0 : Int) = 0 by first | omega | (simp [upS, hz]; done) | (simp [upS, hz]; omega))]
    refine b301_54 ?_
    have hD7 : Dd 245 [(.inr (.inr (some 682))), (.inl 1)] σ (.inl (some (.inl 0)), (upS σ 682 0 1)) := by
      refine b245 ?_
      try rw [if_neg (show ¬ ((1 : Int) = 0) by first | omega | (simp [upS, hz]; done) | (simp [upS, hz]; omega))]
      all_goals rfl
    refine ⟨_, _, hD7, ?_⟩
    clear hD7
    rw [if_pos (show (0 : Int) = 0 by first | omega | (simp [upS, hz]; done) | (simp [upS, hz]; omega))]
    all_goals rfl
  refine ⟨_, _, _, _, hA, hB, ?_, ?_, ?_, ?_, ?_⟩
  · (first | rfl | (simp [upS, SCR, hz]; done) | (simp [upS, SCR, hz]; omega))
  · first | (intro h9; omega) | (intro _; first | rfl | (simp [upS, SCR, hz]; done) | (simp [upS, SCR, hz]; omega))
  · intro i; first | rfl | (unfold upS SCR; (repeat' split) <;> first | rfl | omega)
  · first | rfl | (unfold upS SCR; (repeat' split) <;> first | rfl | omega)
  · first | rfl | (unfold upS SCR; (repeat' split) <;> first | rfl | omega)
theorem q11_1 {σ : Sg} {a1 : Int} {a2 : Int} (hz : ∀ a i, a < 1000 → σ a i = 0) (h0 : 0 ≤ a1) : ∃ (kx b : Int) (s1 s2 : Sg), Dd 401 [(.inr (.inr (some 0))), (.inl a1), (.inl a2), (.inr (.inr (some 726)))] σ (.inl (some (.inl kx)), s1) ∧ Dd 301 [(.inr (.inr (some 682))), (.inl a1), (.inl a2)] s1 (.inl (some (.inl b)), s2) ∧ s2 682 0 = kx ∧ (kx = 0 → s2 726 0 = b) ∧ (∀ i, s1 SCR i = σ SCR i) ∧ s1 (SCR + 1) 0 = σ (SCR + 1) 0 ∧ s2 (SCR + 1) 0 = σ (SCR + 1) 0 := by
  have hA : Dd 401 [(.inr (.inr (some 0))), (.inl a1), (.inl a2), (.inr (.inr (some 726)))] σ (.inl (some (.inl 1)), σ) := by
    refine b401 ?_
    have hD4 : Dd 183 [(.inr (.inr (some 0))), (.inl a1), (.inl a2)] σ (.inr 0, σ) := by
      refine b183 ?_
      have hD3 : Dd 230 [(.inr (.inr (some 0))), (.inl a1)] σ (.inr 0, σ) := by
        refine b230 ?_
        rw [show (σ 0 3) = 0 by (first | omega | (simp [upS, hz]; done) | (simp [upS, hz]; omega))]
        have hD1 : Dd 89 [(.inr (.inr (some 19))), (.inl a1), (.inl 0)] σ (.inl (some (.inr (.inr none))), σ) := by
          refine b89 ?_
          rw [if_pos (show (0 : Int) ≤ a1 by first | omega | (simp [upS, hz]; done) | (simp [upS, hz]; omega))]
          rw [if_neg (show ¬ (a1 < 0) by first | omega | (simp [upS, hz]; done) | (simp [upS, hz]; omega))]
          all_goals rfl
        refine ⟨_, _, hD1, ?_⟩
        clear hD1
        refine ⟨fun _ => ?_, fun _ hz2 => (by cases hz2)⟩
        all_goals rfl
      refine Or.inr ⟨_, _, hD3, ?_⟩
      all_goals rfl
    exact Or.inr (Or.inl ⟨_, hD4, rfl⟩)
  have hB : Dd 301 [(.inr (.inr (some 682))), (.inl a1), (.inl a2)] σ (.inl (some (.inl 0)), (upS σ 682 0 1)) := by
    refine b301 ?_
    have hD6 : Dd 248 [(.inr (.inr (some 682))), (.inl a1)] σ (.inl (some (.inl 0)), σ) := by
      refine b248 ?_
      rw [show (σ 682 3) = 0 by (first | omega | (simp [upS, hz]; done) | (simp [upS, hz]; omega))]
      have hD5 : Dd 246 [(.inl a1), (.inl 0)] σ (.inl (some (.inl 0)), σ) := by
        refine b246 ?_
        try rw [if_pos (show (0 : Int) ≤ a1 by first | omega | (simp [upS, hz]; done) | (simp [upS, hz]; omega))]
        try rw [if_neg (show ¬ (a1 < 0) by first | omega | (simp [upS, hz]; done) | (simp [upS, hz]; omega))]
        all_goals rfl
      refine ⟨_, _, hD5, ?_⟩
      clear hD5
      refine ⟨(show 0 = 0 ∨ 0 = 1 by first | omega | (simp [upS, hz]; done) | (simp [upS, hz]; omega)), ?_⟩
      all_goals rfl
    refine ⟨_, _, hD6, ?_⟩
    clear hD6
    rw [if_pos (show (0 : Int) = 0 by first | omega | (simp [upS, hz]; done) | (simp [upS, hz]; omega))]
    refine b301_20 ?_
    refine b301_21 ?_
    rw [if_pos (show (0 : Int) = 0 by first | omega | (simp [upS, hz]; done) | (simp [upS, hz]; omega))]
    refine b301_54 ?_
    have hD7 : Dd 245 [(.inr (.inr (some 682))), (.inl 1)] σ (.inl (some (.inl 0)), (upS σ 682 0 1)) := by
      refine b245 ?_
      try rw [if_neg (show ¬ ((1 : Int) = 0) by first | omega | (simp [upS, hz]; done) | (simp [upS, hz]; omega))]
      all_goals rfl
    refine ⟨_, _, hD7, ?_⟩
    clear hD7
    rw [if_pos (show (0 : Int) = 0 by first | omega | (simp [upS, hz]; done) | (simp [upS, hz]; omega))]
    all_goals rfl
  refine ⟨_, _, _, _, hA, hB, ?_, ?_, ?_, ?_, ?_⟩
  · (first | rfl | (simp [upS, SCR, hz]; done) | (simp [upS, SCR, hz]; omega))
  · first | (intro h9; omega) | (intro _; first | rfl | (simp [upS, SCR, hz]; done) | (simp [upS, SCR, hz]; omega))
  · intro i; first | rfl | (unfold upS SCR; (repeat' split) <;> first | rfl | omega)
  · first | rfl | (unfold upS SCR; (repeat' split) <;> first | rfl | omega)
  · first | rfl | (unfold upS SCR; (repeat' split) <;> first | rfl | omega)
theorem q12_0 {σ : Sg} {a1 : Int} {a2 : Int} (hz : ∀ a i, a < 1000 → σ a i = 0) (h0 : a1 < 0) : ∃ (kx b : Int) (s1 s2 : Sg), Dd 402 [(.inr (.inr (some 0))), (.inl a1), (.inl a2), (.inr (.inr (some 726)))] σ (.inl (some (.inl kx)), s1) ∧ Dd 302 [(.inr (.inr (some 682))), (.inl a1), (.inl a2)] s1 (.inl (some (.inl b)), s2) ∧ s2 682 0 = kx ∧ (kx = 0 → s2 726 0 = (if b = 0 then 0 else 1)) ∧ (∀ i, s1 SCR i = σ SCR i) ∧ s1 (SCR + 1) 0 = σ (SCR + 1) 0 ∧ s2 (SCR + 1) 0 = σ (SCR + 1) 0 := by
  have hA : Dd 402 [(.inr (.inr (some 0))), (.inl a1), (.inl a2), (.inr (.inr (some 726)))] σ (.inl (some (.inl 1)), σ) := by
    refine b402 ?_
    have hD4 : Dd 184 [(.inr (.inr (some 0))), (.inl a1), (.inl a2)] σ (.inr 0, σ) := by
      refine b184 ?_
      have hD3 : Dd 230 [(.inr (.inr (some 0))), (.inl a1)] σ (.inr 0, σ) := by
        refine b230 ?_
        rw [show (σ 0 3) = 0 by (first | omega | (simp [upS, hz]; done) | (simp [upS, hz]; omega))]
        have hD1 : Dd 89 [(.inr (.inr (some 19))), (.inl a1), (.inl 0)] σ (.inl (some (.inr (.inr none))), σ) := by
          refine b89 ?_
          rw [if_neg (show ¬ ((0 : Int) ≤ a1) by first | omega | (simp [upS, hz]; done) | (simp [upS, hz]; omega))]
          all_goals rfl
        refine ⟨_, _, hD1, ?_⟩
        clear hD1
        refine ⟨fun _ => ?_, fun _ hz2 => (by cases hz2)⟩
        all_goals rfl
      refine Or.inr ⟨_, _, hD3, ?_⟩
      all_goals rfl
    exact Or.inr (Or.inl ⟨_, hD4, rfl⟩)
  have hB : Dd 302 [(.inr (.inr (some 682))), (.inl a1), (.inl a2)] σ (.inl (some (.inl 0)), (upS σ 682 0 1)) := by
    refine b302 ?_
    have hD6 : Dd 248 [(.inr (.inr (some 682))), (.inl a1)] σ (.inl (some (.inl 0)), σ) := by
      refine b248 ?_
      rw [show (σ 682 3) = 0 by (first | omega | (simp [upS, hz]; done) | (simp [upS, hz]; omega))]
      have hD5 : Dd 246 [(.inl a1), (.inl 0)] σ (.inl (some (.inl 0)), σ) := by
        refine b246 ?_
        try rw [if_neg (show ¬ ((0 : Int) ≤ a1) by first | omega | (simp [upS, hz]; done) | (simp [upS, hz]; omega))]
        all_goals rfl
      refine ⟨_, _, hD5, ?_⟩
      clear hD5
      refine ⟨(show 0 = 0 ∨ 0 = 1 by first | omega | (simp [upS, hz]; done) | (simp [upS, hz]; omega)), ?_⟩
      all_goals rfl
    refine ⟨_, _, hD6, ?_⟩
    clear hD6
    rw [if_pos (show (0 : Int) = 0 by first | omega | (simp [upS, hz]; done) | (simp [upS, hz]; omega))]
    refine b302_20 ?_
    refine b302_21 ?_
    rw [if_pos (show (0 : Int) = 0 by first | omega | (simp [upS, hz]; done) | (simp [upS, hz]; omega))]
    refine b302_45 ?_
    have hD7 : Dd 245 [(.inr (.inr (some 682))), (.inl 1)] σ (.inl (some (.inl 0)), (upS σ 682 0 1)) := by
      refine b245 ?_
      try rw [if_neg (show ¬ ((1 : Int) = 0) by first | omega | (simp [upS, hz]; done) | (simp [upS, hz]; omega))]
      all_goals rfl
    refine ⟨_, _, hD7, ?_⟩
    clear hD7
    rw [if_pos (show (0 : Int) = 0 by first | omega | (simp [upS, hz]; done) | (simp [upS, hz]; omega))]
    all_goals rfl
  refine ⟨_, _, _, _, hA, hB, ?_, ?_, ?_, ?_, ?_⟩
  · (first | rfl | (simp [upS, SCR, hz]; done) | (simp [upS, SCR, hz]; omega))
  · first | (intro h9; omega) | (intro _; first | rfl | (simp [upS, SCR, hz]; done) | (simp [upS, SCR, hz]; omega))
  · intro i; first | rfl | (unfold upS SCR; (repeat' split) <;> first | rfl | omega)
  · first | rfl | (unfold upS SCR; (repeat' split) <;> first | rfl | omega)
  · first | rfl | (unfold upS SCR; (repeat' split) <;> first | rfl | omega)
theorem q12_1 {σ : Sg} {a1 : Int} {a2 : Int} (hz : ∀ a i, a < 1000 → σ a i = 0) (h0 : 0 ≤ a1) : ∃ (kx b : Int) (s1 s2 : Sg), Dd 402 [(.inr (.inr (some 0))), (.inl a1), (.inl a2), (.inr (.inr (some 726)))] σ (.inl (some (.inl kx)), s1) ∧ Dd 302 [(.inr (.inr (some 682))), (.inl a1), (.inl a2)] s1 (.inl (some (.inl b)), s2) ∧ s2 682 0 = kx ∧ (kx = 0 → s2 726 0 = (if b = 0 then 0 else 1)) ∧ (∀ i, s1 SCR i = σ SCR i) ∧ s1 (SCR + 1) 0 = σ (SCR + 1) 0 ∧ s2 (SCR + 1) 0 = σ (SCR + 1) 0 := by
  have hA : Dd 402 [(.inr (.inr (some 0))), (.inl a1), (.inl a2), (.inr (.inr (some 726)))] σ (.inl (some (.inl 1)), σ) := by
    refine b402 ?_
    have hD4 : Dd 184 [(.inr (.inr (some 0))), (.inl a1), (.inl a2)] σ (.inr 0, σ) := by
      refine b184 ?_
      have hD3 : Dd 230 [(.inr (.inr (some 0))), (.inl a1)] σ (.inr 0, σ) := by
        refine b230 ?_
        rw [show (σ 0 3) = 0 by (first | omega | (simp [upS, hz]; done) | (simp [upS, hz]; omega))]
        have hD1 : Dd 89 [(.inr (.inr (some 19))), (.inl a1), (.inl 0)] σ (.inl (some (.inr (.inr none))), σ) := by
          refine b89 ?_
          rw [if_pos (show (0 : Int) ≤ a1 by first | omega | (simp [upS, hz]; done) | (simp [upS, hz]; omega))]
          rw [if_neg (show ¬ (a1 < 0) by first | omega | (simp [upS, hz]; done) | (simp [upS, hz]; omega))]
          all_goals rfl
        refine ⟨_, _, hD1, ?_⟩
        clear hD1
        refine ⟨fun _ => ?_, fun _ hz2 => (by cases hz2)⟩
        all_goals rfl
      refine Or.inr ⟨_, _, hD3, ?_⟩
      all_goals rfl
    exact Or.inr (Or.inl ⟨_, hD4, rfl⟩)
  have hB : Dd 302 [(.inr (.inr (some 682))), (.inl a1), (.inl a2)] σ (.inl (some (.inl 0)), (upS σ 682 0 1)) := by
    refine b302 ?_
    have hD6 : Dd 248 [(.inr (.inr (some 682))), (.inl a1)] σ (.inl (some (.inl 0)), σ) := by
      refine b248 ?_
      rw [show (σ 682 3) = 0 by (first | omega | (simp [upS, hz]; done) | (simp [upS, hz]; omega))]
      have hD5 : Dd 246 [(.inl a1), (.inl 0)] σ (.inl (some (.inl 0)), σ) := by
        refine b246 ?_
        try rw [if_pos (show (0 : Int) ≤ a1 by first | omega | (simp [upS, hz]; done) | (simp [upS, hz]; omega))]
        try rw [if_neg (show ¬ (a1 < 0) by first | omega | (simp [upS, hz]; done) | (simp [upS, hz]; omega))]
        all_goals rfl
      refine ⟨_, _, hD5, ?_⟩
      clear hD5
      refine ⟨(show 0 = 0 ∨ 0 = 1 by first | omega | (simp [upS, hz]; done) | (simp [upS, hz]; omega)), ?_⟩
      all_goals rfl
    refine ⟨_, _, hD6, ?_⟩
    clear hD6
    rw [if_pos (show (0 : Int) = 0 by first | omega | (simp [upS, hz]; done) | (simp [upS, hz]; omega))]
    refine b302_20 ?_
    refine b302_21 ?_
    rw [if_pos (show (0 : Int) = 0 by first | omega | (simp [upS, hz]; done) | (simp [upS, hz]; omega))]
    refine b302_45 ?_
    have hD7 : Dd 245 [(.inr (.inr (some 682))), (.inl 1)] σ (.inl (some (.inl 0)), (upS σ 682 0 1)) := by
      refine b245 ?_
      try rw [if_neg (show ¬ ((1 : Int) = 0) by first | omega | (simp [upS, hz]; done) | (simp [upS, hz]; omega))]
      all_goals rfl
    refine ⟨_, _, hD7, ?_⟩
    clear hD7
    rw [if_pos (show (0 : Int) = 0 by first | omega | (simp [upS, hz]; done) | (simp [upS, hz]; omega))]
    all_goals rfl
  refine ⟨_, _, _, _, hA, hB, ?_, ?_, ?_, ?_, ?_⟩
  · (first | rfl | (simp [upS, SCR, hz]; done) | (simp [upS, SCR, hz]; omega))
  · first | (intro h9; omega) | (intro _; first | rfl | (simp [upS, SCR, hz]; done) | (simp [upS, SCR, hz]; omega))
  · intro i; first | rfl | (unfold upS SCR; (repeat' split) <;> first | rfl | omega)
  · first | rfl | (unfold upS SCR; (repeat' split) <;> first | rfl | omega)
  · first | rfl | (unfold upS SCR; (repeat' split) <;> first | rfl | omega)
theorem q13_0 {σ : Sg} {a1 : Int} {a2 : Int} {a3 : Int} (hz : ∀ a i, a < 1000 → σ a i = 0) (h0 : a1 < 0) : ∃ (kx b : Int) (s1 s2 : Sg), Dd 403 [(.inr (.inr (some 0))), (.inl a1), (.inl a2), (.inl a3), (.inr (.inr (some 726)))] σ (.inl (some (.inl kx)), s1) ∧ Dd 303 [(.inr (.inr (some 682))), (.inl a1), (.inl a2), (.inl a3)] s1 (.inl (some (.inl b)), s2) ∧ s2 682 0 = kx ∧ (kx = 0 → s2 726 0 = b) ∧ (∀ i, s1 SCR i = σ SCR i) ∧ s1 (SCR + 1) 0 = σ (SCR + 1) 0 ∧ s2 (SCR + 1) 0 = σ (SCR + 1) 0 := by
  have hA : Dd 403 [(.inr (.inr (some 0))), (.inl a1), (.inl a2), (.inl a3), (.inr (.inr (some 726)))] σ (.inl (some (.inl 1)), σ) := by
    refine b403 ?_
    have hD4 : Dd 185 [(.inr (.inr (some 0))), (.inl a1), (.inl a2), (.inl a3)] σ (.inr 0, σ) := by
      refine b185 ?_
      have hD3 : Dd 230 [(.inr (.inr (some 0))), (.inl a1)] σ (.inr 0, σ) := by
        refine b230 ?_
        rw [show (σ 0 3) = 0 by (first | omega | (simp [upS, hz]; done) | (simp [upS, hz]; omega))]
        have hD1 : Dd 89 [(.inr (.inr (some 19))), (.inl a1), (.inl 0)] σ (.inl (some (.inr (.inr none))), σ) := by
          refine b89 ?_
          rw [if_neg (show ¬ ((0 : Int) ≤ a1) by first | omega | (simp [upS, hz]; done) | (simp [upS, hz]; omega))]
          all_goals rfl
        refine ⟨_, _, hD1, ?_⟩
        clear hD1
        refine ⟨fun _ => ?_, fun _ hz2 => (by cases hz2)⟩
        all_goals rfl
      refine Or.inr ⟨_, _, hD3, ?_⟩
      all_goals rfl
    exact Or.inr (Or.inl ⟨_, hD4, rfl⟩)
  have hB : Dd 303 [(.inr (.inr (some 682))), (.inl a1), (.inl a2), (.inl a3)] σ (.inl (some (.inl 0)), (upS σ 682 0 1)) := by
    refine b303 ?_
    have hD6 : Dd 248 [(.inr (.inr (some 682))), (.inl a1)] σ (.inl (some (.inl 0)), σ) := by
      refine b248 ?_
      rw [show (σ 682 3) = 0 by (first | omega | (simp [upS, hz]; done) | (simp [upS, hz]; omega))]
      have hD5 : Dd 246 [(.inl a1), (.inl 0)] σ (.inl (some (.inl 0)), σ) := by
        refine b246 ?_
        try rw [if_neg (show ¬ ((0 : Int) ≤ a1) by first | omega | (simp [upS, hz]; done) | (simp [upS, hz]; omega))]
        all_goals rfl
      refine ⟨_, _, hD5, ?_⟩
      clear hD5
      refine ⟨(show 0 = 0 ∨ 0 = 1 by first | omega | (simp [upS, hz]; done) | (simp [upS, hz]; omega)), ?_⟩
      all_goals rfl
    refine ⟨_, _, hD6, ?_⟩
    clear hD6
    rw [if_pos (show (0 : Int) = 0 by first | omega | (simp [upS, hz]; done) | (simp [upS, hz]; omega))]
    refine b303_20 ?_
    refine b303_21 ?_
    rw [if_pos (show (0 : Int) = 0 by first | omega | (simp [upS, hz]; done) | (simp [upS, hz]; omega))]
    refine b303_50 ?_
    refine b303_51 ?_
    rw [if_pos (show (0 : Int) = 0 by first | omega | (simp [upS, hz]; done) | (simp [upS, hz]; omega))]
    refine b303_68 ?_
    rw [if_pos (show (0 : Int) = 0 by first | omega | (simp [upS, hz]; done) | (simp [upS, hz]; omega))]
    refine b303_109 ?_
    have hD7 : Dd 245 [(.inr (.inr (some 682))), (.inl 1)] σ (.inl (some (.inl 0)), (upS σ 682 0 1)) := by
      refine b245 ?_
      try rw [if_neg (show ¬ ((1 : Int) = 0) by first | omega | (simp [upS, hz]; done) | (simp [upS, hz]; omega))]
      all_goals rfl
    refine ⟨_, _, hD7, ?_⟩
    clear hD7
    rw [if_pos (show (0 : Int) = 0 by first | omega | (simp [upS, hz]; done) | (simp [upS, hz]; omega))]
    all_goals rfl
  refine ⟨_, _, _, _, hA, hB, ?_, ?_, ?_, ?_, ?_⟩
  · (first | rfl | (simp [upS, SCR, hz]; done) | (simp [upS, SCR, hz]; omega))
  · first | (intro h9; omega) | (intro _; first | rfl | (simp [upS, SCR, hz]; done) | (simp [upS, SCR, hz]; omega))
  · intro i; first | rfl | (unfold upS SCR; (repeat' split) <;> first | rfl | omega)
  · first | rfl | (unfold upS SCR; (repeat' split) <;> first | rfl | omega)
  · first | rfl | (unfold upS SCR; (repeat' split) <;> first | rfl | omega)
theorem q13_1 {σ : Sg} {a1 : Int} {a2 : Int} {a3 : Int} (hz : ∀ a i, a < 1000 → σ a i = 0) (h0 : 0 ≤ a1) : ∃ (kx b : Int) (s1 s2 : Sg), Dd 403 [(.inr (.inr (some 0))), (.inl a1), (.inl a2), (.inl a3), (.inr (.inr (some 726)))] σ (.inl (some (.inl kx)), s1) ∧ Dd 303 [(.inr (.inr (some 682))), (.inl a1), (.inl a2), (.inl a3)] s1 (.inl (some (.inl b)), s2) ∧ s2 682 0 = kx ∧ (kx = 0 → s2 726 0 = b) ∧ (∀ i, s1 SCR i = σ SCR i) ∧ s1 (SCR + 1) 0 = σ (SCR + 1) 0 ∧ s2 (SCR + 1) 0 = σ (SCR + 1) 0 := by
  have hA : Dd 403 [(.inr (.inr (some 0))), (.inl a1), (.inl a2), (.inl a3), (.inr (.inr (some 726)))] σ (.inl (some (.inl 1)), σ) := by
    refine b403 ?_
    have hD4 : Dd 185 [(.inr (.inr (some 0))), (.inl a1), (.inl a2), (.inl a3)] σ (.inr 0, σ) := by
      refine b185 ?_
      have hD3 : Dd 230 [(.inr (.inr (some 0))), (.inl a1)] σ (.inr 0, σ) := by
        refine b230 ?_
        rw [show (σ 0 3) = 0 by (first | omega | (simp [upS, hz]; done) | (simp [upS, hz]; omega))]
        have hD1 : Dd 89 [(.inr (.inr (some 19))), (.inl a1), (.inl 0)] σ (.inl (some (.inr (.inr none))), σ) := by
          refine b89 ?_
          rw [if_pos (show (0 : Int) ≤ a1 by first | omega | (simp [upS, hz]; done) | (simp [upS, hz]; omega))]
          rw [if_neg (show ¬ (a1 < 0) by first | omega | (simp [upS, hz]; done) | (simp [upS, hz]; omega))]
          all_goals rfl
        refine ⟨_, _, hD1, ?_⟩
        clear hD1
        refine ⟨fun _ => ?_, fun _ hz2 => (by cases hz2)⟩
        all_goals rfl
      refine Or.inr ⟨_, _, hD3, ?_⟩
      all_goals rfl
    exact Or.inr (Or.inl ⟨_, hD4, rfl⟩)
  have hB : Dd 303 [(.inr (.inr (some 682))), (.inl a1), (.inl a2), (.inl a3)] σ (.inl (some (.inl 0)), (upS σ 682 0 1)) := by
    refine b303 ?_
    have hD6 : Dd 248 [(.inr (.inr (some 682))), (.inl a1)] σ (.inl (some (.inl 0)), σ) := by
      refine b248 ?_
      rw [show (σ 682 3) = 0 by (first | omega | (simp [upS, hz]; done) | (simp [upS, hz]; omega))]
      have hD5 : Dd 246 [(.inl a1), (.inl 0)] σ (.inl (some (.inl 0)), σ) := by
        refine b246 ?_
        try rw [if_pos (show (0 : Int) ≤ a1 by first | omega | (simp [upS, hz]; done) | (simp [upS, hz]; omega))]
        try rw [if_neg (show ¬ (a1 < 0) by first | omega | (simp [upS, hz]; done) | (simp [upS, hz]; omega))]
        all_goals rfl
      refine ⟨_, _, hD5, ?_⟩
      clear hD5
      refine ⟨(show 0 = 0 ∨ 0 = 1 by first | omega | (simp [upS, hz]; done) | (simp [upS, hz]; omega)), ?_⟩
      all_goals rfl
    refine ⟨_, _, hD6, ?_⟩
    clear hD6
    rw [if_pos (show (0 : Int) = 0 by first | omega | (simp [upS, hz]; done) | (simp [upS, hz]; omega))]
    refine b303_20 ?_
    refine b303_21 ?_
    rw [if_pos (show (0 : Int) = 0 by first | omega | (simp [upS, hz]; done) | (simp [upS, hz]; omega))]
    refine b303_50 ?_
    refine b303_51 ?_
    rw [if_pos (show (0 : Int) = 0 by first | omega | (simp [upS, hz]; done) | (simp [upS, hz]; omega))]
    refine b303_68 ?_
    rw [if_pos (show (0 : Int) = 0 by first | omega | (simp [upS, hz]; done) | (simp [upS, hz]; omega))]
    refine b303_109 ?_
    have hD7 : Dd 245 [(.inr (.inr (some 682))), (.inl 1)] σ (.inl (some (.inl 0)), (upS σ 682 0 1)) := by
      refine b245 ?_
      try rw [if_neg (show ¬ ((1 : Int) = 0) by first | omega | (simp [upS, hz]; done) | (simp [upS, hz]; omega))]
      all_goals rfl
    refine ⟨_, _, hD7, ?_⟩
    clear hD7
    rw [if_pos (show (0 : Int) = 0 by first | omega | (simp [upS, hz]; done) | (simp [upS, hz]; omega))]
    all_goals rfl
  refine ⟨_, _, _, _, hA, hB, ?_, ?_, ?_, ?_, ?_⟩
  · (first | rfl | (simp [upS, SCR, hz]; done) | (simp [upS, SCR, hz]; omega))
  · first | (intro h9; omega) | (intro _; first | rfl | (simp [upS, SCR, hz]; done) | (simp [upS, SCR, hz]; omega))
  · intro i; first | rfl | (unfold upS SCR; (repeat' split) <;> first | rfl | omega)
  · first | rfl | (unfold upS SCR; (repeat' split) <;> first | rfl | omega)
  · first | rfl | (unfold upS SCR; (repeat' split) <;> first | rfl | omega)
theorem q14_0 {σ : Sg} {a1 : Int} {a2 : Int} {a3 : Int} {a4 : Int} {a5 : Int} (hz : ∀ a i, a < 1000 → σ a i = 0) (h0 : a1 < 0) : ∃ (kx b : Int) (s1 s2 : Sg), Dd 404 [(.inr (.inr (some 0))), (.inl a1), (.inl a2), (.inl a3), (.inl a4), (.inl a5), (.inr (.inr (some 726)))] σ (.inl (some (.inl kx)), s1) ∧ Dd 305 [(.inr (.inr (some 682))), (.inl a1), (.inl a2), (.inl a3), (.inl a4), (.inl a5)] s1 (.inl (some (.inl b)), s2) ∧ s2 682 0 = kx ∧ (kx = 0 → s2 726 0 = b) ∧ (∀ i, s1 SCR i = σ SCR i) ∧ s1 (SCR + 1) 0 = σ (SCR + 1) 0 ∧ s2 (SCR + 1) 0 = σ (SCR + 1) 0 := by
  have hA : Dd 404 [(.inr (.inr (some 0))), (.inl a1), (.inl a2), (.inl a3), (.inl a4), (.inl a5), (.inr (.inr (some 726)))] σ (.inl (some (.inl 1)), σ) := by
    refine b404 ?_
    have hD4 : Dd 186 [(.inr (.inr (some 0))), (.inl a1), (.inl a2), (.inl a3), (.inl a4), (.inl a5)] σ (.inr 0, σ) := by
      refine b186 ?_
      have hD3 : Dd 230 [(.inr (.inr (some 0))), (.inl a1)] σ (.inr 0, σ) := by
        refine b230 ?_
        rw [show (σ 0 3) = 0 by (first | omega | (simp [upS, hz]; done) | (simp [upS, hz]; omega))]
        have hD1 : Dd 89 [(.inr (.inr (some 19))), (.inl a1), (.inl 0)] σ (.inl (some (.inr (.inr none))), σ) := by
          refine b89 ?_
          rw [if_neg (show ¬ ((0 : Int) ≤ a1) by first | omega | (simp [upS, hz]; done) | (simp [upS, hz]; omega))]
          all_goals rfl
        refine ⟨_, _, hD1, ?_⟩
        clear hD1
        refine ⟨fun _ => ?_, fun _ hz2 => (by cases hz2)⟩
        all_goals rfl
      refine Or.inr ⟨_, _, hD3, ?_⟩
      all_goals rfl
    exact Or.inr (Or.inl ⟨_, hD4, rfl⟩)
  have hB : Dd 305 [(.inr (.inr (some 682))), (.inl a1), (.inl a2), (.inl a3), (.inl a4), (.inl a5)] σ (.inl (some (.inl 0)), (upS σ 682 0 1)) := by
    refine b305 ?_
    have hD7 : Dd 304 [(.inr (.inr (some 682))), (.inl a1), (.inl a2)] σ (.inl (some (.inl 0)), σ) := by
      refine b304 ?_
      have hD6 : Dd 248 [(.inr (.inr (some 682))), (.inl a1)] σ (.inl (some (.inl 0)), σ) := by
        refine b248 ?_
        rw [show (σ 682 3) = 0 by (first | omega | (simp [upS, hz]; done) | (simp [upS, hz]; omega))]
        have hD5 : Dd 246 [(.inl a1), (.inl 0)] σ (.inl (some (.inl 0)), σ) := by
          refine b246 ?_
          try rw [if_neg (show ¬ ((0 : Int) ≤ a1) by first | omega | (simp [upS, hz]; done) | (simp [upS, hz]; omega))]
          all_goals rfl
        refine ⟨_, _, hD5, ?_⟩
        clear hD5
        refine ⟨(show 0 = 0 ∨ 0 = 1 by first | omega | (simp [upS, hz]; done) | (simp [upS, hz]; omega)), ?_⟩
        all_goals rfl
      refine ⟨_, _, hD6, ?_⟩
      clear hD6
      rw [if_pos (show (0 : Int) = 0 by first | omega | (simp [upS, hz]; done) | (simp [upS, hz]; omega))]
      all_goals rfl
    refine ⟨_, _, hD7, ?_⟩
    clear hD7
    rw [if_pos (show (0 : Int) = 0 by first | omega | (simp [upS, hz]; done) | (simp [upS, hz]; omega))]
    refine b305_48 ?_
    refine b305_49 ?_
    rw [if_pos (show (0 : Int) = 0 by first | omega | (simp [upS, hz]; done) | (simp [upS, hz]; omega))]
    refine b305_69 ?_
    rw [if_pos (show (0 : Int) = 0 by first | omega | (simp [upS, hz]; done) | (simp [upS, hz]; omega))]
    refine b305_114 ?_
    have hD8 : Dd 245 [(.inr (.inr (some 682))), (.inl 1)] σ (.inl (some (.inl 0)), (upS σ 682 0 1)) := by
      refine b245 ?_
      try rw [if_neg (show ¬ ((1 : Int) = 0) by first | omega | (simp [upS, hz]; done) | (simp [upS, hz]; omega))]
      all_goals rfl
    refine ⟨_, _, hD8, ?_⟩
    clear hD8
    rw [if_pos (show (0 : Int) = 0 by first | omega | (simp [upS, hz]; done) | (simp [upS, hz]; omega))]
    all_goals rfl
  refine ⟨_, _, _, _, hA, hB, ?_, ?_, ?_, ?_, ?_⟩
  · (first | rfl | (simp [upS, SCR, hz]; done) | (simp [upS, SCR, hz]; omega))
  · first | (intro h9; omega) | (intro _; first | rfl | (simp [upS, SCR, hz]; done) | (simp [upS, SCR, hz]; omega))
  · intro i; first | rfl | (unfold upS SCR; (repeat' split) <;> first | rfl | omega)
  · first | rfl | (unfold upS SCR; (repeat' split) <;> first | rfl | omega)
  · first | rfl | (unfold upS SCR; (repeat' split) <;> first | rfl | omega)
theorem q14_1 {σ : Sg} {a1 : Int} {a2 : Int} {a3 : Int} {a4 : Int} {a5 : Int} (hz : ∀ a i, a < 1000 → σ a i = 0) (h0 : 0 ≤ a1) : ∃ (kx b : Int) (s1 s2 : Sg), Dd 404 [(.inr (.inr (some 0))), (.inl a1), (.inl a2), (.inl a3), (.inl a4), (.inl a5), (.inr (.inr (some 726)))] σ (.inl (some (.inl kx)), s1) ∧ Dd 305 [(.inr (.inr (some 682))), (.inl a1), (.inl a2), (.inl a3), (.inl a4), (.inl a5)] s1 (.inl (some (.inl b)), s2) ∧ s2 682 0 = kx ∧ (kx = 0 → s2 726 0 = b) ∧ (∀ i, s1 SCR i = σ SCR i) ∧ s1 (SCR + 1) 0 = σ (SCR + 1) 0 ∧ s2 (SCR + 1) 0 = σ (SCR + 1) 0 := by
  have hA : Dd 404 [(.inr (.inr (some 0))), (.inl a1), (.inl a2), (.inl a3), (.inl a4), (.inl a5), (.inr (.inr (some 726)))] σ (.inl (some (.inl 1)), σ) := by
    refine b404 ?_
    have hD4 : Dd 186 [(.inr (.inr (some 0))), (.inl a1), (.inl a2), (.inl a3), (.inl a4), (.inl a5)] σ (.inr 0, σ) := by
      refine b186 ?_
      have hD3 : Dd 230 [(.inr (.inr (some 0))), (.inl a1)] σ (.inr 0, σ) := by
        refine b230 ?_
        rw [show (σ 0 3) = 0 by (first | omega | (simp [upS, hz]; done) | (simp [upS, hz]; omega))]
        have hD1 : Dd 89 [(.inr (.inr (some 19))), (.inl a1), (.inl 0)] σ (.inl (some (.inr (.inr none))), σ) := by
          refine b89 ?_
          rw [if_pos (show (0 : Int) ≤ a1 by first | omega | (simp [upS, hz]; done) | (simp [upS, hz]; omega))]
          rw [if_neg (show ¬ (a1 < 0) by first | omega | (simp [upS, hz]; done) | (simp [upS, hz]; omega))]
          all_goals rfl
        refine ⟨_, _, hD1, ?_⟩
        clear hD1
        refine ⟨fun _ => ?_, fun _ hz2 => (by cases hz2)⟩
        all_goals rfl
      refine Or.inr ⟨_, _, hD3, ?_⟩
      all_goals rfl
    exact Or.inr (Or.inl ⟨_, hD4, rfl⟩)
  have hB : Dd 305 [(.inr (.inr (some 682))), (.inl a1), (.inl a2), (.inl a3), (.inl a4), (.inl a5)] σ (.inl (some (.inl 0)), (upS σ 682 0 1)) := by
    refine b305 ?_
    have hD7 : Dd 304 [(.inr (.inr (some 682))), (.inl a1), (.inl a2)] σ (.inl (some (.inl 0)), σ) := by
      refine b304 ?_
      have hD6 : Dd 248 [(.inr (.inr (some 682))), (.inl a1)] σ (.inl (some (.inl 0)), σ) := by
        refine b248 ?_
        rw [show (σ 682 3) = 0 by (first | omega | (simp [upS, hz]; done) | (simp [upS, hz]; omega))]
        have hD5 : Dd 246 [(.inl a1), (.inl 0)] σ (.inl (some (.inl 0)), σ) := by
          refine b246 ?_
          try rw [if_pos (show (0 : Int) ≤ a1 by first | omega | (simp [upS, hz]; done) | (simp [upS, hz]; omega))]
          try rw [if_neg (show ¬ (a1 < 0) by first | omega | (simp [upS, hz]; done) | (simp [upS, hz]; omega))]
          all_goals rfl
        refine ⟨_, _, hD5, ?_⟩
        clear hD5
        refine ⟨(show 0 = 0 ∨ 0 = 1 by first | omega | (simp [upS, hz]; done) | (simp [upS, hz]; omega)), ?_⟩
        all_goals rfl
      refine ⟨_, _, hD6, ?_⟩
      clear hD6
      rw [if_pos (show (0 : Int) = 0 by first | omega | (simp [upS, hz]; done) | (simp [upS, hz]; omega))]
      all_goals rfl
    refine ⟨_, _, hD7, ?_⟩
    clear hD7
    rw [if_pos (show (0 : Int) = 0 by first | omega | (simp [upS, hz]; done) | (simp [upS, hz]; omega))]
    refine b305_48 ?_
    refine b305_49 ?_
    rw [if_pos (show (0 : Int) = 0 by first | omega | (simp [upS, hz]; done) | (simp [upS, hz]; omega))]
    refine b305_69 ?_
    rw [if_pos (show (0 : Int) = 0 by first | omega | (simp [upS, hz]; done) | (simp [upS, hz]; omega))]
    refine b305_114 ?_
    have hD8 : Dd 245 [(.inr (.inr (some 682))), (.inl 1)] σ (.inl (some (.inl 0)), (upS σ 682 0 1)) := by
      refine b245 ?_
      try rw [if_neg (show ¬ ((1 : Int) = 0) by first | omega | (simp [upS, hz]; done) | (simp [upS, hz]; omega))]
      all_goals rfl
    refine ⟨_, _, hD8, ?_⟩
    clear hD8
    rw [if_pos (show (0 : Int) = 0 by first | omega | (simp [upS, hz]; done) | (simp [upS, hz]; omega))]
    all_goals rfl
  refine ⟨_, _, _, _, hA, hB, ?_, ?_, ?_, ?_, ?_⟩
  · (first | rfl | (simp [upS, SCR, hz]; done) | (simp [upS, SCR, hz]; omega))
  · first | (intro h9; omega) | (intro _; first | rfl | (simp [upS, SCR, hz]; done) | (simp [upS, SCR, hz]; omega))
  · intro i; first | rfl | (unfold upS SCR; (repeat' split) <;> first | rfl | omega)
  · first | rfl | (unfold upS SCR; (repeat' split) <;> first | rfl | omega)
  · first | rfl | (unfold upS SCR; (repeat' split) <;> first | rfl | omega)
theorem q15_0 {σ : Sg} (hz : ∀ a i, a < 1000 → σ a i = 0)  : ∃ (kx b : Int) (s1 s2 : Sg), Dd 187 [(.inr (.inr (some 0)))] σ (.inl (some (.inl kx)), s1) ∧ Dd 306 [(.inr (.inr (some 682)))] s1 (.inl (some (.inl b)), s2) ∧ kx = b ∧ (∀ i, s1 SCR i = σ SCR i) ∧ s1 (SCR + 1) 0 = σ (SCR + 1) 0 ∧ s2 (SCR + 1) 0 = σ (SCR + 1) 0 := by
  have hA : Dd 187 [(.inr (.inr (some 0)))] σ (.inl (some (.inl 0)), σ) := by
    refine b187 ?_
    rw [show (σ 0 3) = 0 by (first | omega | (simp [upS, hz]; done) | (simp [upS, hz]; omega))]
    all_goals rfl
  have hB : Dd 306 [(.inr (.inr (some 682)))] σ (.inl (some (.inl 0)), (upS σ 682 0 0)) := by
    refine b306 ?_
    rw [show ((upS σ 682 0 0) 682 3) = 0 by (first | omega | (simp [upS, hz]; done) | (simp [upS, hz]; omega))]
    all_goals rfl
  refine ⟨_, _, _, _, hA, hB, ?_, ?_, ?_, ?_⟩
  · (first | rfl | (simp [upS, SCR, hz]; done) | (simp [upS, SCR, hz]; omega))
  · intro i; first | rfl | (unfold upS SCR; (repeat' split) <;> first | rfl | omega)
  · first | rfl | (unfold upS SCR; (repeat' split) <;> first | rfl | omega)
  · first | rfl | (unfold upS SCR; (repeat' split) <;> first | rfl | omega)
theorem q16_0 {σ : Sg} {a1 : Int} {a2 : Int} {a3 : Int} (hz : ∀ a i, a < 1000 → σ a i = 0) (h0 : a1 < 0) : ∃ (kx b : Int) (s1 s2 : Sg), Dd 405 [(.inr (.inr (some 0))), (.inl a1), (.inl a2), (.inl a3), (.inr (.inr (some 726)))] σ (.inl (some (.inl kx)), s1) ∧ Dd 307 [(.inr (.inr (some 682))), (.inl a1), (.inl a2), (.inl a3)] s1 (.inl (some (.inl b)), s2) ∧ s2 682 0 = kx ∧ (kx = 0 → s2 726 0 = b) ∧ (∀ i, s1 SCR i = σ SCR i) ∧ s1 (SCR + 1) 0 = σ (SCR + 1) 0 ∧ s2 (SCR + 1) 0 = σ (SCR + 1) 0 := by
  have hA : Dd 405 [(.inr (.inr (some 0))), (.inl a1), (.inl a2), (.inl a3), (.inr (.inr (some 726)))] σ (.inl (some (.inl 1)), σ) := by
    refine b405 ?_
    have hD4 : Dd 188 [(.inr (.inr (some 0))), (.inl a1), (.inl a2), (.inl a3)] σ (.inr 0, σ) := by
      refine b188 ?_
      have hD3 : Dd 230 [(.inr (.inr (some 0))), (.inl a1)] σ (.inr 0, σ) := by
        refine b230 ?_
        rw [show (σ 0 3) = 0 by (first | omega | (simp [upS, hz]; done) | (simp [upS, hz]; omega))]
        have hD1 : Dd 89 [(.inr (.inr (some 19))), (.inl a1), (.inl 0)] σ (.inl (some (.inr (.inr none))), σ) := by
          refine b89 ?_
          rw [if_neg (show ¬ ((0 : Int) ≤ a1) by first | omega | (simp [upS, hz]; done) | (simp [upS, hz]; omega))]
          all_goals rfl
        refine ⟨_, _, hD1, ?_⟩
        clear hD1
        refine ⟨fun _ => ?_, fun _ hz2 => (by cases hz2)⟩
        all_goals rfl
      refine Or.inr ⟨_, _, hD3, ?_⟩
      all_goals rfl
    exact Or.inr (⟨_, hD4, rfl⟩)
  have hB : Dd 307 [(.inr (.inr (some 682))), (.inl a1), (.inl a2), (.inl a3)] σ (.inl (some (.inl 0)), (upS σ 682 0 1)) := by
    refine b307 ?_
    have hD6 : Dd 248 [(.inr (.inr (some 682))), (.inl a1)] σ (.inl (some (.inl 0)), σ) := by
      refine b248 ?_
      rw [show (σ 682 3) = 0 by (first | omega | (simp [upS, hz]; done) | (simp [upS, hz]; omega))]
      have hD5 : Dd 246 [(.inl a1), (.inl 0)] σ (.inl (some (.inl 0)), σ) := by
        refine b246 ?_
        try rw [if_neg (show ¬ ((0 : Int) ≤ a1) by first | omega | (simp [upS, hz]; done) | (simp [upS, hz]; omega))]
        all_goals rfl
      refine ⟨_, _, hD5, ?_⟩
      clear hD5
      refine ⟨(show 0 = 0 ∨ 0 = 1 by first | omega | (simp [upS, hz]; done) | (simp [upS, hz]; omega)), ?_⟩
      all_goals rfl
    refine ⟨_, _, hD6, ?_⟩
    clear hD6
    rw [if_pos (show (0 : Int) = 0 by first | omega | (simp [upS, hz]; done) | (simp [upS, hz]; omega))]
    refine b307_17 ?_
    refine b307_18 ?_
    have hD7 : Dd 245 [(.inr (.inr (some 682))), (.inl 1)] σ (.inl (some (.inl 0)), (upS σ 682 0 1)) := by
      refine b245 ?_
      try rw [if_neg (show ¬ ((1 : Int) = 0) by first | omega | (simp [upS, hz]; done) | (simp [upS, hz]; omega))]
      all_goals rfl
    refine ⟨_, _, hD7, ?_⟩
    clear hD7
    rw [if_pos (show (0 : Int) = 0 by first | omega | (simp [upS, hz]; done) | (simp [upS, hz]; omega))]
    all_goals rfl
  refine ⟨_, _, _, _, hA, hB, ?_, ?_, ?_, ?_, ?_⟩
  · (first | rfl | (simp [upS, SCR, hz]; done) | (simp [upS, SCR, hz]; omega))
  · first | (intro h9; omega) | (intro _; first | rfl | (simp [upS, SCR, hz]; done) | (simp [upS, SCR, hz]; omega))
  · intro i; first | rfl | (unfold upS SCR; (repeat' split) <;> first | rfl | omega)
  · first | rfl | (unfold upS SCR; (repeat' split) <;> first | rfl | omega)
  · first | rfl | (unfold upS SCR; (repeat' split) <;> first | rfl | omega)
theorem q16_1 {σ : Sg} {a1 : Int} {a2 : Int} {a3 : Int} (hz : ∀ a i, a < 1000 → σ a i = 0) (h0 : 0 ≤ a1) : ∃ (kx b : Int) (s1 s2 : Sg), Dd 405 [(.inr (.inr (some 0))), (.inl a1), (.inl a2), (.inl a3), (.inr (.inr (some 726)))] σ (.inl (some (.inl kx)), s1) ∧ Dd 307 [(.inr (.inr (some 682))), (.inl a1), (.inl a2), (.inl a3)] s1 (.inl (some (.inl b)), s2) ∧ s2 682 0 = kx ∧ (kx = 0 → s2 726 0 = b) ∧ (∀ i, s1 SCR i = σ SCR i) ∧ s1 (SCR + 1) 0 = σ (SCR + 1) 0 ∧ s2 (SCR + 1) 0 = σ (SCR + 1) 0 := by
  have hA : Dd 405 [(.inr (.inr (some 0))), (.inl a1), (.inl a2), (.inl a3), (.inr (.inr (some 726)))] σ (.inl (some (.inl 1)), σ) := by
    refine b405 ?_
    have hD4 : Dd 188 [(.inr (.inr (some 0))), (.inl a1), (.inl a2), (.inl a3)] σ (.inr 0, σ) := by
      refine b188 ?_
      have hD3 : Dd 230 [(.inr (.inr (some 0))), (.inl a1)] σ (.inr 0, σ) := by
        refine b230 ?_
        rw [show (σ 0 3) = 0 by (first | omega | (simp [upS, hz]; done) | (simp [upS, hz]; omega))]
        have hD1 : Dd 89 [(.inr (.inr (some 19))), (.inl a1), (.inl 0)] σ (.inl (some (.inr (.inr none))), σ) := by
          refine b89 ?_
          rw [if_pos (show (0 : Int) ≤ a1 by first | omega | (simp [upS, hz]; done) | (simp [upS, hz]; omega))]
          rw [if_neg (show ¬ (a1 < 0) by first | omega | (simp [upS, hz]; done) | (simp [upS, hz]; omega))]
          all_goals rfl
        refine ⟨_, _, hD1, ?_⟩
        clear hD1
        refine ⟨fun _ => ?_, fun _ hz2 => (by cases hz2)⟩
        all_goals rfl
      refine Or.inr ⟨_, _, hD3, ?_⟩
      all_goals rfl
    exact Or.inr (⟨_, hD4, rfl⟩)
  have hB : Dd 307 [(.inr (.inr (some 682))), (.inl a1), (.inl a2), (.inl a3)] σ (.inl (some (.inl 0)), (upS σ 682 0 1)) := by
    refine b307 ?_
    have hD6 : Dd 248 [(.inr (.inr (some 682))), (.inl a1)] σ (.inl (some (.inl 0)), σ) := by
      refine b248 ?_
      rw [show (σ 682 3) = 0 by (first | omega | (simp [upS, hz]; done) | (simp [upS, hz]; omega))]
      have hD5 : Dd 246 [(.inl a1), (.inl 0)] σ (.inl (some (.inl 0)), σ) := by
        refine b246 ?_
        try rw [if_pos (show (0 : Int) ≤ a1 by first | omega | (simp [upS, hz]; done) | (simp [upS, hz]; omega))]
        try rw [if_neg (show ¬ (a1 < 0) by first | omega | (simp [upS, hz]; done) | (simp [upS, hz]; omega))]
        all_goals rfl
      refine ⟨_, _, hD5, ?_⟩
      clear hD5
      refine ⟨(show 0 = 0 ∨ 0 = 1 by first | omega | (simp [upS, hz]; done) | (simp [upS, hz]; omega)), ?_⟩
      all_goals rfl
    refine ⟨_, _, hD6, ?_⟩
    clear hD6
    rw [if_pos (show (0 : Int) = 0 by first | omega | (simp [upS, hz]; done) | (simp [upS, hz]; omega))]
    refine b307_17 ?_
    refine b307_18 ?_
    have hD7 : Dd 245 [(.inr (.inr (some 682))), (.inl 1)] σ (.inl (some (.inl 0)), (upS σ 682 0 1)) := by
      refine b245 ?_
      try rw [if_neg (show ¬ ((1 : Int) = 0) by first | omega | (simp [upS, hz]; done) | (simp [upS, hz]; omega))]
      all_goals rfl
    refine ⟨_, _, hD7, ?_⟩
    clear hD7
    rw [if_pos (show (0 : Int) = 0 by first | omega | (simp [upS, hz]; done) | (simp [upS, hz]; omega))]
    all_goals rfl
  refine ⟨_, _, _, _, hA, hB, ?_, ?_, ?_, ?_, ?_⟩
  · (first | rfl | (simp [upS, SCR, hz]; done) | (simp [upS, SCR, hz]; omega))
  · first | (intro h9; omega) | (intro _; first | rfl | (simp [upS, SCR, hz]; done) | (simp [upS, SCR, hz]; omega))
  · intro i; first | rfl | (unfold upS SCR; (repeat' split) <;> first | rfl | omega)
  · first | rfl | (unfold upS SCR; (repeat' split) <;> first | rfl | omega)
  · first | rfl | (unfold upS SCR; (repeat' split) <;> first | rfl | omega)
theorem q17_0 {σ : Sg} {a1 : Int} {a2 : Int} (hz : ∀ a i, a < 1000 → σ a i = 0) (h0 : a1 < 0) : ∃ (kx b : Int) (s1 s2 : Sg), Dd 406 [(.inr (.inr (some 0))), (.inl a1), (.inl a2), (.inr (.inr (some 726)))] σ (.inl (some (.inl kx)), s1) ∧ Dd 309 [(.inr (.inr (some 682))), (.inl a1), (.inl a2)] s1 (.inl (some (.inl b)), s2) ∧ s2 682 0 = kx ∧ (kx = 0 → s2 726 0 = b) ∧ (∀ i, s1 SCR i = σ SCR i) ∧ s1 (SCR + 1) 0 = σ (SCR + 1) 0 ∧ s2 (SCR + 1) 0 = σ (SCR + 1) 0 := by
  have hA : Dd 406 [(.inr (.inr (some 0))), (.inl a1), (.inl a2), (.inr (.inr (some 726)))] σ (.inl (some (.inl 1)), σ) := by
    refine b406 ?_
    have hD4 : Dd 189 [(.inr (.inr (some 0))), (.inl a1), (.inl a2)] σ (.inr 0, σ) := by
      refine b189 ?_
      have hD3 : Dd 230 [(.inr (.inr (some 0))), (.inl a1)] σ (.inr 0, σ) := by
        refine b230 ?_
        rw [show (σ 0 3) = 0 by (first | omega | (simp [upS, hz]; done) | (simp [upS, hz]; omega))]
        have hD1 : Dd 89 [(.inr (.inr (some 19))), (.inl a1), (.inl 0)] σ (.inl (some (.inr (.inr none))), σ) := by
          refine b89 ?_
          rw [if_neg (show ¬ ((0 : Int) ≤ a1) by first | omega | (simp [upS, hz]; done) | (simp [upS, hz]; omega))]
          all_goals rfl
        refine ⟨_, _, hD1, ?_⟩
        clear hD1
        refine ⟨fun _ => ?_, fun _ hz2 => (by cases hz2)⟩
        all_goals rfl
      refine Or.inr ⟨_, _, hD3, ?_⟩
      all_goals rfl
    exact Or.inr (⟨_, hD4, rfl⟩)
  have hB : Dd 309 [(.inr (.inr (some 682))), (.inl a1), (.inl a2)] σ (.inl (some (.inl 0)), (upS σ 682 0 1)) := by
    refine b309 ?_
    have hD8 : Dd 308 [(.inr (.inr (some 682))), (.inl a1), (.inl a2)] σ (.inl (some (.inl 0)), (upS σ 682 0 1)) := by
      refine b308 ?_
      have hD6 : Dd 248 [(.inr (.inr (some 682))), (.inl a1)] σ (.inl (some (.inl 0)), σ) := by
        refine b248 ?_
        rw [show (σ 682 3) = 0 by (first | omega | (simp [upS, hz]; done) | (simp [upS, hz]; omega))]
        have hD5 : Dd 246 [(.inl a1), (.inl 0)] σ (.inl (some (.inl 0)), σ) := by
          refine b246 ?_
          try rw [if_neg (show ¬ ((0 : Int) ≤ a1) by first | omega | (simp [upS, hz]; done) | (simp [upS, hz]; omega))]
          all_goals rfl
        refine ⟨_, _, hD5, ?_⟩
        clear hD5
        refine ⟨(show 0 = 0 ∨ 0 = 1 by first | omega | (simp [upS, hz]; done) | (simp [upS, hz]; omega)), ?_⟩
        all_goals rfl
      refine ⟨_, _, hD6, ?_⟩
      clear hD6
      rw [if_pos (show (0 : Int) = 0 by first | omega | (simp [upS, hz]; done) | (simp [upS, hz]; omega))]
      refine b308_26 ?_
      refine b308_27 ?_
      have hD7 : Dd 245 [(.inr (.inr (some 682))), (.inl 1)] σ (.inl (some (.inl 0)), (upS σ 682 0 1)) := by
        refine b245 ?_
        try rw [if_neg (show ¬ ((1 : Int) = 0) by first | omega | (simp [upS, hz]; done) | (simp [upS, hz]; omega))]
        all_goals rfl
      refine ⟨_, _, hD7, ?_⟩
      clear hD7
      refine ⟨(show 0 = 0 ∨ 0 = 1 by first | omega | (simp [upS, hz]; done) | (simp [upS, hz]; omega)), ?_⟩
      all_goals rfl
    refine ⟨_, _, hD8, ?_⟩
    clear hD8
    refine ⟨(show ¬ (0 = 0) → -2147483648 ≤ (100 * a1) ∧ (100 * a1) ≤ 2147483647 by (first | (intros; first | omega | (simp [upS, hz]; done) | (simp [upS, hz]; omega)) | (intros; simp_all [upS, hz]; done) | (intros; simp_all [upS, hz]; omega))), ?_⟩
    refine ⟨(show ¬ (0 = 0) → -2147483648 ≤ ((100 * a1) + a2) ∧ ((100 * a1) + a2) ≤ 2147483647 by (first | (intros; first | omega | (simp [upS, hz]; done) | (simp [upS, hz]; omega)) | (intros; simp_all [upS, hz]; done) | (intros; simp_all [upS, hz]; omega))), ?_⟩
    refine ⟨(show ¬ (0 = 0) → 0 ≤ ((100 * a1) + a2) ∧ ((100 * a1) + a2) < 4400 by (first | (intros; first | omega | (simp [upS, hz]; done) | (simp [upS, hz]; omega)) | (intros; simp_all [upS, hz]; done) | (intros; simp_all [upS, hz]; omega))), ?_⟩
    try rw [if_pos (show (0 : Int) = 0 by first | omega | (simp [upS, hz]; done) | (simp [upS, hz]; omega))]
    all_goals rfl
  refine ⟨_, _, _, _, hA, hB, ?_, ?_, ?_, ?_, ?_⟩
  · (first | rfl | (simp [upS, SCR, hz]; done) | (simp [upS, SCR, hz]; omega))
  · first | (intro h9; omega) | (intro _; first | rfl | (simp [upS, SCR, hz]; done) | (simp [upS, SCR, hz]; omega))
  · intro i; first | rfl | (unfold upS SCR; (repeat' split) <;> first | rfl | omega)
  · first | rfl | (unfold upS SCR; (repeat' split) <;> first | rfl | omega)
  · first | rfl | (unfold upS SCR; (repeat' split) <;> first | rfl | omega)
theorem q17_1 {σ : Sg} {a1 : Int} {a2 : Int} (hz : ∀ a i, a < 1000 → σ a i = 0) (h0 : 0 ≤ a1) : ∃ (kx b : Int) (s1 s2 : Sg), Dd 406 [(.inr (.inr (some 0))), (.inl a1), (.inl a2), (.inr (.inr (some 726)))] σ (.inl (some (.inl kx)), s1) ∧ Dd 309 [(.inr (.inr (some 682))), (.inl a1), (.inl a2)] s1 (.inl (some (.inl b)), s2) ∧ s2 682 0 = kx ∧ (kx = 0 → s2 726 0 = b) ∧ (∀ i, s1 SCR i = σ SCR i) ∧ s1 (SCR + 1) 0 = σ (SCR + 1) 0 ∧ s2 (SCR + 1) 0 = σ (SCR + 1) 0 := by
  have hA : Dd 406 [(.inr (.inr (some 0))), (.inl a1), (.inl a2), (.inr (.inr (some 726)))] σ (.inl (some (.inl 1)), σ) := by
    refine b406 ?_
    have hD4 : Dd 189 [(.inr (.inr (some 0))), (.inl a1), (.inl a2)] σ (.inr 0, σ) := by
      refine b189 ?_
      have hD3 : Dd 230 [(.inr (.inr (some 0))), (.inl a1)] σ (.inr 0, σ) := by
        refine b230 ?_
        rw [show (σ 0 3) = 0 by (first | omega | (simp [upS, hz]; done) | (simp [upS, hz]; omega))]
        have hD1 : Dd 89 [(.inr (.inr (some 19))), (.inl a1), (.inl 0)] σ (.inl (some (.inr (.inr none))), σ) := by
          refine b89 ?_
          rw [if_pos (show (0 : Int) ≤ a1 by first | omega | (simp [upS, hz]; done) | (simp [upS, hz]; omega))]
          rw [if_neg (show ¬ (a1 < 0) by first | omega | (simp [upS, hz]; done) | (simp [upS, hz]; omega))]
          all_goals rfl
        refine ⟨_, _, hD1, ?_⟩
        clear hD1
        refine ⟨fun _ => ?_, fun _ hz2 => (by cases hz2)⟩
        all_goals rfl
      refine Or.inr ⟨_, _, hD3, ?_⟩
      all_goals rfl
    exact Or.inr (⟨_, hD4, rfl⟩)
  have hB : Dd 309 [(.inr (.inr (some 682))), (.inl a1), (.inl a2)] σ (.inl (some (.inl 0)), (upS σ 682 0 1)) := by
    refine b309 ?_
    have hD8 : Dd 308 [(.inr (.inr (some 682))), (.inl a1), (.inl a2)] σ (.inl (some (.inl 0)), (upS σ 682 0 1)) := by
      refine b308 ?_
      have hD6 : Dd 248 [(.inr (.inr (some 682))), (.inl a1)] σ (.inl (some (.inl 0)), σ) := by
        refine b248 ?_
        rw [show (σ 682 3) = 0 by (first | omega | (simp [upS, hz]; done) | (simp [upS, hz]; omega))]
        have hD5 : Dd 246 [(.inl a1), (.inl 0)] σ (.inl (some (.inl 0)), σ) := by
          refine b246 ?_
          try rw [if_pos (show (0 : Int) ≤ a1 by first | omega | (simp [upS, hz]; done) | (simp [upS, hz]; omega))]
          try rw [if_neg (show ¬ (a1 < 0) by first | omega | (simp [upS, hz]; done) | (simp [upS, hz]; omega))]
          all_goals rfl
        refine ⟨_, _, hD5, ?_⟩
        clear hD5
        refine ⟨(show 0 = 0 ∨ 0 = 1 by first | omega | (simp [upS, hz]; done) | (simp [upS, hz]; omega)), ?_⟩
        all_goals rfl
      refine ⟨_, _, hD6, ?_⟩
      clear hD6
      rw [if_pos (show (0 : Int) = 0 by first | omega | (simp [upS, hz]; done) | (simp [upS, hz]; omega))]
      refine b308_26 ?_
      refine b308_27 ?_
      have hD7 : Dd 245 [(.inr (.inr (some 682))), (.inl 1)] σ (.inl (some (.inl 0)), (upS σ 682 0 1)) := by
        refine b245 ?_
        try rw [if_neg (show ¬ ((1 : Int) = 0) by first | omega | (simp [upS, hz]; done) | (simp [upS, hz]; omega))]
        all_goals rfl
      refine ⟨_, _, hD7, ?_⟩
      clear hD7
      refine ⟨(show 0 = 0 ∨ 0 = 1 by first | omega | (simp [upS, hz]; done) | (simp [upS, hz]; omega)), ?_⟩
      all_goals rfl
    refine ⟨_, _, hD8, ?_⟩
    clear hD8
    refine ⟨(show ¬ (0 = 0) → -2147483648 ≤ (100 * a1) ∧ (100 * a1) ≤ 2147483647 by (first | (intros; first | omega | (simp [upS, hz]; done) | (simp [upS, hz]; omega)) | (intros; simp_all [upS, hz]; done) | (intros; simp_all [upS, hz]; omega))), ?_⟩
    refine ⟨(show ¬ (0 = 0) → -2147483648 ≤ ((100 * a1) + a2) ∧ ((100 * a1) + a2) ≤ 2147483647 by (first | (intros; first | omega | (simp [upS, hz]; done) | (simp [upS, hz]; omega)) | (intros; simp_all [upS, hz]; done) | (intros; simp_all [upS, hz]; omega))), ?_⟩
    refine ⟨(show ¬ (0 = 0) → 0 ≤ ((100 * a1) + a2) ∧ ((100 * a1) + a2) < 4400 by (first | (intros; first | omega | (simp [upS, hz]; done) | (simp [upS, hz]; omega)) | (intros; simp_all [upS, hz]; done) | (intros; simp_all [upS, hz]; omega))), ?_⟩
    try rw [if_pos (show (0 : Int) = 0 by first | omega | (simp [upS, hz]; done) | (simp [upS, hz]; omega))]
    all_goals rfl
  refine ⟨_, _, _, _, hA, hB, ?_, ?_, ?_, ?_, ?_⟩
  · (first | rfl | (simp [upS, SCR, hz]; done) | (simp [upS, SCR, hz]; omega))
  · first | (intro h9; omega) | (intro _; first | rfl | (simp [upS, SCR, hz]; done) | (simp [upS, SCR, hz]; omega))
  · intro i; first | rfl | (unfold upS SCR; (repeat' split) <;> first | rfl | omega)
  · first | rfl | (unfold upS SCR; (repeat' split) <;> first | rfl | omega)
  · first | rfl | (unfold upS SCR; (repeat' split) <;> first | rfl | omega)
theorem q18_0 {σ : Sg} {a1 : Int} (hz : ∀ a i, a < 1000 → σ a i = 0) (h0 : a1 < 0) : ∃ (kx b : Int) (s1 s2 : Sg), Dd 407 [(.inr (.inr (some 0))), (.inl a1), (.inr (.inr (some 726)))] σ (.inl (some (.inl kx)), s1) ∧ Dd 310 [(.inr (.inr (some 682))), (.inl a1)] s1 (.inl (some (.inl b)), s2) ∧ s2 682 0 = kx ∧ (kx = 0 → s2 726 0 = b) ∧ (∀ i, s1 SCR i = σ SCR i) ∧ s1 (SCR + 1) 0 = σ (SCR + 1) 0 ∧ s2 (SCR + 1) 0 = σ (SCR + 1) 0 := by
  have hA : Dd 407 [(.inr (.inr (some 0))), (.inl a1), (.inr (.inr (some 726)))] σ (.inl (some (.inl 1)), σ) := by
    refine b407 ?_
    have hD4 : Dd 190 [(.inr (.inr (some 0))), (.inl a1)] σ (.inr 0, σ) := by
      refine b190 ?_
      have hD3 : Dd 230 [(.inr (.inr (some 0))), (.inl a1)] σ (.inr 0, σ) := by
        refine b230 ?_
        rw [show (σ 0 3) = 0 by (first | omega | (simp [upS, hz]; done) | (simp [upS, hz]; omega))]
        have hD1 : Dd 89 [(.inr (.inr (some 19))), (.inl a1), (.inl 0)] σ (.inl (some (.inr (.inr none))), σ) := by
          refine b89 ?_
          rw [if_neg (show ¬ ((0 : Int) ≤ a1) by first | omega | (simp [upS, hz]; done) | (simp [upS, hz]; omega))]
          all_goals rfl
        refine ⟨_, _, hD1, ?_⟩
        clear hD1
        refine ⟨fun _ => ?_, fun _ hz2 => (by cases hz2)⟩
        all_goals rfl
      refine Or.inr ⟨_, _, hD3, ?_⟩
      all_goals rfl
    exact Or.inr (⟨_, hD4, rfl⟩)
  have hB : Dd 310 [(.inr (.inr (some 682))), (.inl a1)] σ (.inl (some (.inl 0)), (upS σ 682 0 1)) := by
    refine b310 ?_
    have hD6 : Dd 248 [(.inr (.inr (some 682))), (.inl a1)] σ (.inl (some (.inl 0)), σ) := by
      refine b248 ?_
      rw [show (σ 682 3) = 0 by (first | omega | (simp [upS, hz]; done) | (simp [upS, hz]; omega))]
      have hD5 : Dd 246 [(.inl a1), (.inl 0)] σ (.inl (some (.inl 0)), σ) := by
        refine b246 ?_
        try rw [if_neg (show ¬ ((0 : Int) ≤ a1) by first | omega | (simp [upS, hz]; done) | (simp [upS, hz]; omega))]
        all_goals rfl
      refine ⟨_, _, hD5, ?_⟩
      clear hD5
      refine ⟨(show 0 = 0 ∨ 0 = 1 by first | omega | (simp [upS, hz]; done) | (simp [upS, hz]; omega)), ?_⟩
      all_goals rfl
    refine ⟨_, _, hD6, ?_⟩
    clear hD6
    try rw [if_pos (show (0 : Int) = 0 by first | omega | (simp [upS, hz]; done) | (simp [upS, hz]; omega))]
    refine b310_14 ?_
    have hD7 : Dd 245 [(.inr (.inr (some 682))), (.inl 1)] σ (.inl (some (.inl 0)), (upS σ 682 0 1)) := by
      refine b245 ?_
      try rw [if_neg (show ¬ ((1 : Int) = 0) by first | omega | (simp [upS, hz]; done) | (simp [upS, hz]; omega))]
      all_goals rfl
    refine ⟨_, _, hD7, ?_⟩
    clear hD7
    rw [if_pos (show (0 : Int) = 0 by first | omega | (simp [upS, hz]; done) | (simp [upS, hz]; omega))]
    all_goals rfl
  refine ⟨_, _, _, _, hA, hB, ?_, ?_, ?_, ?_, ?_⟩
  · (first | rfl | (simp [upS, SCR, hz]; done) | (simp [upS, SCR, hz]; omega))
  · first | (intro h9; omega) | (intro _; first | rfl | (simp [upS, SCR, hz]; done) | (simp [upS, SCR, hz]; omega))
  · intro i; first | rfl | (unfold upS SCR; (repeat' split) <;> first | rfl | omega)
  · first | rfl | (unfold upS SCR; (repeat' split) <;> first | rfl | omega)
  · first | rfl | (unfold upS SCR; (repeat' split) <;> first | rfl | omega)
theorem q18_1 {σ : Sg} {a1 : Int} (hz : ∀ a i, a < 1000 → σ a i = 0) (h0 : 0 ≤ a1) : ∃ (kx b : Int) (s1 s2 : Sg), Dd 407 [(.inr (.inr (some 0))), (.inl a1), (.inr (.inr (some 726)))] σ (.inl (some (.inl kx)), s1) ∧ Dd 310 [(.inr (.inr (some 682))), (.inl a1)] s1 (.inl (some (.inl b)), s2) ∧ s2 682 0 = kx ∧ (kx = 0 → s2 726 0 = b) ∧ (∀ i, s1 SCR i = σ SCR i) ∧ s1 (SCR + 1) 0 = σ (SCR + 1) 0 ∧ s2 (SCR + 1) 0 = σ (SCR + 1) 0 := by
  have hA : Dd 407 [(.inr (.inr (some 0))), (.inl a1), (.inr (.inr (some 726)))] σ (.inl (some (.inl 1)), σ) := by
    refine b407 ?_
    have hD4 : Dd 190 [(.inr (.inr (some 0))), (.inl a1)] σ (.inr 0, σ) := by
      refine b190 ?_
      have hD3 : Dd 230 [(.inr (.inr (some 0))), (.inl a1)] σ (.inr 0, σ) := by
        refine b230 ?_
        rw [show (σ 0 3) = 0 by (first | omega | (simp [upS, hz]; done) | (simp [upS, hz]; omega))]
        have hD1 : Dd 89 [(.inr (.inr (some 19))), (.inl a1), (.inl 0)] σ (.inl (some (.inr (.inr none))), σ) := by
          refine b89 ?_
          rw [if_pos (show (0 : Int) ≤ a1 by first | omega | (simp [upS, hz]; done) | (simp [upS, hz]; omega))]
          rw [if_neg (show ¬ (a1 < 0) by first | omega | (simp [upS, hz]; done) | (simp [upS, hz]; omega))]
          all_goals rfl
        refine ⟨_, _, hD1, ?_⟩
        clear hD1
        refine ⟨fun _ => ?_, fun _ hz2 => (by cases hz2)⟩
        all_goals rfl
      refine Or.inr ⟨_, _, hD3, ?_⟩
      all_goals rfl
    exact Or.inr (⟨_, hD4, rfl⟩)
  have hB : Dd 310 [(.inr (.inr (some 682))), (.inl a1)] σ (.inl (some (.inl 0)), (upS σ 682 0 1)) := by
    refine b310 ?_
    have hD6 : Dd 248 [(.inr (.inr (some 682))), (.inl a1)] σ (.inl (some (.inl 0)), σ) := by
      refine b248 ?_
      rw [show (σ 682 3) = 0 by (first | omega | (simp [upS, hz]; done) | (simp [upS, hz]; omega))]
      have hD5 : Dd 246 [(.inl a1), (.inl 0)] σ (.inl (some (.inl 0)), σ) := by
        refine b246 ?_
        try rw [if_pos (show (0 : Int) ≤ a1 by first | omega | (simp [upS, hz]; done) | (simp [upS, hz]; omega))]
        try rw [if_neg (show ¬ (a1 < 0) by first | omega | (simp [upS, hz]; done) | (simp [upS, hz]; omega))]
        all_goals rfl
      refine ⟨_, _, hD5, ?_⟩
      clear hD5
      refine ⟨(show 0 = 0 ∨ 0 = 1 by first | omega | (simp [upS, hz]; done) | (simp [upS, hz]; omega)), ?_⟩
      all_goals rfl
    refine ⟨_, _, hD6, ?_⟩
    clear hD6
    try rw [if_pos (show (0 : Int) = 0 by first | omega | (simp [upS, hz]; done) | (simp [upS, hz]; omega))]
    refine b310_14 ?_
    have hD7 : Dd 245 [(.inr (.inr (some 682))), (.inl 1)] σ (.inl (some (.inl 0)), (upS σ 682 0 1)) := by
      refine b245 ?_
      try rw [if_neg (show ¬ ((1 : Int) = 0) by first | omega | (simp [upS, hz]; done) | (simp [upS, hz]; omega))]
      all_goals rfl
    refine ⟨_, _, hD7, ?_⟩
    clear hD7
    rw [if_pos (show (0 : Int) = 0 by first | omega | (simp [upS, hz]; done) | (simp [upS, hz]; omega))]
    all_goals rfl
  refine ⟨_, _, _, _, hA, hB, ?_, ?_, ?_, ?_, ?_⟩
  · (first | rfl | (simp [upS, SCR, hz]; done) | (simp [upS, SCR, hz]; omega))
  · first | (intro h9; omega) | (intro _; first | rfl | (simp [upS, SCR, hz]; done) | (simp [upS, SCR, hz]; omega))
  · intro i; first | rfl | (unfold upS SCR; (repeat' split) <;> first | rfl | omega)
  · first | rfl | (unfold upS SCR; (repeat' split) <;> first | rfl | omega)
  · first | rfl | (unfold upS SCR; (repeat' split) <;> first | rfl | omega)
theorem q19_0 {σ : Sg} {a1 : Int} {a2 : Int} {a3 : Int} (hz : ∀ a i, a < 1000 → σ a i = 0) (h0 : a1 < 0) : ∃ (kx b : Int) (s1 s2 : Sg), Dd 408 [(.inr (.inr (some 0))), (.inl a1), (.inl a2), (.inl a3), (.inr (.inr (some 726)))] σ (.inl (some (.inl kx)), s1) ∧ Dd 311 [(.inr (.inr (some 682))), (.inl a1), (.inl a2), (.inl a3)] s1 (.inl (some (.inl b)), s2) ∧ s2 682 0 = kx ∧ (kx = 0 → s2 726 0 = b) ∧ (∀ i, s1 SCR i = σ SCR i) ∧ s1 (SCR + 1) 0 = σ (SCR + 1) 0 ∧ s2 (SCR + 1) 0 = σ (SCR + 1) 0 := by
  have hA : Dd 408 [(.inr (.inr (some 0))), (.inl a1), (.inl a2), (.inl a3), (.inr (.inr (some 726)))] σ (.inl (some (.inl 1)), σ) := by
    refine b408 ?_
    have hD4 : Dd 191 [(.inr (.inr (some 0))), (.inl a1), (.inl a2), (.inl a3)] σ (.inr 0, σ) := by
      refine b191 ?_
      have hD3 : Dd 230 [(.inr (.inr (some 0))), (.inl a1)] σ (.inr 0, σ) := by
        refine b230 ?_
        rw [show (σ 0 3) = 0 by (first | omega | (simp [upS, hz]; done) | (simp [upS, hz]; omega))]
        have hD1 : Dd 89 [(.inr (.inr (some 19))), (.inl a1), (.inl 0)] σ (.inl (some (.inr (.inr none))), σ) := by
          refine b89 ?_
          rw [if_neg (show ¬ ((0 : Int) ≤ a1) by first | omega | (simp [upS, hz]; done) | (simp [upS, hz]; omega))]
          all_goals rfl
        refine ⟨_, _, hD1, ?_⟩
        clear hD1
        refine ⟨fun _ => ?_, fun _ hz2 => (by cases hz2)⟩
        all_goals rfl
      refine Or.inr ⟨_, _, hD3, ?_⟩
      all_goals rfl
    exact Or.inr (Or.inl ⟨_, hD4, rfl⟩)
  have hB : Dd 311 [(.inr (.inr (some 682))), (.inl a1), (.inl a2), (.inl a3)] σ (.inl (some (.inl 0)), (upS σ 682 0 1)) := by
    refine b311 ?_
    have hD7 : Dd 304 [(.inr (.inr (some 682))), (.inl a1), (.inl a2)] σ (.inl (some (.inl 0)), σ) := by
      refine b304 ?_
      have hD6 : Dd 248 [(.inr (.inr (some 682))), (.inl a1)] σ (.inl (some (.inl 0)), σ) := by
        refine b248 ?_
        rw [show (σ 682 3) = 0 by (first | omega | (simp [upS, hz]; done) | (simp [upS, hz]; omega))]
        have hD5 : Dd 246 [(.inl a1), (.inl 0)] σ (.inl (some (.inl 0)), σ) := by
          refine b246 ?_
          try rw [if_neg (show ¬ ((0 : Int) ≤ a1) by first | omega | (simp [upS, hz]; done) | (simp [upS, hz]; omega))]
          all_goals rfl
        refine ⟨_, _, hD5, ?_⟩
        clear hD5
        refine ⟨(show 0 = 0 ∨ 0 = 1 by first | omega | (simp [upS, hz]; done) | (simp [upS, hz]; omega)), ?_⟩
        all_goals rfl
      refine ⟨_, _, hD6, ?_⟩
      clear hD6
      rw [if_pos (show (0 : Int) = 0 by first | omega | (simp [upS, hz]; done) | (simp [upS, hz]; omega))]
      all_goals rfl
    refine ⟨_, _, hD7, ?_⟩
    clear hD7
    rw [if_pos (show (0 : Int) = 0 by first | omega | (simp [upS, hz]; done) | (simp [upS, hz]; omega))]
    refine b311_31 ?_
    have hD8 : Dd 245 [(.inr (.inr (some 682))), (.inl 1)] σ (.inl (some (.inl 0)), (upS σ 682 0 1)) := by
      refine b245 ?_
      try rw [if_neg (show ¬ ((1 : Int) = 0) by first | omega | (simp [upS, hz]; done) | (simp [upS, hz]; omega))]
      all_goals rfl
    refine ⟨_, _, hD8, ?_⟩
    clear hD8
    refine ⟨(show ¬ (0 = 0) → (a3 = 0) → 0 ≤ a2 ∧ a2 < 256 by (first | (intros; first | omega | (simp [upS, hz]; done) | (simp [upS, hz]; omega)) | (intros; simp_all [upS, hz]; done) | (intros; simp_all [upS, hz]; omega))), ?_⟩
    refine ⟨(show ¬ (0 = 0) → ¬ (a3 = 0) → (a3 = 1) → 0 ≤ a2 ∧ a2 < 256 by (first | (intros; first | omega | (simp [upS, hz]; done) | (simp [upS, hz]; omega)) | (intros; simp_all [upS, hz]; done) | (intros; simp_all [upS, hz]; omega))), ?_⟩
    refine ⟨(show ¬ (0 = 0) → ¬ (a3 = 0) → ¬ (a3 = 1) → (a3 = 2) → 0 ≤ a2 ∧ a2 < 256 by (first | (intros; first | omega | (simp [upS, hz]; done) | (simp [upS, hz]; omega)) | (intros; simp_all [upS, hz]; done) | (intros; simp_all [upS, hz]; omega))), ?_⟩
    refine ⟨(show ¬ (0 = 0) → ¬ (a3 = 0) → ¬ (a3 = 1) → ¬ (a3 = 2) → 0 ≤ a2 ∧ a2 < 256 by (first | (intros; first | omega | (simp [upS, hz]; done) | (simp [upS, hz]; omega)) | (intros; simp_all [upS, hz]; done) | (intros; simp_all [upS, hz]; omega))), ?_⟩
    try rw [if_pos (show (0 : Int) = 0 by first | omega | (simp [upS, hz]; done) | (simp [upS, hz]; omega))]
    all_goals rfl
  refine ⟨_, _, _, _, hA, hB, ?_, ?_, ?_, ?_, ?_⟩
  · (first | rfl | (simp [upS, SCR, hz]; done) | (simp [upS, SCR, hz]; omega))
  · first | (intro h9; omega) | (intro _; first | rfl | (simp [upS, SCR, hz]; done) | (simp [upS, SCR, hz]; omega))
  · intro i; first | rfl | (unfold upS SCR; (repeat' split) <;> first | rfl | omega)
  · first | rfl | (unfold upS SCR; (repeat' split) <;> first | rfl | omega)
  · first | rfl | (unfold upS SCR; (repeat' split) <;> first | rfl | omega)
theorem q19_1 {σ : Sg} {a1 : Int} {a2 : Int} {a3 : Int} (hz : ∀ a i, a < 1000 → σ a i = 0) (h0 : 0 ≤ a1) : ∃ (kx b : Int) (s1 s2 : Sg), Dd 408 [(.inr (.inr (some 0))), (.inl a1), (.inl a2), (.inl a3), (.inr (.inr (some 726)))] σ (.inl (some (.inl kx)), s1) ∧ Dd 311 [(.inr (.inr (some 682))), (.inl a1), (.inl a2), (.inl a3)] s1 (.inl (some (.inl b)), s2) ∧ s2 682 0 = kx ∧ (kx = 0 → s2 726 0 = b) ∧ (∀ i, s1 SCR i = σ SCR i) ∧ s1 (SCR + 1) 0 = σ (SCR + 1) 0 ∧ s2 (SCR + 1) 0 = σ (SCR + 1) 0 := by
  have hA : Dd 408 [(.inr (.inr (some 0))), (.inl a1), (.inl a2), (.inl a3), (.inr (.inr (some 726)))] σ (.inl (some (.inl 1)), σ) := by
    refine b408 ?_
    have hD4 : Dd 191 [(.inr (.inr (some 0))), (.inl a1), (.inl a2), (.inl a3)] σ (.inr 0, σ) := by
      refine b191 ?_
      have hD3 : Dd 230 [(.inr (.inr (some 0))), (.inl a1)] σ (.inr 0, σ) := by
        refine b230 ?_
        rw [show (σ 0 3) = 0 by (first | omega | (simp [upS, hz]; done) | (simp [upS, hz]; omega))]
        have hD1 : Dd 89 [(.inr (.inr (some 19))), (.inl a1), (.inl 0)] σ (.inl (some (.inr (.inr none))), σ) := by
          refine b89 ?_
          rw [if_pos (show (0 : Int) ≤ a1 by first | omega | (simp [upS, hz]; done) | (simp [upS, hz]; omega))]
          rw [if_neg (show ¬ (a1 < 0) by first | omega | (simp [upS, hz]; done) | (simp [upS, hz]; omega))]
          all_goals rfl
        refine ⟨_, _, hD1, ?_⟩
        clear hD1
        refine ⟨fun _ => ?_, fun _ hz2 => (by cases hz2)⟩
        all_goals rfl
      refine Or.inr ⟨_, _, hD3, ?_⟩
      all_goals rfl
    exact Or.inr (Or.inl ⟨_, hD4, rfl⟩)
  have hB : Dd 311 [(.inr (.inr (some 682))), (.inl a1), (.inl a2), (.inl a3)] σ (.inl (some (.inl 0)), (upS σ 682 0 1)) := by
    refine b311 ?_
    have hD7 : Dd 304 [(.inr (.inr (some 682))), (.inl a1), (.inl a2)] σ (.inl (some (.inl 0)), σ) := by
      refine b304 ?_
      have hD6 : Dd 248 [(.inr (.inr (some 682))), (.inl a1)] σ (.inl (some (.inl 0)), σ) := by
        refine b248 ?_
        rw [show (σ 682 3) = 0 by (first | omega | (simp [upS, hz]; done) | (simp [upS, hz]; omega))]
        have hD5 : Dd 246 [(.inl a1), (.inl 0)] σ (.inl (some (.inl 0)), σ) := by
          refine b246 ?_
          try rw [if_pos (show (0 : Int) ≤ a1 by first | omega | (simp [upS, hz]; done) | (simp [upS, hz]; omega))]
          try rw [if_neg (show ¬ (a1 < 0) by first | omega | (simp [upS, hz]; done) | (simp [upS, hz]; omega))]
          all_goals rfl
        refine ⟨_, _, hD5, ?_⟩
        clear hD5
        refine ⟨(show 0 = 0 ∨ 0 = 1 by first | omega | (simp [upS, hz]; done) | (simp [upS, hz]; omega)), ?_⟩
        all_goals rfl
      refine ⟨_, _, hD6, ?_⟩
      clear hD6
      rw [if_pos (show (0 : Int) = 0 by first | omega | (simp [upS, hz]; done) | (simp [upS, hz]; omega))]
      all_goals rfl
    refine ⟨_, _, hD7, ?_⟩
    clear hD7
    rw [if_pos (show (0 : Int) = 0 by first | omega | (simp [upS, hz]; done) | (simp [upS, hz]; omega))]
    refine b311_31 ?_
    have hD8 : Dd 245 [(.inr (.inr (some 682))), (.inl 1)] σ (.inl (some (.inl 0)), (upS σ 682 0 1)) := by
      refine b245 ?_
      try rw [if_neg (show ¬ ((1 : Int) = 0) by first | omega | (simp [upS, hz]; done) | (simp [upS, hz]; omega))]
      all_goals rfl
    refine ⟨_, _, hD8, ?_⟩
    clear hD8
    refine ⟨(show ¬ (0 = 0) → (a3 = 0) → 0 ≤ a2 ∧ a2 < 256 by (first | (intros; first | omega | (simp [upS, hz]; done) | (simp [upS, hz]; omega)) | (intros; simp_all [upS, hz]; done) | (intros; simp_all [upS, hz]; omega))), ?_⟩
    refine ⟨(show ¬ (0 = 0) → ¬ (a3 = 0) → (a3 = 1) → 0 ≤ a2 ∧ a2 < 256 by (first | (intros; first | omega | (simp [upS, hz]; done) | (simp [upS, hz]; omega)) | (intros; simp_all [upS, hz]; done) | (intros; simp_all [upS, hz]; omega))), ?_⟩
    refine ⟨(show ¬ (0 = 0) → ¬ (a3 = 0) → ¬ (a3 = 1) → (a3 = 2) → 0 ≤ a2 ∧ a2 < 256 by (first | (intros; first | omega | (simp [upS, hz]; done) | (simp [upS, hz]; omega)) | (intros; simp_all [upS, hz]; done) | (intros; simp_all [upS, hz]; omega))), ?_⟩
    refine ⟨(show ¬ (0 = 0) → ¬ (a3 = 0) → ¬ (a3 = 1) → ¬ (a3 = 2) → 0 ≤ a2 ∧ a2 < 256 by (first | (intros; first | omega | (simp [upS, hz]; done) | (simp [upS, hz]; omega)) | (intros; simp_all [upS, hz]; done) | (intros; simp_all [upS, hz]; omega))), ?_⟩
    try rw [if_pos (show (0 : Int) = 0 by first | omega | (simp [upS, hz]; done) | (simp [upS, hz]; omega))]
    all_goals rfl
  refine ⟨_, _, _, _, hA, hB, ?_, ?_, ?_, ?_, ?_⟩
  · (first | rfl | (simp [upS, SCR, hz]; done) | (simp [upS, SCR, hz]; omega))
  · first | (intro h9; omega) | (intro _; first | rfl | (simp [upS, SCR, hz]; done) | (simp [upS, SCR, hz]; omega))
  · intro i; first | rfl | (unfold upS SCR; (repeat' split) <;> first | rfl | omega)
  · first | rfl | (unfold upS SCR; (repeat' split) <;> first | rfl | omega)
  · first | rfl | (unfold upS SCR; (repeat' split) <;> first | rfl | omega)
theorem q20_0 {σ : Sg} {a1 : Int} {a2 : Int} (hz : ∀ a i, a < 1000 → σ a i = 0) (h0 : a1 < 0) : ∃ (kx b : Int) (s1 s2 : Sg), Dd 409 [(.inr (.inr (some 0))), (.inl a1), (.inl a2), (.inr (.inr (some 726)))] σ (.inl (some (.inl kx)), s1) ∧ Dd 316 [(.inr (.inr (some 682))), (.inl a1), (.inl a2)] s1 (.inl (some (.inl b)), s2) ∧ s2 682 0 = kx ∧ (kx = 0 → s2 726 0 = b) ∧ (∀ i, s1 SCR i = σ SCR i) ∧ s1 (SCR + 1) 0 = σ (SCR + 1) 0 ∧ s2 (SCR + 1) 0 = σ (SCR + 1) 0 := by
  have hA : Dd 409 [(.inr (.inr (some 0))), (.inl a1), (.inl a2), (.inr (.inr (some 726)))] σ (.inl (some (.inl 1)), σ) := by
    refine b409 ?_
    have hD4 : Dd 192 [(.inr (.inr (some 0))), (.inl a1), (.inl a2)] σ (.inr 0, σ) := by
      refine b192 ?_
      have hD3 : Dd 230 [(.inr (.inr (some 0))), (.inl a1)] σ (.inr 0, σ) := by
        refine b230 ?_
        rw [show (σ 0 3) = 0 by (first | omega | (simp [upS, hz]; done) | (simp [upS, hz]; omega))]
        have hD1 : Dd 89 [(.inr (.inr (some 19))), (.inl a1), (.inl 0)] σ (.inl (some (.inr (.inr none))), σ) := by
          refine b89 ?_
          rw [if_neg (show ¬ ((0 : Int) ≤ a1) by first | omega | (simp [upS, hz]; done) | (simp [upS, hz]; omega))]
          all_goals rfl
        refine ⟨_, _, hD1, ?_⟩
        clear hD1
        refine ⟨fun _ => ?_, fun _ hz2 => (by cases hz2)⟩
        all_goals rfl
      refine Or.inr ⟨_, _, hD3, ?_⟩
      all_goals rfl
    exact Or.inr (⟨_, hD4, rfl⟩)
  have hB : Dd 316 [(.inr (.inr (some 682))), (.inl a1), (.inl a2)] σ (.inl (some (.inl 0)), (upS σ 682 0 1)) := by
    refine b316 ?_
    have hD8 : Dd 308 [(.inr (.inr (some 682))), (.inl a1), (.inl a2)] σ (.inl (some (.inl 0)), (upS σ 682 0 1)) := by
      refine b308 ?_
      have hD6 : Dd 248 [(.inr (.inr (some 682))), (.inl a1)] σ (.inl (some (.inl 0)), σ) := by
        refine b248 ?_
        rw [show (σ 682 3) = 0 by (first | omega | (simp [upS, hz]; done) | (simp [upS, hz]; omega))]
        have hD5 : Dd 246 [(.inl a1), (.inl 0)] σ (.inl (some (.inl 0)), σ) := by
          refine b246 ?_
          try rw [if_neg (show ¬ ((0 : Int) ≤ a1) by first | omega | (simp [upS, hz]; done) | (simp [upS, hz]; omega))]
          all_goals rfl
        refine ⟨_, _, hD5, ?_⟩
        clear hD5
        refine ⟨(show 0 = 0 ∨ 0 = 1 by first | omega | (simp [upS, hz]; done) | (simp [upS, hz]; omega)), ?_⟩
        all_goals rfl
      refine ⟨_, _, hD6, ?_⟩
      clear hD6
      rw [if_pos (show (0 : Int) = 0 by first | omega | (simp [upS, hz]; done) | (simp [upS, hz]; omega))]
      refine b308_26 ?_
      refine b308_27 ?_
      have hD7 : Dd 245 [(.inr (.inr (some 682))), (.inl 1)] σ (.inl (some (.inl 0)), (upS σ 682 0 1)) := by
        refine b245 ?_
        try rw [if_neg (show ¬ ((1 : Int) = 0) by first | omega | (simp [upS, hz]; done) | (simp [upS, hz]; omega))]
        all_goals rfl
      refine ⟨_, _, hD7, ?_⟩
      clear hD7
      refine ⟨(show 0 = 0 ∨ 0 = 1 by first | omega | (simp [upS, hz]; done) | (simp [upS, hz]; omega)), ?_⟩
      all_goals rfl
    refine ⟨_, _, hD8, ?_⟩
    clear hD8
    rw [if_pos (show (0 : Int) = 0 by first | omega | (simp [upS, hz]; done) | (simp [upS, hz]; omega))]
    all_goals rfl
  refine ⟨_, _, _, _, hA, hB, ?_, ?_, ?_, ?_, ?_⟩
  · (first | rfl | (simp [upS, SCR, hz]; done) | (simp [upS, SCR, hz]; omega))
  · first | (intro h9; omega) | (intro _; first | rfl | (simp [upS, SCR, hz]; done) | (simp [upS, SCR, hz]; omega))
  · intro i; first | rfl | (unfold upS SCR; (repeat' split) <;> first | rfl | omega)
  · first | rfl | (unfold upS SCR; (repeat' split) <;> first | rfl | omega)
  · first | rfl | (unfold upS SCR; (repeat' split) <;> first | rfl | omega)
theorem q20_1 {σ : Sg} {a1 : Int} {a2 : Int} (hz : ∀ a i, a < 1000 → σ a i = 0) (h0 : 0 ≤ a1) : ∃ (kx b : Int) (s1 s2 : Sg), Dd 409 [(.inr (.inr (some 0))), (.inl a1), (.inl a2), (.inr (.inr (some 726)))] σ (.inl (some (.inl kx)), s1) ∧ Dd 316 [(.inr (.inr (some 682))), (.inl a1), (.inl a2)] s1 (.inl (some (.inl b)), s2) ∧ s2 682 0 = kx ∧ (kx = 0 → s2 726 0 = b) ∧ (∀ i, s1 SCR i = σ SCR i) ∧ s1 (SCR + 1) 0 = σ (SCR + 1) 0 ∧ s2 (SCR + 1) 0 = σ (SCR + 1) 0 := by
  have hA : Dd 409 [(.inr (.inr (some 0))), (.inl a1), (.inl a2), (.inr (.inr (some 726)))] σ (.inl (some (.inl 1)), σ) := by
    refine b409 ?_
    have hD4 : Dd 192 [(.inr (.inr (some 0))), (.inl a1), (.inl a2)] σ (.inr 0, σ) := by
      refine b192 ?_
      have hD3 : Dd 230 [(.inr (.inr (some 0))), (.inl a1)] σ (.inr 0, σ) := by
        refine b230 ?_
        rw [show (σ 0 3) = 0 by (first | omega | (simp [upS, hz]; done) | (simp [upS, hz]; omega))]
        have hD1 : Dd 89 [(.inr (.inr (some 19))), (.inl a1), (.inl 0)] σ (.inl (some (.inr (.inr none))), σ) := by
          refine b89 ?_
          rw [if_pos (show (0 : Int) ≤ a1 by first | omega | (simp [upS, hz]; done) | (simp [upS, hz]; omega))]
          rw [if_neg (show ¬ (a1 < 0) by first | omega | (simp [upS, hz]; done) | (simp [upS, hz]; omega))]
          all_goals rfl
        refine ⟨_, _, hD1, ?_⟩
        clear hD1
        refine ⟨fun _ => ?_, fun _ hz2 => (by cases hz2)⟩
        all_goals rfl
      refine Or.inr ⟨_, _, hD3, ?_⟩
      all_goals rfl
    exact Or.inr (⟨_, hD4, rfl⟩)
  have hB : Dd 316 [(.inr (.inr (some 682))), (.inl a1), (.inl a2)] σ (.inl (some (.inl 0)), (upS σ 682 0 1)) := by
    refine b316 ?_
    have hD8 : Dd 308 [(.inr (.inr (some 682))), (.inl a1), (.inl a2)] σ (.inl (some (.inl 0)), (upS σ 682 0 1)) := by
      refine b308 ?_
      have hD6 : Dd 248 [(.inr (.inr (some 682))), (.inl a1)] σ (.inl (some (.inl 0)), σ) := by
        refine b248 ?_
        rw [show (σ 682 3) = 0 by (first | omega | (simp [upS, hz]; done) | (simp [upS, hz]; omega))]
        have hD5 : Dd 246 [(.inl a1), (.inl 0)] σ (.inl (some (.inl 0)), σ) := by
          refine b246 ?_
          try rw [if_pos (show (0 : Int) ≤ a1 by first | omega | (simp [upS, hz]; done) | (simp [upS, hz]; omega))]
          try rw [if_neg (show ¬ (a1 < 0) by first | omega | (simp [upS, hz]; done) | (simp [upS, hz]; omega))]
          all_goals rfl
        refine ⟨_, _, hD5, ?_⟩
        clear hD5
        refine ⟨(show 0 = 0 ∨ 0 = 1 by first | omega | (simp [upS, hz]; done) | (simp [upS, hz]; omega)), ?_⟩
        all_goals rfl
      refine ⟨_, _, hD6, ?_⟩
      clear hD6
      rw [if_pos (show (0 : Int) = 0 by first | omega | (simp [upS, hz]; done) | (simp [upS, hz]; omega))]
      refine b308_26 ?_
      refine b308_27 ?_
      have hD7 : Dd 245 [(.inr (.inr (some 682))), (.inl 1)] σ (.inl (some (.inl 0)), (upS σ 682 0 1)) := by
        refine b245 ?_
        try rw [if_neg (show ¬ ((1 : Int) = 0) by first | omega | (simp [upS, hz]; done) | (simp [upS, hz]; omega))]
        all_goals rfl
      refine ⟨_, _, hD7, ?_⟩
      clear hD7
      refine ⟨(show 0 = 0 ∨ 0 = 1 by first | omega | (simp [upS, hz]; done) | (simp [upS, hz]; omega)), ?_⟩
      all_goals rfl
    refine ⟨_, _, hD8, ?_⟩
    clear hD8
    rw [if_pos (show (0 : Int) = 0 by first | omega | (simp [upS, hz]; done) | (simp [upS, hz]; omega))]
    all_goals rfl
  refine ⟨_, _, _, _, hA, hB, ?_, ?_, ?_, ?_, ?_⟩
  · (first | rfl | (simp [upS, SCR, hz]; done) | (simp [upS, SCR, hz]; omega))
  · first | (intro h9; omega) | (intro _; first | rfl | (simp [upS, SCR, hz]; done) | (simp [upS, SCR, hz]; omega))
  · intro i; first | rfl | (unfold upS SCR; (repeat' split) <;> first | rfl | omega)
  · first | rfl | (unfold upS SCR; (repeat' split) <;> first | rfl | omega)
  · first | rfl | (unfold upS SCR; (repeat' split) <;> first | rfl | omega)
theorem q21_0 {σ : Sg} {a1 : Int} {a2 : Int} (hz : ∀ a i, a < 1000 → σ a i = 0) (h0 : a1 < 0) : ∃ (kx b : Int) (s1 s2 : Sg), Dd 410 [(.inr (.inr (some 0))), (.inl a1), (.inl a2), (.inr (.inr (some 726)))] σ (.inl (some (.inl kx)), s1) ∧ Dd 317 [(.inr (.inr (some 682))), (.inl a1), (.inl a2)] s1 (.inl (some (.inl b)), s2) ∧ s2 682 0 = kx ∧ (kx = 0 → s2 726 0 = (if b = 0 then 0 else 1)) ∧ (∀ i, s1 SCR i = σ SCR i) ∧ s1 (SCR + 1) 0 = σ (SCR + 1) 0 ∧ s2 (SCR + 1) 0 = σ (SCR + 1) 0 := by
  have hA : Dd 410 [(.inr (.inr (some 0))), (.inl a1), (.inl a2), (.inr (.inr (some 726)))] σ (.inl (some (.inl 1)), σ) := by
    refine b410 ?_
    have hD4 : Dd 193 [(.inr (.inr (some 0))), (.inl a1), (.inl a2)] σ (.inr 0, σ) := by
      refine b193 ?_
      have hD3 : Dd 230 [(.inr (.inr (some 0))), (.inl a1)] σ (.inr 0, σ) := by
        refine b230 ?_
        rw [show (σ 0 3) = 0 by (first | omega | (simp [upS, hz]; done) | (simp [upS, hz]; omega))]
        have hD1 : Dd 89 [(.inr (.inr (some 19))), (.inl a1), (.inl 0)] σ (.inl (some (.inr (.inr none))), σ) := by
          refine b89 ?_
          rw [if_neg (show ¬ ((0 : Int) ≤ a1) by first | omega | (simp [upS, hz]; done) | (simp [upS, hz]; omega))]
          all_goals rfl
        refine ⟨_, _, hD1, ?_⟩
        clear hD1
        refine ⟨fun _ => ?_, fun _ hz2 => (by cases hz2)⟩
        all_goals rfl
      refine Or.inr ⟨_, _, hD3, ?_⟩
      all_goals rfl
    exact Or.inr (⟨_, hD4, rfl⟩)
  have hB : Dd 317 [(.inr (.inr (some 682))), (.inl a1), (.inl a2)] σ (.inl (some (.inl 0)), (upS σ 682 0 1)) := by
    refine b317 ?_
    have hD6 : Dd 248 [(.inr (.inr (some 682))), (.inl a1)] σ (.inl (some (.inl 0)), σ) := by
      refine b248 ?_
      rw [show (σ 682 3) = 0 by (first | omega | (simp [upS, hz]; done) | (simp [upS, hz]; omega))]
      have hD5 : Dd 246 [(.inl a1), (.inl 0)] σ (.inl (some (.inl 0)), σ) := by
        refine b246 ?_
        try rw [if_neg (show ¬ ((0 : Int) ≤ a1) by first | omega | (simp [upS, hz]; done) | (simp [upS, hz]; omega))]
        all_goals rfl
      refine ⟨_, _, hD5, ?_⟩
      clear hD5
      refine ⟨(show 0 = 0 ∨ 0 = 1 by first | omega | (simp [upS, hz]; done) | (simp [upS, hz]; omega)), ?_⟩
      all_goals rfl
    refine ⟨_, _, hD6, ?_⟩
    clear hD6
    rw [if_pos (show (0 : Int) = 0 by first | omega | (simp [upS, hz]; done) | (simp [upS, hz]; omega))]
    refine b317_21 ?_
    refine b317_22 ?_
    have hD7 : Dd 245 [(.inr (.inr (some 682))), (.inl 1)] σ (.inl (some (.inl 0)), (upS σ 682 0 1)) := by
      refine b245 ?_
      try rw [if_neg (show ¬ ((1 : Int) = 0) by first | omega | (simp [upS, hz]; done) | (simp [upS, hz]; omega))]
      all_goals rfl
    refine ⟨_, _, hD7, ?_⟩
    clear hD7
    rw [if_pos (show (0 : Int) = 0 by first | omega | (simp [upS, hz]; done) | (simp [upS, hz]; omega))]
    all_goals rfl
  refine ⟨_, _, _, _, hA, hB, ?_, ?_, ?_, ?_, ?_⟩
  · (first | rfl | (simp [upS, SCR, hz]; done) | (simp [upS, SCR, hz]; omega))
  · first | (intro h9; omega) | (intro _; first | rfl | (simp [upS, SCR, hz]; done) | (simp [upS, SCR, hz]; omega))
  · intro i; first | rfl | (unfold upS SCR; (repeat' split) <;> first | rfl | omega)
  · first | rfl | (unfold upS SCR; (repeat' split) <;> first | rfl | omega)
  · first | rfl | (unfold upS SCR; (repeat' split) <;> first | rfl | omega)
theorem q21_1 {σ : Sg} {a1 : Int} {a2 : Int} (hz : ∀ a i, a < 1000 → σ a i = 0) (h0 : 0 ≤ a1) : ∃ (kx b : Int) (s1 s2 : Sg), Dd 410 [(.inr (.inr (some 0))), (.inl a1), (.inl a2), (.inr (.inr (some 726)))] σ (.inl (some (.inl kx)), s1) ∧ Dd 317 [(.inr (.inr (some 682))), (.inl a1), (.inl a2)] s1 (.inl (some (.inl b)), s2) ∧ s2 682 0 = kx ∧ (kx = 0 → s2 726 0 = (if b = 0 then 0 else 1)) ∧ (∀ i, s1 SCR i = σ SCR i) ∧ s1 (SCR + 1) 0 = σ (SCR + 1) 0 ∧ s2 (SCR + 1) 0 = σ (SCR + 1) 0 := by
  have hA : Dd 410 [(.inr (.inr (some 0))), (.inl a1), (.inl a2), (.inr (.inr (some 726)))] σ (.inl (some (.inl 1)), σ) := by
    refine b410 ?_
    have hD4 : Dd 193 [(.inr (.inr (some 0))), (.inl a1), (.inl a2)] σ (.inr 0, σ) := by
      refine b193 ?_
      have hD3 : Dd 230 [(.inr (.inr (some 0))), (.inl a1)] σ (.inr 0, σ) := by
        refine b230 ?_
        rw [show (σ 0 3) = 0 by (first | omega | (simp [upS, hz]; done) | (simp [upS, hz]; omega))]
        have hD1 : Dd 89 [(.inr (.inr (some 19))), (.inl a1), (.inl 0)] σ (.inl (some (.inr (.inr none))), σ) := by
          refine b89 ?_
          rw [if_pos (show (0 : Int) ≤ a1 by first | omega | (simp [upS, hz]; done) | (simp [upS, hz]; omega))]
          rw [if_neg (show ¬ (a1 < 0) by first | omega | (simp [upS, hz]; done) | (simp [upS, hz]; omega))]
          all_goals rfl
        refine ⟨_, _, hD1, ?_⟩
        clear hD1
        refine ⟨fun _ => ?_, fun _ hz2 => (by cases hz2)⟩
        all_goals rfl
      refine Or.inr ⟨_, _, hD3, ?_⟩
      all_goals rfl
    exact Or.inr (⟨_, hD4, rfl⟩)
  have hB : Dd 317 [(.inr (.inr (some 682))), (.inl a1), (.inl a2)] σ (.inl (some (.inl 0)), (upS σ 682 0 1)) := by
    refine b317 ?_
    have hD6 : Dd 248 [(.inr (.inr (some 682))), (.inl a1)] σ (.inl (some (.inl 0)), σ) := by
      refine b248 ?_
      rw [show (σ 682 3) = 0 by (first | omega | (simp [upS, hz]; done) | (simp [upS, hz]; omega))]
      have hD5 : Dd 246 [(.inl a1), (.inl 0)] σ (.inl (some (.inl 0)), σ) := by
        refine b246 ?_
        try rw [if_pos (show (0 : Int) ≤ a1 by first | omega | (simp [upS, hz]; done) | (simp [upS, hz]; omega))]
        try rw [if_neg (show ¬ (a1 < 0) by first | omega | (simp [upS, hz]; done) | (simp [upS, hz]; omega))]
        all_goals rfl
      refine ⟨_, _, hD5, ?_⟩
      clear hD5
      refine ⟨(show 0 = 0 ∨ 0 = 1 by first | omega | (simp [upS, hz]; done) | (simp [upS, hz]; omega)), ?_⟩
      all_goals rfl
    refine ⟨_, _, hD6, ?_⟩
    clear hD6
    rw [if_pos (show (0 : Int) = 0 by first | omega | (simp [upS, hz]; done) | (simp [upS, hz]; omega))]
    refine b317_21 ?_
    refine b317_22 ?_
    have hD7 : Dd 245 [(.inr (.inr (some 682))), (.inl 1)] σ (.inl (some (.inl 0)), (upS σ 682 0 1)) := by
      refine b245 ?_
      try rw [if_neg (show ¬ ((1 : Int) = 0) by first | omega | (simp [upS, hz]; done) | (simp [upS, hz]; omega))]
      all_goals rfl
    refine ⟨_, _, hD7, ?_⟩
    clear hD7
    rw [if_pos (show (0 : Int) = 0 by first | omega | (simp [upS, hz]; done) | (simp [upS, hz]; omega))]
    all_goals rfl
  refine ⟨_, _, _, _, hA, hB, ?_, ?_, ?_, ?_, ?_⟩
  · (first | rfl | (simp [upS, SCR, hz]; done) | (simp [upS, SCR, hz]; omega))
  · first | (intro h9; omega) | (intro _; first | rfl | (simp [upS, SCR, hz]; done) | (simp [upS, SCR, hz]; omega))
  · intro i; first | rfl | (unfold upS SCR; (repeat' split) <;> first | rfl | omega)
  · first | rfl | (unfold upS SCR; (repeat' split) <;> first | rfl | omega)
  · first | rfl | (unfold upS SCR; (repeat' split) <;> first | rfl | omega)
theorem q22_0 {σ : Sg} {a1 : Int} {a2 : Int} (hz : ∀ a i, a < 1000 → σ a i = 0) (h0 : a1 < 0) : ∃ (kx b : Int) (s1 s2 : Sg), Dd 411 [(.inr (.inr (some 0))), (.inl a1), (.inl a2), (.inr (.inr (some 726)))] σ (.inl (some (.inl kx)), s1) ∧ Dd 320 [(.inr (.inr (some 682))), (.inl a1), (.inl a2)] s1 (.inl (some (.inl b)), s2) ∧ s2 682 0 = kx ∧ (kx = 0 → s2 726 0 = b) ∧ (∀ i, s1 SCR i = σ SCR i) ∧ s1 (SCR + 1) 0 = σ (SCR + 1) 0 ∧ s2 (SCR + 1) 0 = σ (SCR + 1) 0 := by
  have hA : Dd 411 [(.inr (.inr (some 0))), (.inl a1), (.inl a2), (.inr (.inr (some 726)))] σ (.inl (some (.inl 1)), σ) := by
    refine b411 ?_
    have hD4 : Dd 194 [(.inr (.inr (some 0))), (.inl a1), (.inl a2)] σ (.inr 0, σ) := by
      refine b194 ?_
      have hD3 : Dd 230 [(.inr (.inr (some 0))), (.inl a1)] σ (.inr 0, σ) := by
        refine b230 ?_
        rw [show (σ 0 3) = 0 by (first | omega | (simp [upS, hz]; done) | (simp [upS, hz]; omega))]
        have hD1 : Dd 89 [(.inr (.inr (some 19))), (.inl a1), (.inl 0)] σ (.inl (some (.inr (.inr none))), σ) := by
          refine b89 ?_
          rw [if_neg (show ¬ ((0 : Int) ≤ a1) by first | omega | (simp [upS, hz]; done) | (simp [upS, hz]; omega))]
          all_goals rfl
        refine ⟨_, _, hD1, ?_⟩
        clear hD1
        refine ⟨fun _ => ?_, fun _ hz2 => (by cases hz2)⟩
        all_goals rfl
      refine Or.inr ⟨_, _, hD3, ?_⟩
      all_goals rfl
    exact Or.inr (⟨_, hD4, rfl⟩)
  have hB : Dd 320 [(.inr (.inr (some 682))), (.inl a1), (.inl a2)] σ (.inl (some (.inl 0)), (upS σ 682 0 1)) := by
    refine b320 ?_
    have hD6 : Dd 248 [(.inr (.inr (some 682))), (.inl a1)] σ (.inl (some (.inl 0)), σ) := by
      refine b248 ?_
      rw [show (σ 682 3) = 0 by (first | omega | (simp [upS, hz]; done) | (simp [upS, hz]; omega))]
      have hD5 : Dd 246 [(.inl a1), (.inl 0)] σ (.inl (some (.inl 0)), σ) := by
        refine b246 ?_
        try rw [if_neg (show ¬ ((0 : Int) ≤ a1) by first | omega | (simp [upS, hz]; done) | (simp [upS, hz]; omega))]
        all_goals rfl
      refine ⟨_, _, hD5, ?_⟩
      clear hD5
      refine ⟨(show 0 = 0 ∨ 0 = 1 by first | omega | (simp [upS, hz]; done) | (simp [upS, hz]; omega)), ?_⟩
      all_goals rfl
    refine ⟨_, _, hD6, ?_⟩
    clear hD6
    rw [if_pos (show (0 : Int) = 0 by first | omega | (simp [upS, hz]; done) | (simp [upS, hz]; omega))]
    refine b320_21 ?_
    refine b320_22 ?_
    have hD7 : Dd 245 [(.inr (.inr (some 682))), (.inl 1)] σ (.inl (some (.inl 0)), (upS σ 682 0 1)) := by
      refine b245 ?_
      try rw [if_neg (show ¬ ((1 : Int) = 0) by first | omega | (simp [upS, hz]; done) | (simp [upS, hz]; omega))]
      all_goals rfl
    refine ⟨_, _, hD7, ?_⟩
    clear hD7
    rw [if_pos (show (0 : Int) = 0 by first | omega | (simp [upS, hz]; done) | (simp [upS, hz]; omega))]
    all_goals rfl
  refine ⟨_, _, _, _, hA, hB, ?_, ?_, ?_, ?_, ?_⟩
  · (first | rfl | (simp [upS, SCR, hz]; done) | (simp [upS, SCR, hz]; omega))
  · first | (intro h9; omega) | (intro _; first | rfl | (simp [upS, SCR, hz]; done) | (simp [upS, SCR, hz]; omega))
  · intro i; first | rfl | (unfold upS SCR; (repeat' split) <;> first | rfl | omega)
  · first | rfl | (unfold upS SCR; (repeat' split) <;> first | rfl | omega)
  · first | rfl | (unfold upS SCR; (repeat' split) <;> first | rfl | omega)
theorem q22_1 {σ : Sg} {a1 : Int} {a2 : Int} (hz : ∀ a i, a < 1000 → σ a i = 0) (h0 : 0 ≤ a1) : ∃ (kx b : Int) (s1 s2 : Sg), Dd 411 [(.inr (.inr (some 0))), (.inl a1), (.inl a2), (.inr (.inr (some 726)))] σ (.inl (some (.inl kx)), s1) ∧ Dd 320 [(.inr (.inr (some 682))), (.inl a1), (.inl a2)] s1 (.inl (some (.inl b)), s2) ∧ s2 682 0 = kx ∧ (kx = 0 → s2 726 0 = b) ∧ (∀ i, s1 SCR i = σ SCR i) ∧ s1 (SCR + 1) 0 = σ (SCR + 1) 0 ∧ s2 (SCR + 1) 0 = σ (SCR + 1) 0 := by
  have hA : Dd 411 [(.inr (.inr (some 0))), (.inl a1), (.inl a2), (.inr (.inr (some 726)))] σ (.inl (some (.inl 1)), σ) := by
    refine b411 ?_
    have hD4 : Dd 194 [(.inr (.inr (some 0))), (.inl a1), (.inl a2)] σ (.inr 0, σ) := by
      refine b194 ?_
      have hD3 : Dd 230 [(.inr (.inr (some 0))), (.inl a1)] σ (.inr 0, σ) := by
        refine b230 ?_
        rw [show (σ 0 3) = 0 by (first | omega | (simp [upS, hz]; done) | (simp [upS, hz]; omega))]
        have hD1 : Dd 89 [(.inr (.inr (some 19))), (.inl a1), (.inl 0)] σ (.inl (some (.inr (.inr none))), σ) := by
          refine b89 ?_
          rw [if_pos (show (0 : Int) ≤ a1 by first | omega | (simp [upS, hz]; done) | (simp [upS, hz]; omega))]
          rw [if_neg (show ¬ (a1 < 0) by first | omega | (simp [upS, hz]; done) | (simp [upS, hz]; omega))]
          all_goals rfl
        refine ⟨_, _, hD1, ?_⟩
        clear hD1
        refine ⟨fun _ => ?_, fun _ hz2 => (by cases hz2)⟩
        all_goals rfl
      refine Or.inr ⟨_, _, hD3, ?_⟩
      all_goals rfl
    exact Or.inr (⟨_, hD4, rfl⟩)
  have hB : Dd 320 [(.inr (.inr (some 682))), (.inl a1), (.inl a2)] σ (.inl (some (.inl 0)), (upS σ 682 0 1)) := by
    refine b320 ?_
    have hD6 : Dd 248 [(.inr (.inr (some 682))), (.inl a1)] σ (.inl (some (.inl 0)), σ) := by
      refine b248 ?_
      rw [show (σ 682 3) = 0 by (first | omega | (simp [upS, hz]; done) | (simp [upS, hz]; omega))]
      have hD5 : Dd 246 [(.inl a1), (.inl 0)] σ (.inl (some (.inl 0)), σ) := by
        refine b246 ?_
        try rw [if_pos (show (0 : Int) ≤ a1 by first | omega | (simp [upS, hz]; done) | (simp [upS, hz]; omega))]
        try rw [if_neg (show ¬ (a1 < 0) by first | omega | (simp [upS, hz]; done) | (simp [upS, hz]; omega))]
        all_goals rfl
      refine ⟨_, _, hD5, ?_⟩
      clear hD5
      refine ⟨(show 0 = 0 ∨ 0 = 1 by first | omega | (simp [upS, hz]; done) | (simp [upS, hz]; omega)), ?_⟩
      all_goals rfl
    refine ⟨_, _, hD6, ?_⟩
    clear hD6
    rw [if_pos (show (0 : Int) = 0 by first | omega | (simp [upS, hz]; done) | (simp [upS, hz]; omega))]
    refine b320_21 ?_
    refine b320_22 ?_
    have hD7 : Dd 245 [(.inr (.inr (some 682))), (.inl 1)] σ (.inl (some (.inl 0)), (upS σ 682 0 1)) := by
      refine b245 ?_
      try rw [if_neg (show ¬ ((1 : Int) = 0) by first | omega | (simp [upS, hz]; done) | (simp [upS, hz]; omega))]
      all_goals rfl
    refine ⟨_, _, hD7, ?_⟩
    clear hD7
    rw [if_pos (show (0 : Int) = 0 by first | omega | (simp [upS, hz]; done) | (simp [upS, hz]; omega))]
    all_goals rfl
  refine ⟨_, _, _, _, hA, hB, ?_, ?_, ?_, ?_, ?_⟩
  · (first | rfl | (simp [upS, SCR, hz]; done) | (simp [upS, SCR, hz]; omega))
  · first | (intro h9; omega) | (intro _; first | rfl | (simp [upS, SCR, hz]; done) | (simp [upS, SCR, hz]; omega))
  · intro i; first | rfl | (unfold upS SCR; (repeat' split) <;> first | rfl | omega)
  · first | rfl | (unfold upS SCR; (repeat' split) <;> first | rfl | omega)
  · first | rfl | (unfold upS SCR; (repeat' split) <;> first | rfl | omega)
theorem q23_0 {σ : Sg} {a1 : Int} {a2 : Int} {a3 : Int} (hz : ∀ a i, a < 1000 → σ a i = 0) (h0 : a1 < 0) : ∃ (kx b : Int) (s1 s2 : Sg), Dd 412 [(.inr (.inr (some 0))), (.inl a1), (.inl a2), (.inl a3), (.inr (.inr (some 726)))] σ (.inl (some (.inl kx)), s1) ∧ Dd 326 [(.inr (.inr (some 682))), (.inl a1), (.inl a2), (.inl a3)] s1 (.inl (some (.inl b)), s2) ∧ s2 682 0 = kx ∧ (kx = 0 → s2 726 0 = b) ∧ (∀ i, s1 SCR i = σ SCR i) ∧ s1 (SCR + 1) 0 = σ (SCR + 1) 0 ∧ s2 (SCR + 1) 0 = σ (SCR + 1) 0 := by
  have hA : Dd 412 [(.inr (.inr (some 0))), (.inl a1), (.inl a2), (.inl a3), (.inr (.inr (some 726)))] σ (.inl (some (.inl 1)), σ) := by
    refine b412 ?_
    have hD4 : Dd 195 [(.inr (.inr (some 0))), (.inl a1), (.inl a2), (.inl a3)] σ (.inr 0, σ) := by
      refine b195 ?_
      have hD3 : Dd 230 [(.inr (.inr (some 0))), (.inl a1)] σ (.inr 0, σ) := by
        refine b230 ?_
        rw [show (σ 0 3) = 0 by (first | omega | (simp [upS, hz]; done) | (simp [upS, hz]; omega))]
        have hD1 : Dd 89 [(.inr (.inr (some 19))), (.inl a1), (.inl 0)] σ (.inl (some (.inr (.inr none))), σ) := by
          refine b89 ?_
          rw [if_neg (show ¬ ((0 : Int) ≤ a1) by first | omega | (simp [upS, hz]; done) | (simp [upS, hz]; omega))]
          all_goals rfl
        refine ⟨_, _, hD1, ?_⟩
        clear hD1
        refine ⟨fun _ => ?_, fun _ hz2 => (by cases hz2)⟩
        all_goals rfl
      refine Or.inr ⟨_, _, hD3, ?_⟩
      all_goals rfl
    exact Or.inr (Or.inl ⟨_, hD4, rfl⟩)
  have hB : Dd 326 [(.inr (.inr (some 682))), (.inl a1), (.inl a2), (.inl a3)] σ (.inl (some (.inl 0)), (upS σ 682 0 1)) := by
    refine b326 ?_
    have hD6 : Dd 248 [(.inr (.inr (some 682))), (.inl a1)] σ (.inl (some (.inl 0)), σ) := by
      refine b248 ?_
      rw [show (σ 682 3) = 0 by (first | omega | (simp [upS, hz]; done) | (simp [upS, hz]; omega))]
      have hD5 : Dd 246 [(.inl a1), (.inl 0)] σ (.inl (some (.inl 0)), σ) := by
        refine b246 ?_
        try rw [if_neg (show ¬ ((0 : Int) ≤ a1) by first | omega | (simp [upS, hz]; done) | (simp [upS, hz]; omega))]
        all_goals rfl
      refine ⟨_, _, hD5, ?_⟩
      clear hD5
      refine ⟨(show 0 = 0 ∨ 0 = 1 by first | omega | (simp [upS, hz]; done) | (simp [upS, hz]; omega)), ?_⟩
      all_goals rfl
    refine ⟨_, _, hD6, ?_⟩
    clear hD6
    rw [if_pos (show (0 : Int) = 0 by first | omega | (simp [upS, hz]; done) | (simp [upS, hz]; omega))]
    refine b326_19 ?_
    refine b326_20 ?_
    rw [if_pos (show (0 : Int) = 0 by first | omega | (simp [upS, hz]; done) | (simp [upS, hz]; omega))]
    refine b326_39 ?_
    refine b326_40 ?_
    rw [if_pos (show (0 : Int) = 0 by first | omega | (simp [upS, hz]; done) | (simp [upS, hz]; omega))]
    refine b326_58 ?_
    try rw [if_pos (show (0 : Int) = 0 by first | omega | (simp [upS, hz]; done) | (simp [upS, hz]; omega))]
    refine b326_93 ?_
    have hD7 : Dd 245 [(.inr (.inr (some 682))), (.inl 1)] σ (.inl (some (.inl 0)), (upS σ 682 0 1)) := by
      refine b245 ?_
      try rw [if_neg (show ¬ ((1 : Int) = 0) by first | omega | (simp [upS, hz]; done) | (simp [upS, hz]; omega))]
      all_goals rfl
    refine ⟨_, _, hD7, ?_⟩
    clear hD7
    rw [if_pos (show (0 : Int) = 0 by first | omega | (simp [upS, hz]; done) | (simp [upS, hz]; omega))]
    all_goals rfl
  refine ⟨_, _, _, _, hA, hB, ?_, ?_, ?_, ?_, ?_⟩
  · (first | rfl | (simp [upS, SCR, hz]; done) | (simp [upS, SCR, hz]; omega))
  · first | (intro h9; omega) | (intro _; first | rfl | (simp [upS, SCR, hz]; done) | (simp [upS, SCR, hz]; omega))
  · intro i; first | rfl | (unfold upS SCR; (repeat' split) <;> first | rfl | omega)
  · first | rfl | (unfold upS SCR; (repeat' split) <;> first | rfl | omega)
  · first | rfl | (unfold upS SCR; (repeat' split) <;> first | rfl | omega)
theorem q23_1 {σ : Sg} {a1 : Int} {a2 : Int} {a3 : Int} (hz : ∀ a i, a < 1000 → σ a i = 0) (h0 : 0 ≤ a1) : ∃ (kx b : Int) (s1 s2 : Sg), Dd 412 [(.inr (.inr (some 0))), (.inl a1), (.inl a2), (.inl a3), (.inr (.inr (some 726)))] σ (.inl (some (.inl kx)), s1) ∧ Dd 326 [(.inr (.inr (some 682))), (.inl a1), (.inl a2), (.inl a3)] s1 (.inl (some (.inl b)), s2) ∧ s2 682 0 = kx ∧ (kx = 0 → s2 726 0 = b) ∧ (∀ i, s1 SCR i = σ SCR i) ∧ s1 (SCR + 1) 0 = σ (SCR + 1) 0 ∧ s2 (SCR + 1) 0 = σ (SCR + 1) 0 := by
  have hA : Dd 412 [(.inr (.inr (some 0))), (.inl a1), (.inl a2), (.inl a3), (.inr (.inr (some 726)))] σ (.inl (some (.inl 1)), σ) := by
    refine b412 ?_
    have hD4 : Dd 195 [(.inr (.inr (some 0))), (.inl a1), (.inl a2), (.inl a3)] σ (.inr 0, σ) := by
      refine b195 ?_
      have hD3 : Dd 230 [(.inr (.inr (some 0))), (.inl a1)] σ (.inr 0, σ) := by
        refine b230 ?_
        rw [show (σ 0 3) = 0 by (first | omega | (simp [upS, hz]; done) | (simp [upS, hz]; omega))]
        have hD1 : Dd 89 [(.inr (.inr (some 19))), (.inl a1), (.inl 0)] σ (.inl (some (.inr (.inr none))), σ) := by
          refine b89 ?_
          rw [if_pos (show (0 : Int) ≤ a1 by first | omega | (simp [upS, hz]; done) | (simp [upS, hz]; omega))]
          rw [if_neg (show ¬ (a1 < 0) by first | omega | (simp [upS, hz]; done) | (simp [upS, hz]; omega))]
          all_goals rfl
        refine ⟨_, _, hD1, ?_⟩
        clear hD1
        refine ⟨fun _ => ?_, fun _ hz2 => (by cases hz2)⟩
        all_goals rfl
      refine Or.inr ⟨_, _, hD3, ?_⟩
      all_goals rfl
    exact Or.inr (Or.inl ⟨_, hD4, rfl⟩)
  have hB : Dd 326 [(.inr (.inr (some 682))), (.inl a1), (.inl a2), (.inl a3)] σ (.inl (some (.inl 0)), (upS σ 682 0 1)) := by
    refine b326 ?_
    have hD6 : Dd 248 [(.inr (.inr (some 682))), (.inl a1)] σ (.inl (some (.inl 0)), σ) := by
      refine b248 ?_
      rw [show (σ 682 3) = 0 by (first | omega | (simp [upS, hz]; done) | (simp [upS, hz]; omega))]
      have hD5 : Dd 246 [(.inl a1), (.inl 0)] σ (.inl (some (.inl 0)), σ) := by
        refine b246 ?_
        try rw [if_pos (show (0 : Int) ≤ a1 by first | omega | (simp [upS, hz]; done) | (simp [upS, hz]; omega))]
        try rw [if_neg (show ¬ (a1 < 0) by first | omega | (simp [upS, hz]; done) | (simp [upS, hz]; omega))]
        all_goals rfl
      refine ⟨_, _, hD5, ?_⟩
      clear hD5
      refine ⟨(show 0 = 0 ∨ 0 = 1 by first | omega | (simp [upS, hz]; done) | (simp [upS, hz]; omega)), ?_⟩
      all_goals rfl
    refine ⟨_, _, hD6, ?_⟩
    clear hD6
    rw [if_pos (show (0 : Int) = 0 by first | omega | (simp [upS, hz]; done) | (simp [upS, hz]; omega))]
    refine b326_19 ?_
    refine b326_20 ?_
    rw [if_pos (show (0 : Int) = 0 by first | omega | (simp [upS, hz]; done) | (simp [upS, hz]; omega))]
    refine b326_39 ?_
    refine b326_40 ?_
    rw [if_pos (show (0 : Int) = 0 by first | omega | (simp [upS, hz]; done) | (simp [upS, hz]; omega))]
    refine b326_58 ?_
    try rw [if_pos (show (0 : Int) = 0 by first | omega | (simp [upS, hz]; done) | (simp [upS, hz]; omega))]
    refine b326_93 ?_
    have hD7 : Dd 245 [(.inr (.inr (some 682))), (.inl 1)] σ (.inl (some (.inl 0)), (upS σ 682 0 1)) := by
      refine b245 ?_
      try rw [if_neg (show ¬ ((1 : Int) = 0) by first | omega | (simp [upS, hz]; done) | (simp [upS, hz]; omega))]
      all_goals rfl
    refine ⟨_, _, hD7, ?_⟩
    clear hD7
    rw [if_pos (show (0 : Int) = 0 by first | omega | (simp [upS, hz]; done) | (simp [upS, hz]; omega))]
    all_goals rfl
  refine ⟨_, _, _, _, hA, hB, ?_, ?_, ?_, ?_, ?_⟩
  · (first | rfl | (simp [upS, SCR, hz]; done) | (simp [upS, SCR, hz]; omega))
  · first | (intro h9; omega) | (intro _; first | rfl | (simp [upS, SCR, hz]; done) | (simp [upS, SCR, hz]; omega))
  · intro i; first | rfl | (unfold upS SCR; (repeat' split) <;> first | rfl | omega)
  · first | rfl | (unfold upS SCR; (repeat' split) <;> first | rfl | omega)
  · first | rfl | (unfold upS SCR; (repeat' split) <;> first | rfl | omega)
end
