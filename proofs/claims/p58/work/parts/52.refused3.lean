noncomputable section
theorem x45_0 {σ : Sg} {c : Int} {a1 : Int} {a2 : Int} (H : Rel c σ) (h0 : a1 < 0) : OpR 433 375 [(.inr (.inr (some 0))), (.inl a1), (.inl a2), (.inr (.inr (some 726)))] [(.inr (.inr (some 682))), (.inl a1), (.inl a2)] σ (c + 1) := by
  obtain ⟨r1, r2, r3, r4, r5⟩ := rel_n H
  have hA : Dd 433 [(.inr (.inr (some 0))), (.inl a1), (.inl a2), (.inr (.inr (some 726)))] σ (.inl (some (.inl 1)), σ) := by
    refine b433 ?_
    have hD4 : Dd 217 [(.inr (.inr (some 0))), (.inl a1), (.inl a2)] σ (.inr 0, σ) := by
      refine b217 ?_
      have hD2 : Dd 54 [(.inr (.inr (some 614)))] σ (.inl (some (.inl (Int.tdiv (σ 653 1) 6))), σ) := by
        refine b54 ?_
        have hD1 : Dd 146 [(.inr (.inr (some 653)))] σ (.inl (some (.inl (σ 653 1))), σ) := by
          refine b146 (by decide +kernel) ?_
          all_goals rfl
        refine ⟨_, _, hD1, ?_⟩
        clear hD1
        all_goals rfl
      refine ⟨_, _, hD2, ?_⟩
      clear hD2
      have hD3 : Dd 232 [(.inr (.inr (some 0))), (.inl a1), (.inl (Int.tdiv (σ 653 1) 6))] σ (.inr 0, σ) := by
        refine b232 ?_
        rw [if_neg (show ¬ ((0 : Int) ≤ a1) by first | omega | (simp [upS]; done) | (simp [upS]; omega))]
        refine b232_9 ?_
        all_goals rfl
      refine Or.inr ⟨_, _, hD3, ?_⟩
      all_goals rfl
    exact Or.inr (Or.inl ⟨_, hD4, rfl⟩)
  have hB : Dd 375 [(.inr (.inr (some 682))), (.inl a1), (.inl a2)] σ (.inl (some (.inl 0)), (upS σ 682 0 1)) := by
    refine b375 ?_
    have hD5 : Dd 246 [(.inl a1), (.inl (σ 682 53))] σ (.inl (some (.inl 0)), σ) := by
      refine b246 ?_
      try rw [if_neg (show ¬ ((0 : Int) ≤ a1) by first | omega | (simp [upS]; done) | (simp [upS]; omega))]
      all_goals rfl
    refine ⟨_, _, hD5, ?_⟩
    clear hD5
    rw [if_pos (show (0 : Int) = 0 by first | omega | (simp [upS]; done) | (simp [upS]; omega))]
    refine b375_26 ?_
    refine b375_27 ?_
    try rw [if_pos (show (0 : Int) = 0 by first | omega | (simp [upS]; done) | (simp [upS]; omega))]
    refine b375_51 ?_
    have hD6 : Dd 245 [(.inr (.inr (some 682))), (.inl 1)] σ (.inl (some (.inl 0)), (upS σ 682 0 1)) := by
      refine b245 ?_
      try rw [if_neg (show ¬ ((1 : Int) = 0) by first | omega | (simp [upS]; done) | (simp [upS]; omega))]
      all_goals rfl
    refine ⟨_, _, hD6, ?_⟩
    clear hD6
    rw [if_pos (show (0 : Int) = 0 by first | omega | (simp [upS]; done) | (simp [upS]; omega))]
    all_goals rfl
  exact op_x H (by decide) hA hB
theorem x45_1 {σ : Sg} {c : Int} {a1 : Int} {a2 : Int} (H : Rel c σ) (h0 : σ 682 53 ≤ a1) : OpR 433 375 [(.inr (.inr (some 0))), (.inl a1), (.inl a2), (.inr (.inr (some 726)))] [(.inr (.inr (some 682))), (.inl a1), (.inl a2)] σ (c + 1) := by
  obtain ⟨r1, r2, r3, r4, r5⟩ := rel_n H
  have hA : Dd 433 [(.inr (.inr (some 0))), (.inl a1), (.inl a2), (.inr (.inr (some 726)))] σ (.inl (some (.inl 1)), σ) := by
    refine b433 ?_
    have hD4 : Dd 217 [(.inr (.inr (some 0))), (.inl a1), (.inl a2)] σ (.inr 0, σ) := by
      refine b217 ?_
      have hD2 : Dd 54 [(.inr (.inr (some 614)))] σ (.inl (some (.inl (Int.tdiv (σ 653 1) 6))), σ) := by
        refine b54 ?_
        have hD1 : Dd 146 [(.inr (.inr (some 653)))] σ (.inl (some (.inl (σ 653 1))), σ) := by
          refine b146 (by decide +kernel) ?_
          all_goals rfl
        refine ⟨_, _, hD1, ?_⟩
        clear hD1
        all_goals rfl
      refine ⟨_, _, hD2, ?_⟩
      clear hD2
      have hD3 : Dd 232 [(.inr (.inr (some 0))), (.inl a1), (.inl (Int.tdiv (σ 653 1) 6))] σ (.inr 0, σ) := by
        refine b232 ?_
        rw [if_pos (show (0 : Int) ≤ a1 by first | omega | (simp [upS]; done) | (simp [upS]; omega))]
        rw [if_pos (show (Int.tdiv (σ 653 1) 6) ≤ a1 by first | omega | (simp [upS]; done) | (simp [upS]; omega))]
        refine b232_9 ?_
        all_goals rfl
      refine Or.inr ⟨_, _, hD3, ?_⟩
      all_goals rfl
    exact Or.inr (Or.inl ⟨_, hD4, rfl⟩)
  have hB : Dd 375 [(.inr (.inr (some 682))), (.inl a1), (.inl a2)] σ (.inl (some (.inl 0)), (upS σ 682 0 1)) := by
    refine b375 ?_
    have hD5 : Dd 246 [(.inl a1), (.inl (σ 682 53))] σ (.inl (some (.inl 0)), σ) := by
      refine b246 ?_
      try rw [if_pos (show (0 : Int) ≤ a1 by first | omega | (simp [upS]; done) | (simp [upS]; omega))]
      try rw [if_neg (show ¬ (a1 < (σ 682 53)) by first | omega | (simp [upS]; done) | (simp [upS]; omega))]
      all_goals rfl
    refine ⟨_, _, hD5, ?_⟩
    clear hD5
    rw [if_pos (show (0 : Int) = 0 by first | omega | (simp [upS]; done) | (simp [upS]; omega))]
    refine b375_26 ?_
    refine b375_27 ?_
    try rw [if_pos (show (0 : Int) = 0 by first | omega | (simp [upS]; done) | (simp [upS]; omega))]
    refine b375_51 ?_
    have hD6 : Dd 245 [(.inr (.inr (some 682))), (.inl 1)] σ (.inl (some (.inl 0)), (upS σ 682 0 1)) := by
      refine b245 ?_
      try rw [if_neg (show ¬ ((1 : Int) = 0) by first | omega | (simp [upS]; done) | (simp [upS]; omega))]
      all_goals rfl
    refine ⟨_, _, hD6, ?_⟩
    clear hD6
    rw [if_pos (show (0 : Int) = 0 by first | omega | (simp [upS]; done) | (simp [upS]; omega))]
    all_goals rfl
  exact op_x H (by decide) hA hB
theorem x45_2 {σ : Sg} {c : Int} {a1 : Int} {a2 : Int} (H : Rel c σ) (h0 : 0 ≤ a1 ∧ a1 < σ 682 53) (h1 : a2 < 0) : OpR 433 375 [(.inr (.inr (some 0))), (.inl a1), (.inl a2), (.inr (.inr (some 726)))] [(.inr (.inr (some 682))), (.inl a1), (.inl a2)] σ (c + 1) := by
  obtain ⟨r1, r2, r3, r4, r5⟩ := rel_n H
  have hA : Dd 433 [(.inr (.inr (some 0))), (.inl a1), (.inl a2), (.inr (.inr (some 726)))] σ (.inl (some (.inl 1)), σ) := by
    refine b433 ?_
    have hD7 : Dd 217 [(.inr (.inr (some 0))), (.inl a1), (.inl a2)] σ (.inr 0, σ) := by
      refine b217 ?_
      have hD2 : Dd 54 [(.inr (.inr (some 614)))] σ (.inl (some (.inl (Int.tdiv (σ 653 1) 6))), σ) := by
        refine b54 ?_
        have hD1 : Dd 146 [(.inr (.inr (some 653)))] σ (.inl (some (.inl (σ 653 1))), σ) := by
          refine b146 (by decide +kernel) ?_
          all_goals rfl
        refine ⟨_, _, hD1, ?_⟩
        clear hD1
        all_goals rfl
      refine ⟨_, _, hD2, ?_⟩
      clear hD2
      have hD3 : Dd 232 [(.inr (.inr (some 0))), (.inl a1), (.inl (Int.tdiv (σ 653 1) 6))] σ (.inl none, σ) := by
        refine b232 ?_
        rw [if_pos (show (0 : Int) ≤ a1 by first | omega | (simp [upS]; done) | (simp [upS]; omega))]
        rw [if_neg (show ¬ ((Int.tdiv (σ 653 1) 6) ≤ a1) by first | omega | (simp [upS]; done) | (simp [upS]; omega))]
        all_goals rfl
      refine Or.inl ⟨_, hD3, ?_⟩
      clear hD3
      have hD5 : Dd 54 [(.inr (.inr (some 614)))] σ (.inl (some (.inl (Int.tdiv (σ 653 1) 6))), σ) := by
        refine b54 ?_
        have hD4 : Dd 146 [(.inr (.inr (some 653)))] σ (.inl (some (.inl (σ 653 1))), σ) := by
          refine b146 (by decide +kernel) ?_
          all_goals rfl
        refine ⟨_, _, hD4, ?_⟩
        clear hD4
        all_goals rfl
      refine ⟨_, _, hD5, ?_⟩
      clear hD5
      have hD6 : Dd 232 [(.inr (.inr (some 0))), (.inl a2), (.inl (Int.tdiv (σ 653 1) 6))] σ (.inr 0, σ) := by
        refine b232 ?_
        rw [if_neg (show ¬ ((0 : Int) ≤ a2) by first | omega | (simp [upS]; done) | (simp [upS]; omega))]
        refine b232_9 ?_
        all_goals rfl
      refine Or.inr ⟨_, _, hD6, ?_⟩
      all_goals rfl
    exact Or.inr (Or.inl ⟨_, hD7, rfl⟩)
  have hB : Dd 375 [(.inr (.inr (some 682))), (.inl a1), (.inl a2)] σ (.inl (some (.inl 0)), (upS σ 682 0 1)) := by
    refine b375 ?_
    have hD8 : Dd 246 [(.inl a1), (.inl (σ 682 53))] σ (.inl (some (.inl 1)), σ) := by
      refine b246 ?_
      try rw [if_pos (show (0 : Int) ≤ a1 by first | omega | (simp [upS]; done) | (simp [upS]; omega))]
      try rw [if_pos (show a1 < (σ 682 53) by first | omega | (simp [upS]; done) | (simp [upS]; omega))]
      all_goals rfl
    refine ⟨_, _, hD8, ?_⟩
    clear hD8
    rw [if_neg (show ¬ ((1 : Int) = 0) by first | omega | (simp [upS]; done) | (simp [upS]; omega))]
    have hD9 : Dd 246 [(.inl a2), (.inl (σ 682 53))] σ (.inl (some (.inl 0)), σ) := by
      refine b246 ?_
      try rw [if_neg (show ¬ ((0 : Int) ≤ a2) by first | omega | (simp [upS]; done) | (simp [upS]; omega))]
      all_goals rfl
    refine ⟨_, _, hD9, ?_⟩
    clear hD9
    rw [if_pos (show (0 : Int) = 0 by first | omega | (simp [upS]; done) | (simp [upS]; omega))]
    refine b375_26 ?_
    refine b375_27 ?_
    try rw [if_pos (show (0 : Int) = 0 by first | omega | (simp [upS]; done) | (simp [upS]; omega))]
    refine b375_51 ?_
    have hD10 : Dd 245 [(.inr (.inr (some 682))), (.inl 1)] σ (.inl (some (.inl 0)), (upS σ 682 0 1)) := by
      refine b245 ?_
      try rw [if_neg (show ¬ ((1 : Int) = 0) by first | omega | (simp [upS]; done) | (simp [upS]; omega))]
      all_goals rfl
    refine ⟨_, _, hD10, ?_⟩
    clear hD10
    rw [if_pos (show (0 : Int) = 0 by first | omega | (simp [upS]; done) | (simp [upS]; omega))]
    all_goals rfl
  exact op_x H (by decide) hA hB
theorem x45_3 {σ : Sg} {c : Int} {a1 : Int} {a2 : Int} (H : Rel c σ) (h0 : 0 ≤ a1 ∧ a1 < σ 682 53) (h1 : σ 682 53 ≤ a2) : OpR 433 375 [(.inr (.inr (some 0))), (.inl a1), (.inl a2), (.inr (.inr (some 726)))] [(.inr (.inr (some 682))), (.inl a1), (.inl a2)] σ (c + 1) := by
  obtain ⟨r1, r2, r3, r4, r5⟩ := rel_n H
  have hA : Dd 433 [(.inr (.inr (some 0))), (.inl a1), (.inl a2), (.inr (.inr (some 726)))] σ (.inl (some (.inl 1)), σ) := by
    refine b433 ?_
    have hD7 : Dd 217 [(.inr (.inr (some 0))), (.inl a1), (.inl a2)] σ (.inr 0, σ) := by
      refine b217 ?_
      have hD2 : Dd 54 [(.inr (.inr (some 614)))] σ (.inl (some (.inl (Int.tdiv (σ 653 1) 6))), σ) := by
        refine b54 ?_
        have hD1 : Dd 146 [(.inr (.inr (some 653)))] σ (.inl (some (.inl (σ 653 1))), σ) := by
          refine b146 (by decide +kernel) ?_
          all_goals rfl
        refine ⟨_, _, hD1, ?_⟩
        clear hD1
        all_goals rfl
      refine ⟨_, _, hD2, ?_⟩
      clear hD2
      have hD3 : Dd 232 [(.inr (.inr (some 0))), (.inl a1), (.inl (Int.tdiv (σ 653 1) 6))] σ (.inl none, σ) := by
        refine b232 ?_
        rw [if_pos (show (0 : Int) ≤ a1 by first | omega | (simp [upS]; done) | (simp [upS]; omega))]
        rw [if_neg (show ¬ ((Int.tdiv (σ 653 1) 6) ≤ a1) by first | omega | (simp [upS]; done) | (simp [upS]; omega))]
        all_goals rfl
      refine Or.inl ⟨_, hD3, ?_⟩
      clear hD3
      have hD5 : Dd 54 [(.inr (.inr (some 614)))] σ (.inl (some (.inl (Int.tdiv (σ 653 1) 6))), σ) := by
        refine b54 ?_
        have hD4 : Dd 146 [(.inr (.inr (some 653)))] σ (.inl (some (.inl (σ 653 1))), σ) := by
          refine b146 (by decide +kernel) ?_
          all_goals rfl
        refine ⟨_, _, hD4, ?_⟩
        clear hD4
        all_goals rfl
      refine ⟨_, _, hD5, ?_⟩
      clear hD5
      have hD6 : Dd 232 [(.inr (.inr (some 0))), (.inl a2), (.inl (Int.tdiv (σ 653 1) 6))] σ (.inr 0, σ) := by
        refine b232 ?_
        rw [if_pos (show (0 : Int) ≤ a2 by first | omega | (simp [upS]; done) | (simp [upS]; omega))]
        rw [if_pos (show (Int.tdiv (σ 653 1) 6) ≤ a2 by first | omega | (simp [upS]; done) | (simp [upS]; omega))]
        refine b232_9 ?_
        all_goals rfl
      refine Or.inr ⟨_, _, hD6, ?_⟩
      all_goals rfl
    exact Or.inr (Or.inl ⟨_, hD7, rfl⟩)
  have hB : Dd 375 [(.inr (.inr (some 682))), (.inl a1), (.inl a2)] σ (.inl (some (.inl 0)), (upS σ 682 0 1)) := by
    refine b375 ?_
    have hD8 : Dd 246 [(.inl a1), (.inl (σ 682 53))] σ (.inl (some (.inl 1)), σ) := by
      refine b246 ?_
      try rw [if_pos (show (0 : Int) ≤ a1 by first | omega | (simp [upS]; done) | (simp [upS]; omega))]
      try rw [if_pos (show a1 < (σ 682 53) by first | omega | (simp [upS]; done) | (simp [upS]; omega))]
      all_goals rfl
    refine ⟨_, _, hD8, ?_⟩
    clear hD8
    rw [if_neg (show ¬ ((1 : Int) = 0) by first | omega | (simp [upS]; done) | (simp [upS]; omega))]
    have hD9 : Dd 246 [(.inl a2), (.inl (σ 682 53))] σ (.inl (some (.inl 0)), σ) := by
      refine b246 ?_
      try rw [if_pos (show (0 : Int) ≤ a2 by first | omega | (simp [upS]; done) | (simp [upS]; omega))]
      try rw [if_neg (show ¬ (a2 < (σ 682 53)) by first | omega | (simp [upS]; done) | (simp [upS]; omega))]
      all_goals rfl
    refine ⟨_, _, hD9, ?_⟩
    clear hD9
    rw [if_pos (show (0 : Int) = 0 by first | omega | (simp [upS]; done) | (simp [upS]; omega))]
    refine b375_26 ?_
    refine b375_27 ?_
    try rw [if_pos (show (0 : Int) = 0 by first | omega | (simp [upS]; done) | (simp [upS]; omega))]
    refine b375_51 ?_
    have hD10 : Dd 245 [(.inr (.inr (some 682))), (.inl 1)] σ (.inl (some (.inl 0)), (upS σ 682 0 1)) := by
      refine b245 ?_
      try rw [if_neg (show ¬ ((1 : Int) = 0) by first | omega | (simp [upS]; done) | (simp [upS]; omega))]
      all_goals rfl
    refine ⟨_, _, hD10, ?_⟩
    clear hD10
    rw [if_pos (show (0 : Int) = 0 by first | omega | (simp [upS]; done) | (simp [upS]; omega))]
    all_goals rfl
  exact op_x H (by decide) hA hB
theorem x46_0 {σ : Sg} {c : Int} {a1 : Int} {a2 : Int} (H : Rel c σ) (h0 : a1 < 0) : OpR 434 376 [(.inr (.inr (some 0))), (.inl a1), (.inl a2), (.inr (.inr (some 726)))] [(.inr (.inr (some 682))), (.inl a1), (.inl a2)] σ (c + 1) := by
  obtain ⟨r1, r2, r3, r4, r5⟩ := rel_n H
  have hA : Dd 434 [(.inr (.inr (some 0))), (.inl a1), (.inl a2), (.inr (.inr (some 726)))] σ (.inl (some (.inl 1)), σ) := by
    refine b434 ?_
    have hD4 : Dd 218 [(.inr (.inr (some 0))), (.inl a1), (.inl a2)] σ (.inr 0, σ) := by
      refine b218 ?_
      have hD2 : Dd 54 [(.inr (.inr (some 614)))] σ (.inl (some (.inl (Int.tdiv (σ 653 1) 6))), σ) := by
        refine b54 ?_
        have hD1 : Dd 146 [(.inr (.inr (some 653)))] σ (.inl (some (.inl (σ 653 1))), σ) := by
          refine b146 (by decide +kernel) ?_
          all_goals rfl
        refine ⟨_, _, hD1, ?_⟩
        clear hD1
        all_goals rfl
      refine ⟨_, _, hD2, ?_⟩
      clear hD2
      have hD3 : Dd 232 [(.inr (.inr (some 0))), (.inl a1), (.inl (Int.tdiv (σ 653 1) 6))] σ (.inr 0, σ) := by
        refine b232 ?_
        rw [if_neg (show ¬ ((0 : Int) ≤ a1) by first | omega | (simp [upS]; done) | (simp [upS]; omega))]
        refine b232_9 ?_
        all_goals rfl
      refine Or.inr ⟨_, _, hD3, ?_⟩
      all_goals rfl
    exact Or.inr (⟨_, hD4, rfl⟩)
  have hB : Dd 376 [(.inr (.inr (some 682))), (.inl a1), (.inl a2)] σ (.inl (some (.inl 0)), (upS σ 682 0 1)) := by
    refine b376 ?_
    have hD5 : Dd 246 [(.inl a1), (.inl (σ 682 53))] σ (.inl (some (.inl 0)), σ) := by
      refine b246 ?_
      try rw [if_neg (show ¬ ((0 : Int) ≤ a1) by first | omega | (simp [upS]; done) | (simp [upS]; omega))]
      all_goals rfl
    refine ⟨_, _, hD5, ?_⟩
    clear hD5
    rw [if_pos (show (0 : Int) = 0 by first | omega | (simp [upS]; done) | (simp [upS]; omega))]
    refine b376_25 ?_
    refine b376_26 ?_
    have hD6 : Dd 245 [(.inr (.inr (some 682))), (.inl 1)] σ (.inl (some (.inl 0)), (upS σ 682 0 1)) := by
      refine b245 ?_
      try rw [if_neg (show ¬ ((1 : Int) = 0) by first | omega | (simp [upS]; done) | (simp [upS]; omega))]
      all_goals rfl
    refine ⟨_, _, hD6, ?_⟩
    clear hD6
    refine ⟨(show ¬ (0 = 0) → -2147483648 ≤ (6 * a1) ∧ (6 * a1) ≤ 2147483647 by (first | (intros; first | omega | (simp [upS]; done) | (simp [upS]; omega)) | (intros; simp_all [upS]; done) | (intros; simp_all [upS]; omega))), ?_⟩
    refine ⟨(show ¬ (0 = 0) → -2147483648 ≤ ((6 * a1) + a2) ∧ ((6 * a1) + a2) ≤ 2147483647 by (first | (intros; first | omega | (simp [upS]; done) | (simp [upS]; omega)) | (intros; simp_all [upS]; done) | (intros; simp_all [upS]; omega))), ?_⟩
    refine ⟨(show ¬ (0 = 0) → 0 ≤ ((6 * a1) + a2) ∧ ((6 * a1) + a2) < 60 by (first | (intros; first | omega | (simp [upS]; done) | (simp [upS]; omega)) | (intros; simp_all [upS]; done) | (intros; simp_all [upS]; omega))), ?_⟩
    try rw [if_pos (show (0 : Int) = 0 by first | omega | (simp [upS]; done) | (simp [upS]; omega))]
    all_goals rfl
  exact op_x H (by decide) hA hB
theorem x46_1 {σ : Sg} {c : Int} {a1 : Int} {a2 : Int} (H : Rel c σ) (h0 : σ 682 53 ≤ a1) : OpR 434 376 [(.inr (.inr (some 0))), (.inl a1), (.inl a2), (.inr (.inr (some 726)))] [(.inr (.inr (some 682))), (.inl a1), (.inl a2)] σ (c + 1) := by
  obtain ⟨r1, r2, r3, r4, r5⟩ := rel_n H
  have hA : Dd 434 [(.inr (.inr (some 0))), (.inl a1), (.inl a2), (.inr (.inr (some 726)))] σ (.inl (some (.inl 1)), σ) := by
    refine b434 ?_
    have hD4 : Dd 218 [(.inr (.inr (some 0))), (.inl a1), (.inl a2)] σ (.inr 0, σ) := by
      refine b218 ?_
      have hD2 : Dd 54 [(.inr (.inr (some 614)))] σ (.inl (some (.inl (Int.tdiv (σ 653 1) 6))), σ) := by
        refine b54 ?_
        have hD1 : Dd 146 [(.inr (.inr (some 653)))] σ (.inl (some (.inl (σ 653 1))), σ) := by
          refine b146 (by decide +kernel) ?_
          all_goals rfl
        refine ⟨_, _, hD1, ?_⟩
        clear hD1
        all_goals rfl
      refine ⟨_, _, hD2, ?_⟩
      clear hD2
      have hD3 : Dd 232 [(.inr (.inr (some 0))), (.inl a1), (.inl (Int.tdiv (σ 653 1) 6))] σ (.inr 0, σ) := by
        refine b232 ?_
        rw [if_pos (show (0 : Int) ≤ a1 by first | omega | (simp [upS]; done) | (simp [upS]; omega))]
        rw [if_pos (show (Int.tdiv (σ 653 1) 6) ≤ a1 by first | omega | (simp [upS]; done) | (simp [upS]; omega))]
        refine b232_9 ?_
        all_goals rfl
      refine Or.inr ⟨_, _, hD3, ?_⟩
      all_goals rfl
    exact Or.inr (⟨_, hD4, rfl⟩)
  have hB : Dd 376 [(.inr (.inr (some 682))), (.inl a1), (.inl a2)] σ (.inl (some (.inl 0)), (upS σ 682 0 1)) := by
    refine b376 ?_
    have hD5 : Dd 246 [(.inl a1), (.inl (σ 682 53))] σ (.inl (some (.inl 0)), σ) := by
      refine b246 ?_
      try rw [if_pos (show (0 : Int) ≤ a1 by first | omega | (simp [upS]; done) | (simp [upS]; omega))]
      try rw [if_neg (show ¬ (a1 < (σ 682 53)) by first | omega | (simp [upS]; done) | (simp [upS]; omega))]
      all_goals rfl
    refine ⟨_, _, hD5, ?_⟩
    clear hD5
    rw [if_pos (show (0 : Int) = 0 by first | omega | (simp [upS]; done) | (simp [upS]; omega))]
    refine b376_25 ?_
    refine b376_26 ?_
    have hD6 : Dd 245 [(.inr (.inr (some 682))), (.inl 1)] σ (.inl (some (.inl 0)), (upS σ 682 0 1)) := by
      refine b245 ?_
      try rw [if_neg (show ¬ ((1 : Int) = 0) by first | omega | (simp [upS]; done) | (simp [upS]; omega))]
      all_goals rfl
    refine ⟨_, _, hD6, ?_⟩
    clear hD6
    refine ⟨(show ¬ (0 = 0) → -2147483648 ≤ (6 * a1) ∧ (6 * a1) ≤ 2147483647 by (first | (intros; first | omega | (simp [upS]; done) | (simp [upS]; omega)) | (intros; simp_all [upS]; done) | (intros; simp_all [upS]; omega))), ?_⟩
    refine ⟨(show ¬ (0 = 0) → -2147483648 ≤ ((6 * a1) + a2) ∧ ((6 * a1) + a2) ≤ 2147483647 by (first | (intros; first | omega | (simp [upS]; done) | (simp [upS]; omega)) | (intros; simp_all [upS]; done) | (intros; simp_all [upS]; omega))), ?_⟩
    refine ⟨(show ¬ (0 = 0) → 0 ≤ ((6 * a1) + a2) ∧ ((6 * a1) + a2) < 60 by (first | (intros; first | omega | (simp [upS]; done) | (simp [upS]; omega)) | (intros; simp_all [upS]; done) | (intros; simp_all [upS]; omega))), ?_⟩
    try rw [if_pos (show (0 : Int) = 0 by first | omega | (simp [upS]; done) | (simp [upS]; omega))]
    all_goals rfl
  exact op_x H (by decide) hA hB
theorem x46_2 {σ : Sg} {c : Int} {a1 : Int} {a2 : Int} (H : Rel c σ) (h0 : 0 ≤ a1 ∧ a1 < σ 682 53) (h1 : a2 < 0) : OpR 434 376 [(.inr (.inr (some 0))), (.inl a1), (.inl a2), (.inr (.inr (some 726)))] [(.inr (.inr (some 682))), (.inl a1), (.inl a2)] σ (c + 1) := by
  obtain ⟨r1, r2, r3, r4, r5⟩ := rel_n H
  have hA : Dd 434 [(.inr (.inr (some 0))), (.inl a1), (.inl a2), (.inr (.inr (some 726)))] σ (.inl (some (.inl 1)), σ) := by
    refine b434 ?_
    have hD5 : Dd 218 [(.inr (.inr (some 0))), (.inl a1), (.inl a2)] σ (.inr 0, σ) := by
      refine b218 ?_
      have hD2 : Dd 54 [(.inr (.inr (some 614)))] σ (.inl (some (.inl (Int.tdiv (σ 653 1) 6))), σ) := by
        refine b54 ?_
        have hD1 : Dd 146 [(.inr (.inr (some 653)))] σ (.inl (some (.inl (σ 653 1))), σ) := by
          refine b146 (by decide +kernel) ?_
          all_goals rfl
        refine ⟨_, _, hD1, ?_⟩
        clear hD1
        all_goals rfl
      refine ⟨_, _, hD2, ?_⟩
      clear hD2
      have hD3 : Dd 232 [(.inr (.inr (some 0))), (.inl a1), (.inl (Int.tdiv (σ 653 1) 6))] σ (.inl none, σ) := by
        refine b232 ?_
        rw [if_pos (show (0 : Int) ≤ a1 by first | omega | (simp [upS]; done) | (simp [upS]; omega))]
        rw [if_neg (show ¬ ((Int.tdiv (σ 653 1) 6) ≤ a1) by first | omega | (simp [upS]; done) | (simp [upS]; omega))]
        all_goals rfl
      refine Or.inl ⟨_, hD3, ?_⟩
      clear hD3
      have hD4 : Dd 232 [(.inr (.inr (some 0))), (.inl a2), (.inl 6)] σ (.inr 0, σ) := by
        refine b232 ?_
        rw [if_neg (show ¬ ((0 : Int) ≤ a2) by first | omega | (simp [upS]; done) | (simp [upS]; omega))]
        refine b232_9 ?_
        all_goals rfl
      refine Or.inr ⟨_, _, hD4, ?_⟩
      all_goals rfl
    exact Or.inr (⟨_, hD5, rfl⟩)
  have hB : Dd 376 [(.inr (.inr (some 682))), (.inl a1), (.inl a2)] σ (.inl (some (.inl 0)), (upS σ 682 0 1)) := by
    refine b376 ?_
    have hD6 : Dd 246 [(.inl a1), (.inl (σ 682 53))] σ (.inl (some (.inl 1)), σ) := by
      refine b246 ?_
      try rw [if_pos (show (0 : Int) ≤ a1 by first | omega | (simp [upS]; done) | (simp [upS]; omega))]
      try rw [if_pos (show a1 < (σ 682 53) by first | omega | (simp [upS]; done) | (simp [upS]; omega))]
      all_goals rfl
    refine ⟨_, _, hD6, ?_⟩
    clear hD6
    rw [if_neg (show ¬ ((1 : Int) = 0) by first | omega | (simp [upS]; done) | (simp [upS]; omega))]
    have hD7 : Dd 246 [(.inl a2), (.inl 6)] σ (.inl (some (.inl 0)), σ) := by
      refine b246 ?_
      try rw [if_neg (show ¬ ((0 : Int) ≤ a2) by first | omega | (simp [upS]; done) | (simp [upS]; omega))]
      all_goals rfl
    refine ⟨_, _, hD7, ?_⟩
    clear hD7
    rw [if_pos (show (0 : Int) = 0 by first | omega | (simp [upS]; done) | (simp [upS]; omega))]
    refine b376_25 ?_
    refine b376_26 ?_
    have hD8 : Dd 245 [(.inr (.inr (some 682))), (.inl 1)] σ (.inl (some (.inl 0)), (upS σ 682 0 1)) := by
      refine b245 ?_
      try rw [if_neg (show ¬ ((1 : Int) = 0) by first | omega | (simp [upS]; done) | (simp [upS]; omega))]
      all_goals rfl
    refine ⟨_, _, hD8, ?_⟩
    clear hD8
    refine ⟨(show ¬ (0 = 0) → -2147483648 ≤ (6 * a1) ∧ (6 * a1) ≤ 2147483647 by (first | (intros; first | omega | (simp [upS]; done) | (simp [upS]; omega)) | (intros; simp_all [upS]; done) | (intros; simp_all [upS]; omega))), ?_⟩
    refine ⟨(show ¬ (0 = 0) → -2147483648 ≤ ((6 * a1) + a2) ∧ ((6 * a1) + a2) ≤ 2147483647 by (first | (intros; first | omega | (simp [upS]; done) | (simp [upS]; omega)) | (intros; simp_all [upS]; done) | (intros; simp_all [upS]; omega))), ?_⟩
    refine ⟨(show ¬ (0 = 0) → 0 ≤ ((6 * a1) + a2) ∧ ((6 * a1) + a2) < 60 by (first | (intros; first | omega | (simp [upS]; done) | (simp [upS]; omega)) | (intros; simp_all [upS]; done) | (intros; simp_all [upS]; omega))), ?_⟩
    try rw [if_pos (show (0 : Int) = 0 by first | omega | (simp [upS]; done) | (simp [upS]; omega))]
    all_goals rfl
  exact op_x H (by decide) hA hB
theorem x46_3 {σ : Sg} {c : Int} {a1 : Int} {a2 : Int} (H : Rel c σ) (h0 : 0 ≤ a1 ∧ a1 < σ 682 53) (h1 : 6 ≤ a2) : OpR 434 376 [(.inr (.inr (some 0))), (.inl a1), (.inl a2), (.inr (.inr (some 726)))] [(.inr (.inr (some 682))), (.inl a1), (.inl a2)] σ (c + 1) := by
  obtain ⟨r1, r2, r3, r4, r5⟩ := rel_n H
  have hA : Dd 434 [(.inr (.inr (some 0))), (.inl a1), (.inl a2), (.inr (.inr (some 726)))] σ (.inl (some (.inl 1)), σ) := by
    refine b434 ?_
    have hD5 : Dd 218 [(.inr (.inr (some 0))), (.inl a1), (.inl a2)] σ (.inr 0, σ) := by
      refine b218 ?_
      have hD2 : Dd 54 [(.inr (.inr (some 614)))] σ (.inl (some (.inl (Int.tdiv (σ 653 1) 6))), σ) := by
        refine b54 ?_
        have hD1 : Dd 146 [(.inr (.inr (some 653)))] σ (.inl (some (.inl (σ 653 1))), σ) := by
          refine b146 (by decide +kernel) ?_
          all_goals rfl
        refine ⟨_, _, hD1, ?_⟩
        clear hD1
        all_goals rfl
      refine ⟨_, _, hD2, ?_⟩
      clear hD2
      have hD3 : Dd 232 [(.inr (.inr (some 0))), (.inl a1), (.inl (Int.tdiv (σ 653 1) 6))] σ (.inl none, σ) := by
        refine b232 ?_
        rw [if_pos (show (0 : Int) ≤ a1 by first | omega | (simp [upS]; done) | (simp [upS]; omega))]
        rw [if_neg (show ¬ ((Int.tdiv (σ 653 1) 6) ≤ a1) by first | omega | (simp [upS]; done) | (simp [upS]; omega))]
        all_goals rfl
      refine Or.inl ⟨_, hD3, ?_⟩
      clear hD3
      have hD4 : Dd 232 [(.inr (.inr (some 0))), (.inl a2), (.inl 6)] σ (.inr 0, σ) := by
        refine b232 ?_
        rw [if_pos (show (0 : Int) ≤ a2 by first | omega | (simp [upS]; done) | (simp [upS]; omega))]
        rw [if_pos (show (6 : Int) ≤ a2 by first | omega | (simp [upS]; done) | (simp [upS]; omega))]
        refine b232_9 ?_
        all_goals rfl
      refine Or.inr ⟨_, _, hD4, ?_⟩
      all_goals rfl
    exact Or.inr (⟨_, hD5, rfl⟩)
  have hB : Dd 376 [(.inr (.inr (some 682))), (.inl a1), (.inl a2)] σ (.inl (some (.inl 0)), (upS σ 682 0 1)) := by
    refine b376 ?_
    have hD6 : Dd 246 [(.inl a1), (.inl (σ 682 53))] σ (.inl (some (.inl 1)), σ) := by
      refine b246 ?_
      try rw [if_pos (show (0 : Int) ≤ a1 by first | omega | (simp [upS]; done) | (simp [upS]; omega))]
      try rw [if_pos (show a1 < (σ 682 53) by first | omega | (simp [upS]; done) | (simp [upS]; omega))]
      all_goals rfl
    refine ⟨_, _, hD6, ?_⟩
    clear hD6
    rw [if_neg (show ¬ ((1 : Int) = 0) by first | omega | (simp [upS]; done) | (simp [upS]; omega))]
    have hD7 : Dd 246 [(.inl a2), (.inl 6)] σ (.inl (some (.inl 0)), σ) := by
      refine b246 ?_
      try rw [if_pos (show (0 : Int) ≤ a2 by first | omega | (simp [upS]; done) | (simp [upS]; omega))]
      try rw [if_neg (show ¬ (a2 < 6) by first | omega | (simp [upS]; done) | (simp [upS]; omega))]
      all_goals rfl
    refine ⟨_, _, hD7, ?_⟩
    clear hD7
    rw [if_pos (show (0 : Int) = 0 by first | omega | (simp [upS]; done) | (simp [upS]; omega))]
    refine b376_25 ?_
    refine b376_26 ?_
    have hD8 : Dd 245 [(.inr (.inr (some 682))), (.inl 1)] σ (.inl (some (.inl 0)), (upS σ 682 0 1)) := by
      refine b245 ?_
      try rw [if_neg (show ¬ ((1 : Int) = 0) by first | omega | (simp [upS]; done) | (simp [upS]; omega))]
      all_goals rfl
    refine ⟨_, _, hD8, ?_⟩
    clear hD8
    refine ⟨(show ¬ (0 = 0) → -2147483648 ≤ (6 * a1) ∧ (6 * a1) ≤ 2147483647 by (first | (intros; first | omega | (simp [upS]; done) | (simp [upS]; omega)) | (intros; simp_all [upS]; done) | (intros; simp_all [upS]; omega))), ?_⟩
    refine ⟨(show ¬ (0 = 0) → -2147483648 ≤ ((6 * a1) + a2) ∧ ((6 * a1) + a2) ≤ 2147483647 by (first | (intros; first | omega | (simp [upS]; done) | (simp [upS]; omega)) | (intros; simp_all [upS]; done) | (intros; simp_all [upS]; omega))), ?_⟩
    refine ⟨(show ¬ (0 = 0) → 0 ≤ ((6 * a1) + a2) ∧ ((6 * a1) + a2) < 60 by (first | (intros; first | omega | (simp [upS]; done) | (simp [upS]; omega)) | (intros; simp_all [upS]; done) | (intros; simp_all [upS]; omega))), ?_⟩
    try rw [if_pos (show (0 : Int) = 0 by first | omega | (simp [upS]; done) | (simp [upS]; omega))]
    all_goals rfl
  exact op_x H (by decide) hA hB
theorem x47_0 {σ : Sg} {c : Int} {a1 : Int} {a2 : Int} (H : Rel c σ) (h0 : a1 < 0) : OpR 435 378 [(.inr (.inr (some 0))), (.inl a1), (.inl a2), (.inr (.inr (some 726)))] [(.inr (.inr (some 682))), (.inl a1), (.inl a2)] σ (c + 1) := by
  obtain ⟨r1, r2, r3, r4, r5⟩ := rel_n H
  have hA : Dd 435 [(.inr (.inr (some 0))), (.inl a1), (.inl a2), (.inr (.inr (some 726)))] σ (.inl (some (.inl 1)), σ) := by
    refine b435 ?_
    have hD4 : Dd 219 [(.inr (.inr (some 0))), (.inl a1), (.inl a2)] σ (.inr 0, σ) := by
      refine b219 ?_
      have hD3 : Dd 228 [(.inr (.inr (some 0))), (.inl a1)] σ (.inr 0, σ) := by
        refine b228 ?_
        have hD1 : Dd 145 [(.inr (.inr (some 10))), (.inl a1)] σ (.inl (some (.inr (.inr none))), σ) := by
          refine b145 ?_
          rw [if_neg (show ¬ ((0 : Int) ≤ a1) by first | omega | (simp [upS]; done) | (simp [upS]; omega))]
          all_goals rfl
        refine ⟨_, _, hD1, ?_⟩
        clear hD1
        refine ⟨fun _ => ?_, fun _ hz2 => (by cases hz2)⟩
        all_goals rfl
      refine Or.inr ⟨_, _, hD3, ?_⟩
      all_goals rfl
    exact Or.inr (Or.inl ⟨_, hD4, rfl⟩)
  have hB : Dd 378 [(.inr (.inr (some 682))), (.inl a1), (.inl a2)] σ (.inl (some (.inl 0)), (upS σ 682 0 1)) := by
    refine b378 ?_
    have hD6 : Dd 377 [(.inl a1)] σ (.inl (some (.inl 0)), σ) := by
      refine b377 ?_
      have hD5 : Dd 246 [(.inl a1), (.inl 4)] σ (.inl (some (.inl 0)), σ) := by
        refine b246 ?_
        try rw [if_neg (show ¬ ((0 : Int) ≤ a1) by first | omega | (simp [upS]; done) | (simp [upS]; omega))]
        all_goals rfl
      refine ⟨_, _, hD5, ?_⟩
      clear hD5
      refine ⟨(show 0 = 0 ∨ 0 = 1 by first | omega | (simp [upS]; done) | (simp [upS]; omega)), ?_⟩
      all_goals rfl
    refine ⟨_, _, hD6, ?_⟩
    clear hD6
    rw [if_pos (show (0 : Int) = 0 by first | omega | (simp [upS]; done) | (simp [upS]; omega))]
    refine b378_44 ?_
    have hD7 : Dd 245 [(.inr (.inr (some 682))), (.inl 1)] σ (.inl (some (.inl 0)), (upS σ 682 0 1)) := by
      refine b245 ?_
      try rw [if_neg (show ¬ ((1 : Int) = 0) by first | omega | (simp [upS]; done) | (simp [upS]; omega))]
      all_goals rfl
    refine ⟨_, _, hD7, ?_⟩
    clear hD7
    rw [if_pos (show (0 : Int) = 0 by first | omega | (simp [upS]; done) | (simp [upS]; omega))]
    all_goals rfl
  exact op_x H (by decide) hA hB
theorem x47_1 {σ : Sg} {c : Int} {a1 : Int} {a2 : Int} (H : Rel c σ) (h0 : 4 ≤ a1) : OpR 435 378 [(.inr (.inr (some 0))), (.inl a1), (.inl a2), (.inr (.inr (some 726)))] [(.inr (.inr (some 682))), (.inl a1), (.inl a2)] σ (c + 1) := by
  obtain ⟨r1, r2, r3, r4, r5⟩ := rel_n H
  have hA : Dd 435 [(.inr (.inr (some 0))), (.inl a1), (.inl a2), (.inr (.inr (some 726)))] σ (.inl (some (.inl 1)), σ) := by
    refine b435 ?_
    have hD4 : Dd 219 [(.inr (.inr (some 0))), (.inl a1), (.inl a2)] σ (.inr 0, σ) := by
      refine b219 ?_
      have hD3 : Dd 228 [(.inr (.inr (some 0))), (.inl a1)] σ (.inr 0, σ) := by
        refine b228 ?_
        have hD1 : Dd 145 [(.inr (.inr (some 10))), (.inl a1)] σ (.inl (some (.inr (.inr none))), σ) := by
          refine b145 ?_
          rw [if_pos (show (0 : Int) ≤ a1 by first | omega | (simp [upS]; done) | (simp [upS]; omega))]
          refine ⟨4, (by decide +kernel), (by decide), ?_⟩
          rw [if_neg (show ¬ (a1 < ((4 : Nat) : Int)) by first | omega | (simp [upS]; done) | (simp [upS]; omega))]
          all_goals rfl
        refine ⟨_, _, hD1, ?_⟩
        clear hD1
        refine ⟨fun _ => ?_, fun _ hz2 => (by cases hz2)⟩
        all_goals rfl
      refine Or.inr ⟨_, _, hD3, ?_⟩
      all_goals rfl
    exact Or.inr (Or.inl ⟨_, hD4, rfl⟩)
  have hB : Dd 378 [(.inr (.inr (some 682))), (.inl a1), (.inl a2)] σ (.inl (some (.inl 0)), (upS σ 682 0 1)) := by
    refine b378 ?_
    have hD6 : Dd 377 [(.inl a1)] σ (.inl (some (.inl 0)), σ) := by
      refine b377 ?_
      have hD5 : Dd 246 [(.inl a1), (.inl 4)] σ (.inl (some (.inl 0)), σ) := by
        refine b246 ?_
        try rw [if_pos (show (0 : Int) ≤ a1 by first | omega | (simp [upS]; done) | (simp [upS]; omega))]
        try rw [if_neg (show ¬ (a1 < 4) by first | omega | (simp [upS]; done) | (simp [upS]; omega))]
        all_goals rfl
      refine ⟨_, _, hD5, ?_⟩
      clear hD5
      refine ⟨(show 0 = 0 ∨ 0 = 1 by first | omega | (simp [upS]; done) | (simp [upS]; omega)), ?_⟩
      all_goals rfl
    refine ⟨_, _, hD6, ?_⟩
    clear hD6
    rw [if_pos (show (0 : Int) = 0 by first | omega | (simp [upS]; done) | (simp [upS]; omega))]
    refine b378_44 ?_
    have hD7 : Dd 245 [(.inr (.inr (some 682))), (.inl 1)] σ (.inl (some (.inl 0)), (upS σ 682 0 1)) := by
      refine b245 ?_
      try rw [if_neg (show ¬ ((1 : Int) = 0) by first | omega | (simp [upS]; done) | (simp [upS]; omega))]
      all_goals rfl
    refine ⟨_, _, hD7, ?_⟩
    clear hD7
    rw [if_pos (show (0 : Int) = 0 by first | omega | (simp [upS]; done) | (simp [upS]; omega))]
    all_goals rfl
  exact op_x H (by decide) hA hB
theorem x47_2 {σ : Sg} {c : Int} {a1 : Int} {a2 : Int} (H : Rel c σ) (h0 : 0 ≤ a1 ∧ a1 < 4) (h1 : a2 < 0) : OpR 435 378 [(.inr (.inr (some 0))), (.inl a1), (.inl a2), (.inr (.inr (some 726)))] [(.inr (.inr (some 682))), (.inl a1), (.inl a2)] σ (c + 1) := by
  obtain ⟨r1, r2, r3, r4, r5⟩ := rel_n H
  have t0 := rel_b H h0
  have hA : Dd 435 [(.inr (.inr (some 0))), (.inl a1), (.inl a2), (.inr (.inr (some 726)))] σ (.inl (some (.inl 2)), σ) := by
    refine b435 ?_
    have hD5 : Dd 219 [(.inr (.inr (some 0))), (.inl a1), (.inl a2)] σ (.inr 1, σ) := by
      refine b219 ?_
      have hD3 : Dd 228 [(.inr (.inr (some 0))), (.inl a1)] σ (.inl (some (.inr (.inr (some (11 + 2 * ((a1)).toNat))))), σ) := by
        refine b228 ?_
        have hD1 : Dd 145 [(.inr (.inr (some 10))), (.inl a1)] σ (.inl (some (.inr (.inr (some (11 + 2 * ((a1)).toNat))))), σ) := by
          refine b145 ?_
          rw [if_pos (show (0 : Int) ≤ a1 by first | omega | (simp [upS]; done) | (simp [upS]; omega))]
          refine ⟨4, (by decide +kernel), (by decide), ?_⟩
          rw [if_pos (show a1 < ((4 : Nat) : Int) by first | omega | (simp [upS]; done) | (simp [upS]; omega))]
          refine ⟨(show 0 ≤ a1 by first | omega | (simp [upS]; done) | (simp [upS]; omega)), ?_⟩
          refine ⟨(11 + 2 * ((a1)).toNat), (el_10 (i := (a1)) (by first | omega | (simp [upS]; done) | (simp [upS]; omega))).1, (el_10 (i := (a1)) (by first | omega | (simp [upS]; done) | (simp [upS]; omega))).2, ?_⟩
          all_goals rfl
        refine ⟨_, _, hD1, ?_⟩
        clear hD1
        refine ⟨fun hz2 => (by cases hz2), fun _ hz2 => ?_⟩
        cases hz2
        refine ⟨(el_10 (i := (a1)) (by first | omega | (simp [upS]; done) | (simp [upS]; omega))).2, ?_⟩
        all_goals rfl
      refine Or.inl ⟨_, _, hD3, (el_10 (i := (a1)) (by first | omega | (simp [upS]; done) | (simp [upS]; omega))).2, ?_⟩
      clear hD3
      have hD4 : Dd 234 [(.inr (.inr (some 0))), (.inl a2), (.inl 0), (.inl 255)] σ (.inr 1, σ) := by
        refine b234 ?_
        rw [if_neg (show ¬ ((0 : Int) ≤ a2) by first | omega | (simp [upS]; done) | (simp [upS]; omega))]
        refine b234_10 ?_
        all_goals rfl
      refine Or.inr ⟨_, _, hD4, ?_⟩
      all_goals rfl
    exact Or.inr (Or.inr (Or.inl ⟨_, hD5, rfl⟩))
  have hB : Dd 378 [(.inr (.inr (some 682))), (.inl a1), (.inl a2)] σ (.inl (some (.inl 0)), (upS σ 682 0 2)) := by
    refine b378 ?_
    have hD7 : Dd 377 [(.inl a1)] σ (.inl (some (.inl 1)), σ) := by
      refine b377 ?_
      have hD6 : Dd 246 [(.inl a1), (.inl 4)] σ (.inl (some (.inl 1)), σ) := by
        refine b246 ?_
        try rw [if_pos (show (0 : Int) ≤ a1 by first | omega | (simp [upS]; done) | (simp [upS]; omega))]
        try rw [if_pos (show a1 < 4 by first | omega | (simp [upS]; done) | (simp [upS]; omega))]
        all_goals rfl
      refine ⟨_, _, hD6, ?_⟩
      clear hD6
      refine ⟨(show 1 = 0 ∨ 1 = 1 by first | omega | (simp [upS]; done) | (simp [upS]; omega)), ?_⟩
      all_goals rfl
    refine ⟨_, _, hD7, ?_⟩
    clear hD7
    rw [if_neg (show ¬ ((1 : Int) = 0) by first | omega | (simp [upS]; done) | (simp [upS]; omega))]
    have hD8 : Dd 246 [(.inl a2), (.inl 256)] σ (.inl (some (.inl 0)), σ) := by
      refine b246 ?_
      try rw [if_neg (show ¬ ((0 : Int) ≤ a2) by first | omega | (simp [upS]; done) | (simp [upS]; omega))]
      all_goals rfl
    refine ⟨_, _, hD8, ?_⟩
    clear hD8
    refine ⟨(show ¬ (0 = 0) → 0 ≤ a1 ∧ a1 < 4 by (first | (intros; first | omega | (simp [upS]; done) | (simp [upS]; omega)) | (intros; simp_all [upS]; done) | (intros; simp_all [upS]; omega))), ?_⟩
    try rw [if_pos (show (0 : Int) = 0 by first | omega | (simp [upS]; done) | (simp [upS]; omega))]
    refine b378_44 ?_
    have hD9 : Dd 245 [(.inr (.inr (some 682))), (.inl 2)] σ (.inl (some (.inl 0)), (upS σ 682 0 2)) := by
      refine b245 ?_
      try rw [if_neg (show ¬ ((2 : Int) = 0) by first | omega | (simp [upS]; done) | (simp [upS]; omega))]
      all_goals rfl
    refine ⟨_, _, hD9, ?_⟩
    clear hD9
    rw [if_pos (show (0 : Int) = 0 by first | omega | (simp [upS]; done) | (simp [upS]; omega))]
    all_goals rfl
  exact op_x H (by decide) hA hB
theorem x47_3 {σ : Sg} {c : Int} {a1 : Int} {a2 : Int} (H : Rel c σ) (h0 : 0 ≤ a1 ∧ a1 < 4) (h1 : 255 < a2) : OpR 435 378 [(.inr (.inr (some 0))), (.inl a1), (.inl a2), (.inr (.inr (some 726)))] [(.inr (.inr (some 682))), (.inl a1), (.inl a2)] σ (c + 1) := by
  obtain ⟨r1, r2, r3, r4, r5⟩ := rel_n H
  have t0 := rel_b H h0
  have hA : Dd 435 [(.inr (.inr (some 0))), (.inl a1), (.inl a2), (.inr (.inr (some 726)))] σ (.inl (some (.inl 2)), σ) := by
    refine b435 ?_
    have hD5 : Dd 219 [(.inr (.inr (some 0))), (.inl a1), (.inl a2)] σ (.inr 1, σ) := by
      refine b219 ?_
      have hD3 : Dd 228 [(.inr (.inr (some 0))), (.inl a1)] σ (.inl (some (.inr (.inr (some (11 + 2 * ((a1)).toNat))))), σ) := by
        refine b228 ?_
        have hD1 : Dd 145 [(.inr (.inr (some 10))), (.inl a1)] σ (.inl (some (.inr (.inr (some (11 + 2 * ((a1)).toNat))))), σ) := by
          refine b145 ?_
          rw [if_pos (show (0 : Int) ≤ a1 by first | omega | (simp [upS]; done) | (simp [upS]; omega))]
          refine ⟨4, (by decide +kernel), (by decide), ?_⟩
          rw [if_pos (show a1 < ((4 : Nat) : Int) by first | omega | (simp [upS]; done) | (simp [upS]; omega))]
          refine ⟨(show 0 ≤ a1 by first | omega | (simp [upS]; done) | (simp [upS]; omega)), ?_⟩
          refine ⟨(11 + 2 * ((a1)).toNat), (el_10 (i := (a1)) (by first | omega | (simp [upS]; done) | (simp [upS]; omega))).1, (el_10 (i := (a1)) (by first | omega | (simp [upS]; done) | (simp [upS]; omega))).2, ?_⟩
          all_goals rfl
        refine ⟨_, _, hD1, ?_⟩
        clear hD1
        refine ⟨fun hz2 => (by cases hz2), fun _ hz2 => ?_⟩
        cases hz2
        refine ⟨(el_10 (i := (a1)) (by first | omega | (simp [upS]; done) | (simp [upS]; omega))).2, ?_⟩
        all_goals rfl
      refine Or.inl ⟨_, _, hD3, (el_10 (i := (a1)) (by first | omega | (simp [upS]; done) | (simp [upS]; omega))).2, ?_⟩
      clear hD3
      have hD4 : Dd 234 [(.inr (.inr (some 0))), (.inl a2), (.inl 0), (.inl 255)] σ (.inr 1, σ) := by
        refine b234 ?_
        rw [if_pos (show (0 : Int) ≤ a2 by first | omega | (simp [upS]; done) | (simp [upS]; omega))]
        rw [if_pos (show (255 : Int) < a2 by first | omega | (simp [upS]; done) | (simp [upS]; omega))]
        refine b234_10 ?_
        all_goals rfl
      refine Or.inr ⟨_, _, hD4, ?_⟩
      all_goals rfl
    exact Or.inr (Or.inr (Or.inl ⟨_, hD5, rfl⟩))
  have hB : Dd 378 [(.inr (.inr (some 682))), (.inl a1), (.inl a2)] σ (.inl (some (.inl 0)), (upS σ 682 0 2)) := by
    refine b378 ?_
    have hD7 : Dd 377 [(.inl a1)] σ (.inl (some (.inl 1)), σ) := by
      refine b377 ?_
      have hD6 : Dd 246 [(.inl a1), (.inl 4)] σ (.inl (some (.inl 1)), σ) := by
        refine b246 ?_
        try rw [if_pos (show (0 : Int) ≤ a1 by first | omega | (simp [upS]; done) | (simp [upS]; omega))]
        try rw [if_pos (show a1 < 4 by first | omega | (simp [upS]; done) | (simp [upS]; omega))]
        all_goals rfl
      refine ⟨_, _, hD6, ?_⟩
      clear hD6
      refine ⟨(show 1 = 0 ∨ 1 = 1 by first | omega | (simp [upS]; done) | (simp [upS]; omega)), ?_⟩
      all_goals rfl
    refine ⟨_, _, hD7, ?_⟩
    clear hD7
    rw [if_neg (show ¬ ((1 : Int) = 0) by first | omega | (simp [upS]; done) | (simp [upS]; omega))]
    have hD8 : Dd 246 [(.inl a2), (.inl 256)] σ (.inl (some (.inl 0)), σ) := by
      refine b246 ?_
      try rw [if_pos (show (0 : Int) ≤ a2 by first | omega | (simp [upS]; done) | (simp [upS]; omega))]
      try rw [if_neg (show ¬ (a2 < 256) by first | omega | (simp [upS]; done) | (simp [upS]; omega))]
      all_goals rfl
    refine ⟨_, _, hD8, ?_⟩
    clear hD8
    refine ⟨(show ¬ (0 = 0) → 0 ≤ a1 ∧ a1 < 4 by (first | (intros; first | omega | (simp [upS]; done) | (simp [upS]; omega)) | (intros; simp_all [upS]; done) | (intros; simp_all [upS]; omega))), ?_⟩
    try rw [if_pos (show (0 : Int) = 0 by first | omega | (simp [upS]; done) | (simp [upS]; omega))]
    refine b378_44 ?_
    have hD9 : Dd 245 [(.inr (.inr (some 682))), (.inl 2)] σ (.inl (some (.inl 0)), (upS σ 682 0 2)) := by
      refine b245 ?_
      try rw [if_neg (show ¬ ((2 : Int) = 0) by first | omega | (simp [upS]; done) | (simp [upS]; omega))]
      all_goals rfl
    refine ⟨_, _, hD9, ?_⟩
    clear hD9
    rw [if_pos (show (0 : Int) = 0 by first | omega | (simp [upS]; done) | (simp [upS]; omega))]
    all_goals rfl
  exact op_x H (by decide) hA hB
theorem x48_0 {σ : Sg} {c : Int} {a1 : Int} (H : Rel c σ) (h0 : a1 < 0) : OpR 436 379 [(.inr (.inr (some 0))), (.inl a1), (.inr (.inr (some 726)))] [(.inr (.inr (some 682))), (.inl a1)] σ (c + 1) := by
  obtain ⟨r1, r2, r3, r4, r5⟩ := rel_n H
  have hA : Dd 436 [(.inr (.inr (some 0))), (.inl a1), (.inr (.inr (some 726)))] σ (.inl (some (.inl 1)), σ) := by
    refine b436 ?_
    have hD4 : Dd 220 [(.inr (.inr (some 0))), (.inl a1)] σ (.inr 0, σ) := by
      refine b220 ?_
      have hD3 : Dd 228 [(.inr (.inr (some 0))), (.inl a1)] σ (.inr 0, σ) := by
        refine b228 ?_
        have hD1 : Dd 145 [(.inr (.inr (some 10))), (.inl a1)] σ (.inl (some (.inr (.inr none))), σ) := by
          refine b145 ?_
          rw [if_neg (show ¬ ((0 : Int) ≤ a1) by first | omega | (simp [upS]; done) | (simp [upS]; omega))]
          all_goals rfl
        refine ⟨_, _, hD1, ?_⟩
        clear hD1
        refine ⟨fun _ => ?_, fun _ hz2 => (by cases hz2)⟩
        all_goals rfl
      refine Or.inr ⟨_, _, hD3, ?_⟩
      all_goals rfl
    exact Or.inr (⟨_, hD4, rfl⟩)
  have hB : Dd 379 [(.inr (.inr (some 682))), (.inl a1)] σ (.inl (some (.inl 0)), (upS σ 682 0 1)) := by
    refine b379 ?_
    have hD6 : Dd 377 [(.inl a1)] σ (.inl (some (.inl 0)), σ) := by
      refine b377 ?_
      have hD5 : Dd 246 [(.inl a1), (.inl 4)] σ (.inl (some (.inl 0)), σ) := by
        refine b246 ?_
        try rw [if_neg (show ¬ ((0 : Int) ≤ a1) by first | omega | (simp [upS]; done) | (simp [upS]; omega))]
        all_goals rfl
      refine ⟨_, _, hD5, ?_⟩
      clear hD5
      refine ⟨(show 0 = 0 ∨ 0 = 1 by first | omega | (simp [upS]; done) | (simp [upS]; omega)), ?_⟩
      all_goals rfl
    refine ⟨_, _, hD6, ?_⟩
    clear hD6
    try rw [if_pos (show (0 : Int) = 0 by first | omega | (simp [upS]; done) | (simp [upS]; omega))]
    refine b379_13 ?_
    have hD7 : Dd 245 [(.inr (.inr (some 682))), (.inl 1)] σ (.inl (some (.inl 0)), (upS σ 682 0 1)) := by
      refine b245 ?_
      try rw [if_neg (show ¬ ((1 : Int) = 0) by first | omega | (simp [upS]; done) | (simp [upS]; omega))]
      all_goals rfl
    refine ⟨_, _, hD7, ?_⟩
    clear hD7
    rw [if_pos (show (0 : Int) = 0 by first | omega | (simp [upS]; done) | (simp [upS]; omega))]
    all_goals rfl
  exact op_x H (by decide) hA hB
theorem x48_1 {σ : Sg} {c : Int} {a1 : Int} (H : Rel c σ) (h0 : 4 ≤ a1) : OpR 436 379 [(.inr (.inr (some 0))), (.inl a1), (.inr (.inr (some 726)))] [(.inr (.inr (some 682))), (.inl a1)] σ (c + 1) := by
  obtain ⟨r1, r2, r3, r4, r5⟩ := rel_n H
  have hA : Dd 436 [(.inr (.inr (some 0))), (.inl a1), (.inr (.inr (some 726)))] σ (.inl (some (.inl 1)), σ) := by
    refine b436 ?_
    have hD4 : Dd 220 [(.inr (.inr (some 0))), (.inl a1)] σ (.inr 0, σ) := by
      refine b220 ?_
      have hD3 : Dd 228 [(.inr (.inr (some 0))), (.inl a1)] σ (.inr 0, σ) := by
        refine b228 ?_
        have hD1 : Dd 145 [(.inr (.inr (some 10))), (.inl a1)] σ (.inl (some (.inr (.inr none))), σ) := by
          refine b145 ?_
          rw [if_pos (show (0 : Int) ≤ a1 by first | omega | (simp [upS]; done) | (simp [upS]; omega))]
          refine ⟨4, (by decide +kernel), (by decide), ?_⟩
          rw [if_neg (show ¬ (a1 < ((4 : Nat) : Int)) by first | omega | (simp [upS]; done) | (simp [upS]; omega))]
          all_goals rfl
        refine ⟨_, _, hD1, ?_⟩
        clear hD1
        refine ⟨fun _ => ?_, fun _ hz2 => (by cases hz2)⟩
        all_goals rfl
      refine Or.inr ⟨_, _, hD3, ?_⟩
      all_goals rfl
    exact Or.inr (⟨_, hD4, rfl⟩)
  have hB : Dd 379 [(.inr (.inr (some 682))), (.inl a1)] σ (.inl (some (.inl 0)), (upS σ 682 0 1)) := by
    refine b379 ?_
    have hD6 : Dd 377 [(.inl a1)] σ (.inl (some (.inl 0)), σ) := by
      refine b377 ?_
      have hD5 : Dd 246 [(.inl a1), (.inl 4)] σ (.inl (some (.inl 0)), σ) := by
        refine b246 ?_
        try rw [if_pos (show (0 : Int) ≤ a1 by first | omega | (simp [upS]; done) | (simp [upS]; omega))]
        try rw [if_neg (show ¬ (a1 < 4) by first | omega | (simp [upS]; done) | (simp [upS]; omega))]
        all_goals rfl
      refine ⟨_, _, hD5, ?_⟩
      clear hD5
      refine ⟨(show 0 = 0 ∨ 0 = 1 by first | omega | (simp [upS]; done) | (simp [upS]; omega)), ?_⟩
      all_goals rfl
    refine ⟨_, _, hD6, ?_⟩
    clear hD6
    try rw [if_pos (show (0 : Int) = 0 by first | omega | (simp [upS]; done) | (simp [upS]; omega))]
    refine b379_13 ?_
    have hD7 : Dd 245 [(.inr (.inr (some 682))), (.inl 1)] σ (.inl (some (.inl 0)), (upS σ 682 0 1)) := by
      refine b245 ?_
      try rw [if_neg (show ¬ ((1 : Int) = 0) by first | omega | (simp [upS]; done) | (simp [upS]; omega))]
      all_goals rfl
    refine ⟨_, _, hD7, ?_⟩
    clear hD7
    rw [if_pos (show (0 : Int) = 0 by first | omega | (simp [upS]; done) | (simp [upS]; omega))]
    all_goals rfl
  exact op_x H (by decide) hA hB
theorem x49_0 {σ : Sg} {c : Int} {a1 : Int} {a2 : Int} (H : Rel c σ) (h0 : a1 < 0) : OpR 437 380 [(.inr (.inr (some 0))), (.inl a1), (.inl a2), (.inr (.inr (some 726)))] [(.inr (.inr (some 682))), (.inl a1), (.inl a2)] σ (c + 1) := by
  obtain ⟨r1, r2, r3, r4, r5⟩ := rel_n H
  have hA : Dd 437 [(.inr (.inr (some 0))), (.inl a1), (.inl a2), (.inr (.inr (some 726)))] σ (.inl (some (.inl 1)), σ) := by
    refine b437 ?_
    have hD4 : Dd 221 [(.inr (.inr (some 0))), (.inl a1), (.inl a2)] σ (.inr 0, σ) := by
      refine b221 ?_
      have hD3 : Dd 228 [(.inr (.inr (some 0))), (.inl a1)] σ (.inr 0, σ) := by
        refine b228 ?_
        have hD1 : Dd 145 [(.inr (.inr (some 10))), (.inl a1)] σ (.inl (some (.inr (.inr none))), σ) := by
          refine b145 ?_
          rw [if_neg (show ¬ ((0 : Int) ≤ a1) by first | omega | (simp [upS]; done) | (simp [upS]; omega))]
          all_goals rfl
        refine ⟨_, _, hD1, ?_⟩
        clear hD1
        refine ⟨fun _ => ?_, fun _ hz2 => (by cases hz2)⟩
        all_goals rfl
      refine Or.inr ⟨_, _, hD3, ?_⟩
      all_goals rfl
    exact Or.inr (⟨_, hD4, rfl⟩)
  have hB : Dd 380 [(.inr (.inr (some 682))), (.inl a1), (.inl a2)] σ (.inl (some (.inl 0)), (upS σ 682 0 1)) := by
    refine b380 ?_
    have hD6 : Dd 377 [(.inl a1)] σ (.inl (some (.inl 0)), σ) := by
      refine b377 ?_
      have hD5 : Dd 246 [(.inl a1), (.inl 4)] σ (.inl (some (.inl 0)), σ) := by
        refine b246 ?_
        try rw [if_neg (show ¬ ((0 : Int) ≤ a1) by first | omega | (simp [upS]; done) | (simp [upS]; omega))]
        all_goals rfl
      refine ⟨_, _, hD5, ?_⟩
      clear hD5
      refine ⟨(show 0 = 0 ∨ 0 = 1 by first | omega | (simp [upS]; done) | (simp [upS]; omega)), ?_⟩
      all_goals rfl
    refine ⟨_, _, hD6, ?_⟩
    clear hD6
    rw [if_pos (show (0 : Int) = 0 by first | omega | (simp [upS]; done) | (simp [upS]; omega))]
    refine b380_16 ?_
    refine b380_17 ?_
    have hD7 : Dd 245 [(.inr (.inr (some 682))), (.inl 1)] σ (.inl (some (.inl 0)), (upS σ 682 0 1)) := by
      refine b245 ?_
      try rw [if_neg (show ¬ ((1 : Int) = 0) by first | omega | (simp [upS]; done) | (simp [upS]; omega))]
      all_goals rfl
    refine ⟨_, _, hD7, ?_⟩
    clear hD7
    refine ⟨(show ¬ (0 = 0) → 0 ≤ a1 ∧ a1 < 4 by (first | (intros; first | omega | (simp [upS]; done) | (simp [upS]; omega)) | (intros; simp_all [upS]; done) | (intros; simp_all [upS]; omega))), ?_⟩
    refine ⟨(show ¬ (0 = 0) → (a2 < ((upS σ 682 0 1) 723 (a1).toNat)) → -2147483648 ≤ (40 * a1) ∧ (40 * a1) ≤ 2147483647 by (first | (intros; first | omega | (simp [upS]; done) | (simp [upS]; omega)) | (intros; simp_all [upS]; done) | (intros; simp_all [upS]; omega))), ?_⟩
    refine ⟨(show ¬ (0 = 0) → (a2 < ((upS σ 682 0 1) 723 (a1).toNat)) → -2147483648 ≤ ((40 * a1) + a2) ∧ ((40 * a1) + a2) ≤ 2147483647 by (first | (intros; first | omega | (simp [upS]; done) | (simp [upS]; omega)) | (intros; simp_all [upS]; done) | (intros; simp_all [upS]; omega))), ?_⟩
    refine ⟨(show ¬ (0 = 0) → (a2 < ((upS σ 682 0 1) 723 (a1).toNat)) → 0 ≤ ((40 * a1) + a2) ∧ ((40 * a1) + a2) < 160 by (first | (intros; first | omega | (simp [upS]; done) | (simp [upS]; omega)) | (intros; simp_all [upS]; done) | (intros; simp_all [upS]; omega))), ?_⟩
    try rw [if_pos (show (0 : Int) = 0 by first | omega | (simp [upS]; done) | (simp [upS]; omega))]
    all_goals rfl
  exact op_x H (by decide) hA hB
theorem x49_1 {σ : Sg} {c : Int} {a1 : Int} {a2 : Int} (H : Rel c σ) (h0 : 4 ≤ a1) : OpR 437 380 [(.inr (.inr (some 0))), (.inl a1), (.inl a2), (.inr (.inr (some 726)))] [(.inr (.inr (some 682))), (.inl a1), (.inl a2)] σ (c + 1) := by
  obtain ⟨r1, r2, r3, r4, r5⟩ := rel_n H
  have hA : Dd 437 [(.inr (.inr (some 0))), (.inl a1), (.inl a2), (.inr (.inr (some 726)))] σ (.inl (some (.inl 1)), σ) := by
    refine b437 ?_
    have hD4 : Dd 221 [(.inr (.inr (some 0))), (.inl a1), (.inl a2)] σ (.inr 0, σ) := by
      refine b221 ?_
      have hD3 : Dd 228 [(.inr (.inr (some 0))), (.inl a1)] σ (.inr 0, σ) := by
        refine b228 ?_
        have hD1 : Dd 145 [(.inr (.inr (some 10))), (.inl a1)] σ (.inl (some (.inr (.inr none))), σ) := by
          refine b145 ?_
          rw [if_pos (show (0 : Int) ≤ a1 by first | omega | (simp [upS]; done) | (simp [upS]; omega))]
          refine ⟨4, (by decide +kernel), (by decide), ?_⟩
          rw [if_neg (show ¬ (a1 < ((4 : Nat) : Int)) by first | omega | (simp [upS]; done) | (simp [upS]; omega))]
          all_goals rfl
        refine ⟨_, _, hD1, ?_⟩
        clear hD1
        refine ⟨fun _ => ?_, fun _ hz2 => (by cases hz2)⟩
        all_goals rfl
      refine Or.inr ⟨_, _, hD3, ?_⟩
      all_goals rfl
    exact Or.inr (⟨_, hD4, rfl⟩)
  have hB : Dd 380 [(.inr (.inr (some 682))), (.inl a1), (.inl a2)] σ (.inl (some (.inl 0)), (upS σ 682 0 1)) := by
    refine b380 ?_
    have hD6 : Dd 377 [(.inl a1)] σ (.inl (some (.inl 0)), σ) := by
      refine b377 ?_
      have hD5 : Dd 246 [(.inl a1), (.inl 4)] σ (.inl (some (.inl 0)), σ) := by
        refine b246 ?_
        try rw [if_pos (show (0 : Int) ≤ a1 by first | omega | (simp [upS]; done) | (simp [upS]; omega))]
        try rw [if_neg (show ¬ (a1 < 4) by first | omega | (simp [upS]; done) | (simp [upS]; omega))]
        all_goals rfl
      refine ⟨_, _, hD5, ?_⟩
      clear hD5
      refine ⟨(show 0 = 0 ∨ 0 = 1 by first | omega | (simp [upS]; done) | (simp [upS]; omega)), ?_⟩
      all_goals rfl
    refine ⟨_, _, hD6, ?_⟩
    clear hD6
    rw [if_pos (show (0 : Int) = 0 by first | omega | (simp [upS]; done) | (simp [upS]; omega))]
    refine b380_16 ?_
    refine b380_17 ?_
    have hD7 : Dd 245 [(.inr (.inr (some 682))), (.inl 1)] σ (.inl (some (.inl 0)), (upS σ 682 0 1)) := by
      refine b245 ?_
      try rw [if_neg (show ¬ ((1 : Int) = 0) by first | omega | (simp [upS]; done) | (simp [upS]; omega))]
      all_goals rfl
    refine ⟨_, _, hD7, ?_⟩
    clear hD7
    refine ⟨(show ¬ (0 = 0) → 0 ≤ a1 ∧ a1 < 4 by (first | (intros; first | omega | (simp [upS]; done) | (simp [upS]; omega)) | (intros; simp_all [upS]; done) | (intros; simp_all [upS]; omega))), ?_⟩
    refine ⟨(show ¬ (0 = 0) → (a2 < ((upS σ 682 0 1) 723 (a1).toNat)) → -2147483648 ≤ (40 * a1) ∧ (40 * a1) ≤ 2147483647 by (first | (intros; first | omega | (simp [upS]; done) | (simp [upS]; omega)) | (intros; simp_all [upS]; done) | (intros; simp_all [upS]; omega))), ?_⟩
    refine ⟨(show ¬ (0 = 0) → (a2 < ((upS σ 682 0 1) 723 (a1).toNat)) → -2147483648 ≤ ((40 * a1) + a2) ∧ ((40 * a1) + a2) ≤ 2147483647 by (first | (intros; first | omega | (simp [upS]; done) | (simp [upS]; omega)) | (intros; simp_all [upS]; done) | (intros; simp_all [upS]; omega))), ?_⟩
    refine ⟨(show ¬ (0 = 0) → (a2 < ((upS σ 682 0 1) 723 (a1).toNat)) → 0 ≤ ((40 * a1) + a2) ∧ ((40 * a1) + a2) < 160 by (first | (intros; first | omega | (simp [upS]; done) | (simp [upS]; omega)) | (intros; simp_all [upS]; done) | (intros; simp_all [upS]; omega))), ?_⟩
    try rw [if_pos (show (0 : Int) = 0 by first | omega | (simp [upS]; done) | (simp [upS]; omega))]
    all_goals rfl
  exact op_x H (by decide) hA hB
theorem x49_2 {σ : Sg} {c : Int} {a1 : Int} {a2 : Int} (H : Rel c σ) (h0 : 0 ≤ a1 ∧ a1 < 4) (h1 : a2 < 0) : OpR 437 380 [(.inr (.inr (some 0))), (.inl a1), (.inl a2), (.inr (.inr (some 726)))] [(.inr (.inr (some 682))), (.inl a1), (.inl a2)] σ (c + 1) := by
  obtain ⟨r1, r2, r3, r4, r5⟩ := rel_n H
  have t0 := rel_b H h0
  have hA : Dd 437 [(.inr (.inr (some 0))), (.inl a1), (.inl a2), (.inr (.inr (some 726)))] σ (.inl (some (.inl 1)), σ) := by
    refine b437 ?_
    have hD5 : Dd 221 [(.inr (.inr (some 0))), (.inl a1), (.inl a2)] σ (.inr 0, σ) := by
      refine b221 ?_
      have hD3 : Dd 228 [(.inr (.inr (some 0))), (.inl a1)] σ (.inl (some (.inr (.inr (some (11 + 2 * ((a1)).toNat))))), σ) := by
        refine b228 ?_
        have hD1 : Dd 145 [(.inr (.inr (some 10))), (.inl a1)] σ (.inl (some (.inr (.inr (some (11 + 2 * ((a1)).toNat))))), σ) := by
          refine b145 ?_
          rw [if_pos (show (0 : Int) ≤ a1 by first | omega | (simp [upS]; done) | (simp [upS]; omega))]
          refine ⟨4, (by decide +kernel), (by decide), ?_⟩
          rw [if_pos (show a1 < ((4 : Nat) : Int) by first | omega | (simp [upS]; done) | (simp [upS]; omega))]
          refine ⟨(show 0 ≤ a1 by first | omega | (simp [upS]; done) | (simp [upS]; omega)), ?_⟩
          refine ⟨(11 + 2 * ((a1)).toNat), (el_10 (i := (a1)) (by first | omega | (simp [upS]; done) | (simp [upS]; omega))).1, (el_10 (i := (a1)) (by first | omega | (simp [upS]; done) | (simp [upS]; omega))).2, ?_⟩
          all_goals rfl
        refine ⟨_, _, hD1, ?_⟩
        clear hD1
        refine ⟨fun hz2 => (by cases hz2), fun _ hz2 => ?_⟩
        cases hz2
        refine ⟨(el_10 (i := (a1)) (by first | omega | (simp [upS]; done) | (simp [upS]; omega))).2, ?_⟩
        all_goals rfl
      refine Or.inl ⟨_, _, hD3, (el_10 (i := (a1)) (by first | omega | (simp [upS]; done) | (simp [upS]; omega))).2, ?_⟩
      clear hD3
      have hD4 : Dd 233 [(.inr (.inr (some 0))), (.inl a2)] σ (.inr 0, σ) := by
        refine b233 ?_
        rw [if_pos (show a2 < 0 by first | omega | (simp [upS]; done) | (simp [upS]; omega))]
        all_goals rfl
      refine Or.inr ⟨_, _, hD4, ?_⟩
      all_goals rfl
    exact Or.inr (⟨_, hD5, rfl⟩)
  have hB : Dd 380 [(.inr (.inr (some 682))), (.inl a1), (.inl a2)] σ (.inl (some (.inl 0)), (upS σ 682 0 1)) := by
    refine b380 ?_
    have hD7 : Dd 377 [(.inl a1)] σ (.inl (some (.inl 1)), σ) := by
      refine b377 ?_
      have hD6 : Dd 246 [(.inl a1), (.inl 4)] σ (.inl (some (.inl 1)), σ) := by
        refine b246 ?_
        try rw [if_pos (show (0 : Int) ≤ a1 by first | omega | (simp [upS]; done) | (simp [upS]; omega))]
        try rw [if_pos (show a1 < 4 by first | omega | (simp [upS]; done) | (simp [upS]; omega))]
        all_goals rfl
      refine ⟨_, _, hD6, ?_⟩
      clear hD6
      refine ⟨(show 1 = 0 ∨ 1 = 1 by first | omega | (simp [upS]; done) | (simp [upS]; omega)), ?_⟩
      all_goals rfl
    refine ⟨_, _, hD7, ?_⟩
    clear hD7
    rw [if_neg (show ¬ ((1 : Int) = 0) by first | omega | (simp [upS]; done) | (simp [upS]; omega))]
    rw [if_neg (show ¬ ((0 : Int) ≤ a2) by first | omega | (simp [upS]; done) | (simp [upS]; omega))]
    refine b380_16 ?_
    refine b380_17 ?_
    have hD8 : Dd 245 [(.inr (.inr (some 682))), (.inl 1)] σ (.inl (some (.inl 0)), (upS σ 682 0 1)) := by
      refine b245 ?_
      try rw [if_neg (show ¬ ((1 : Int) = 0) by first | omega | (simp [upS]; done) | (simp [upS]; omega))]
      all_goals rfl
    refine ⟨_, _, hD8, ?_⟩
    clear hD8
    refine ⟨(show ¬ (0 = 0) → 0 ≤ a1 ∧ a1 < 4 by (first | (intros; first | omega | (simp [upS]; done) | (simp [upS]; omega)) | (intros; simp_all [upS]; done) | (intros; simp_all [upS]; omega))), ?_⟩
    refine ⟨(show ¬ (0 = 0) → (a2 < ((upS σ 682 0 1) 723 (a1).toNat)) → -2147483648 ≤ (40 * a1) ∧ (40 * a1) ≤ 2147483647 by (first | (intros; first | omega | (simp [upS]; done) | (simp [upS]; omega)) | (intros; simp_all [upS]; done) | (intros; simp_all [upS]; omega))), ?_⟩
    refine ⟨(show ¬ (0 = 0) → (a2 < ((upS σ 682 0 1) 723 (a1).toNat)) → -2147483648 ≤ ((40 * a1) + a2) ∧ ((40 * a1) + a2) ≤ 2147483647 by (first | (intros; first | omega | (simp [upS]; done) | (simp [upS]; omega)) | (intros; simp_all [upS]; done) | (intros; simp_all [upS]; omega))), ?_⟩
    refine ⟨(show ¬ (0 = 0) → (a2 < ((upS σ 682 0 1) 723 (a1).toNat)) → 0 ≤ ((40 * a1) + a2) ∧ ((40 * a1) + a2) < 160 by (first | (intros; first | omega | (simp [upS]; done) | (simp [upS]; omega)) | (intros; simp_all [upS]; done) | (intros; simp_all [upS]; omega))), ?_⟩
    try rw [if_pos (show (0 : Int) = 0 by first | omega | (simp [upS]; done) | (simp [upS]; omega))]
    all_goals rfl
  exact op_x H (by decide) hA hB
theorem x50_0 {σ : Sg} {c : Int} {a1 : Int} {a2 : Int} (H : Rel c σ) (h0 : a1 < 0) : OpR 438 382 [(.inr (.inr (some 0))), (.inl a1), (.inl a2), (.inr (.inr (some 726)))] [(.inr (.inr (some 682))), (.inl a1), (.inl a2)] σ (c + 1) := by
  obtain ⟨r1, r2, r3, r4, r5⟩ := rel_n H
  have hA : Dd 438 [(.inr (.inr (some 0))), (.inl a1), (.inl a2), (.inr (.inr (some 726)))] σ (.inl (some (.inl 1)), σ) := by
    refine b438 ?_
    have hD4 : Dd 222 [(.inr (.inr (some 0))), (.inl a1), (.inl a2)] σ (.inr 0, σ) := by
      refine b222 ?_
      have hD3 : Dd 228 [(.inr (.inr (some 0))), (.inl a1)] σ (.inr 0, σ) := by
        refine b228 ?_
        have hD1 : Dd 145 [(.inr (.inr (some 10))), (.inl a1)] σ (.inl (some (.inr (.inr none))), σ) := by
          refine b145 ?_
          rw [if_neg (show ¬ ((0 : Int) ≤ a1) by first | omega | (simp [upS]; done) | (simp [upS]; omega))]
          all_goals rfl
        refine ⟨_, _, hD1, ?_⟩
        clear hD1
        refine ⟨fun _ => ?_, fun _ hz2 => (by cases hz2)⟩
        all_goals rfl
      refine Or.inr ⟨_, _, hD3, ?_⟩
      all_goals rfl
    exact Or.inr (Or.inl ⟨_, hD4, rfl⟩)
  have hB : Dd 382 [(.inr (.inr (some 682))), (.inl a1), (.inl a2)] σ (.inl (some (.inl 0)), (upS σ 682 0 1)) := by
    refine b382 ?_
    have hD6 : Dd 377 [(.inl a1)] σ (.inl (some (.inl 0)), σ) := by
      refine b377 ?_
      have hD5 : Dd 246 [(.inl a1), (.inl 4)] σ (.inl (some (.inl 0)), σ) := by
        refine b246 ?_
        try rw [if_neg (show ¬ ((0 : Int) ≤ a1) by first | omega | (simp [upS]; done) | (simp [upS]; omega))]
        all_goals rfl
      refine ⟨_, _, hD5, ?_⟩
      clear hD5
      refine ⟨(show 0 = 0 ∨ 0 = 1 by first | omega | (simp [upS]; done) | (simp [upS]; omega)), ?_⟩
      all_goals rfl
    refine ⟨_, _, hD6, ?_⟩
    clear hD6
    rw [if_pos (show (0 : Int) = 0 by first | omega | (simp [upS]; done) | (simp [upS]; omega))]
    refine b382_15 ?_
    refine b382_33 ?_
    have hD7 : Dd 245 [(.inr (.inr (some 682))), (.inl 1)] σ (.inl (some (.inl 0)), (upS σ 682 0 1)) := by
      refine b245 ?_
      try rw [if_neg (show ¬ ((1 : Int) = 0) by first | omega | (simp [upS]; done) | (simp [upS]; omega))]
      all_goals rfl
    refine ⟨_, _, hD7, ?_⟩
    clear hD7
    rw [if_pos (show (0 : Int) = 0 by first | omega | (simp [upS]; done) | (simp [upS]; omega))]
    all_goals rfl
  exact op_x H (by decide) hA hB
theorem x50_1 {σ : Sg} {c : Int} {a1 : Int} {a2 : Int} (H : Rel c σ) (h0 : 4 ≤ a1) : OpR 438 382 [(.inr (.inr (some 0))), (.inl a1), (.inl a2), (.inr (.inr (some 726)))] [(.inr (.inr (some 682))), (.inl a1), (.inl a2)] σ (c + 1) := by
  obtain ⟨r1, r2, r3, r4, r5⟩ := rel_n H
  have hA : Dd 438 [(.inr (.inr (some 0))), (.inl a1), (.inl a2), (.inr (.inr (some 726)))] σ (.inl (some (.inl 1)), σ) := by
    refine b438 ?_
    have hD4 : Dd 222 [(.inr (.inr (some 0))), (.inl a1), (.inl a2)] σ (.inr 0, σ) := by
      refine b222 ?_
      have hD3 : Dd 228 [(.inr (.inr (some 0))), (.inl a1)] σ (.inr 0, σ) := by
        refine b228 ?_
        have hD1 : Dd 145 [(.inr (.inr (some 10))), (.inl a1)] σ (.inl (some (.inr (.inr none))), σ) := by
          refine b145 ?_
          rw [if_pos (show (0 : Int) ≤ a1 by first | omega | (simp [upS]; done) | (simp [upS]; omega))]
          refine ⟨4, (by decide +kernel), (by decide), ?_⟩
          rw [if_neg (show ¬ (a1 < ((4 : Nat) : Int)) by first | omega | (simp [upS]; done) | (simp [upS]; omega))]
          all_goals rfl
        refine ⟨_, _, hD1, ?_⟩
        clear hD1
        refine ⟨fun _ => ?_, fun _ hz2 => (by cases hz2)⟩
        all_goals rfl
      refine Or.inr ⟨_, _, hD3, ?_⟩
      all_goals rfl
    exact Or.inr (Or.inl ⟨_, hD4, rfl⟩)
  have hB : Dd 382 [(.inr (.inr (some 682))), (.inl a1), (.inl a2)] σ (.inl (some (.inl 0)), (upS σ 682 0 1)) := by
    refine b382 ?_
    have hD6 : Dd 377 [(.inl a1)] σ (.inl (some (.inl 0)), σ) := by
      refine b377 ?_
      have hD5 : Dd 246 [(.inl a1), (.inl 4)] σ (.inl (some (.inl 0)), σ) := by
        refine b246 ?_
        try rw [if_pos (show (0 : Int) ≤ a1 by first | omega | (simp [upS]; done) | (simp [upS]; omega))]
        try rw [if_neg (show ¬ (a1 < 4) by first | omega | (simp [upS]; done) | (simp [upS]; omega))]
        all_goals rfl
      refine ⟨_, _, hD5, ?_⟩
      clear hD5
      refine ⟨(show 0 = 0 ∨ 0 = 1 by first | omega | (simp [upS]; done) | (simp [upS]; omega)), ?_⟩
      all_goals rfl
    refine ⟨_, _, hD6, ?_⟩
    clear hD6
    rw [if_pos (show (0 : Int) = 0 by first | omega | (simp [upS]; done) | (simp [upS]; omega))]
    refine b382_15 ?_
    refine b382_33 ?_
    have hD7 : Dd 245 [(.inr (.inr (some 682))), (.inl 1)] σ (.inl (some (.inl 0)), (upS σ 682 0 1)) := by
      refine b245 ?_
      try rw [if_neg (show ¬ ((1 : Int) = 0) by first | omega | (simp [upS]; done) | (simp [upS]; omega))]
      all_goals rfl
    refine ⟨_, _, hD7, ?_⟩
    clear hD7
    rw [if_pos (show (0 : Int) = 0 by first | omega | (simp [upS]; done) | (simp [upS]; omega))]
    all_goals rfl
  exact op_x H (by decide) hA hB
theorem x50_2 {σ : Sg} {c : Int} {a1 : Int} {a2 : Int} (H : Rel c σ) (h0 : 0 ≤ a1 ∧ a1 < 4) (h1 : a2 < 0) : OpR 438 382 [(.inr (.inr (some 0))), (.inl a1), (.inl a2), (.inr (.inr (some 726)))] [(.inr (.inr (some 682))), (.inl a1), (.inl a2)] σ (c + 1) := by
  obtain ⟨r1, r2, r3, r4, r5⟩ := rel_n H
  have t0 := rel_b H h0
  have hA : Dd 438 [(.inr (.inr (some 0))), (.inl a1), (.inl a2), (.inr (.inr (some 726)))] σ (.inl (some (.inl 1)), σ) := by
    refine b438 ?_
    have hD7 : Dd 222 [(.inr (.inr (some 0))), (.inl a1), (.inl a2)] σ (.inr 0, σ) := by
      refine b222 ?_
      have hD3 : Dd 228 [(.inr (.inr (some 0))), (.inl a1)] σ (.inl (some (.inr (.inr (some (11 + 2 * ((a1)).toNat))))), σ) := by
        refine b228 ?_
        have hD1 : Dd 145 [(.inr (.inr (some 10))), (.inl a1)] σ (.inl (some (.inr (.inr (some (11 + 2 * ((a1)).toNat))))), σ) := by
          refine b145 ?_
          rw [if_pos (show (0 : Int) ≤ a1 by first | omega | (simp [upS]; done) | (simp [upS]; omega))]
          refine ⟨4, (by decide +kernel), (by decide), ?_⟩
          rw [if_pos (show a1 < ((4 : Nat) : Int) by first | omega | (simp [upS]; done) | (simp [upS]; omega))]
          refine ⟨(show 0 ≤ a1 by first | omega | (simp [upS]; done) | (simp [upS]; omega)), ?_⟩
          refine ⟨(11 + 2 * ((a1)).toNat), (el_10 (i := (a1)) (by first | omega | (simp [upS]; done) | (simp [upS]; omega))).1, (el_10 (i := (a1)) (by first | omega | (simp [upS]; done) | (simp [upS]; omega))).2, ?_⟩
          all_goals rfl
        refine ⟨_, _, hD1, ?_⟩
        clear hD1
        refine ⟨fun hz2 => (by cases hz2), fun _ hz2 => ?_⟩
        cases hz2
        refine ⟨(el_10 (i := (a1)) (by first | omega | (simp [upS]; done) | (simp [upS]; omega))).2, ?_⟩
        all_goals rfl
      refine Or.inl ⟨_, _, hD3, (el_10 (i := (a1)) (by first | omega | (simp [upS]; done) | (simp [upS]; omega))).2, ?_⟩
      clear hD3
      have hD6 : Dd 228 [(.inr (.inr (some 0))), (.inl a2)] σ (.inr 0, σ) := by
        refine b228 ?_
        have hD4 : Dd 145 [(.inr (.inr (some 10))), (.inl a2)] σ (.inl (some (.inr (.inr none))), σ) := by
          refine b145 ?_
          rw [if_neg (show ¬ ((0 : Int) ≤ a2) by first | omega | (simp [upS]; done) | (simp [upS]; omega))]
          all_goals rfl
        refine ⟨_, _, hD4, ?_⟩
        clear hD4
        refine ⟨fun _ => ?_, fun _ hz5 => (by cases hz5)⟩
        all_goals rfl
      refine Or.inr ⟨_, _, hD6, ?_⟩
      all_goals rfl
    exact Or.inr (Or.inl ⟨_, hD7, rfl⟩)
  have hB : Dd 382 [(.inr (.inr (some 682))), (.inl a1), (.inl a2)] σ (.inl (some (.inl 0)), (upS σ 682 0 1)) := by
    refine b382 ?_
    have hD9 : Dd 377 [(.inl a1)] σ (.inl (some (.inl 1)), σ) := by
      refine b377 ?_
      have hD8 : Dd 246 [(.inl a1), (.inl 4)] σ (.inl (some (.inl 1)), σ) := by
        refine b246 ?_
        try rw [if_pos (show (0 : Int) ≤ a1 by first | omega | (simp [upS]; done) | (simp [upS]; omega))]
        try rw [if_pos (show a1 < 4 by first | omega | (simp [upS]; done) | (simp [upS]; omega))]
        all_goals rfl
      refine ⟨_, _, hD8, ?_⟩
      clear hD8
      refine ⟨(show 1 = 0 ∨ 1 = 1 by first | omega | (simp [upS]; done) | (simp [upS]; omega)), ?_⟩
      all_goals rfl
    refine ⟨_, _, hD9, ?_⟩
    clear hD9
    rw [if_neg (show ¬ ((1 : Int) = 0) by first | omega | (simp [upS]; done) | (simp [upS]; omega))]
    have hD11 : Dd 377 [(.inl a2)] σ (.inl (some (.inl 0)), σ) := by
      refine b377 ?_
      have hD10 : Dd 246 [(.inl a2), (.inl 4)] σ (.inl (some (.inl 0)), σ) := by
        refine b246 ?_
        try rw [if_neg (show ¬ ((0 : Int) ≤ a2) by first | omega | (simp [upS]; done) | (simp [upS]; omega))]
        all_goals rfl
      refine ⟨_, _, hD10, ?_⟩
      clear hD10
      refine ⟨(show 0 = 0 ∨ 0 = 1 by first | omega | (simp [upS]; done) | (simp [upS]; omega)), ?_⟩
      all_goals rfl
    refine ⟨_, _, hD11, ?_⟩
    clear hD11
    rw [if_pos (show (0 : Int) = 0 by first | omega | (simp [upS]; done) | (simp [upS]; omega))]
    refine b382_15 ?_
    refine b382_33 ?_
    have hD12 : Dd 245 [(.inr (.inr (some 682))), (.inl 1)] σ (.inl (some (.inl 0)), (upS σ 682 0 1)) := by
      refine b245 ?_
      try rw [if_neg (show ¬ ((1 : Int) = 0) by first | omega | (simp [upS]; done) | (simp [upS]; omega))]
      all_goals rfl
    refine ⟨_, _, hD12, ?_⟩
    clear hD12
    rw [if_pos (show (0 : Int) = 0 by first | omega | (simp [upS]; done) | (simp [upS]; omega))]
    all_goals rfl
  exact op_x H (by decide) hA hB
theorem x50_3 {σ : Sg} {c : Int} {a1 : Int} {a2 : Int} (H : Rel c σ) (h0 : 0 ≤ a1 ∧ a1 < 4) (h1 : 4 ≤ a2) : OpR 438 382 [(.inr (.inr (some 0))), (.inl a1), (.inl a2), (.inr (.inr (some 726)))] [(.inr (.inr (some 682))), (.inl a1), (.inl a2)] σ (c + 1) := by
  obtain ⟨r1, r2, r3, r4, r5⟩ := rel_n H
  have t0 := rel_b H h0
  have hA : Dd 438 [(.inr (.inr (some 0))), (.inl a1), (.inl a2), (.inr (.inr (some 726)))] σ (.inl (some (.inl 1)), σ) := by
    refine b438 ?_
    have hD7 : Dd 222 [(.inr (.inr (some 0))), (.inl a1), (.inl a2)] σ (.inr 0, σ) := by
      refine b222 ?_
      have hD3 : Dd 228 [(.inr (.inr (some 0))), (.inl a1)] σ (.inl (some (.inr (.inr (some (11 + 2 * ((a1)).toNat))))), σ) := by
        refine b228 ?_
        have hD1 : Dd 145 [(.inr (.inr (some 10))), (.inl a1)] σ (.inl (some (.inr (.inr (some (11 + 2 * ((a1)).toNat))))), σ) := by
          refine b145 ?_
          rw [if_pos (show (0 : Int) ≤ a1 by first | omega | (simp [upS]; done) | (simp [upS]; omega))]
          refine ⟨4, (by decide +kernel), (by decide), ?_⟩
          rw [if_pos (show a1 < ((4 : Nat) : Int) by first | omega | (simp [upS]; done) | (simp [upS]; omega))]
          refine ⟨(show 0 ≤ a1 by first | omega | (simp [upS]; done) | (simp [upS]; omega)), ?_⟩
          refine ⟨(11 + 2 * ((a1)).toNat), (el_10 (i := (a1)) (by first | omega | (simp [upS]; done) | (simp [upS]; omega))).1, (el_10 (i := (a1)) (by first | omega | (simp [upS]; done) | (simp [upS]; omega))).2, ?_⟩
          all_goals rfl
        refine ⟨_, _, hD1, ?_⟩
        clear hD1
        refine ⟨fun hz2 => (by cases hz2), fun _ hz2 => ?_⟩
        cases hz2
        refine ⟨(el_10 (i := (a1)) (by first | omega | (simp [upS]; done) | (simp [upS]; omega))).2, ?_⟩
        all_goals rfl
      refine Or.inl ⟨_, _, hD3, (el_10 (i := (a1)) (by first | omega | (simp [upS]; done) | (simp [upS]; omega))).2, ?_⟩
      clear hD3
      have hD6 : Dd 228 [(.inr (.inr (some 0))), (.inl a2)] σ (.inr 0, σ) := by
        refine b228 ?_
        have hD4 : Dd 145 [(.inr (.inr (some 10))), (.inl a2)] σ (.inl (some (.inr (.inr none))), σ) := by
          refine b145 ?_
          rw [if_pos (show (0 : Int) ≤ a2 by first | omega | (simp [upS]; done) | (simp [upS]; omega))]
          refine ⟨4, (by decide +kernel), (by decide), ?_⟩
          rw [if_neg (show ¬ (a2 < ((4 : Nat) : Int)) by first | omega | (simp [upS]; done) | (simp [upS]; omega))]
          all_goals rfl
        refine ⟨_, _, hD4, ?_⟩
        clear hD4
        refine ⟨fun _ => ?_, fun _ hz5 => (by cases hz5)⟩
        all_goals rfl
      refine Or.inr ⟨_, _, hD6, ?_⟩
      all_goals rfl
    exact Or.inr (Or.inl ⟨_, hD7, rfl⟩)
  have hB : Dd 382 [(.inr (.inr (some 682))), (.inl a1), (.inl a2)] σ (.inl (some (.inl 0)), (upS σ 682 0 1)) := by
    refine b382 ?_
    have hD9 : Dd 377 [(.inl a1)] σ (.inl (some (.inl 1)), σ) := by
      refine b377 ?_
      have hD8 : Dd 246 [(.inl a1), (.inl 4)] σ (.inl (some (.inl 1)), σ) := by
        refine b246 ?_
        try rw [if_pos (show (0 : Int) ≤ a1 by first | omega | (simp [upS]; done) | (simp [upS]; omega))]
        try rw [if_pos (show a1 < 4 by first | omega | (simp [upS]; done) | (simp [upS]; omega))]
        all_goals rfl
      refine ⟨_, _, hD8, ?_⟩
      clear hD8
      refine ⟨(show 1 = 0 ∨ 1 = 1 by first | omega | (simp [upS]; done) | (simp [upS]; omega)), ?_⟩
      all_goals rfl
    refine ⟨_, _, hD9, ?_⟩
    clear hD9
    rw [if_neg (show ¬ ((1 : Int) = 0) by first | omega | (simp [upS]; done) | (simp [upS]; omega))]
    have hD11 : Dd 377 [(.inl a2)] σ (.inl (some (.inl 0)), σ) := by
      refine b377 ?_
      have hD10 : Dd 246 [(.inl a2), (.inl 4)] σ (.inl (some (.inl 0)), σ) := by
        refine b246 ?_
        try rw [if_pos (show (0 : Int) ≤ a2 by first | omega | (simp [upS]; done) | (simp [upS]; omega))]
        try rw [if_neg (show ¬ (a2 < 4) by first | omega | (simp [upS]; done) | (simp [upS]; omega))]
        all_goals rfl
      refine ⟨_, _, hD10, ?_⟩
      clear hD10
      refine ⟨(show 0 = 0 ∨ 0 = 1 by first | omega | (simp [upS]; done) | (simp [upS]; omega)), ?_⟩
      all_goals rfl
    refine ⟨_, _, hD11, ?_⟩
    clear hD11
    rw [if_pos (show (0 : Int) = 0 by first | omega | (simp [upS]; done) | (simp [upS]; omega))]
    refine b382_15 ?_
    refine b382_33 ?_
    have hD12 : Dd 245 [(.inr (.inr (some 682))), (.inl 1)] σ (.inl (some (.inl 0)), (upS σ 682 0 1)) := by
      refine b245 ?_
      try rw [if_neg (show ¬ ((1 : Int) = 0) by first | omega | (simp [upS]; done) | (simp [upS]; omega))]
      all_goals rfl
    refine ⟨_, _, hD12, ?_⟩
    clear hD12
    rw [if_pos (show (0 : Int) = 0 by first | omega | (simp [upS]; done) | (simp [upS]; omega))]
    all_goals rfl
  exact op_x H (by decide) hA hB
theorem x51_0 {σ : Sg} {c : Int} {a1 : Int} {a2 : Int} (H : Rel c σ) (h0 : a1 < 0) : OpR 439 385 [(.inr (.inr (some 0))), (.inl a1), (.inl a2), (.inr (.inr (some 726)))] [(.inr (.inr (some 682))), (.inl a1), (.inl a2)] σ (c + 1) := by
  obtain ⟨r1, r2, r3, r4, r5⟩ := rel_n H
  have hA : Dd 439 [(.inr (.inr (some 0))), (.inl a1), (.inl a2), (.inr (.inr (some 726)))] σ (.inl (some (.inl 1)), σ) := by
    refine b439 ?_
    have hD5 : Dd 223 [(.inr (.inr (some 0))), (.inl a1), (.inl a2)] σ (.inr 0, σ) := by
      refine b223 ?_
      have hD4 : Dd 229 [(.inr (.inr (some 0))), (.inl a1)] σ (.inr 0, σ) := by
        refine b229 ?_
        have hD2 : Dd 35 [(.inr (.inr (some 658))), (.inl a1)] σ (.inl (some (.inr (.inr none))), σ) := by
          refine b35 ?_
          rw [if_pos (show a1 < (σ 658 1) by first | omega | (simp [upS]; done) | (simp [upS]; omega))]
          have hD1 : Dd 145 [(.inr (.inr (some 659))), (.inl a1)] σ (.inl (some (.inr (.inr none))), σ) := by
            refine b145 ?_
            rw [if_neg (show ¬ ((0 : Int) ≤ a1) by first | omega | (simp [upS]; done) | (simp [upS]; omega))]
            all_goals rfl
          refine ⟨_, _, hD1, ?_⟩
          clear hD1
          all_goals rfl
        refine ⟨_, _, hD2, ?_⟩
        clear hD2
        refine ⟨fun _ => ?_, fun _ hz3 => (by cases hz3)⟩
        all_goals rfl
      refine Or.inr ⟨_, _, hD4, ?_⟩
      all_goals rfl
    exact Or.inr (Or.inl ⟨_, hD5, rfl⟩)
  have hB : Dd 385 [(.inr (.inr (some 682))), (.inl a1), (.inl a2)] σ (.inl (some (.inl 0)), (upS σ 682 0 1)) := by
    refine b385 ?_
    have hD7 : Dd 383 [(.inr (.inr (some 682))), (.inl a1)] σ (.inl (some (.inl 0)), σ) := by
      refine b383 ?_
      have hD6 : Dd 246 [(.inl a1), (.inl (σ 682 58))] σ (.inl (some (.inl 0)), σ) := by
        refine b246 ?_
        try rw [if_neg (show ¬ ((0 : Int) ≤ a1) by first | omega | (simp [upS]; done) | (simp [upS]; omega))]
        all_goals rfl
      refine ⟨_, _, hD6, ?_⟩
      clear hD6
      refine ⟨(show 0 = 0 ∨ 0 = 1 by first | omega | (simp [upS]; done) | (simp [upS]; omega)), ?_⟩
      all_goals rfl
    refine ⟨_, _, hD7, ?_⟩
    clear hD7
    rw [if_pos (show (0 : Int) = 0 by first | omega | (simp [upS]; done) | (simp [upS]; omega))]
    refine b385_20 ?_
    refine b385_21 ?_
    rw [if_pos (show (0 : Int) = 0 by first | omega | (simp [upS]; done) | (simp [upS]; omega))]
    refine b385_59 ?_
    have hD8 : Dd 245 [(.inr (.inr (some 682))), (.inl 1)] σ (.inl (some (.inl 0)), (upS σ 682 0 1)) := by
      refine b245 ?_
      try rw [if_neg (show ¬ ((1 : Int) = 0) by first | omega | (simp [upS]; done) | (simp [upS]; omega))]
      all_goals rfl
    refine ⟨_, _, hD8, ?_⟩
    clear hD8
    rw [if_pos (show (0 : Int) = 0 by first | omega | (simp [upS]; done) | (simp [upS]; omega))]
    all_goals rfl
  exact op_x H (by decide) hA hB
theorem x51_1 {σ : Sg} {c : Int} {a1 : Int} {a2 : Int} (H : Rel c σ) (h0 : σ 658 1 ≤ a1) : OpR 439 385 [(.inr (.inr (some 0))), (.inl a1), (.inl a2), (.inr (.inr (some 726)))] [(.inr (.inr (some 682))), (.inl a1), (.inl a2)] σ (c + 1) := by
  obtain ⟨r1, r2, r3, r4, r5⟩ := rel_n H
  have hA : Dd 439 [(.inr (.inr (some 0))), (.inl a1), (.inl a2), (.inr (.inr (some 726)))] σ (.inl (some (.inl 1)), σ) := by
    refine b439 ?_
    have hD4 : Dd 223 [(.inr (.inr (some 0))), (.inl a1), (.inl a2)] σ (.inr 0, σ) := by
      refine b223 ?_
      have hD3 : Dd 229 [(.inr (.inr (some 0))), (.inl a1)] σ (.inr 0, σ) := by
        refine b229 ?_
        have hD1 : Dd 35 [(.inr (.inr (some 658))), (.inl a1)] σ (.inl (some (.inr (.inr none))), σ) := by
          refine b35 ?_
          rw [if_neg (show ¬ (a1 < (σ 658 1)) by first | omega | (simp [upS]; done) | (simp [upS]; omega))]
          all_goals rfl
        refine ⟨_, _, hD1, ?_⟩
        clear hD1
        refine ⟨fun _ => ?_, fun _ hz2 => (by cases hz2)⟩
        all_goals rfl
      refine Or.inr ⟨_, _, hD3, ?_⟩
      all_goals rfl
    exact Or.inr (Or.inl ⟨_, hD4, rfl⟩)
  have hB : Dd 385 [(.inr (.inr (some 682))), (.inl a1), (.inl a2)] σ (.inl (some (.inl 0)), (upS σ 682 0 1)) := by
    refine b385 ?_
    have hD6 : Dd 383 [(.inr (.inr (some 682))), (.inl a1)] σ (.inl (some (.inl 0)), σ) := by
      refine b383 ?_
      have hD5 : Dd 246 [(.inl a1), (.inl (σ 682 58))] σ (.inl (some (.inl 0)), σ) := by
        refine b246 ?_
        try rw [if_pos (show (0 : Int) ≤ a1 by first | omega | (simp [upS]; done) | (simp [upS]; omega))]
        try rw [if_neg (show ¬ (a1 < (σ 682 58)) by first | omega | (simp [upS]; done) | (simp [upS]; omega))]
        all_goals rfl
      refine ⟨_, _, hD5, ?_⟩
      clear hD5
      refine ⟨(show 0 = 0 ∨ 0 = 1 by first | omega | (simp [upS]; done) | (simp [upS]; omega)), ?_⟩
      all_goals rfl
    refine ⟨_, _, hD6, ?_⟩
    clear hD6
    rw [if_pos (show (0 : Int) = 0 by first | omega | (simp [upS]; done) | (simp [upS]; omega))]
    refine b385_20 ?_
    refine b385_21 ?_
    rw [if_pos (show (0 : Int) = 0 by first | omega | (simp [upS]; done) | (simp [upS]; omega))]
    refine b385_59 ?_
    have hD7 : Dd 245 [(.inr (.inr (some 682))), (.inl 1)] σ (.inl (some (.inl 0)), (upS σ 682 0 1)) := by
      refine b245 ?_
      try rw [if_neg (show ¬ ((1 : Int) = 0) by first | omega | (simp [upS]; done) | (simp [upS]; omega))]
      all_goals rfl
    refine ⟨_, _, hD7, ?_⟩
    clear hD7
    rw [if_pos (show (0 : Int) = 0 by first | omega | (simp [upS]; done) | (simp [upS]; omega))]
    all_goals rfl
  exact op_x H (by decide) hA hB
theorem x51_2 {σ : Sg} {c : Int} {a1 : Int} {a2 : Int} (H : Rel c σ) (h0 : 0 ≤ a1 ∧ a1 < σ 658 1) (h1 : a2 < 0) : OpR 439 385 [(.inr (.inr (some 0))), (.inl a1), (.inl a2), (.inr (.inr (some 726)))] [(.inr (.inr (some 682))), (.inl a1), (.inl a2)] σ (c + 1) := by
  obtain ⟨r1, r2, r3, r4, r5⟩ := rel_n H
  have hA : Dd 439 [(.inr (.inr (some 0))), (.inl a1), (.inl a2), (.inr (.inr (some 726)))] σ (.inl (some (.inl 1)), σ) := by
    refine b439 ?_
    have hD9 : Dd 223 [(.inr (.inr (some 0))), (.inl a1), (.inl a2)] σ (.inr 0, σ) := by
      refine b223 ?_
      have hD4 : Dd 229 [(.inr (.inr (some 0))), (.inl a1)] σ (.inl (some (.inr (.inr (some (660 + 2 * ((a1)).toNat))))), σ) := by
        refine b229 ?_
        have hD2 : Dd 35 [(.inr (.inr (some 658))), (.inl a1)] σ (.inl (some (.inr (.inr (some (660 + 2 * ((a1)).toNat))))), σ) := by
          refine b35 ?_
          rw [if_pos (show a1 < (σ 658 1) by first | omega | (simp [upS]; done) | (simp [upS]; omega))]
          have hD1 : Dd 145 [(.inr (.inr (some 659))), (.inl a1)] σ (.inl (some (.inr (.inr (some (660 + 2 * ((a1)).toNat))))), σ) := by
            refine b145 ?_
            rw [if_pos (show (0 : Int) ≤ a1 by first | omega | (simp [upS]; done) | (simp [upS]; omega))]
            refine ⟨10, (by decide +kernel), (by decide), ?_⟩
            rw [if_pos (show a1 < ((10 : Nat) : Int) by first | omega | (simp [upS]; done) | (simp [upS]; omega))]
            refine ⟨(show 0 ≤ a1 by first | omega | (simp [upS]; done) | (simp [upS]; omega)), ?_⟩
            refine ⟨(660 + 2 * ((a1)).toNat), (el_659 (i := (a1)) (by first | omega | (simp [upS]; done) | (simp [upS]; omega))).1, (el_659 (i := (a1)) (by first | omega | (simp [upS]; done) | (simp [upS]; omega))).2, ?_⟩
            all_goals rfl
          refine ⟨_, _, hD1, ?_⟩
          clear hD1
          all_goals rfl
        refine ⟨_, _, hD2, ?_⟩
        clear hD2
        refine ⟨fun hz3 => (by cases hz3), fun _ hz3 => ?_⟩
        cases hz3
        refine ⟨(el_659 (i := (a1)) (by first | omega | (simp [upS]; done) | (simp [upS]; omega))).2, ?_⟩
        all_goals rfl
      refine Or.inl ⟨_, _, hD4, (el_659 (i := (a1)) (by first | omega | (simp [upS]; done) | (simp [upS]; omega))).2, ?_⟩
      clear hD4
      have hD8 : Dd 229 [(.inr (.inr (some 0))), (.inl a2)] σ (.inr 0, σ) := by
        refine b229 ?_
        have hD6 : Dd 35 [(.inr (.inr (some 658))), (.inl a2)] σ (.inl (some (.inr (.inr none))), σ) := by
          refine b35 ?_
          rw [if_pos (show a2 < (σ 658 1) by first | omega | (simp [upS]; done) | (simp [upS]; omega))]
          have hD5 : Dd 145 [(.inr (.inr (some 659))), (.inl a2)] σ (.inl (some (.inr (.inr none))), σ) := by
            refine b145 ?_
            rw [if_neg (show ¬ ((0 : Int) ≤ a2) by first | omega | (simp [upS]; done) | (simp [upS]; omega))]
            all_goals rfl
          refine ⟨_, _, hD5, ?_⟩
          clear hD5
          all_goals rfl
        refine ⟨_, _, hD6, ?_⟩
        clear hD6
        refine ⟨fun _ => ?_, fun _ hz7 => (by cases hz7)⟩
        all_goals rfl
      refine Or.inr ⟨_, _, hD8, ?_⟩
      all_goals rfl
    exact Or.inr (Or.inl ⟨_, hD9, rfl⟩)
  have hB : Dd 385 [(.inr (.inr (some 682))), (.inl a1), (.inl a2)] σ (.inl (some (.inl 0)), (upS σ 682 0 1)) := by
    refine b385 ?_
    have hD11 : Dd 383 [(.inr (.inr (some 682))), (.inl a1)] σ (.inl (some (.inl 1)), σ) := by
      refine b383 ?_
      have hD10 : Dd 246 [(.inl a1), (.inl (σ 682 58))] σ (.inl (some (.inl 1)), σ) := by
        refine b246 ?_
        try rw [if_pos (show (0 : Int) ≤ a1 by first | omega | (simp [upS]; done) | (simp [upS]; omega))]
        try rw [if_pos (show a1 < (σ 682 58) by first | omega | (simp [upS]; done) | (simp [upS]; omega))]
        all_goals rfl
      refine ⟨_, _, hD10, ?_⟩
      clear hD10
      refine ⟨(show 1 = 0 ∨ 1 = 1 by first | omega | (simp [upS]; done) | (simp [upS]; omega)), ?_⟩
      all_goals rfl
    refine ⟨_, _, hD11, ?_⟩
    clear hD11
    rw [if_neg (show ¬ ((1 : Int) = 0) by first | omega | (simp [upS]; done) | (simp [upS]; omega))]
    have hD13 : Dd 383 [(.inr (.inr (some 682))), (.inl a2)] σ (.inl (some (.inl 0)), σ) := by
      refine b383 ?_
      have hD12 : Dd 246 [(.inl a2), (.inl (σ 682 58))] σ (.inl (some (.inl 0)), σ) := by
        refine b246 ?_
        try rw [if_neg (show ¬ ((0 : Int) ≤ a2) by first | omega | (simp [upS]; done) | (simp [upS]; omega))]
        all_goals rfl
      refine ⟨_, _, hD12, ?_⟩
      clear hD12
      refine ⟨(show 0 = 0 ∨ 0 = 1 by first | omega | (simp [upS]; done) | (simp [upS]; omega)), ?_⟩
      all_goals rfl
    refine ⟨_, _, hD13, ?_⟩
    clear hD13
    rw [if_pos (show (0 : Int) = 0 by first | omega | (simp [upS]; done) | (simp [upS]; omega))]
    refine b385_20 ?_
    refine b385_21 ?_
    rw [if_pos (show (0 : Int) = 0 by first | omega | (simp [upS]; done) | (simp [upS]; omega))]
    refine b385_59 ?_
    have hD14 : Dd 245 [(.inr (.inr (some 682))), (.inl 1)] σ (.inl (some (.inl 0)), (upS σ 682 0 1)) := by
      refine b245 ?_
      try rw [if_neg (show ¬ ((1 : Int) = 0) by first | omega | (simp [upS]; done) | (simp [upS]; omega))]
      all_goals rfl
    refine ⟨_, _, hD14, ?_⟩
    clear hD14
    rw [if_pos (show (0 : Int) = 0 by first | omega | (simp [upS]; done) | (simp [upS]; omega))]
    all_goals rfl
  exact op_x H (by decide) hA hB
theorem x51_3 {σ : Sg} {c : Int} {a1 : Int} {a2 : Int} (H : Rel c σ) (h0 : 0 ≤ a1 ∧ a1 < σ 658 1) (h1 : σ 658 1 ≤ a2) : OpR 439 385 [(.inr (.inr (some 0))), (.inl a1), (.inl a2), (.inr (.inr (some 726)))] [(.inr (.inr (some 682))), (.inl a1), (.inl a2)] σ (c + 1) := by
  obtain ⟨r1, r2, r3, r4, r5⟩ := rel_n H
  have hA : Dd 439 [(.inr (.inr (some 0))), (.inl a1), (.inl a2), (.inr (.inr (some 726)))] σ (.inl (some (.inl 1)), σ) := by
    refine b439 ?_
    have hD8 : Dd 223 [(.inr (.inr (some 0))), (.inl a1), (.inl a2)] σ (.inr 0, σ) := by
      refine b223 ?_
      have hD4 : Dd 229 [(.inr (.inr (some 0))), (.inl a1)] σ (.inl (some (.inr (.inr (some (660 + 2 * ((a1)).toNat))))), σ) := by
        refine b229 ?_
        have hD2 : Dd 35 [(.inr (.inr (some 658))), (.inl a1)] σ (.inl (some (.inr (.inr (some (660 + 2 * ((a1)).toNat))))), σ) := by
          refine b35 ?_
          rw [if_pos (show a1 < (σ 658 1) by first | omega | (simp [upS]; done) | (simp [upS]; omega))]
          have hD1 : Dd 145 [(.inr (.inr (some 659))), (.inl a1)] σ (.inl (some (.inr (.inr (some (660 + 2 * ((a1)).toNat))))), σ) := by
            refine b145 ?_
            rw [if_pos (show (0 : Int) ≤ a1 by first | omega | (simp [upS]; done) | (simp [upS]; omega))]
            refine ⟨10, (by decide +kernel), (by decide), ?_⟩
            rw [if_pos (show a1 < ((10 : Nat) : Int) by first | omega | (simp [upS]; done) | (simp [upS]; omega))]
            refine ⟨(show 0 ≤ a1 by first | omega | (simp [upS]; done) | (simp [upS]; omega)), ?_⟩
            refine ⟨(660 + 2 * ((a1)).toNat), (el_659 (i := (a1)) (by first | omega | (simp [upS]; done) | (simp [upS]; omega))).1, (el_659 (i := (a1)) (by first | omega | (simp [upS]; done) | (simp [upS]; omega))).2, ?_⟩
            all_goals rfl
          refine ⟨_, _, hD1, ?_⟩
          clear hD1
          all_goals rfl
        refine ⟨_, _, hD2, ?_⟩
        clear hD2
        refine ⟨fun hz3 => (by cases hz3), fun _ hz3 => ?_⟩
        cases hz3
        refine ⟨(el_659 (i := (a1)) (by first | omega | (simp [upS]; done) | (simp [upS]; omega))).2, ?_⟩
        all_goals rfl
      refine Or.inl ⟨_, _, hD4, (el_659 (i := (a1)) (by first | omega | (simp [upS]; done) | (simp [upS]; omega))).2, ?_⟩
      clear hD4
      have hD7 : Dd 229 [(.inr (.inr (some 0))), (.inl a2)] σ (.inr 0, σ) := by
        refine b229 ?_
        have hD5 : Dd 35 [(.inr (.inr (some 658))), (.inl a2)] σ (.inl (some (.inr (.inr none))), σ) := by
          refine b35 ?_
          rw [if_neg (show ¬ (a2 < (σ 658 1)) by first | omega | (simp [upS]; done) | (simp [upS]; omega))]
          all_goals rfl
        refine ⟨_, _, hD5, ?_⟩
        clear hD5
        refine ⟨fun _ => ?_, fun _ hz6 => (by cases hz6)⟩
        all_goals rfl
      refine Or.inr ⟨_, _, hD7, ?_⟩
      all_goals rfl
    exact Or.inr (Or.inl ⟨_, hD8, rfl⟩)
  have hB : Dd 385 [(.inr (.inr (some 682))), (.inl a1), (.inl a2)] σ (.inl (some (.inl 0)), (upS σ 682 0 1)) := by
    refine b385 ?_
    have hD10 : Dd 383 [(.inr (.inr (some 682))), (.inl a1)] σ (.inl (some (.inl 1)), σ) := by
      refine b383 ?_
      have hD9 : Dd 246 [(.inl a1), (.inl (σ 682 58))] σ (.inl (some (.inl 1)), σ) := by
        refine b246 ?_
        try rw [if_pos (show (0 : Int) ≤ a1 by first | omega | (simp [upS]; done) | (simp [upS]; omega))]
        try rw [if_pos (show a1 < (σ 682 58) by first | omega | (simp [upS]; done) | (simp [upS]; omega))]
        all_goals rfl
      refine ⟨_, _, hD9, ?_⟩
      clear hD9
      refine ⟨(show 1 = 0 ∨ 1 = 1 by first | omega | (simp [upS]; done) | (simp [upS]; omega)), ?_⟩
      all_goals rfl
    refine ⟨_, _, hD10, ?_⟩
    clear hD10
    rw [if_neg (show ¬ ((1 : Int) = 0) by first | omega | (simp [upS]; done) | (simp [upS]; omega))]
    have hD12 : Dd 383 [(.inr (.inr (some 682))), (.inl a2)] σ (.inl (some (.inl 0)), σ) := by
      refine b383 ?_
      have hD11 : Dd 246 [(.inl a2), (.inl (σ 682 58))] σ (.inl (some (.inl 0)), σ) := by
        refine b246 ?_
        try rw [if_pos (show (0 : Int) ≤ a2 by first | omega | (simp [upS]; done) | (simp [upS]; omega))]
        try rw [if_neg (show ¬ (a2 < (σ 682 58)) by first | omega | (simp [upS]; done) | (simp [upS]; omega))]
        all_goals rfl
      refine ⟨_, _, hD11, ?_⟩
      clear hD11
      refine ⟨(show 0 = 0 ∨ 0 = 1 by first | omega | (simp [upS]; done) | (simp [upS]; omega)), ?_⟩
      all_goals rfl
    refine ⟨_, _, hD12, ?_⟩
    clear hD12
    rw [if_pos (show (0 : Int) = 0 by first | omega | (simp [upS]; done) | (simp [upS]; omega))]
    refine b385_20 ?_
    refine b385_21 ?_
    rw [if_pos (show (0 : Int) = 0 by first | omega | (simp [upS]; done) | (simp [upS]; omega))]
    refine b385_59 ?_
    have hD13 : Dd 245 [(.inr (.inr (some 682))), (.inl 1)] σ (.inl (some (.inl 0)), (upS σ 682 0 1)) := by
      refine b245 ?_
      try rw [if_neg (show ¬ ((1 : Int) = 0) by first | omega | (simp [upS]; done) | (simp [upS]; omega))]
      all_goals rfl
    refine ⟨_, _, hD13, ?_⟩
    clear hD13
    rw [if_pos (show (0 : Int) = 0 by first | omega | (simp [upS]; done) | (simp [upS]; omega))]
    all_goals rfl
  exact op_x H (by decide) hA hB
theorem x52_0 {σ : Sg} {c : Int} {a1 : Int} (H : Rel c σ) (h0 : a1 < 0) : OpR 440 387 [(.inr (.inr (some 0))), (.inl a1), (.inr (.inr (some 726)))] [(.inr (.inr (some 682))), (.inl a1)] σ (c + 1) := by
  obtain ⟨r1, r2, r3, r4, r5⟩ := rel_n H
  have hA : Dd 440 [(.inr (.inr (some 0))), (.inl a1), (.inr (.inr (some 726)))] σ (.inl (some (.inl 1)), σ) := by
    refine b440 ?_
    have hD5 : Dd 224 [(.inr (.inr (some 0))), (.inl a1)] σ (.inr 0, σ) := by
      refine b224 ?_
      have hD4 : Dd 229 [(.inr (.inr (some 0))), (.inl a1)] σ (.inr 0, σ) := by
        refine b229 ?_
        have hD2 : Dd 35 [(.inr (.inr (some 658))), (.inl a1)] σ (.inl (some (.inr (.inr none))), σ) := by
          refine b35 ?_
          rw [if_pos (show a1 < (σ 658 1) by first | omega | (simp [upS]; done) | (simp [upS]; omega))]
          have hD1 : Dd 145 [(.inr (.inr (some 659))), (.inl a1)] σ (.inl (some (.inr (.inr none))), σ) := by
            refine b145 ?_
            rw [if_neg (show ¬ ((0 : Int) ≤ a1) by first | omega | (simp [upS]; done) | (simp [upS]; omega))]
            all_goals rfl
          refine ⟨_, _, hD1, ?_⟩
          clear hD1
          all_goals rfl
        refine ⟨_, _, hD2, ?_⟩
        clear hD2
        refine ⟨fun _ => ?_, fun _ hz3 => (by cases hz3)⟩
        all_goals rfl
      refine Or.inr ⟨_, _, hD4, ?_⟩
      all_goals rfl
    exact Or.inr (⟨_, hD5, rfl⟩)
  have hB : Dd 387 [(.inr (.inr (some 682))), (.inl a1)] σ (.inl (some (.inl 0)), (upS σ 682 0 1)) := by
    refine b387 ?_
    have hD7 : Dd 383 [(.inr (.inr (some 682))), (.inl a1)] σ (.inl (some (.inl 0)), σ) := by
      refine b383 ?_
      have hD6 : Dd 246 [(.inl a1), (.inl (σ 682 58))] σ (.inl (some (.inl 0)), σ) := by
        refine b246 ?_
        try rw [if_neg (show ¬ ((0 : Int) ≤ a1) by first | omega | (simp [upS]; done) | (simp [upS]; omega))]
        all_goals rfl
      refine ⟨_, _, hD6, ?_⟩
      clear hD6
      refine ⟨(show 0 = 0 ∨ 0 = 1 by first | omega | (simp [upS]; done) | (simp [upS]; omega)), ?_⟩
      all_goals rfl
    refine ⟨_, _, hD7, ?_⟩
    clear hD7
    try rw [if_pos (show (0 : Int) = 0 by first | omega | (simp [upS]; done) | (simp [upS]; omega))]
    refine b387_14 ?_
    have hD8 : Dd 245 [(.inr (.inr (some 682))), (.inl 1)] σ (.inl (some (.inl 0)), (upS σ 682 0 1)) := by
      refine b245 ?_
      try rw [if_neg (show ¬ ((1 : Int) = 0) by first | omega | (simp [upS]; done) | (simp [upS]; omega))]
      all_goals rfl
    refine ⟨_, _, hD8, ?_⟩
    clear hD8
    rw [if_pos (show (0 : Int) = 0 by first | omega | (simp [upS]; done) | (simp [upS]; omega))]
    all_goals rfl
  exact op_x H (by decide) hA hB
theorem x52_1 {σ : Sg} {c : Int} {a1 : Int} (H : Rel c σ) (h0 : σ 658 1 ≤ a1) : OpR 440 387 [(.inr (.inr (some 0))), (.inl a1), (.inr (.inr (some 726)))] [(.inr (.inr (some 682))), (.inl a1)] σ (c + 1) := by
  obtain ⟨r1, r2, r3, r4, r5⟩ := rel_n H
  have hA : Dd 440 [(.inr (.inr (some 0))), (.inl a1), (.inr (.inr (some 726)))] σ (.inl (some (.inl 1)), σ) := by
    refine b440 ?_
    have hD4 : Dd 224 [(.inr (.inr (some 0))), (.inl a1)] σ (.inr 0, σ) := by
      refine b224 ?_
      have hD3 : Dd 229 [(.inr (.inr (some 0))), (.inl a1)] σ (.inr 0, σ) := by
        refine b229 ?_
        have hD1 : Dd 35 [(.inr (.inr (some 658))), (.inl a1)] σ (.inl (some (.inr (.inr none))), σ) := by
          refine b35 ?_
          rw [if_neg (show ¬ (a1 < (σ 658 1)) by first | omega | (simp [upS]; done) | (simp [upS]; omega))]
          all_goals rfl
        refine ⟨_, _, hD1, ?_⟩
        clear hD1
        refine ⟨fun _ => ?_, fun _ hz2 => (by cases hz2)⟩
        all_goals rfl
      refine Or.inr ⟨_, _, hD3, ?_⟩
      all_goals rfl
    exact Or.inr (⟨_, hD4, rfl⟩)
  have hB : Dd 387 [(.inr (.inr (some 682))), (.inl a1)] σ (.inl (some (.inl 0)), (upS σ 682 0 1)) := by
    refine b387 ?_
    have hD6 : Dd 383 [(.inr (.inr (some 682))), (.inl a1)] σ (.inl (some (.inl 0)), σ) := by
      refine b383 ?_
      have hD5 : Dd 246 [(.inl a1), (.inl (σ 682 58))] σ (.inl (some (.inl 0)), σ) := by
        refine b246 ?_
        try rw [if_pos (show (0 : Int) ≤ a1 by first | omega | (simp [upS]; done) | (simp [upS]; omega))]
        try rw [if_neg (show ¬ (a1 < (σ 682 58)) by first | omega | (simp [upS]; done) | (simp [upS]; omega))]
        all_goals rfl
      refine ⟨_, _, hD5, ?_⟩
      clear hD5
      refine ⟨(show 0 = 0 ∨ 0 = 1 by first | omega | (simp [upS]; done) | (simp [upS]; omega)), ?_⟩
      all_goals rfl
    refine ⟨_, _, hD6, ?_⟩
    clear hD6
    try rw [if_pos (show (0 : Int) = 0 by first | omega | (simp [upS]; done) | (simp [upS]; omega))]
    refine b387_14 ?_
    have hD7 : Dd 245 [(.inr (.inr (some 682))), (.inl 1)] σ (.inl (some (.inl 0)), (upS σ 682 0 1)) := by
      refine b245 ?_
      try rw [if_neg (show ¬ ((1 : Int) = 0) by first | omega | (simp [upS]; done) | (simp [upS]; omega))]
      all_goals rfl
    refine ⟨_, _, hD7, ?_⟩
    clear hD7
    rw [if_pos (show (0 : Int) = 0 by first | omega | (simp [upS]; done) | (simp [upS]; omega))]
    all_goals rfl
  exact op_x H (by decide) hA hB
theorem x53_0 {σ : Sg} {c : Int} {a1 : Int} {a2 : Int} (H : Rel c σ) (h0 : a1 < 0) : OpR 441 388 [(.inr (.inr (some 0))), (.inl a1), (.inl a2), (.inr (.inr (some 726)))] [(.inr (.inr (some 682))), (.inl a1), (.inl a2)] σ (c + 1) := by
  obtain ⟨r1, r2, r3, r4, r5⟩ := rel_n H
  have hA : Dd 441 [(.inr (.inr (some 0))), (.inl a1), (.inl a2), (.inr (.inr (some 726)))] σ (.inl (some (.inl 1)), σ) := by
    refine b441 ?_
    have hD5 : Dd 225 [(.inr (.inr (some 0))), (.inl a1), (.inl a2)] σ (.inr 0, σ) := by
      refine b225 ?_
      have hD4 : Dd 229 [(.inr (.inr (some 0))), (.inl a1)] σ (.inr 0, σ) := by
        refine b229 ?_
        have hD2 : Dd 35 [(.inr (.inr (some 658))), (.inl a1)] σ (.inl (some (.inr (.inr none))), σ) := by
          refine b35 ?_
          rw [if_pos (show a1 < (σ 658 1) by first | omega | (simp [upS]; done) | (simp [upS]; omega))]
          have hD1 : Dd 145 [(.inr (.inr (some 659))), (.inl a1)] σ (.inl (some (.inr (.inr none))), σ) := by
            refine b145 ?_
            rw [if_neg (show ¬ ((0 : Int) ≤ a1) by first | omega | (simp [upS]; done) | (simp [upS]; omega))]
            all_goals rfl
          refine ⟨_, _, hD1, ?_⟩
          clear hD1
          all_goals rfl
        refine ⟨_, _, hD2, ?_⟩
        clear hD2
        refine ⟨fun _ => ?_, fun _ hz3 => (by cases hz3)⟩
        all_goals rfl
      refine Or.inr ⟨_, _, hD4, ?_⟩
      all_goals rfl
    exact Or.inr (⟨_, hD5, rfl⟩)
  have hB : Dd 388 [(.inr (.inr (some 682))), (.inl a1), (.inl a2)] σ (.inl (some (.inl 0)), (upS σ 682 0 1)) := by
    refine b388 ?_
    have hD7 : Dd 383 [(.inr (.inr (some 682))), (.inl a1)] σ (.inl (some (.inl 0)), σ) := by
      refine b383 ?_
      have hD6 : Dd 246 [(.inl a1), (.inl (σ 682 58))] σ (.inl (some (.inl 0)), σ) := by
        refine b246 ?_
        try rw [if_neg (show ¬ ((0 : Int) ≤ a1) by first | omega | (simp [upS]; done) | (simp [upS]; omega))]
        all_goals rfl
      refine ⟨_, _, hD6, ?_⟩
      clear hD6
      refine ⟨(show 0 = 0 ∨ 0 = 1 by first | omega | (simp [upS]; done) | (simp [upS]; omega)), ?_⟩
      all_goals rfl
    refine ⟨_, _, hD7, ?_⟩
    clear hD7
    rw [if_pos (show (0 : Int) = 0 by first | omega | (simp [upS]; done) | (simp [upS]; omega))]
    refine b388_17 ?_
    refine b388_18 ?_
    have hD8 : Dd 245 [(.inr (.inr (some 682))), (.inl 1)] σ (.inl (some (.inl 0)), (upS σ 682 0 1)) := by
      refine b245 ?_
      try rw [if_neg (show ¬ ((1 : Int) = 0) by first | omega | (simp [upS]; done) | (simp [upS]; omega))]
      all_goals rfl
    refine ⟨_, _, hD8, ?_⟩
    clear hD8
    rw [if_pos (show (0 : Int) = 0 by first | omega | (simp [upS]; done) | (simp [upS]; omega))]
    all_goals rfl
  exact op_x H (by decide) hA hB
theorem x53_1 {σ : Sg} {c : Int} {a1 : Int} {a2 : Int} (H : Rel c σ) (h0 : σ 658 1 ≤ a1) : OpR 441 388 [(.inr (.inr (some 0))), (.inl a1), (.inl a2), (.inr (.inr (some 726)))] [(.inr (.inr (some 682))), (.inl a1), (.inl a2)] σ (c + 1) := by
  obtain ⟨r1, r2, r3, r4, r5⟩ := rel_n H
  have hA : Dd 441 [(.inr (.inr (some 0))), (.inl a1), (.inl a2), (.inr (.inr (some 726)))] σ (.inl (some (.inl 1)), σ) := by
    refine b441 ?_
    have hD4 : Dd 225 [(.inr (.inr (some 0))), (.inl a1), (.inl a2)] σ (.inr 0, σ) := by
      refine b225 ?_
      have hD3 : Dd 229 [(.inr (.inr (some 0))), (.inl a1)] σ (.inr 0, σ) := by
        refine b229 ?_
        have hD1 : Dd 35 [(.inr (.inr (some 658))), (.inl a1)] σ (.inl (some (.inr (.inr none))), σ) := by
          refine b35 ?_
          rw [if_neg (show ¬ (a1 < (σ 658 1)) by first | omega | (simp [upS]; done) | (simp [upS]; omega))]
          all_goals rfl
        refine ⟨_, _, hD1, ?_⟩
        clear hD1
        refine ⟨fun _ => ?_, fun _ hz2 => (by cases hz2)⟩
        all_goals rfl
      refine Or.inr ⟨_, _, hD3, ?_⟩
      all_goals rfl
    exact Or.inr (⟨_, hD4, rfl⟩)
  have hB : Dd 388 [(.inr (.inr (some 682))), (.inl a1), (.inl a2)] σ (.inl (some (.inl 0)), (upS σ 682 0 1)) := by
    refine b388 ?_
    have hD6 : Dd 383 [(.inr (.inr (some 682))), (.inl a1)] σ (.inl (some (.inl 0)), σ) := by
      refine b383 ?_
      have hD5 : Dd 246 [(.inl a1), (.inl (σ 682 58))] σ (.inl (some (.inl 0)), σ) := by
        refine b246 ?_
        try rw [if_pos (show (0 : Int) ≤ a1 by first | omega | (simp [upS]; done) | (simp [upS]; omega))]
        try rw [if_neg (show ¬ (a1 < (σ 682 58)) by first | omega | (simp [upS]; done) | (simp [upS]; omega))]
        all_goals rfl
      refine ⟨_, _, hD5, ?_⟩
      clear hD5
      refine ⟨(show 0 = 0 ∨ 0 = 1 by first | omega | (simp [upS]; done) | (simp [upS]; omega)), ?_⟩
      all_goals rfl
    refine ⟨_, _, hD6, ?_⟩
    clear hD6
    rw [if_pos (show (0 : Int) = 0 by first | omega | (simp [upS]; done) | (simp [upS]; omega))]
    refine b388_17 ?_
    refine b388_18 ?_
    have hD7 : Dd 245 [(.inr (.inr (some 682))), (.inl 1)] σ (.inl (some (.inl 0)), (upS σ 682 0 1)) := by
      refine b245 ?_
      try rw [if_neg (show ¬ ((1 : Int) = 0) by first | omega | (simp [upS]; done) | (simp [upS]; omega))]
      all_goals rfl
    refine ⟨_, _, hD7, ?_⟩
    clear hD7
    rw [if_pos (show (0 : Int) = 0 by first | omega | (simp [upS]; done) | (simp [upS]; omega))]
    all_goals rfl
  exact op_x H (by decide) hA hB
theorem x53_2 {σ : Sg} {c : Int} {a1 : Int} {a2 : Int} (H : Rel c σ) (h0 : 0 ≤ a1 ∧ a1 < σ 658 1) (h1 : a2 < 0) : OpR 441 388 [(.inr (.inr (some 0))), (.inl a1), (.inl a2), (.inr (.inr (some 726)))] [(.inr (.inr (some 682))), (.inl a1), (.inl a2)] σ (c + 1) := by
  obtain ⟨r1, r2, r3, r4, r5⟩ := rel_n H
  have hA : Dd 441 [(.inr (.inr (some 0))), (.inl a1), (.inl a2), (.inr (.inr (some 726)))] σ (.inl (some (.inl 1)), σ) := by
    refine b441 ?_
    have hD6 : Dd 225 [(.inr (.inr (some 0))), (.inl a1), (.inl a2)] σ (.inr 0, σ) := by
      refine b225 ?_
      have hD4 : Dd 229 [(.inr (.inr (some 0))), (.inl a1)] σ (.inl (some (.inr (.inr (some (660 + 2 * ((a1)).toNat))))), σ) := by
        refine b229 ?_
        have hD2 : Dd 35 [(.inr (.inr (some 658))), (.inl a1)] σ (.inl (some (.inr (.inr (some (660 + 2 * ((a1)).toNat))))), σ) := by
          refine b35 ?_
          rw [if_pos (show a1 < (σ 658 1) by first | omega | (simp [upS]; done) | (simp [upS]; omega))]
          have hD1 : Dd 145 [(.inr (.inr (some 659))), (.inl a1)] σ (.inl (some (.inr (.inr (some (660 + 2 * ((a1)).toNat))))), σ) := by
            refine b145 ?_
            rw [if_pos (show (0 : Int) ≤ a1 by first | omega | (simp [upS]; done) | (simp [upS]; omega))]
            refine ⟨10, (by decide +kernel), (by decide), ?_⟩
            rw [if_pos (show a1 < ((10 : Nat) : Int) by first | omega | (simp [upS]; done) | (simp [upS]; omega))]
            refine ⟨(show 0 ≤ a1 by first | omega | (simp [upS]; done) | (simp [upS]; omega)), ?_⟩
            refine ⟨(660 + 2 * ((a1)).toNat), (el_659 (i := (a1)) (by first | omega | (simp [upS]; done) | (simp [upS]; omega))).1, (el_659 (i := (a1)) (by first | omega | (simp [upS]; done) | (simp [upS]; omega))).2, ?_⟩
            all_goals rfl
          refine ⟨_, _, hD1, ?_⟩
          clear hD1
          all_goals rfl
        refine ⟨_, _, hD2, ?_⟩
        clear hD2
        refine ⟨fun hz3 => (by cases hz3), fun _ hz3 => ?_⟩
        cases hz3
        refine ⟨(el_659 (i := (a1)) (by first | omega | (simp [upS]; done) | (simp [upS]; omega))).2, ?_⟩
        all_goals rfl
      refine Or.inl ⟨_, _, hD4, (el_659 (i := (a1)) (by first | omega | (simp [upS]; done) | (simp [upS]; omega))).2, ?_⟩
      clear hD4
      have hD5 : Dd 233 [(.inr (.inr (some 0))), (.inl a2)] σ (.inr 0, σ) := by
        refine b233 ?_
        rw [if_pos (show a2 < 0 by first | omega | (simp [upS]; done) | (simp [upS]; omega))]
        all_goals rfl
      refine Or.inr ⟨_, _, hD5, ?_⟩
      all_goals rfl
    exact Or.inr (⟨_, hD6, rfl⟩)
  have hB : Dd 388 [(.inr (.inr (some 682))), (.inl a1), (.inl a2)] σ (.inl (some (.inl 0)), (upS σ 682 0 1)) := by
    refine b388 ?_
    have hD8 : Dd 383 [(.inr (.inr (some 682))), (.inl a1)] σ (.inl (some (.inl 1)), σ) := by
      refine b383 ?_
      have hD7 : Dd 246 [(.inl a1), (.inl (σ 682 58))] σ (.inl (some (.inl 1)), σ) := by
        refine b246 ?_
        try rw [if_pos (show (0 : Int) ≤ a1 by first | omega | (simp [upS]; done) | (simp [upS]; omega))]
        try rw [if_pos (show a1 < (σ 682 58) by first | omega | (simp [upS]; done) | (simp [upS]; omega))]
        all_goals rfl
      refine ⟨_, _, hD7, ?_⟩
      clear hD7
      refine ⟨(show 1 = 0 ∨ 1 = 1 by first | omega | (simp [upS]; done) | (simp [upS]; omega)), ?_⟩
      all_goals rfl
    refine ⟨_, _, hD8, ?_⟩
    clear hD8
    rw [if_neg (show ¬ ((1 : Int) = 0) by first | omega | (simp [upS]; done) | (simp [upS]; omega))]
    rw [if_neg (show ¬ ((0 : Int) ≤ a2) by first | omega | (simp [upS]; done) | (simp [upS]; omega))]
    refine b388_17 ?_
    refine b388_18 ?_
    have hD9 : Dd 245 [(.inr (.inr (some 682))), (.inl 1)] σ (.inl (some (.inl 0)), (upS σ 682 0 1)) := by
      refine b245 ?_
      try rw [if_neg (show ¬ ((1 : Int) = 0) by first | omega | (simp [upS]; done) | (simp [upS]; omega))]
      all_goals rfl
    refine ⟨_, _, hD9, ?_⟩
    clear hD9
    rw [if_pos (show (0 : Int) = 0 by first | omega | (simp [upS]; done) | (simp [upS]; omega))]
    all_goals rfl
  exact op_x H (by decide) hA hB
theorem x54_0 {σ : Sg} {c : Int} {a1 : Int} {a2 : Int} {a3 : Int} (H : Rel c σ) (h0 : a1 < 0) : OpR 442 389 [(.inr (.inr (some 0))), (.inl a1), (.inl a2), (.inl a3), (.inr (.inr (some 726)))] [(.inr (.inr (some 682))), (.inl a1), (.inl a2), (.inl a3)] σ (c + 1) := by
  obtain ⟨r1, r2, r3, r4, r5⟩ := rel_n H
  have hA : Dd 442 [(.inr (.inr (some 0))), (.inl a1), (.inl a2), (.inl a3), (.inr (.inr (some 726)))] σ (.inl (some (.inl 1)), σ) := by
    refine b442 ?_
    have hD5 : Dd 226 [(.inr (.inr (some 0))), (.inl a1), (.inl a2), (.inl a3)] σ (.inr 0, σ) := by
      refine b226 ?_
      have hD4 : Dd 229 [(.inr (.inr (some 0))), (.inl a1)] σ (.inr 0, σ) := by
        refine b229 ?_
        have hD2 : Dd 35 [(.inr (.inr (some 658))), (.inl a1)] σ (.inl (some (.inr (.inr none))), σ) := by
          refine b35 ?_
          rw [if_pos (show a1 < (σ 658 1) by first | omega | (simp [upS]; done) | (simp [upS]; omega))]
          have hD1 : Dd 145 [(.inr (.inr (some 659))), (.inl a1)] σ (.inl (some (.inr (.inr none))), σ) := by
            refine b145 ?_
            rw [if_neg (show ¬ ((0 : Int) ≤ a1) by first | omega | (simp [upS]; done) | (simp [upS]; omega))]
            all_goals rfl
          refine ⟨_, _, hD1, ?_⟩
          clear hD1
          all_goals rfl
        refine ⟨_, _, hD2, ?_⟩
        clear hD2
        refine ⟨fun _ => ?_, fun _ hz3 => (by cases hz3)⟩
        all_goals rfl
      refine Or.inr ⟨_, _, hD4, ?_⟩
      all_goals rfl
    exact Or.inr (Or.inl ⟨_, hD5, rfl⟩)
  have hB : Dd 389 [(.inr (.inr (some 682))), (.inl a1), (.inl a2), (.inl a3)] σ (.inl (some (.inl 0)), (upS σ 682 0 1)) := by
    refine b389 ?_
    have hD7 : Dd 383 [(.inr (.inr (some 682))), (.inl a1)] σ (.inl (some (.inl 0)), σ) := by
      refine b383 ?_
      have hD6 : Dd 246 [(.inl a1), (.inl (σ 682 58))] σ (.inl (some (.inl 0)), σ) := by
        refine b246 ?_
        try rw [if_neg (show ¬ ((0 : Int) ≤ a1) by first | omega | (simp [upS]; done) | (simp [upS]; omega))]
        all_goals rfl
      refine ⟨_, _, hD6, ?_⟩
      clear hD6
      refine ⟨(show 0 = 0 ∨ 0 = 1 by first | omega | (simp [upS]; done) | (simp [upS]; omega)), ?_⟩
      all_goals rfl
    refine ⟨_, _, hD7, ?_⟩
    clear hD7
    rw [if_pos (show (0 : Int) = 0 by first | omega | (simp [upS]; done) | (simp [upS]; omega))]
    refine b389_26 ?_
    refine b389_27 ?_
    rw [if_pos (show (0 : Int) = 0 by first | omega | (simp [upS]; done) | (simp [upS]; omega))]
    refine b389_58 ?_
    have hD8 : Dd 245 [(.inr (.inr (some 682))), (.inl 1)] σ (.inl (some (.inl 0)), (upS σ 682 0 1)) := by
      refine b245 ?_
      try rw [if_neg (show ¬ ((1 : Int) = 0) by first | omega | (simp [upS]; done) | (simp [upS]; omega))]
      all_goals rfl
    refine ⟨_, _, hD8, ?_⟩
    clear hD8
    rw [if_pos (show (0 : Int) = 0 by first | omega | (simp [upS]; done) | (simp [upS]; omega))]
    all_goals rfl
  exact op_x H (by decide) hA hB
theorem x54_1 {σ : Sg} {c : Int} {a1 : Int} {a2 : Int} {a3 : Int} (H : Rel c σ) (h0 : σ 658 1 ≤ a1) : OpR 442 389 [(.inr (.inr (some 0))), (.inl a1), (.inl a2), (.inl a3), (.inr (.inr (some 726)))] [(.inr (.inr (some 682))), (.inl a1), (.inl a2), (.inl a3)] σ (c + 1) := by
  obtain ⟨r1, r2, r3, r4, r5⟩ := rel_n H
  have hA : Dd 442 [(.inr (.inr (some 0))), (.inl a1), (.inl a2), (.inl a3), (.inr (.inr (some 726)))] σ (.inl (some (.inl 1)), σ) := by
    refine b442 ?_
    have hD4 : Dd 226 [(.inr (.inr (some 0))), (.inl a1), (.inl a2), (.inl a3)] σ (.inr 0, σ) := by
      refine b226 ?_
      have hD3 : Dd 229 [(.inr (.inr (some 0))), (.inl a1)] σ (.inr 0, σ) := by
        refine b229 ?_
        have hD1 : Dd 35 [(.inr (.inr (some 658))), (.inl a1)] σ (.inl (some (.inr (.inr none))), σ) := by
          refine b35 ?_
          rw [if_neg (show ¬ (a1 < (σ 658 1)) by first | omega | (simp [upS]; done) | (simp [upS]; omega))]
          all_goals rfl
        refine ⟨_, _, hD1, ?_⟩
        clear hD1
        refine ⟨fun _ => ?_, fun _ hz2 => (by cases hz2)⟩
        all_goals rfl
      refine Or.inr ⟨_, _, hD3, ?_⟩
      all_goals rfl
    exact Or.inr (Or.inl ⟨_, hD4, rfl⟩)
  have hB : Dd 389 [(.inr (.inr (some 682))), (.inl a1), (.inl a2), (.inl a3)] σ (.inl (some (.inl 0)), (upS σ 682 0 1)) := by
    refine b389 ?_
    have hD6 : Dd 383 [(.inr (.inr (some 682))), (.inl a1)] σ (.inl (some (.inl 0)), σ) := by
      refine b383 ?_
      have hD5 : Dd 246 [(.inl a1), (.inl (σ 682 58))] σ (.inl (some (.inl 0)), σ) := by
        refine b246 ?_
        try rw [if_pos (show (0 : Int) ≤ a1 by first | omega | (simp [upS]; done) | (simp [upS]; omega))]
        try rw [if_neg (show ¬ (a1 < (σ 682 58)) by first | omega | (simp [upS]; done) | (simp [upS]; omega))]
        all_goals rfl
      refine ⟨_, _, hD5, ?_⟩
      clear hD5
      refine ⟨(show 0 = 0 ∨ 0 = 1 by first | omega | (simp [upS]; done) | (simp [upS]; omega)), ?_⟩
      all_goals rfl
    refine ⟨_, _, hD6, ?_⟩
    clear hD6
    rw [if_pos (show (0 : Int) = 0 by first | omega | (simp [upS]; done) | (simp [upS]; omega))]
    refine b389_26 ?_
    refine b389_27 ?_
    rw [if_pos (show (0 : Int) = 0 by first | omega | (simp [upS]; done) | (simp [upS]; omega))]
    refine b389_58 ?_
    have hD7 : Dd 245 [(.inr (.inr (some 682))), (.inl 1)] σ (.inl (some (.inl 0)), (upS σ 682 0 1)) := by
      refine b245 ?_
      try rw [if_neg (show ¬ ((1 : Int) = 0) by first | omega | (simp [upS]; done) | (simp [upS]; omega))]
      all_goals rfl
    refine ⟨_, _, hD7, ?_⟩
    clear hD7
    rw [if_pos (show (0 : Int) = 0 by first | omega | (simp [upS]; done) | (simp [upS]; omega))]
    all_goals rfl
  exact op_x H (by decide) hA hB
theorem x54_2 {σ : Sg} {c : Int} {a1 : Int} {a2 : Int} {a3 : Int} (H : Rel c σ) (h0 : 0 ≤ a1 ∧ a1 < σ 658 1) (h1 : a2 < 0) : OpR 442 389 [(.inr (.inr (some 0))), (.inl a1), (.inl a2), (.inl a3), (.inr (.inr (some 726)))] [(.inr (.inr (some 682))), (.inl a1), (.inl a2), (.inl a3)] σ (c + 1) := by
  obtain ⟨r1, r2, r3, r4, r5⟩ := rel_n H
  have hA : Dd 442 [(.inr (.inr (some 0))), (.inl a1), (.inl a2), (.inl a3), (.inr (.inr (some 726)))] σ (.inl (some (.inl 1)), σ) := by
    refine b442 ?_
    have hD8 : Dd 226 [(.inr (.inr (some 0))), (.inl a1), (.inl a2), (.inl a3)] σ (.inr 0, σ) := by
      refine b226 ?_
      have hD4 : Dd 229 [(.inr (.inr (some 0))), (.inl a1)] σ (.inl (some (.inr (.inr (some (660 + 2 * ((a1)).toNat))))), σ) := by
        refine b229 ?_
        have hD2 : Dd 35 [(.inr (.inr (some 658))), (.inl a1)] σ (.inl (some (.inr (.inr (some (660 + 2 * ((a1)).toNat))))), σ) := by
          refine b35 ?_
          rw [if_pos (show a1 < (σ 658 1) by first | omega | (simp [upS]; done) | (simp [upS]; omega))]
          have hD1 : Dd 145 [(.inr (.inr (some 659))), (.inl a1)] σ (.inl (some (.inr (.inr (some (660 + 2 * ((a1)).toNat))))), σ) := by
            refine b145 ?_
            rw [if_pos (show (0 : Int) ≤ a1 by first | omega | (simp [upS]; done) | (simp [upS]; omega))]
            refine ⟨10, (by decide +kernel), (by decide), ?_⟩
            rw [if_pos (show a1 < ((10 : Nat) : Int) by first | omega | (simp [upS]; done) | (simp [upS]; omega))]
            refine ⟨(show 0 ≤ a1 by first | omega | (simp [upS]; done) | (simp [upS]; omega)), ?_⟩
            refine ⟨(660 + 2 * ((a1)).toNat), (el_659 (i := (a1)) (by first | omega | (simp [upS]; done) | (simp [upS]; omega))).1, (el_659 (i := (a1)) (by first | omega | (simp [upS]; done) | (simp [upS]; omega))).2, ?_⟩
            all_goals rfl
          refine ⟨_, _, hD1, ?_⟩
          clear hD1
          all_goals rfl
        refine ⟨_, _, hD2, ?_⟩
        clear hD2
        refine ⟨fun hz3 => (by cases hz3), fun _ hz3 => ?_⟩
        cases hz3
        refine ⟨(el_659 (i := (a1)) (by first | omega | (simp [upS]; done) | (simp [upS]; omega))).2, ?_⟩
        all_goals rfl
      refine Or.inl ⟨_, _, hD4, (el_659 (i := (a1)) (by first | omega | (simp [upS]; done) | (simp [upS]; omega))).2, ?_⟩
      clear hD4
      have hD7 : Dd 228 [(.inr (.inr (some 0))), (.inl a2)] σ (.inr 0, σ) := by
        refine b228 ?_
        have hD5 : Dd 145 [(.inr (.inr (some 10))), (.inl a2)] σ (.inl (some (.inr (.inr none))), σ) := by
          refine b145 ?_
          rw [if_neg (show ¬ ((0 : Int) ≤ a2) by first | omega | (simp [upS]; done) | (simp [upS]; omega))]
          all_goals rfl
        refine ⟨_, _, hD5, ?_⟩
        clear hD5
        refine ⟨fun _ => ?_, fun _ hz6 => (by cases hz6)⟩
        all_goals rfl
      refine Or.inr ⟨_, _, hD7, ?_⟩
      all_goals rfl
    exact Or.inr (Or.inl ⟨_, hD8, rfl⟩)
  have hB : Dd 389 [(.inr (.inr (some 682))), (.inl a1), (.inl a2), (.inl a3)] σ (.inl (some (.inl 0)), (upS σ 682 0 1)) := by
    refine b389 ?_
    have hD10 : Dd 383 [(.inr (.inr (some 682))), (.inl a1)] σ (.inl (some (.inl 1)), σ) := by
      refine b383 ?_
      have hD9 : Dd 246 [(.inl a1), (.inl (σ 682 58))] σ (.inl (some (.inl 1)), σ) := by
        refine b246 ?_
        try rw [if_pos (show (0 : Int) ≤ a1 by first | omega | (simp [upS]; done) | (simp [upS]; omega))]
        try rw [if_pos (show a1 < (σ 682 58) by first | omega | (simp [upS]; done) | (simp [upS]; omega))]
        all_goals rfl
      refine ⟨_, _, hD9, ?_⟩
      clear hD9
      refine ⟨(show 1 = 0 ∨ 1 = 1 by first | omega | (simp [upS]; done) | (simp [upS]; omega)), ?_⟩
      all_goals rfl
    refine ⟨_, _, hD10, ?_⟩
    clear hD10
    rw [if_neg (show ¬ ((1 : Int) = 0) by first | omega | (simp [upS]; done) | (simp [upS]; omega))]
    have hD12 : Dd 377 [(.inl a2)] σ (.inl (some (.inl 0)), σ) := by
      refine b377 ?_
      have hD11 : Dd 246 [(.inl a2), (.inl 4)] σ (.inl (some (.inl 0)), σ) := by
        refine b246 ?_
        try rw [if_neg (show ¬ ((0 : Int) ≤ a2) by first | omega | (simp [upS]; done) | (simp [upS]; omega))]
        all_goals rfl
      refine ⟨_, _, hD11, ?_⟩
      clear hD11
      refine ⟨(show 0 = 0 ∨ 0 = 1 by first | omega | (simp [upS]; done) | (simp [upS]; omega)), ?_⟩
      all_goals rfl
    refine ⟨_, _, hD12, ?_⟩
    clear hD12
    rw [if_pos (show (0 : Int) = 0 by first | omega | (simp [upS]; done) | (simp [upS]; omega))]
    refine b389_26 ?_
    refine b389_27 ?_
    rw [if_pos (show (0 : Int) = 0 by first | omega | (simp [upS]; done) | (simp [upS]; omega))]
    refine b389_58 ?_
    have hD13 : Dd 245 [(.inr (.inr (some 682))), (.inl 1)] σ (.inl (some (.inl 0)), (upS σ 682 0 1)) := by
      refine b245 ?_
      try rw [if_neg (show ¬ ((1 : Int) = 0) by first | omega | (simp [upS]; done) | (simp [upS]; omega))]
      all_goals rfl
    refine ⟨_, _, hD13, ?_⟩
    clear hD13
    rw [if_pos (show (0 : Int) = 0 by first | omega | (simp [upS]; done) | (simp [upS]; omega))]
    all_goals rfl
  exact op_x H (by decide) hA hB
theorem x54_3 {σ : Sg} {c : Int} {a1 : Int} {a2 : Int} {a3 : Int} (H : Rel c σ) (h0 : 0 ≤ a1 ∧ a1 < σ 658 1) (h1 : 4 ≤ a2) : OpR 442 389 [(.inr (.inr (some 0))), (.inl a1), (.inl a2), (.inl a3), (.inr (.inr (some 726)))] [(.inr (.inr (some 682))), (.inl a1), (.inl a2), (.inl a3)] σ (c + 1) := by
  obtain ⟨r1, r2, r3, r4, r5⟩ := rel_n H
  have hA : Dd 442 [(.inr (.inr (some 0))), (.inl a1), (.inl a2), (.inl a3), (.inr (.inr (some 726)))] σ (.inl (some (.inl 1)), σ) := by
    refine b442 ?_
    have hD8 : Dd 226 [(.inr (.inr (some 0))), (.inl a1), (.inl a2), (.inl a3)] σ (.inr 0, σ) := by
      refine b226 ?_
      have hD4 : Dd 229 [(.inr (.inr (some 0))), (.inl a1)] σ (.inl (some (.inr (.inr (some (660 + 2 * ((a1)).toNat))))), σ) := by
        refine b229 ?_
        have hD2 : Dd 35 [(.inr (.inr (some 658))), (.inl a1)] σ (.inl (some (.inr (.inr (some (660 + 2 * ((a1)).toNat))))), σ) := by
          refine b35 ?_
          rw [if_pos (show a1 < (σ 658 1) by first | omega | (simp [upS]; done) | (simp [upS]; omega))]
          have hD1 : Dd 145 [(.inr (.inr (some 659))), (.inl a1)] σ (.inl (some (.inr (.inr (some (660 + 2 * ((a1)).toNat))))), σ) := by
            refine b145 ?_
            rw [if_pos (show (0 : Int) ≤ a1 by first | omega | (simp [upS]; done) | (simp [upS]; omega))]
            refine ⟨10, (by decide +kernel), (by decide), ?_⟩
            rw [if_pos (show a1 < ((10 : Nat) : Int) by first | omega | (simp [upS]; done) | (simp [upS]; omega))]
            refine ⟨(show 0 ≤ a1 by first | omega | (simp [upS]; done) | (simp [upS]; omega)), ?_⟩
            refine ⟨(660 + 2 * ((a1)).toNat), (el_659 (i := (a1)) (by first | omega | (simp [upS]; done) | (simp [upS]; omega))).1, (el_659 (i := (a1)) (by first | omega | (simp [upS]; done) | (simp [upS]; omega))).2, ?_⟩
            all_goals rfl
          refine ⟨_, _, hD1, ?_⟩
          clear hD1
          all_goals rfl
        refine ⟨_, _, hD2, ?_⟩
        clear hD2
        refine ⟨fun hz3 => (by cases hz3), fun _ hz3 => ?_⟩
        cases hz3
        refine ⟨(el_659 (i := (a1)) (by first | omega | (simp [upS]; done) | (simp [upS]; omega))).2, ?_⟩
        all_goals rfl
      refine Or.inl ⟨_, _, hD4, (el_659 (i := (a1)) (by first | omega | (simp [upS]; done) | (simp [upS]; omega))).2, ?_⟩
      clear hD4
      have hD7 : Dd 228 [(.inr (.inr (some 0))), (.inl a2)] σ (.inr 0, σ) := by
        refine b228 ?_
        have hD5 : Dd 145 [(.inr (.inr (some 10))), (.inl a2)] σ (.inl (some (.inr (.inr none))), σ) := by
          refine b145 ?_
          rw [if_pos (show (0 : Int) ≤ a2 by first | omega | (simp [upS]; done) | (simp [upS]; omega))]
          refine ⟨4, (by decide +kernel), (by decide), ?_⟩
          rw [if_neg (show ¬ (a2 < ((4 : Nat) : Int)) by first | omega | (simp [upS]; done) | (simp [upS]; omega))]
          all_goals rfl
        refine ⟨_, _, hD5, ?_⟩
        clear hD5
        refine ⟨fun _ => ?_, fun _ hz6 => (by cases hz6)⟩
        all_goals rfl
      refine Or.inr ⟨_, _, hD7, ?_⟩
      all_goals rfl
    exact Or.inr (Or.inl ⟨_, hD8, rfl⟩)
  have hB : Dd 389 [(.inr (.inr (some 682))), (.inl a1), (.inl a2), (.inl a3)] σ (.inl (some (.inl 0)), (upS σ 682 0 1)) := by
    refine b389 ?_
    have hD10 : Dd 383 [(.inr (.inr (some 682))), (.inl a1)] σ (.inl (some (.inl 1)), σ) := by
      refine b383 ?_
      have hD9 : Dd 246 [(.inl a1), (.inl (σ 682 58))] σ (.inl (some (.inl 1)), σ) := by
        refine b246 ?_
        try rw [if_pos (show (0 : Int) ≤ a1 by first | omega | (simp [upS]; done) | (simp [upS]; omega))]
        try rw [if_pos (show a1 < (σ 682 58) by first | omega | (simp [upS]; done) | (simp [upS]; omega))]
        all_goals rfl
      refine ⟨_, _, hD9, ?_⟩
      clear hD9
      refine ⟨(show 1 = 0 ∨ 1 = 1 by first | omega | (simp [upS]; done) | (simp [upS]; omega)), ?_⟩
      all_goals rfl
    refine ⟨_, _, hD10, ?_⟩
    clear hD10
    rw [if_neg (show ¬ ((1 : Int) = 0) by first | omega | (simp [upS]; done) | (simp [upS]; omega))]
    have hD12 : Dd 377 [(.inl a2)] σ (.inl (some (.inl 0)), σ) := by
      refine b377 ?_
      have hD11 : Dd 246 [(.inl a2), (.inl 4)] σ (.inl (some (.inl 0)), σ) := by
        refine b246 ?_
        try rw [if_pos (show (0 : Int) ≤ a2 by first | omega | (simp [upS]; done) | (simp [upS]; omega))]
        try rw [if_neg (show ¬ (a2 < 4) by first | omega | (simp [upS]; done) | (simp [upS]; omega))]
        all_goals rfl
      refine ⟨_, _, hD11, ?_⟩
      clear hD11
      refine ⟨(show 0 = 0 ∨ 0 = 1 by first | omega | (simp [upS]; done) | (simp [upS]; omega)), ?_⟩
      all_goals rfl
    refine ⟨_, _, hD12, ?_⟩
    clear hD12
    rw [if_pos (show (0 : Int) = 0 by first | omega | (simp [upS]; done) | (simp [upS]; omega))]
    refine b389_26 ?_
    refine b389_27 ?_
    rw [if_pos (show (0 : Int) = 0 by first | omega | (simp [upS]; done) | (simp [upS]; omega))]
    refine b389_58 ?_
    have hD13 : Dd 245 [(.inr (.inr (some 682))), (.inl 1)] σ (.inl (some (.inl 0)), (upS σ 682 0 1)) := by
      refine b245 ?_
      try rw [if_neg (show ¬ ((1 : Int) = 0) by first | omega | (simp [upS]; done) | (simp [upS]; omega))]
      all_goals rfl
    refine ⟨_, _, hD13, ?_⟩
    clear hD13
    rw [if_pos (show (0 : Int) = 0 by first | omega | (simp [upS]; done) | (simp [upS]; omega))]
    all_goals rfl
  exact op_x H (by decide) hA hB
theorem x54_4 {σ : Sg} {c : Int} {a1 : Int} {a2 : Int} {a3 : Int} (H : Rel c σ) (h0 : 0 ≤ a1 ∧ a1 < σ 658 1) (h1 : 0 ≤ a2 ∧ a2 < 4) (h2 : a3 < 0) : OpR 442 389 [(.inr (.inr (some 0))), (.inl a1), (.inl a2), (.inl a3), (.inr (.inr (some 726)))] [(.inr (.inr (some 682))), (.inl a1), (.inl a2), (.inl a3)] σ (c + 1) := by
  obtain ⟨r1, r2, r3, r4, r5⟩ := rel_n H
  have t1 := rel_b H h1
  have hA : Dd 442 [(.inr (.inr (some 0))), (.inl a1), (.inl a2), (.inl a3), (.inr (.inr (some 726)))] σ (.inl (some (.inl 1)), σ) := by
    refine b442 ?_
    have hD11 : Dd 226 [(.inr (.inr (some 0))), (.inl a1), (.inl a2), (.inl a3)] σ (.inr 0, σ) := by
      refine b226 ?_
      have hD4 : Dd 229 [(.inr (.inr (some 0))), (.inl a1)] σ (.inl (some (.inr (.inr (some (660 + 2 * ((a1)).toNat))))), σ) := by
        refine b229 ?_
        have hD2 : Dd 35 [(.inr (.inr (some 658))), (.inl a1)] σ (.inl (some (.inr (.inr (some (660 + 2 * ((a1)).toNat))))), σ) := by
          refine b35 ?_
          rw [if_pos (show a1 < (σ 658 1) by first | omega | (simp [upS]; done) | (simp [upS]; omega))]
          have hD1 : Dd 145 [(.inr (.inr (some 659))), (.inl a1)] σ (.inl (some (.inr (.inr (some (660 + 2 * ((a1)).toNat))))), σ) := by
            refine b145 ?_
            rw [if_pos (show (0 : Int) ≤ a1 by first | omega | (simp [upS]; done) | (simp [upS]; omega))]
            refine ⟨10, (by decide +kernel), (by decide), ?_⟩
            rw [if_pos (show a1 < ((10 : Nat) : Int) by first | omega | (simp [upS]; done) | (simp [upS]; omega))]
            refine ⟨(show 0 ≤ a1 by first | omega | (simp [upS]; done) | (simp [upS]; omega)), ?_⟩
            refine ⟨(660 + 2 * ((a1)).toNat), (el_659 (i := (a1)) (by first | omega | (simp [upS]; done) | (simp [upS]; omega))).1, (el_659 (i := (a1)) (by first | omega | (simp [upS]; done) | (simp [upS]; omega))).2, ?_⟩
            all_goals rfl
          refine ⟨_, _, hD1, ?_⟩
          clear hD1
          all_goals rfl
        refine ⟨_, _, hD2, ?_⟩
        clear hD2
        refine ⟨fun hz3 => (by cases hz3), fun _ hz3 => ?_⟩
        cases hz3
        refine ⟨(el_659 (i := (a1)) (by first | omega | (simp [upS]; done) | (simp [upS]; omega))).2, ?_⟩
        all_goals rfl
      refine Or.inl ⟨_, _, hD4, (el_659 (i := (a1)) (by first | omega | (simp [upS]; done) | (simp [upS]; omega))).2, ?_⟩
      clear hD4
      have hD7 : Dd 228 [(.inr (.inr (some 0))), (.inl a2)] σ (.inl (some (.inr (.inr (some (11 + 2 * ((a2)).toNat))))), σ) := by
        refine b228 ?_
        have hD5 : Dd 145 [(.inr (.inr (some 10))), (.inl a2)] σ (.inl (some (.inr (.inr (some (11 + 2 * ((a2)).toNat))))), σ) := by
          refine b145 ?_
          rw [if_pos (show (0 : Int) ≤ a2 by first | omega | (simp [upS]; done) | (simp [upS]; omega))]
          refine ⟨4, (by decide +kernel), (by decide), ?_⟩
          rw [if_pos (show a2 < ((4 : Nat) : Int) by first | omega | (simp [upS]; done) | (simp [upS]; omega))]
          refine ⟨(show 0 ≤ a2 by first | omega | (simp [upS]; done) | (simp [upS]; omega)), ?_⟩
          refine ⟨(11 + 2 * ((a2)).toNat), (el_10 (i := (a2)) (by first | omega | (simp [upS]; done) | (simp [upS]; omega))).1, (el_10 (i := (a2)) (by first | omega | (simp [upS]; done) | (simp [upS]; omega))).2, ?_⟩
          all_goals rfl
        refine ⟨_, _, hD5, ?_⟩
        clear hD5
        refine ⟨fun hz6 => (by cases hz6), fun _ hz6 => ?_⟩
        cases hz6
        refine ⟨(el_10 (i := (a2)) (by first | omega | (simp [upS]; done) | (simp [upS]; omega))).2, ?_⟩
        all_goals rfl
      refine Or.inl ⟨_, _, hD7, (el_10 (i := (a2)) (by first | omega | (simp [upS]; done) | (simp [upS]; omega))).2, ?_⟩
      clear hD7
      have hD10 : Dd 228 [(.inr (.inr (some 0))), (.inl a3)] σ (.inr 0, σ) := by
        refine b228 ?_
        have hD8 : Dd 145 [(.inr (.inr (some 10))), (.inl a3)] σ (.inl (some (.inr (.inr none))), σ) := by
          refine b145 ?_
          rw [if_neg (show ¬ ((0 : Int) ≤ a3) by first | omega | (simp [upS]; done) | (simp [upS]; omega))]
          all_goals rfl
        refine ⟨_, _, hD8, ?_⟩
        clear hD8
        refine ⟨fun _ => ?_, fun _ hz9 => (by cases hz9)⟩
        all_goals rfl
      refine Or.inr ⟨_, _, hD10, ?_⟩
      all_goals rfl
    exact Or.inr (Or.inl ⟨_, hD11, rfl⟩)
  have hB : Dd 389 [(.inr (.inr (some 682))), (.inl a1), (.inl a2), (.inl a3)] σ (.inl (some (.inl 0)), (upS σ 682 0 1)) := by
    refine b389 ?_
    have hD13 : Dd 383 [(.inr (.inr (some 682))), (.inl a1)] σ (.inl (some (.inl 1)), σ) := by
      refine b383 ?_
      have hD12 : Dd 246 [(.inl a1), (.inl (σ 682 58))] σ (.inl (some (.inl 1)), σ) := by
        refine b246 ?_
        try rw [if_pos (show (0 : Int) ≤ a1 by first | omega | (simp [upS]; done) | (simp [upS]; omega))]
        try rw [if_pos (show a1 < (σ 682 58) by first | omega | (simp [upS]; done) | (simp [upS]; omega))]
        all_goals rfl
      refine ⟨_, _, hD12, ?_⟩
      clear hD12
      refine ⟨(show 1 = 0 ∨ 1 = 1 by first | omega | (simp [upS]; done) | (simp [upS]; omega)), ?_⟩
      all_goals rfl
    refine ⟨_, _, hD13, ?_⟩
    clear hD13
    rw [if_neg (show ¬ ((1 : Int) = 0) by first | omega | (simp [upS]; done) | (simp [upS]; omega))]
    have hD15 : Dd 377 [(.inl a2)] σ (.inl (some (.inl 1)), σ) := by
      refine b377 ?_
      have hD14 : Dd 246 [(.inl a2), (.inl 4)] σ (.inl (some (.inl 1)), σ) := by
        refine b246 ?_
        try rw [if_pos (show (0 : Int) ≤ a2 by first | omega | (simp [upS]; done) | (simp [upS]; omega))]
        try rw [if_pos (show a2 < 4 by first | omega | (simp [upS]; done) | (simp [upS]; omega))]
        all_goals rfl
      refine ⟨_, _, hD14, ?_⟩
      clear hD14
      refine ⟨(show 1 = 0 ∨ 1 = 1 by first | omega | (simp [upS]; done) | (simp [upS]; omega)), ?_⟩
      all_goals rfl
    refine ⟨_, _, hD15, ?_⟩
    clear hD15
    rw [if_neg (show ¬ ((1 : Int) = 0) by first | omega | (simp [upS]; done) | (simp [upS]; omega))]
    have hD17 : Dd 377 [(.inl a3)] σ (.inl (some (.inl 0)), σ) := by
      refine b377 ?_
      have hD16 : Dd 246 [(.inl a3), (.inl 4)] σ (.inl (some (.inl 0)), σ) := by
        refine b246 ?_
        try rw [if_neg (show ¬ ((0 : Int) ≤ a3) by first | omega | (simp [upS]; done) | (simp [upS]; omega))]
        all_goals rfl
      refine ⟨_, _, hD16, ?_⟩
      clear hD16
      refine ⟨(show 0 = 0 ∨ 0 = 1 by first | omega | (simp [upS]; done) | (simp [upS]; omega)), ?_⟩
      all_goals rfl
    refine ⟨_, _, hD17, ?_⟩
    clear hD17
    rw [if_pos (show (0 : Int) = 0 by first | omega | (simp [upS]; done) | (simp [upS]; omega))]
    refine b389_26 ?_
    refine b389_27 ?_
    rw [if_pos (show (0 : Int) = 0 by first | omega | (simp [upS]; done) | (simp [upS]; omega))]
    refine b389_58 ?_
    have hD18 : Dd 245 [(.inr (.inr (some 682))), (.inl 1)] σ (.inl (some (.inl 0)), (upS σ 682 0 1)) := by
      refine b245 ?_
      try rw [if_neg (show ¬ ((1 : Int) = 0) by first | omega | (simp [upS]; done) | (simp [upS]; omega))]
      all_goals rfl
    refine ⟨_, _, hD18, ?_⟩
    clear hD18
    rw [if_pos (show (0 : Int) = 0 by first | omega | (simp [upS]; done) | (simp [upS]; omega))]
    all_goals rfl
  exact op_x H (by decide) hA hB
theorem x54_5 {σ : Sg} {c : Int} {a1 : Int} {a2 : Int} {a3 : Int} (H : Rel c σ) (h0 : 0 ≤ a1 ∧ a1 < σ 658 1) (h1 : 0 ≤ a2 ∧ a2 < 4) (h2 : 4 ≤ a3) : OpR 442 389 [(.inr (.inr (some 0))), (.inl a1), (.inl a2), (.inl a3), (.inr (.inr (some 726)))] [(.inr (.inr (some 682))), (.inl a1), (.inl a2), (.inl a3)] σ (c + 1) := by
  obtain ⟨r1, r2, r3, r4, r5⟩ := rel_n H
  have t1 := rel_b H h1
  have hA : Dd 442 [(.inr (.inr (some 0))), (.inl a1), (.inl a2), (.inl a3), (.inr (.inr (some 726)))] σ (.inl (some (.inl 1)), σ) := by
    refine b442 ?_
    have hD11 : Dd 226 [(.inr (.inr (some 0))), (.inl a1), (.inl a2), (.inl a3)] σ (.inr 0, σ) := by
      refine b226 ?_
      have hD4 : Dd 229 [(.inr (.inr (some 0))), (.inl a1)] σ (.inl (some (.inr (.inr (some (660 + 2 * ((a1)).toNat))))), σ) := by
        refine b229 ?_
        have hD2 : Dd 35 [(.inr (.inr (some 658))), (.inl a1)] σ (.inl (some (.inr (.inr (some (660 + 2 * ((a1)).toNat))))), σ) := by
          refine b35 ?_
          rw [if_pos (show a1 < (σ 658 1) by first | omega | (simp [upS]; done) | (simp [upS]; omega))]
          have hD1 : Dd 145 [(.inr (.inr (some 659))), (.inl a1)] σ (.inl (some (.inr (.inr (some (660 + 2 * ((a1)).toNat))))), σ) := by
            refine b145 ?_
            rw [if_pos (show (0 : Int) ≤ a1 by first | omega | (simp [upS]; done) | (simp [upS]; omega))]
            refine ⟨10, (by decide +kernel), (by decide), ?_⟩
            rw [if_pos (show a1 < ((10 : Nat) : Int) by first | omega | (simp [upS]; done) | (simp [upS]; omega))]
            refine ⟨(show 0 ≤ a1 by first | omega | (simp [upS]; done) | (simp [upS]; omega)), ?_⟩
            refine ⟨(660 + 2 * ((a1)).toNat), (el_659 (i := (a1)) (by first | omega | (simp [upS]; done) | (simp [upS]; omega))).1, (el_659 (i := (a1)) (by first | omega | (simp [upS]; done) | (simp [upS]; omega))).2, ?_⟩
            all_goals rfl
          refine ⟨_, _, hD1, ?_⟩
          clear hD1
          all_goals rfl
        refine ⟨_, _, hD2, ?_⟩
        clear hD2
        refine ⟨fun hz3 => (by cases hz3), fun _ hz3 => ?_⟩
        cases hz3
        refine ⟨(el_659 (i := (a1)) (by first | omega | (simp [upS]; done) | (simp [upS]; omega))).2, ?_⟩
        all_goals rfl
      refine Or.inl ⟨_, _, hD4, (el_659 (i := (a1)) (by first | omega | (simp [upS]; done) | (simp [upS]; omega))).2, ?_⟩
      clear hD4
      have hD7 : Dd 228 [(.inr (.inr (some 0))), (.inl a2)] σ (.inl (some (.inr (.inr (some (11 + 2 * ((a2)).toNat))))), σ) := by
        refine b228 ?_
        have hD5 : Dd 145 [(.inr (.inr (some 10))), (.inl a2)] σ (.inl (some (.inr (.inr (some (11 + 2 * ((a2)).toNat))))), σ) := by
          refine b145 ?_
          rw [if_pos (show (0 : Int) ≤ a2 by first | omega | (simp [upS]; done) | (simp [upS]; omega))]
          refine ⟨4, (by decide +kernel), (by decide), ?_⟩
          rw [if_pos (show a2 < ((4 : Nat) : Int) by first | omega | (simp [upS]; done) | (simp [upS]; omega))]
          refine ⟨(show 0 ≤ a2 by first | omega | (simp [upS]; done) | (simp [upS]; omega)), ?_⟩
          refine ⟨(11 + 2 * ((a2)).toNat), (el_10 (i := (a2)) (by first | omega | (simp [upS]; done) | (simp [upS]; omega))).1, (el_10 (i := (a2)) (by first | omega | (simp [upS]; done) | (simp [upS]; omega))).2, ?_⟩
          all_goals rfl
        refine ⟨_, _, hD5, ?_⟩
        clear hD5
        refine ⟨fun hz6 => (by cases hz6), fun _ hz6 => ?_⟩
        cases hz6
        refine ⟨(el_10 (i := (a2)) (by first | omega | (simp [upS]; done) | (simp [upS]; omega))).2, ?_⟩
        all_goals rfl
      refine Or.inl ⟨_, _, hD7, (el_10 (i := (a2)) (by first | omega | (simp [upS]; done) | (simp [upS]; omega))).2, ?_⟩
      clear hD7
      have hD10 : Dd 228 [(.inr (.inr (some 0))), (.inl a3)] σ (.inr 0, σ) := by
        refine b228 ?_
        have hD8 : Dd 145 [(.inr (.inr (some 10))), (.inl a3)] σ (.inl (some (.inr (.inr none))), σ) := by
          refine b145 ?_
          rw [if_pos (show (0 : Int) ≤ a3 by first | omega | (simp [upS]; done) | (simp [upS]; omega))]
          refine ⟨4, (by decide +kernel), (by decide), ?_⟩
          rw [if_neg (show ¬ (a3 < ((4 : Nat) : Int)) by first | omega | (simp [upS]; done) | (simp [upS]; omega))]
          all_goals rfl
        refine ⟨_, _, hD8, ?_⟩
        clear hD8
        refine ⟨fun _ => ?_, fun _ hz9 => (by cases hz9)⟩
        all_goals rfl
      refine Or.inr ⟨_, _, hD10, ?_⟩
      all_goals rfl
    exact Or.inr (Or.inl ⟨_, hD11, rfl⟩)
  have hB : Dd 389 [(.inr (.inr (some 682))), (.inl a1), (.inl a2), (.inl a3)] σ (.inl (some (.inl 0)), (upS σ 682 0 1)) := by
    refine b389 ?_
    have hD13 : Dd 383 [(.inr (.inr (some 682))), (.inl a1)] σ (.inl (some (.inl 1)), σ) := by
      refine b383 ?_
      have hD12 : Dd 246 [(.inl a1), (.inl (σ 682 58))] σ (.inl (some (.inl 1)), σ) := by
        refine b246 ?_
        try rw [if_pos (show (0 : Int) ≤ a1 by first | omega | (simp [upS]; done) | (simp [upS]; omega))]
        try rw [if_pos (show a1 < (σ 682 58) by first | omega | (simp [upS]; done) | (simp [upS]; omega))]
        all_goals rfl
      refine ⟨_, _, hD12, ?_⟩
      clear hD12
      refine ⟨(show 1 = 0 ∨ 1 = 1 by first | omega | (simp [upS]; done) | (simp [upS]; omega)), ?_⟩
      all_goals rfl
    refine ⟨_, _, hD13, ?_⟩
    clear hD13
    rw [if_neg (show ¬ ((1 : Int) = 0) by first | omega | (simp [upS]; done) | (simp [upS]; omega))]
    have hD15 : Dd 377 [(.inl a2)] σ (.inl (some (.inl 1)), σ) := by
      refine b377 ?_
      have hD14 : Dd 246 [(.inl a2), (.inl 4)] σ (.inl (some (.inl 1)), σ) := by
        refine b246 ?_
        try rw [if_pos (show (0 : Int) ≤ a2 by first | omega | (simp [upS]; done) | (simp [upS]; omega))]
        try rw [if_pos (show a2 < 4 by first | omega | (simp [upS]; done) | (simp [upS]; omega))]
        all_goals rfl
      refine ⟨_, _, hD14, ?_⟩
      clear hD14
      refine ⟨(show 1 = 0 ∨ 1 = 1 by first | omega | (simp [upS]; done) | (simp [upS]; omega)), ?_⟩
      all_goals rfl
    refine ⟨_, _, hD15, ?_⟩
    clear hD15
    rw [if_neg (show ¬ ((1 : Int) = 0) by first | omega | (simp [upS]; done) | (simp [upS]; omega))]
    have hD17 : Dd 377 [(.inl a3)] σ (.inl (some (.inl 0)), σ) := by
      refine b377 ?_
      have hD16 : Dd 246 [(.inl a3), (.inl 4)] σ (.inl (some (.inl 0)), σ) := by
        refine b246 ?_
        try rw [if_pos (show (0 : Int) ≤ a3 by first | omega | (simp [upS]; done) | (simp [upS]; omega))]
        try rw [if_neg (show ¬ (a3 < 4) by first | omega | (simp [upS]; done) | (simp [upS]; omega))]
        all_goals rfl
      refine ⟨_, _, hD16, ?_⟩
      clear hD16
      refine ⟨(show 0 = 0 ∨ 0 = 1 by first | omega | (simp [upS]; done) | (simp [upS]; omega)), ?_⟩
      all_goals rfl
    refine ⟨_, _, hD17, ?_⟩
    clear hD17
    rw [if_pos (show (0 : Int) = 0 by first | omega | (simp [upS]; done) | (simp [upS]; omega))]
    refine b389_26 ?_
    refine b389_27 ?_
    rw [if_pos (show (0 : Int) = 0 by first | omega | (simp [upS]; done) | (simp [upS]; omega))]
    refine b389_58 ?_
    have hD18 : Dd 245 [(.inr (.inr (some 682))), (.inl 1)] σ (.inl (some (.inl 0)), (upS σ 682 0 1)) := by
      refine b245 ?_
      try rw [if_neg (show ¬ ((1 : Int) = 0) by first | omega | (simp [upS]; done) | (simp [upS]; omega))]
      all_goals rfl
    refine ⟨_, _, hD18, ?_⟩
    clear hD18
    rw [if_pos (show (0 : Int) = 0 by first | omega | (simp [upS]; done) | (simp [upS]; omega))]
    all_goals rfl
  exact op_x H (by decide) hA hB
end
