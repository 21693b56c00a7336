noncomputable section
theorem x24_0 {σ : Sg} {c : Int} {a1 : Int} (H : Rel c σ) (h0 : a1 < 0) : OpR 413 327 [(.inr (.inr (some 0))), (.inl a1), (.inr (.inr (some 726)))] [(.inr (.inr (some 682))), (.inl a1)] σ (c + 1) := by
  obtain ⟨r1, r2, r3, r4, r5⟩ := rel_n H
  have hA : Dd 413 [(.inr (.inr (some 0))), (.inl a1), (.inr (.inr (some 726)))] σ (.inl (some (.inl 1)), σ) := by
    refine b413 ?_
    have hD3 : Dd 196 [(.inr (.inr (some 0))), (.inl a1)] σ (.inr 0, σ) := by
      refine b196 ?_
      have hD1 : Dd 146 [(.inr (.inr (some 393)))] σ (.inl (some (.inl (σ 393 1))), σ) := by
        refine b146 (by decide +kernel) ?_
        all_goals rfl
      refine ⟨_, _, hD1, ?_⟩
      clear hD1
      have hD2 : Dd 232 [(.inr (.inr (some 0))), (.inl a1), (.inl (σ 393 1))] σ (.inr 0, σ) := by
        refine b232 ?_
        rw [if_neg (show ¬ ((0 : Int) ≤ a1) by first | omega | (simp [upS]; done) | (simp [upS]; omega))]
        refine b232_9 ?_
        all_goals rfl
      refine Or.inr ⟨_, _, hD2, ?_⟩
      all_goals rfl
    exact Or.inr (⟨_, hD3, rfl⟩)
  have hB : Dd 327 [(.inr (.inr (some 682))), (.inl a1)] σ (.inl (some (.inl 0)), (upS σ 682 0 1)) := by
    refine b327 ?_
    have hD4 : Dd 246 [(.inl a1), (.inl (σ 682 33))] σ (.inl (some (.inl 0)), σ) := by
      refine b246 ?_
      try rw [if_neg (show ¬ ((0 : Int) ≤ a1) by first | omega | (simp [upS]; done) | (simp [upS]; omega))]
      all_goals rfl
    refine ⟨_, _, hD4, ?_⟩
    clear hD4
    try rw [if_pos (show (0 : Int) = 0 by first | omega | (simp [upS]; done) | (simp [upS]; omega))]
    refine b327_17 ?_
    have hD5 : Dd 245 [(.inr (.inr (some 682))), (.inl 1)] σ (.inl (some (.inl 0)), (upS σ 682 0 1)) := by
      refine b245 ?_
      try rw [if_neg (show ¬ ((1 : Int) = 0) by first | omega | (simp [upS]; done) | (simp [upS]; omega))]
      all_goals rfl
    refine ⟨_, _, hD5, ?_⟩
    clear hD5
    refine ⟨(show ¬ (0 = 0) → 0 ≤ a1 ∧ a1 < 32 by (first | (intros; first | omega | (simp [upS]; done) | (simp [upS]; omega)) | (intros; simp_all [upS]; done) | (intros; simp_all [upS]; omega))), ?_⟩
    refine ⟨(show ¬ (0 = 0) → ¬ (((upS σ 682 0 1) 706 (a1).toNat) = (-1)) → 0 ≤ a1 ∧ a1 < 32 by (first | (intros; first | omega | (simp [upS]; done) | (simp [upS]; omega)) | (intros; simp_all [upS]; done) | (intros; simp_all [upS]; omega))), ?_⟩
    refine ⟨(show ¬ (0 = 0) → ¬ (((upS σ 682 0 1) 706 (a1).toNat) = (-1)) → -2147483648 ≤ (10 * ((upS σ 682 0 1) 706 (a1).toNat)) ∧ (10 * ((upS σ 682 0 1) 706 (a1).toNat)) ≤ 2147483647 by (first | (intros; first | omega | (simp [upS]; done) | (simp [upS]; omega)) | (intros; simp_all [upS]; done) | (intros; simp_all [upS]; omega))), ?_⟩
    refine ⟨(show ¬ (0 = 0) → ¬ (((upS σ 682 0 1) 706 (a1).toNat) = (-1)) → 0 ≤ a1 ∧ a1 < 32 by (first | (intros; first | omega | (simp [upS]; done) | (simp [upS]; omega)) | (intros; simp_all [upS]; done) | (intros; simp_all [upS]; omega))), ?_⟩
    refine ⟨(show ¬ (0 = 0) → ¬ (((upS σ 682 0 1) 706 (a1).toNat) = (-1)) → -2147483648 ≤ ((10 * ((upS σ 682 0 1) 706 (a1).toNat)) + ((upS σ 682 0 1) 707 (a1).toNat)) ∧ ((10 * ((upS σ 682 0 1) 706 (a1).toNat)) + ((upS σ 682 0 1) 707 (a1).toNat)) ≤ 2147483647 by (first | (intros; first | omega | (simp [upS]; done) | (simp [upS]; omega)) | (intros; simp_all [upS]; done) | (intros; simp_all [upS]; omega))), ?_⟩
    try rw [if_pos (show (0 : Int) = 0 by first | omega | (simp [upS]; done) | (simp [upS]; omega))]
    all_goals rfl
  exact op_x H (by decide) hA hB
theorem x24_1 {σ : Sg} {c : Int} {a1 : Int} (H : Rel c σ) (h0 : σ 393 1 ≤ a1) : OpR 413 327 [(.inr (.inr (some 0))), (.inl a1), (.inr (.inr (some 726)))] [(.inr (.inr (some 682))), (.inl a1)] σ (c + 1) := by
  obtain ⟨r1, r2, r3, r4, r5⟩ := rel_n H
  have hA : Dd 413 [(.inr (.inr (some 0))), (.inl a1), (.inr (.inr (some 726)))] σ (.inl (some (.inl 1)), σ) := by
    refine b413 ?_
    have hD3 : Dd 196 [(.inr (.inr (some 0))), (.inl a1)] σ (.inr 0, σ) := by
      refine b196 ?_
      have hD1 : Dd 146 [(.inr (.inr (some 393)))] σ (.inl (some (.inl (σ 393 1))), σ) := by
        refine b146 (by decide +kernel) ?_
        all_goals rfl
      refine ⟨_, _, hD1, ?_⟩
      clear hD1
      have hD2 : Dd 232 [(.inr (.inr (some 0))), (.inl a1), (.inl (σ 393 1))] σ (.inr 0, σ) := by
        refine b232 ?_
        rw [if_pos (show (0 : Int) ≤ a1 by first | omega | (simp [upS]; done) | (simp [upS]; omega))]
        rw [if_pos (show (σ 393 1) ≤ a1 by first | omega | (simp [upS]; done) | (simp [upS]; omega))]
        refine b232_9 ?_
        all_goals rfl
      refine Or.inr ⟨_, _, hD2, ?_⟩
      all_goals rfl
    exact Or.inr (⟨_, hD3, rfl⟩)
  have hB : Dd 327 [(.inr (.inr (some 682))), (.inl a1)] σ (.inl (some (.inl 0)), (upS σ 682 0 1)) := by
    refine b327 ?_
    have hD4 : Dd 246 [(.inl a1), (.inl (σ 682 33))] σ (.inl (some (.inl 0)), σ) := by
      refine b246 ?_
      try rw [if_pos (show (0 : Int) ≤ a1 by first | omega | (simp [upS]; done) | (simp [upS]; omega))]
      try rw [if_neg (show ¬ (a1 < (σ 682 33)) by first | omega | (simp [upS]; done) | (simp [upS]; omega))]
      all_goals rfl
    refine ⟨_, _, hD4, ?_⟩
    clear hD4
    try rw [if_pos (show (0 : Int) = 0 by first | omega | (simp [upS]; done) | (simp [upS]; omega))]
    refine b327_17 ?_
    have hD5 : Dd 245 [(.inr (.inr (some 682))), (.inl 1)] σ (.inl (some (.inl 0)), (upS σ 682 0 1)) := by
      refine b245 ?_
      try rw [if_neg (show ¬ ((1 : Int) = 0) by first | omega | (simp [upS]; done) | (simp [upS]; omega))]
      all_goals rfl
    refine ⟨_, _, hD5, ?_⟩
    clear hD5
    refine ⟨(show ¬ (0 = 0) → 0 ≤ a1 ∧ a1 < 32 by (first | (intros; first | omega | (simp [upS]; done) | (simp [upS]; omega)) | (intros; simp_all [upS]; done) | (intros; simp_all [upS]; omega))), ?_⟩
    refine ⟨(show ¬ (0 = 0) → ¬ (((upS σ 682 0 1) 706 (a1).toNat) = (-1)) → 0 ≤ a1 ∧ a1 < 32 by (first | (intros; first | omega | (simp [upS]; done) | (simp [upS]; omega)) | (intros; simp_all [upS]; done) | (intros; simp_all [upS]; omega))), ?_⟩
    refine ⟨(show ¬ (0 = 0) → ¬ (((upS σ 682 0 1) 706 (a1).toNat) = (-1)) → -2147483648 ≤ (10 * ((upS σ 682 0 1) 706 (a1).toNat)) ∧ (10 * ((upS σ 682 0 1) 706 (a1).toNat)) ≤ 2147483647 by (first | (intros; first | omega | (simp [upS]; done) | (simp [upS]; omega)) | (intros; simp_all [upS]; done) | (intros; simp_all [upS]; omega))), ?_⟩
    refine ⟨(show ¬ (0 = 0) → ¬ (((upS σ 682 0 1) 706 (a1).toNat) = (-1)) → 0 ≤ a1 ∧ a1 < 32 by (first | (intros; first | omega | (simp [upS]; done) | (simp [upS]; omega)) | (intros; simp_all [upS]; done) | (intros; simp_all [upS]; omega))), ?_⟩
    refine ⟨(show ¬ (0 = 0) → ¬ (((upS σ 682 0 1) 706 (a1).toNat) = (-1)) → -2147483648 ≤ ((10 * ((upS σ 682 0 1) 706 (a1).toNat)) + ((upS σ 682 0 1) 707 (a1).toNat)) ∧ ((10 * ((upS σ 682 0 1) 706 (a1).toNat)) + ((upS σ 682 0 1) 707 (a1).toNat)) ≤ 2147483647 by (first | (intros; first | omega | (simp [upS]; done) | (simp [upS]; omega)) | (intros; simp_all [upS]; done) | (intros; simp_all [upS]; omega))), ?_⟩
    try rw [if_pos (show (0 : Int) = 0 by first | omega | (simp [upS]; done) | (simp [upS]; omega))]
    all_goals rfl
  exact op_x H (by decide) hA hB
theorem x25_0 {σ : Sg} {c : Int} {a1 : Int} {a2 : Int} {a3 : Int} (H : Rel c σ) (h0 : a1 < 0) : OpR 414 333 [(.inr (.inr (some 0))), (.inl a1), (.inl a2), (.inl a3), (.inr (.inr (some 726)))] [(.inr (.inr (some 682))), (.inl a1), (.inl a2), (.inl a3)] σ (c + 1) := by
  obtain ⟨r1, r2, r3, r4, r5⟩ := rel_n H
  have hA : Dd 414 [(.inr (.inr (some 0))), (.inl a1), (.inl a2), (.inl a3), (.inr (.inr (some 726)))] σ (.inl (some (.inl 1)), σ) := by
    refine b414 ?_
    have hD4 : Dd 197 [(.inr (.inr (some 0))), (.inl a1), (.inl a2), (.inl a3)] σ (.inr 0, σ) := by
      refine b197 ?_
      have hD3 : Dd 230 [(.inr (.inr (some 0))), (.inl a1)] σ (.inr 0, σ) := by
        refine b230 ?_
        have hD1 : Dd 89 [(.inr (.inr (some 19))), (.inl a1), (.inl (σ 0 3))] σ (.inl (some (.inr (.inr none))), σ) := by
          refine b89 ?_
          rw [if_neg (show ¬ ((0 : Int) ≤ a1) by first | omega | (simp [upS]; done) | (simp [upS]; omega))]
          all_goals rfl
        refine ⟨_, _, hD1, ?_⟩
        clear hD1
        refine ⟨fun _ => ?_, fun _ hz2 => (by cases hz2)⟩
        all_goals rfl
      refine Or.inr ⟨_, _, hD3, ?_⟩
      all_goals rfl
    exact Or.inr (Or.inl ⟨_, hD4, rfl⟩)
  have hB : Dd 333 [(.inr (.inr (some 682))), (.inl a1), (.inl a2), (.inl a3)] σ (.inl (some (.inl 0)), (upS σ 682 0 1)) := by
    refine b333 ?_
    have hD6 : Dd 248 [(.inr (.inr (some 682))), (.inl a1)] σ (.inl (some (.inl 0)), σ) := by
      refine b248 ?_
      have hD5 : Dd 246 [(.inl a1), (.inl (σ 682 3))] σ (.inl (some (.inl 0)), σ) := by
        refine b246 ?_
        try rw [if_neg (show ¬ ((0 : Int) ≤ a1) by first | omega | (simp [upS]; done) | (simp [upS]; omega))]
        all_goals rfl
      refine ⟨_, _, hD5, ?_⟩
      clear hD5
      refine ⟨(show 0 = 0 ∨ 0 = 1 by first | omega | (simp [upS]; done) | (simp [upS]; omega)), ?_⟩
      all_goals rfl
    refine ⟨_, _, hD6, ?_⟩
    clear hD6
    rw [if_pos (show (0 : Int) = 0 by first | omega | (simp [upS]; done) | (simp [upS]; omega))]
    refine b333_27 ?_
    refine b333_28 ?_
    rw [if_pos (show (0 : Int) = 0 by first | omega | (simp [upS]; done) | (simp [upS]; omega))]
    refine b333_48 ?_
    refine b333_49 ?_
    rw [if_pos (show (0 : Int) = 0 by first | omega | (simp [upS]; done) | (simp [upS]; omega))]
    refine b333_66 ?_
    rw [if_pos (show (0 : Int) = 0 by first | omega | (simp [upS]; done) | (simp [upS]; omega))]
    refine b333_97 ?_
    have hD7 : Dd 245 [(.inr (.inr (some 682))), (.inl 1)] σ (.inl (some (.inl 0)), (upS σ 682 0 1)) := by
      refine b245 ?_
      try rw [if_neg (show ¬ ((1 : Int) = 0) by first | omega | (simp [upS]; done) | (simp [upS]; omega))]
      all_goals rfl
    refine ⟨_, _, hD7, ?_⟩
    clear hD7
    rw [if_pos (show (0 : Int) = 0 by first | omega | (simp [upS]; done) | (simp [upS]; omega))]
    all_goals rfl
  exact op_x H (by decide) hA hB
theorem x25_1 {σ : Sg} {c : Int} {a1 : Int} {a2 : Int} {a3 : Int} (H : Rel c σ) (h0 : σ 0 3 ≤ a1) : OpR 414 333 [(.inr (.inr (some 0))), (.inl a1), (.inl a2), (.inl a3), (.inr (.inr (some 726)))] [(.inr (.inr (some 682))), (.inl a1), (.inl a2), (.inl a3)] σ (c + 1) := by
  obtain ⟨r1, r2, r3, r4, r5⟩ := rel_n H
  have hA : Dd 414 [(.inr (.inr (some 0))), (.inl a1), (.inl a2), (.inl a3), (.inr (.inr (some 726)))] σ (.inl (some (.inl 1)), σ) := by
    refine b414 ?_
    have hD4 : Dd 197 [(.inr (.inr (some 0))), (.inl a1), (.inl a2), (.inl a3)] σ (.inr 0, σ) := by
      refine b197 ?_
      have hD3 : Dd 230 [(.inr (.inr (some 0))), (.inl a1)] σ (.inr 0, σ) := by
        refine b230 ?_
        have hD1 : Dd 89 [(.inr (.inr (some 19))), (.inl a1), (.inl (σ 0 3))] σ (.inl (some (.inr (.inr none))), σ) := by
          refine b89 ?_
          rw [if_pos (show (0 : Int) ≤ a1 by first | omega | (simp [upS]; done) | (simp [upS]; omega))]
          rw [if_neg (show ¬ (a1 < (σ 0 3)) by first | omega | (simp [upS]; done) | (simp [upS]; omega))]
          all_goals rfl
        refine ⟨_, _, hD1, ?_⟩
        clear hD1
        refine ⟨fun _ => ?_, fun _ hz2 => (by cases hz2)⟩
        all_goals rfl
      refine Or.inr ⟨_, _, hD3, ?_⟩
      all_goals rfl
    exact Or.inr (Or.inl ⟨_, hD4, rfl⟩)
  have hB : Dd 333 [(.inr (.inr (some 682))), (.inl a1), (.inl a2), (.inl a3)] σ (.inl (some (.inl 0)), (upS σ 682 0 1)) := by
    refine b333 ?_
    have hD6 : Dd 248 [(.inr (.inr (some 682))), (.inl a1)] σ (.inl (some (.inl 0)), σ) := by
      refine b248 ?_
      have hD5 : Dd 246 [(.inl a1), (.inl (σ 682 3))] σ (.inl (some (.inl 0)), σ) := by
        refine b246 ?_
        try rw [if_pos (show (0 : Int) ≤ a1 by first | omega | (simp [upS]; done) | (simp [upS]; omega))]
        try rw [if_neg (show ¬ (a1 < (σ 682 3)) by first | omega | (simp [upS]; done) | (simp [upS]; omega))]
        all_goals rfl
      refine ⟨_, _, hD5, ?_⟩
      clear hD5
      refine ⟨(show 0 = 0 ∨ 0 = 1 by first | omega | (simp [upS]; done) | (simp [upS]; omega)), ?_⟩
      all_goals rfl
    refine ⟨_, _, hD6, ?_⟩
    clear hD6
    rw [if_pos (show (0 : Int) = 0 by first | omega | (simp [upS]; done) | (simp [upS]; omega))]
    refine b333_27 ?_
    refine b333_28 ?_
    rw [if_pos (show (0 : Int) = 0 by first | omega | (simp [upS]; done) | (simp [upS]; omega))]
    refine b333_48 ?_
    refine b333_49 ?_
    rw [if_pos (show (0 : Int) = 0 by first | omega | (simp [upS]; done) | (simp [upS]; omega))]
    refine b333_66 ?_
    rw [if_pos (show (0 : Int) = 0 by first | omega | (simp [upS]; done) | (simp [upS]; omega))]
    refine b333_97 ?_
    have hD7 : Dd 245 [(.inr (.inr (some 682))), (.inl 1)] σ (.inl (some (.inl 0)), (upS σ 682 0 1)) := by
      refine b245 ?_
      try rw [if_neg (show ¬ ((1 : Int) = 0) by first | omega | (simp [upS]; done) | (simp [upS]; omega))]
      all_goals rfl
    refine ⟨_, _, hD7, ?_⟩
    clear hD7
    rw [if_pos (show (0 : Int) = 0 by first | omega | (simp [upS]; done) | (simp [upS]; omega))]
    all_goals rfl
  exact op_x H (by decide) hA hB
theorem x25_2 {σ : Sg} {c : Int} {a1 : Int} {a2 : Int} {a3 : Int} (H : Rel c σ) (h0 : 0 ≤ a1 ∧ a1 < σ 0 3) (h1 : a2 < 0) : OpR 414 333 [(.inr (.inr (some 0))), (.inl a1), (.inl a2), (.inl a3), (.inr (.inr (some 726)))] [(.inr (.inr (some 682))), (.inl a1), (.inl a2), (.inl a3)] σ (c + 1) := by
  obtain ⟨r1, r2, r3, r4, r5⟩ := rel_n H
  have t0 := rel_p H h0
  have hA : Dd 414 [(.inr (.inr (some 0))), (.inl a1), (.inl a2), (.inl a3), (.inr (.inr (some 726)))] σ (.inl (some (.inl 1)), σ) := by
    refine b414 ?_
    have hD7 : Dd 197 [(.inr (.inr (some 0))), (.inl a1), (.inl a2), (.inl a3)] σ (.inr 0, σ) := by
      refine b197 ?_
      have hD3 : Dd 230 [(.inr (.inr (some 0))), (.inl a1)] σ (.inl (some (.inr (.inr (some (20 + 13 * ((a1)).toNat))))), σ) := by
        refine b230 ?_
        have hD1 : Dd 89 [(.inr (.inr (some 19))), (.inl a1), (.inl (σ 0 3))] σ (.inl (some (.inr (.inr (some (20 + 13 * ((a1)).toNat))))), σ) := by
          refine b89 ?_
          rw [if_pos (show (0 : Int) ≤ a1 by first | omega | (simp [upS]; done) | (simp [upS]; omega))]
          rw [if_pos (show a1 < (σ 0 3) by first | omega | (simp [upS]; done) | (simp [upS]; omega))]
          refine ⟨24, (by decide +kernel), (by decide), ?_⟩
          rw [if_pos (show a1 < ((24 : Nat) : Int) by first | omega | (simp [upS]; done) | (simp [upS]; omega))]
          refine ⟨(show 0 ≤ a1 by first | omega | (simp [upS]; done) | (simp [upS]; omega)), ?_⟩
          refine ⟨(20 + 13 * ((a1)).toNat), (el_19 (i := (a1)) (by first | omega | (simp [upS]; done) | (simp [upS]; omega))).1, (el_19 (i := (a1)) (by first | omega | (simp [upS]; done) | (simp [upS]; omega))).2, ?_⟩
          all_goals rfl
        refine ⟨_, _, hD1, ?_⟩
        clear hD1
        refine ⟨fun hz2 => (by cases hz2), fun _ hz2 => ?_⟩
        cases hz2
        refine ⟨(el_19 (i := (a1)) (by first | omega | (simp [upS]; done) | (simp [upS]; omega))).2, ?_⟩
        all_goals rfl
      refine Or.inl ⟨_, _, hD3, (el_19 (i := (a1)) (by first | omega | (simp [upS]; done) | (simp [upS]; omega))).2, ?_⟩
      clear hD3
      have hD6 : Dd 230 [(.inr (.inr (some 0))), (.inl a2)] σ (.inr 0, σ) := by
        refine b230 ?_
        have hD4 : Dd 89 [(.inr (.inr (some 19))), (.inl a2), (.inl (σ 0 3))] σ (.inl (some (.inr (.inr none))), σ) := by
          refine b89 ?_
          rw [if_neg (show ¬ ((0 : Int) ≤ a2) by first | omega | (simp [upS]; done) | (simp [upS]; omega))]
          all_goals rfl
        refine ⟨_, _, hD4, ?_⟩
        clear hD4
        refine ⟨fun _ => ?_, fun _ hz5 => (by cases hz5)⟩
        all_goals rfl
      refine Or.inr ⟨_, _, hD6, ?_⟩
      all_goals rfl
    exact Or.inr (Or.inl ⟨_, hD7, rfl⟩)
  have hB : Dd 333 [(.inr (.inr (some 682))), (.inl a1), (.inl a2), (.inl a3)] σ (.inl (some (.inl 0)), (upS σ 682 0 1)) := by
    refine b333 ?_
    have hD9 : Dd 248 [(.inr (.inr (some 682))), (.inl a1)] σ (.inl (some (.inl 1)), σ) := by
      refine b248 ?_
      have hD8 : Dd 246 [(.inl a1), (.inl (σ 682 3))] σ (.inl (some (.inl 1)), σ) := by
        refine b246 ?_
        try rw [if_pos (show (0 : Int) ≤ a1 by first | omega | (simp [upS]; done) | (simp [upS]; omega))]
        try rw [if_pos (show a1 < (σ 682 3) by first | omega | (simp [upS]; done) | (simp [upS]; omega))]
        all_goals rfl
      refine ⟨_, _, hD8, ?_⟩
      clear hD8
      refine ⟨(show 1 = 0 ∨ 1 = 1 by first | omega | (simp [upS]; done) | (simp [upS]; omega)), ?_⟩
      all_goals rfl
    refine ⟨_, _, hD9, ?_⟩
    clear hD9
    rw [if_neg (show ¬ ((1 : Int) = 0) by first | omega | (simp [upS]; done) | (simp [upS]; omega))]
    have hD11 : Dd 248 [(.inr (.inr (some 682))), (.inl a2)] σ (.inl (some (.inl 0)), σ) := by
      refine b248 ?_
      have hD10 : Dd 246 [(.inl a2), (.inl (σ 682 3))] σ (.inl (some (.inl 0)), σ) := by
        refine b246 ?_
        try rw [if_neg (show ¬ ((0 : Int) ≤ a2) by first | omega | (simp [upS]; done) | (simp [upS]; omega))]
        all_goals rfl
      refine ⟨_, _, hD10, ?_⟩
      clear hD10
      refine ⟨(show 0 = 0 ∨ 0 = 1 by first | omega | (simp [upS]; done) | (simp [upS]; omega)), ?_⟩
      all_goals rfl
    refine ⟨_, _, hD11, ?_⟩
    clear hD11
    rw [if_pos (show (0 : Int) = 0 by first | omega | (simp [upS]; done) | (simp [upS]; omega))]
    refine b333_27 ?_
    refine b333_28 ?_
    rw [if_pos (show (0 : Int) = 0 by first | omega | (simp [upS]; done) | (simp [upS]; omega))]
    refine b333_48 ?_
    refine b333_49 ?_
    rw [if_pos (show (0 : Int) = 0 by first | omega | (simp [upS]; done) | (simp [upS]; omega))]
    refine b333_66 ?_
    rw [if_pos (show (0 : Int) = 0 by first | omega | (simp [upS]; done) | (simp [upS]; omega))]
    refine b333_97 ?_
    have hD12 : Dd 245 [(.inr (.inr (some 682))), (.inl 1)] σ (.inl (some (.inl 0)), (upS σ 682 0 1)) := by
      refine b245 ?_
      try rw [if_neg (show ¬ ((1 : Int) = 0) by first | omega | (simp [upS]; done) | (simp [upS]; omega))]
      all_goals rfl
    refine ⟨_, _, hD12, ?_⟩
    clear hD12
    rw [if_pos (show (0 : Int) = 0 by first | omega | (simp [upS]; done) | (simp [upS]; omega))]
    all_goals rfl
  exact op_x H (by decide) hA hB
theorem x25_3 {σ : Sg} {c : Int} {a1 : Int} {a2 : Int} {a3 : Int} (H : Rel c σ) (h0 : 0 ≤ a1 ∧ a1 < σ 0 3) (h1 : σ 0 3 ≤ a2) : OpR 414 333 [(.inr (.inr (some 0))), (.inl a1), (.inl a2), (.inl a3), (.inr (.inr (some 726)))] [(.inr (.inr (some 682))), (.inl a1), (.inl a2), (.inl a3)] σ (c + 1) := by
  obtain ⟨r1, r2, r3, r4, r5⟩ := rel_n H
  have t0 := rel_p H h0
  have hA : Dd 414 [(.inr (.inr (some 0))), (.inl a1), (.inl a2), (.inl a3), (.inr (.inr (some 726)))] σ (.inl (some (.inl 1)), σ) := by
    refine b414 ?_
    have hD7 : Dd 197 [(.inr (.inr (some 0))), (.inl a1), (.inl a2), (.inl a3)] σ (.inr 0, σ) := by
      refine b197 ?_
      have hD3 : Dd 230 [(.inr (.inr (some 0))), (.inl a1)] σ (.inl (some (.inr (.inr (some (20 + 13 * ((a1)).toNat))))), σ) := by
        refine b230 ?_
        have hD1 : Dd 89 [(.inr (.inr (some 19))), (.inl a1), (.inl (σ 0 3))] σ (.inl (some (.inr (.inr (some (20 + 13 * ((a1)).toNat))))), σ) := by
          refine b89 ?_
          rw [if_pos (show (0 : Int) ≤ a1 by first | omega | (simp [upS]; done) | (simp [upS]; omega))]
          rw [if_pos (show a1 < (σ 0 3) by first | omega | (simp [upS]; done) | (simp [upS]; omega))]
          refine ⟨24, (by decide +kernel), (by decide), ?_⟩
          rw [if_pos (show a1 < ((24 : Nat) : Int) by first | omega | (simp [upS]; done) | (simp [upS]; omega))]
          refine ⟨(show 0 ≤ a1 by first | omega | (simp [upS]; done) | (simp [upS]; omega)), ?_⟩
          refine ⟨(20 + 13 * ((a1)).toNat), (el_19 (i := (a1)) (by first | omega | (simp [upS]; done) | (simp [upS]; omega))).1, (el_19 (i := (a1)) (by first | omega | (simp [upS]; done) | (simp [upS]; omega))).2, ?_⟩
          all_goals rfl
        refine ⟨_, _, hD1, ?_⟩
        clear hD1
        refine ⟨fun hz2 => (by cases hz2), fun _ hz2 => ?_⟩
        cases hz2
        refine ⟨(el_19 (i := (a1)) (by first | omega | (simp [upS]; done) | (simp [upS]; omega))).2, ?_⟩
        all_goals rfl
      refine Or.inl ⟨_, _, hD3, (el_19 (i := (a1)) (by first | omega | (simp [upS]; done) | (simp [upS]; omega))).2, ?_⟩
      clear hD3
      have hD6 : Dd 230 [(.inr (.inr (some 0))), (.inl a2)] σ (.inr 0, σ) := by
        refine b230 ?_
        have hD4 : Dd 89 [(.inr (.inr (some 19))), (.inl a2), (.inl (σ 0 3))] σ (.inl (some (.inr (.inr none))), σ) := by
          refine b89 ?_
          rw [if_pos (show (0 : Int) ≤ a2 by first | omega | (simp [upS]; done) | (simp [upS]; omega))]
          rw [if_neg (show ¬ (a2 < (σ 0 3)) by first | omega | (simp [upS]; done) | (simp [upS]; omega))]
          all_goals rfl
        refine ⟨_, _, hD4, ?_⟩
        clear hD4
        refine ⟨fun _ => ?_, fun _ hz5 => (by cases hz5)⟩
        all_goals rfl
      refine Or.inr ⟨_, _, hD6, ?_⟩
      all_goals rfl
    exact Or.inr (Or.inl ⟨_, hD7, rfl⟩)
  have hB : Dd 333 [(.inr (.inr (some 682))), (.inl a1), (.inl a2), (.inl a3)] σ (.inl (some (.inl 0)), (upS σ 682 0 1)) := by
    refine b333 ?_
    have hD9 : Dd 248 [(.inr (.inr (some 682))), (.inl a1)] σ (.inl (some (.inl 1)), σ) := by
      refine b248 ?_
      have hD8 : Dd 246 [(.inl a1), (.inl (σ 682 3))] σ (.inl (some (.inl 1)), σ) := by
        refine b246 ?_
        try rw [if_pos (show (0 : Int) ≤ a1 by first | omega | (simp [upS]; done) | (simp [upS]; omega))]
        try rw [if_pos (show a1 < (σ 682 3) by first | omega | (simp [upS]; done) | (simp [upS]; omega))]
        all_goals rfl
      refine ⟨_, _, hD8, ?_⟩
      clear hD8
      refine ⟨(show 1 = 0 ∨ 1 = 1 by first | omega | (simp [upS]; done) | (simp [upS]; omega)), ?_⟩
      all_goals rfl
    refine ⟨_, _, hD9, ?_⟩
    clear hD9
    rw [if_neg (show ¬ ((1 : Int) = 0) by first | omega | (simp [upS]; done) | (simp [upS]; omega))]
    have hD11 : Dd 248 [(.inr (.inr (some 682))), (.inl a2)] σ (.inl (some (.inl 0)), σ) := by
      refine b248 ?_
      have hD10 : Dd 246 [(.inl a2), (.inl (σ 682 3))] σ (.inl (some (.inl 0)), σ) := by
        refine b246 ?_
        try rw [if_pos (show (0 : Int) ≤ a2 by first | omega | (simp [upS]; done) | (simp [upS]; omega))]
        try rw [if_neg (show ¬ (a2 < (σ 682 3)) by first | omega | (simp [upS]; done) | (simp [upS]; omega))]
        all_goals rfl
      refine ⟨_, _, hD10, ?_⟩
      clear hD10
      refine ⟨(show 0 = 0 ∨ 0 = 1 by first | omega | (simp [upS]; done) | (simp [upS]; omega)), ?_⟩
      all_goals rfl
    refine ⟨_, _, hD11, ?_⟩
    clear hD11
    rw [if_pos (show (0 : Int) = 0 by first | omega | (simp [upS]; done) | (simp [upS]; omega))]
    refine b333_27 ?_
    refine b333_28 ?_
    rw [if_pos (show (0 : Int) = 0 by first | omega | (simp [upS]; done) | (simp [upS]; omega))]
    refine b333_48 ?_
    refine b333_49 ?_
    rw [if_pos (show (0 : Int) = 0 by first | omega | (simp [upS]; done) | (simp [upS]; omega))]
    refine b333_66 ?_
    rw [if_pos (show (0 : Int) = 0 by first | omega | (simp [upS]; done) | (simp [upS]; omega))]
    refine b333_97 ?_
    have hD12 : Dd 245 [(.inr (.inr (some 682))), (.inl 1)] σ (.inl (some (.inl 0)), (upS σ 682 0 1)) := by
      refine b245 ?_
      try rw [if_neg (show ¬ ((1 : Int) = 0) by first | omega | (simp [upS]; done) | (simp [upS]; omega))]
      all_goals rfl
    refine ⟨_, _, hD12, ?_⟩
    clear hD12
    rw [if_pos (show (0 : Int) = 0 by first | omega | (simp [upS]; done) | (simp [upS]; omega))]
    all_goals rfl
  exact op_x H (by decide) hA hB
theorem x25_4 {σ : Sg} {c : Int} {a1 : Int} {a2 : Int} {a3 : Int} (H : Rel c σ) (h0 : 0 ≤ a1 ∧ a1 < σ 0 3) (h1 : 0 ≤ a2 ∧ a2 < σ 0 3) (h2 : a3 < 0) : OpR 414 333 [(.inr (.inr (some 0))), (.inl a1), (.inl a2), (.inl a3), (.inr (.inr (some 726)))] [(.inr (.inr (some 682))), (.inl a1), (.inl a2), (.inl a3)] σ (c + 1) := by
  obtain ⟨r1, r2, r3, r4, r5⟩ := rel_n H
  have t0 := rel_p H h0
  have t1 := rel_p H h1
  have hA : Dd 414 [(.inr (.inr (some 0))), (.inl a1), (.inl a2), (.inl a3), (.inr (.inr (some 726)))] σ (.inl (some (.inl 1)), σ) := by
    refine b414 ?_
    have hD10 : Dd 197 [(.inr (.inr (some 0))), (.inl a1), (.inl a2), (.inl a3)] σ (.inr 0, σ) := by
      refine b197 ?_
      have hD3 : Dd 230 [(.inr (.inr (some 0))), (.inl a1)] σ (.inl (some (.inr (.inr (some (20 + 13 * ((a1)).toNat))))), σ) := by
        refine b230 ?_
        have hD1 : Dd 89 [(.inr (.inr (some 19))), (.inl a1), (.inl (σ 0 3))] σ (.inl (some (.inr (.inr (some (20 + 13 * ((a1)).toNat))))), σ) := by
          refine b89 ?_
          rw [if_pos (show (0 : Int) ≤ a1 by first | omega | (simp [upS]; done) | (simp [upS]; omega))]
          rw [if_pos (show a1 < (σ 0 3) by first | omega | (simp [upS]; done) | (simp [upS]; omega))]
          refine ⟨24, (by decide +kernel), (by decide), ?_⟩
          rw [if_pos (show a1 < ((24 : Nat) : Int) by first | omega | (simp [upS]; done) | (simp [upS]; omega))]
          refine ⟨(show 0 ≤ a1 by first | omega | (simp [upS]; done) | (simp [upS]; omega)), ?_⟩
          refine ⟨(20 + 13 * ((a1)).toNat), (el_19 (i := (a1)) (by first | omega | (simp [upS]; done) | (simp [upS]; omega))).1, (el_19 (i := (a1)) (by first | omega | (simp [upS]; done) | (simp [upS]; omega))).2, ?_⟩
          all_goals rfl
        refine ⟨_, _, hD1, ?_⟩
        clear hD1
        refine ⟨fun hz2 => (by cases hz2), fun _ hz2 => ?_⟩
        cases hz2
        refine ⟨(el_19 (i := (a1)) (by first | omega | (simp [upS]; done) | (simp [upS]; omega))).2, ?_⟩
        all_goals rfl
      refine Or.inl ⟨_, _, hD3, (el_19 (i := (a1)) (by first | omega | (simp [upS]; done) | (simp [upS]; omega))).2, ?_⟩
      clear hD3
      have hD6 : Dd 230 [(.inr (.inr (some 0))), (.inl a2)] σ (.inl (some (.inr (.inr (some (20 + 13 * ((a2)).toNat))))), σ) := by
        refine b230 ?_
        have hD4 : Dd 89 [(.inr (.inr (some 19))), (.inl a2), (.inl (σ 0 3))] σ (.inl (some (.inr (.inr (some (20 + 13 * ((a2)).toNat))))), σ) := by
          refine b89 ?_
          rw [if_pos (show (0 : Int) ≤ a2 by first | omega | (simp [upS]; done) | (simp [upS]; omega))]
          rw [if_pos (show a2 < (σ 0 3) by first | omega | (simp [upS]; done) | (simp [upS]; omega))]
          refine ⟨24, (by decide +kernel), (by decide), ?_⟩
          rw [if_pos (show a2 < ((24 : Nat) : Int) by first | omega | (simp [upS]; done) | (simp [upS]; omega))]
          refine ⟨(show 0 ≤ a2 by first | omega | (simp [upS]; done) | (simp [upS]; omega)), ?_⟩
          refine ⟨(20 + 13 * ((a2)).toNat), (el_19 (i := (a2)) (by first | omega | (simp [upS]; done) | (simp [upS]; omega))).1, (el_19 (i := (a2)) (by first | omega | (simp [upS]; done) | (simp [upS]; omega))).2, ?_⟩
          all_goals rfl
        refine ⟨_, _, hD4, ?_⟩
        clear hD4
        refine ⟨fun hz5 => (by cases hz5), fun _ hz5 => ?_⟩
        cases hz5
        refine ⟨(el_19 (i := (a2)) (by first | omega | (simp [upS]; done) | (simp [upS]; omega))).2, ?_⟩
        all_goals rfl
      refine Or.inl ⟨_, _, hD6, (el_19 (i := (a2)) (by first | omega | (simp [upS]; done) | (simp [upS]; omega))).2, ?_⟩
      clear hD6
      have hD9 : Dd 227 [(.inr (.inr (some 0))), (.inl a3)] σ (.inr 0, σ) := by
        refine b227 ?_
        have hD7 : Dd 145 [(.inr (.inr (some 1))), (.inl a3)] σ (.inl (some (.inr (.inr none))), σ) := by
          refine b145 ?_
          rw [if_neg (show ¬ ((0 : Int) ≤ a3) by first | omega | (simp [upS]; done) | (simp [upS]; omega))]
          all_goals rfl
        refine ⟨_, _, hD7, ?_⟩
        clear hD7
        refine ⟨fun _ => ?_, fun _ hz8 => (by cases hz8)⟩
        all_goals rfl
      refine Or.inr ⟨_, _, hD9, ?_⟩
      all_goals rfl
    exact Or.inr (Or.inl ⟨_, hD10, rfl⟩)
  have hB : Dd 333 [(.inr (.inr (some 682))), (.inl a1), (.inl a2), (.inl a3)] σ (.inl (some (.inl 0)), (upS σ 682 0 1)) := by
    refine b333 ?_
    have hD12 : Dd 248 [(.inr (.inr (some 682))), (.inl a1)] σ (.inl (some (.inl 1)), σ) := by
      refine b248 ?_
      have hD11 : Dd 246 [(.inl a1), (.inl (σ 682 3))] σ (.inl (some (.inl 1)), σ) := by
        refine b246 ?_
        try rw [if_pos (show (0 : Int) ≤ a1 by first | omega | (simp [upS]; done) | (simp [upS]; omega))]
        try rw [if_pos (show a1 < (σ 682 3) by first | omega | (simp [upS]; done) | (simp [upS]; omega))]
        all_goals rfl
      refine ⟨_, _, hD11, ?_⟩
      clear hD11
      refine ⟨(show 1 = 0 ∨ 1 = 1 by first | omega | (simp [upS]; done) | (simp [upS]; omega)), ?_⟩
      all_goals rfl
    refine ⟨_, _, hD12, ?_⟩
    clear hD12
    rw [if_neg (show ¬ ((1 : Int) = 0) by first | omega | (simp [upS]; done) | (simp [upS]; omega))]
    have hD14 : Dd 248 [(.inr (.inr (some 682))), (.inl a2)] σ (.inl (some (.inl 1)), σ) := by
      refine b248 ?_
      have hD13 : Dd 246 [(.inl a2), (.inl (σ 682 3))] σ (.inl (some (.inl 1)), σ) := by
        refine b246 ?_
        try rw [if_pos (show (0 : Int) ≤ a2 by first | omega | (simp [upS]; done) | (simp [upS]; omega))]
        try rw [if_pos (show a2 < (σ 682 3) by first | omega | (simp [upS]; done) | (simp [upS]; omega))]
        all_goals rfl
      refine ⟨_, _, hD13, ?_⟩
      clear hD13
      refine ⟨(show 1 = 0 ∨ 1 = 1 by first | omega | (simp [upS]; done) | (simp [upS]; omega)), ?_⟩
      all_goals rfl
    refine ⟨_, _, hD14, ?_⟩
    clear hD14
    rw [if_neg (show ¬ ((1 : Int) = 0) by first | omega | (simp [upS]; done) | (simp [upS]; omega))]
    have hD16 : Dd 247 [(.inl a3)] σ (.inl (some (.inl 0)), σ) := by
      refine b247 ?_
      have hD15 : Dd 246 [(.inl a3), (.inl 4)] σ (.inl (some (.inl 0)), σ) := by
        refine b246 ?_
        try rw [if_neg (show ¬ ((0 : Int) ≤ a3) by first | omega | (simp [upS]; done) | (simp [upS]; omega))]
        all_goals rfl
      refine ⟨_, _, hD15, ?_⟩
      clear hD15
      refine ⟨(show 0 = 0 ∨ 0 = 1 by first | omega | (simp [upS]; done) | (simp [upS]; omega)), ?_⟩
      all_goals rfl
    refine ⟨_, _, hD16, ?_⟩
    clear hD16
    rw [if_pos (show (0 : Int) = 0 by first | omega | (simp [upS]; done) | (simp [upS]; omega))]
    refine b333_27 ?_
    refine b333_28 ?_
    rw [if_pos (show (0 : Int) = 0 by first | omega | (simp [upS]; done) | (simp [upS]; omega))]
    refine b333_48 ?_
    refine b333_49 ?_
    rw [if_pos (show (0 : Int) = 0 by first | omega | (simp [upS]; done) | (simp [upS]; omega))]
    refine b333_66 ?_
    rw [if_pos (show (0 : Int) = 0 by first | omega | (simp [upS]; done) | (simp [upS]; omega))]
    refine b333_97 ?_
    have hD17 : Dd 245 [(.inr (.inr (some 682))), (.inl 1)] σ (.inl (some (.inl 0)), (upS σ 682 0 1)) := by
      refine b245 ?_
      try rw [if_neg (show ¬ ((1 : Int) = 0) by first | omega | (simp [upS]; done) | (simp [upS]; omega))]
      all_goals rfl
    refine ⟨_, _, hD17, ?_⟩
    clear hD17
    rw [if_pos (show (0 : Int) = 0 by first | omega | (simp [upS]; done) | (simp [upS]; omega))]
    all_goals rfl
  exact op_x H (by decide) hA hB
theorem x25_5 {σ : Sg} {c : Int} {a1 : Int} {a2 : Int} {a3 : Int} (H : Rel c σ) (h0 : 0 ≤ a1 ∧ a1 < σ 0 3) (h1 : 0 ≤ a2 ∧ a2 < σ 0 3) (h2 : 4 ≤ a3) : OpR 414 333 [(.inr (.inr (some 0))), (.inl a1), (.inl a2), (.inl a3), (.inr (.inr (some 726)))] [(.inr (.inr (some 682))), (.inl a1), (.inl a2), (.inl a3)] σ (c + 1) := by
  obtain ⟨r1, r2, r3, r4, r5⟩ := rel_n H
  have t0 := rel_p H h0
  have t1 := rel_p H h1
  have hA : Dd 414 [(.inr (.inr (some 0))), (.inl a1), (.inl a2), (.inl a3), (.inr (.inr (some 726)))] σ (.inl (some (.inl 1)), σ) := by
    refine b414 ?_
    have hD10 : Dd 197 [(.inr (.inr (some 0))), (.inl a1), (.inl a2), (.inl a3)] σ (.inr 0, σ) := by
      refine b197 ?_
      have hD3 : Dd 230 [(.inr (.inr (some 0))), (.inl a1)] σ (.inl (some (.inr (.inr (some (20 + 13 * ((a1)).toNat))))), σ) := by
        refine b230 ?_
        have hD1 : Dd 89 [(.inr (.inr (some 19))), (.inl a1), (.inl (σ 0 3))] σ (.inl (some (.inr (.inr (some (20 + 13 * ((a1)).toNat))))), σ) := by
          refine b89 ?_
          rw [if_pos (show (0 : Int) ≤ a1 by first | omega | (simp [upS]; done) | (simp [upS]; omega))]
          rw [if_pos (show a1 < (σ 0 3) by first | omega | (simp [upS]; done) | (simp [upS]; omega))]
          refine ⟨24, (by decide +kernel), (by decide), ?_⟩
          rw [if_pos (show a1 < ((24 : Nat) : Int) by first | omega | (simp [upS]; done) | (simp [upS]; omega))]
          refine ⟨(show 0 ≤ a1 by first | omega | (simp [upS]; done) | (simp [upS]; omega)), ?_⟩
          refine ⟨(20 + 13 * ((a1)).toNat), (el_19 (i := (a1)) (by first | omega | (simp [upS]; done) | (simp [upS]; omega))).1, (el_19 (i := (a1)) (by first | omega | (simp [upS]; done) | (simp [upS]; omega))).2, ?_⟩
          all_goals rfl
        refine ⟨_, _, hD1, ?_⟩
        clear hD1
        refine ⟨fun hz2 => (by cases hz2), fun _ hz2 => ?_⟩
        cases hz2
        refine ⟨(el_19 (i := (a1)) (by first | omega | (simp [upS]; done) | (simp [upS]; omega))).2, ?_⟩
        all_goals rfl
      refine Or.inl ⟨_, _, hD3, (el_19 (i := (a1)) (by first | omega | (simp [upS]; done) | (simp [upS]; omega))).2, ?_⟩
      clear hD3
      have hD6 : Dd 230 [(.inr (.inr (some 0))), (.inl a2)] σ (.inl (some (.inr (.inr (some (20 + 13 * ((a2)).toNat))))), σ) := by
        refine b230 ?_
        have hD4 : Dd 89 [(.inr (.inr (some 19))), (.inl a2), (.inl (σ 0 3))] σ (.inl (some (.inr (.inr (some (20 + 13 * ((a2)).toNat))))), σ) := by
          refine b89 ?_
          rw [if_pos (show (0 : Int) ≤ a2 by first | omega | (simp [upS]; done) | (simp [upS]; omega))]
          rw [if_pos (show a2 < (σ 0 3) by first | omega | (simp [upS]; done) | (simp [upS]; omega))]
          refine ⟨24, (by decide +kernel), (by decide), ?_⟩
          rw [if_pos (show a2 < ((24 : Nat) : Int) by first | omega | (simp [upS]; done) | (simp [upS]; omega))]
          refine ⟨(show 0 ≤ a2 by first | omega | (simp [upS]; done) | (simp [upS]; omega)), ?_⟩
          refine ⟨(20 + 13 * ((a2)).toNat), (el_19 (i := (a2)) (by first | omega | (simp [upS]; done) | (simp [upS]; omega))).1, (el_19 (i := (a2)) (by first | omega | (simp [upS]; done) | (simp [upS]; omega))).2, ?_⟩
          all_goals rfl
        refine ⟨_, _, hD4, ?_⟩
        clear hD4
        refine ⟨fun hz5 => (by cases hz5), fun _ hz5 => ?_⟩
        cases hz5
        refine ⟨(el_19 (i := (a2)) (by first | omega | (simp [upS]; done) | (simp [upS]; omega))).2, ?_⟩
        all_goals rfl
      refine Or.inl ⟨_, _, hD6, (el_19 (i := (a2)) (by first | omega | (simp [upS]; done) | (simp [upS]; omega))).2, ?_⟩
      clear hD6
      have hD9 : Dd 227 [(.inr (.inr (some 0))), (.inl a3)] σ (.inr 0, σ) := by
        refine b227 ?_
        have hD7 : Dd 145 [(.inr (.inr (some 1))), (.inl a3)] σ (.inl (some (.inr (.inr none))), σ) := by
          refine b145 ?_
          rw [if_pos (show (0 : Int) ≤ a3 by first | omega | (simp [upS]; done) | (simp [upS]; omega))]
          refine ⟨4, (by decide +kernel), (by decide), ?_⟩
          rw [if_neg (show ¬ (a3 < ((4 : Nat) : Int)) by first | omega | (simp [upS]; done) | (simp [upS]; omega))]
          all_goals rfl
        refine ⟨_, _, hD7, ?_⟩
        clear hD7
        refine ⟨fun _ => ?_, fun _ hz8 => (by cases hz8)⟩
        all_goals rfl
      refine Or.inr ⟨_, _, hD9, ?_⟩
      all_goals rfl
    exact Or.inr (Or.inl ⟨_, hD10, rfl⟩)
  have hB : Dd 333 [(.inr (.inr (some 682))), (.inl a1), (.inl a2), (.inl a3)] σ (.inl (some (.inl 0)), (upS σ 682 0 1)) := by
    refine b333 ?_
    have hD12 : Dd 248 [(.inr (.inr (some 682))), (.inl a1)] σ (.inl (some (.inl 1)), σ) := by
      refine b248 ?_
      have hD11 : Dd 246 [(.inl a1), (.inl (σ 682 3))] σ (.inl (some (.inl 1)), σ) := by
        refine b246 ?_
        try rw [if_pos (show (0 : Int) ≤ a1 by first | omega | (simp [upS]; done) | (simp [upS]; omega))]
        try rw [if_pos (show a1 < (σ 682 3) by first | omega | (simp [upS]; done) | (simp [upS]; omega))]
        all_goals rfl
      refine ⟨_, _, hD11, ?_⟩
      clear hD11
      refine ⟨(show 1 = 0 ∨ 1 = 1 by first | omega | (simp [upS]; done) | (simp [upS]; omega)), ?_⟩
      all_goals rfl
    refine ⟨_, _, hD12, ?_⟩
    clear hD12
    rw [if_neg (show ¬ ((1 : Int) = 0) by first | omega | (simp [upS]; done) | (simp [upS]; omega))]
    have hD14 : Dd 248 [(.inr (.inr (some 682))), (.inl a2)] σ (.inl (some (.inl 1)), σ) := by
      refine b248 ?_
      have hD13 : Dd 246 [(.inl a2), (.inl (σ 682 3))] σ (.inl (some (.inl 1)), σ) := by
        refine b246 ?_
        try rw [if_pos (show (0 : Int) ≤ a2 by first | omega | (simp [upS]; done) | (simp [upS]; omega))]
        try rw [if_pos (show a2 < (σ 682 3) by first | omega | (simp [upS]; done) | (simp [upS]; omega))]
        all_goals rfl
      refine ⟨_, _, hD13, ?_⟩
      clear hD13
      refine ⟨(show 1 = 0 ∨ 1 = 1 by first | omega | (simp [upS]; done) | (simp [upS]; omega)), ?_⟩
      all_goals rfl
    refine ⟨_, _, hD14, ?_⟩
    clear hD14
    rw [if_neg (show ¬ ((1 : Int) = 0) by first | omega | (simp [upS]; done) | (simp [upS]; omega))]
    have hD16 : Dd 247 [(.inl a3)] σ (.inl (some (.inl 0)), σ) := by
      refine b247 ?_
      have hD15 : Dd 246 [(.inl a3), (.inl 4)] σ (.inl (some (.inl 0)), σ) := by
        refine b246 ?_
        try rw [if_pos (show (0 : Int) ≤ a3 by first | omega | (simp [upS]; done) | (simp [upS]; omega))]
        try rw [if_neg (show ¬ (a3 < 4) by first | omega | (simp [upS]; done) | (simp [upS]; omega))]
        all_goals rfl
      refine ⟨_, _, hD15, ?_⟩
      clear hD15
      refine ⟨(show 0 = 0 ∨ 0 = 1 by first | omega | (simp [upS]; done) | (simp [upS]; omega)), ?_⟩
      all_goals rfl
    refine ⟨_, _, hD16, ?_⟩
    clear hD16
    rw [if_pos (show (0 : Int) = 0 by first | omega | (simp [upS]; done) | (simp [upS]; omega))]
    refine b333_27 ?_
    refine b333_28 ?_
    rw [if_pos (show (0 : Int) = 0 by first | omega | (simp [upS]; done) | (simp [upS]; omega))]
    refine b333_48 ?_
    refine b333_49 ?_
    rw [if_pos (show (0 : Int) = 0 by first | omega | (simp [upS]; done) | (simp [upS]; omega))]
    refine b333_66 ?_
    rw [if_pos (show (0 : Int) = 0 by first | omega | (simp [upS]; done) | (simp [upS]; omega))]
    refine b333_97 ?_
    have hD17 : Dd 245 [(.inr (.inr (some 682))), (.inl 1)] σ (.inl (some (.inl 0)), (upS σ 682 0 1)) := by
      refine b245 ?_
      try rw [if_neg (show ¬ ((1 : Int) = 0) by first | omega | (simp [upS]; done) | (simp [upS]; omega))]
      all_goals rfl
    refine ⟨_, _, hD17, ?_⟩
    clear hD17
    rw [if_pos (show (0 : Int) = 0 by first | omega | (simp [upS]; done) | (simp [upS]; omega))]
    all_goals rfl
  exact op_x H (by decide) hA hB
theorem x26_0 {σ : Sg} {c : Int} {a1 : Int} (H : Rel c σ) (h0 : a1 < 0) : OpR 415 338 [(.inr (.inr (some 0))), (.inl a1), (.inr (.inr (some 726)))] [(.inr (.inr (some 682))), (.inl a1)] σ (c + 1) := by
  obtain ⟨r1, r2, r3, r4, r5⟩ := rel_n H
  have hA : Dd 415 [(.inr (.inr (some 0))), (.inl a1), (.inr (.inr (some 726)))] σ (.inl (some (.inl 1)), σ) := by
    refine b415 ?_
    have hD4 : Dd 198 [(.inr (.inr (some 0))), (.inl a1)] σ (.inr 0, σ) := by
      refine b198 ?_
      have hD3 : Dd 227 [(.inr (.inr (some 0))), (.inl a1)] σ (.inr 0, σ) := by
        refine b227 ?_
        have hD1 : Dd 145 [(.inr (.inr (some 1))), (.inl a1)] σ (.inl (some (.inr (.inr none))), σ) := by
          refine b145 ?_
          rw [if_neg (show ¬ ((0 : Int) ≤ a1) by first | omega | (simp [upS]; done) | (simp [upS]; omega))]
          all_goals rfl
        refine ⟨_, _, hD1, ?_⟩
        clear hD1
        refine ⟨fun _ => ?_, fun _ hz2 => (by cases hz2)⟩
        all_goals rfl
      refine Or.inr ⟨_, _, hD3, ?_⟩
      all_goals rfl
    exact Or.inr (⟨_, hD4, rfl⟩)
  have hB : Dd 338 [(.inr (.inr (some 682))), (.inl a1)] σ (.inl (some (.inl 0)), (upS σ 682 0 1)) := by
    refine b338 ?_
    have hD6 : Dd 247 [(.inl a1)] σ (.inl (some (.inl 0)), σ) := by
      refine b247 ?_
      have hD5 : Dd 246 [(.inl a1), (.inl 4)] σ (.inl (some (.inl 0)), σ) := by
        refine b246 ?_
        try rw [if_neg (show ¬ ((0 : Int) ≤ a1) by first | omega | (simp [upS]; done) | (simp [upS]; omega))]
        all_goals rfl
      refine ⟨_, _, hD5, ?_⟩
      clear hD5
      refine ⟨(show 0 = 0 ∨ 0 = 1 by first | omega | (simp [upS]; done) | (simp [upS]; omega)), ?_⟩
      all_goals rfl
    refine ⟨_, _, hD6, ?_⟩
    clear hD6
    try rw [if_pos (show (0 : Int) = 0 by first | omega | (simp [upS]; done) | (simp [upS]; omega))]
    refine b338_13 ?_
    have hD7 : Dd 245 [(.inr (.inr (some 682))), (.inl 1)] σ (.inl (some (.inl 0)), (upS σ 682 0 1)) := by
      refine b245 ?_
      try rw [if_neg (show ¬ ((1 : Int) = 0) by first | omega | (simp [upS]; done) | (simp [upS]; omega))]
      all_goals rfl
    refine ⟨_, _, hD7, ?_⟩
    clear hD7
    rw [if_pos (show (0 : Int) = 0 by first | omega | (simp [upS]; done) | (simp [upS]; omega))]
    all_goals rfl
  exact op_x H (by decide) hA hB
theorem x26_1 {σ : Sg} {c : Int} {a1 : Int} (H : Rel c σ) (h0 : 4 ≤ a1) : OpR 415 338 [(.inr (.inr (some 0))), (.inl a1), (.inr (.inr (some 726)))] [(.inr (.inr (some 682))), (.inl a1)] σ (c + 1) := by
  obtain ⟨r1, r2, r3, r4, r5⟩ := rel_n H
  have hA : Dd 415 [(.inr (.inr (some 0))), (.inl a1), (.inr (.inr (some 726)))] σ (.inl (some (.inl 1)), σ) := by
    refine b415 ?_
    have hD4 : Dd 198 [(.inr (.inr (some 0))), (.inl a1)] σ (.inr 0, σ) := by
      refine b198 ?_
      have hD3 : Dd 227 [(.inr (.inr (some 0))), (.inl a1)] σ (.inr 0, σ) := by
        refine b227 ?_
        have hD1 : Dd 145 [(.inr (.inr (some 1))), (.inl a1)] σ (.inl (some (.inr (.inr none))), σ) := by
          refine b145 ?_
          rw [if_pos (show (0 : Int) ≤ a1 by first | omega | (simp [upS]; done) | (simp [upS]; omega))]
          refine ⟨4, (by decide +kernel), (by decide), ?_⟩
          rw [if_neg (show ¬ (a1 < ((4 : Nat) : Int)) by first | omega | (simp [upS]; done) | (simp [upS]; omega))]
          all_goals rfl
        refine ⟨_, _, hD1, ?_⟩
        clear hD1
        refine ⟨fun _ => ?_, fun _ hz2 => (by cases hz2)⟩
        all_goals rfl
      refine Or.inr ⟨_, _, hD3, ?_⟩
      all_goals rfl
    exact Or.inr (⟨_, hD4, rfl⟩)
  have hB : Dd 338 [(.inr (.inr (some 682))), (.inl a1)] σ (.inl (some (.inl 0)), (upS σ 682 0 1)) := by
    refine b338 ?_
    have hD6 : Dd 247 [(.inl a1)] σ (.inl (some (.inl 0)), σ) := by
      refine b247 ?_
      have hD5 : Dd 246 [(.inl a1), (.inl 4)] σ (.inl (some (.inl 0)), σ) := by
        refine b246 ?_
        try rw [if_pos (show (0 : Int) ≤ a1 by first | omega | (simp [upS]; done) | (simp [upS]; omega))]
        try rw [if_neg (show ¬ (a1 < 4) by first | omega | (simp [upS]; done) | (simp [upS]; omega))]
        all_goals rfl
      refine ⟨_, _, hD5, ?_⟩
      clear hD5
      refine ⟨(show 0 = 0 ∨ 0 = 1 by first | omega | (simp [upS]; done) | (simp [upS]; omega)), ?_⟩
      all_goals rfl
    refine ⟨_, _, hD6, ?_⟩
    clear hD6
    try rw [if_pos (show (0 : Int) = 0 by first | omega | (simp [upS]; done) | (simp [upS]; omega))]
    refine b338_13 ?_
    have hD7 : Dd 245 [(.inr (.inr (some 682))), (.inl 1)] σ (.inl (some (.inl 0)), (upS σ 682 0 1)) := by
      refine b245 ?_
      try rw [if_neg (show ¬ ((1 : Int) = 0) by first | omega | (simp [upS]; done) | (simp [upS]; omega))]
      all_goals rfl
    refine ⟨_, _, hD7, ?_⟩
    clear hD7
    rw [if_pos (show (0 : Int) = 0 by first | omega | (simp [upS]; done) | (simp [upS]; omega))]
    all_goals rfl
  exact op_x H (by decide) hA hB
theorem x27_0 {σ : Sg} {c : Int} {a1 : Int} {a2 : Int} {a3 : Int} (H : Rel c σ) (h0 : a1 < 0) : OpR 416 339 [(.inr (.inr (some 0))), (.inl a1), (.inl a2), (.inl a3), (.inr (.inr (some 726)))] [(.inr (.inr (some 682))), (.inl a1), (.inl a2), (.inl a3)] σ (c + 1) := by
  obtain ⟨r1, r2, r3, r4, r5⟩ := rel_n H
  have hA : Dd 416 [(.inr (.inr (some 0))), (.inl a1), (.inl a2), (.inl a3), (.inr (.inr (some 726)))] σ (.inl (some (.inl 1)), σ) := by
    refine b416 ?_
    have hD4 : Dd 199 [(.inr (.inr (some 0))), (.inl a1), (.inl a2), (.inl a3)] σ (.inr 0, σ) := by
      refine b199 ?_
      have hD3 : Dd 227 [(.inr (.inr (some 0))), (.inl a1)] σ (.inr 0, σ) := by
        refine b227 ?_
        have hD1 : Dd 145 [(.inr (.inr (some 1))), (.inl a1)] σ (.inl (some (.inr (.inr none))), σ) := by
          refine b145 ?_
          rw [if_neg (show ¬ ((0 : Int) ≤ a1) by first | omega | (simp [upS]; done) | (simp [upS]; omega))]
          all_goals rfl
        refine ⟨_, _, hD1, ?_⟩
        clear hD1
        refine ⟨fun _ => ?_, fun _ hz2 => (by cases hz2)⟩
        all_goals rfl
      refine Or.inr ⟨_, _, hD3, ?_⟩
      all_goals rfl
    exact Or.inr (Or.inl ⟨_, hD4, rfl⟩)
  have hB : Dd 339 [(.inr (.inr (some 682))), (.inl a1), (.inl a2), (.inl a3)] σ (.inl (some (.inl 0)), (upS σ 682 0 1)) := by
    refine b339 ?_
    have hD6 : Dd 247 [(.inl a1)] σ (.inl (some (.inl 0)), σ) := by
      refine b247 ?_
      have hD5 : Dd 246 [(.inl a1), (.inl 4)] σ (.inl (some (.inl 0)), σ) := by
        refine b246 ?_
        try rw [if_neg (show ¬ ((0 : Int) ≤ a1) by first | omega | (simp [upS]; done) | (simp [upS]; omega))]
        all_goals rfl
      refine ⟨_, _, hD5, ?_⟩
      clear hD5
      refine ⟨(show 0 = 0 ∨ 0 = 1 by first | omega | (simp [upS]; done) | (simp [upS]; omega)), ?_⟩
      all_goals rfl
    refine ⟨_, _, hD6, ?_⟩
    clear hD6
    rw [if_pos (show (0 : Int) = 0 by first | omega | (simp [upS]; done) | (simp [upS]; omega))]
    refine b339_23 ?_
    refine b339_24 ?_
    rw [if_pos (show (0 : Int) = 0 by first | omega | (simp [upS]; done) | (simp [upS]; omega))]
    refine b339_51 ?_
    have hD7 : Dd 245 [(.inr (.inr (some 682))), (.inl 1)] σ (.inl (some (.inl 0)), (upS σ 682 0 1)) := by
      refine b245 ?_
      try rw [if_neg (show ¬ ((1 : Int) = 0) by first | omega | (simp [upS]; done) | (simp [upS]; omega))]
      all_goals rfl
    refine ⟨_, _, hD7, ?_⟩
    clear hD7
    rw [if_pos (show (0 : Int) = 0 by first | omega | (simp [upS]; done) | (simp [upS]; omega))]
    all_goals rfl
  exact op_x H (by decide) hA hB
theorem x27_1 {σ : Sg} {c : Int} {a1 : Int} {a2 : Int} {a3 : Int} (H : Rel c σ) (h0 : 4 ≤ a1) : OpR 416 339 [(.inr (.inr (some 0))), (.inl a1), (.inl a2), (.inl a3), (.inr (.inr (some 726)))] [(.inr (.inr (some 682))), (.inl a1), (.inl a2), (.inl a3)] σ (c + 1) := by
  obtain ⟨r1, r2, r3, r4, r5⟩ := rel_n H
  have hA : Dd 416 [(.inr (.inr (some 0))), (.inl a1), (.inl a2), (.inl a3), (.inr (.inr (some 726)))] σ (.inl (some (.inl 1)), σ) := by
    refine b416 ?_
    have hD4 : Dd 199 [(.inr (.inr (some 0))), (.inl a1), (.inl a2), (.inl a3)] σ (.inr 0, σ) := by
      refine b199 ?_
      have hD3 : Dd 227 [(.inr (.inr (some 0))), (.inl a1)] σ (.inr 0, σ) := by
        refine b227 ?_
        have hD1 : Dd 145 [(.inr (.inr (some 1))), (.inl a1)] σ (.inl (some (.inr (.inr none))), σ) := by
          refine b145 ?_
          rw [if_pos (show (0 : Int) ≤ a1 by first | omega | (simp [upS]; done) | (simp [upS]; omega))]
          refine ⟨4, (by decide +kernel), (by decide), ?_⟩
          rw [if_neg (show ¬ (a1 < ((4 : Nat) : Int)) by first | omega | (simp [upS]; done) | (simp [upS]; omega))]
          all_goals rfl
        refine ⟨_, _, hD1, ?_⟩
        clear hD1
        refine ⟨fun _ => ?_, fun _ hz2 => (by cases hz2)⟩
        all_goals rfl
      refine Or.inr ⟨_, _, hD3, ?_⟩
      all_goals rfl
    exact Or.inr (Or.inl ⟨_, hD4, rfl⟩)
  have hB : Dd 339 [(.inr (.inr (some 682))), (.inl a1), (.inl a2), (.inl a3)] σ (.inl (some (.inl 0)), (upS σ 682 0 1)) := by
    refine b339 ?_
    have hD6 : Dd 247 [(.inl a1)] σ (.inl (some (.inl 0)), σ) := by
      refine b247 ?_
      have hD5 : Dd 246 [(.inl a1), (.inl 4)] σ (.inl (some (.inl 0)), σ) := by
        refine b246 ?_
        try rw [if_pos (show (0 : Int) ≤ a1 by first | omega | (simp [upS]; done) | (simp [upS]; omega))]
        try rw [if_neg (show ¬ (a1 < 4) by first | omega | (simp [upS]; done) | (simp [upS]; omega))]
        all_goals rfl
      refine ⟨_, _, hD5, ?_⟩
      clear hD5
      refine ⟨(show 0 = 0 ∨ 0 = 1 by first | omega | (simp [upS]; done) | (simp [upS]; omega)), ?_⟩
      all_goals rfl
    refine ⟨_, _, hD6, ?_⟩
    clear hD6
    rw [if_pos (show (0 : Int) = 0 by first | omega | (simp [upS]; done) | (simp [upS]; omega))]
    refine b339_23 ?_
    refine b339_24 ?_
    rw [if_pos (show (0 : Int) = 0 by first | omega | (simp [upS]; done) | (simp [upS]; omega))]
    refine b339_51 ?_
    have hD7 : Dd 245 [(.inr (.inr (some 682))), (.inl 1)] σ (.inl (some (.inl 0)), (upS σ 682 0 1)) := by
      refine b245 ?_
      try rw [if_neg (show ¬ ((1 : Int) = 0) by first | omega | (simp [upS]; done) | (simp [upS]; omega))]
      all_goals rfl
    refine ⟨_, _, hD7, ?_⟩
    clear hD7
    rw [if_pos (show (0 : Int) = 0 by first | omega | (simp [upS]; done) | (simp [upS]; omega))]
    all_goals rfl
  exact op_x H (by decide) hA hB
theorem x28_0 {σ : Sg} {c : Int} {a1 : Int} (H : Rel c σ) (h0 : a1 < 0) : OpR 417 343 [(.inr (.inr (some 0))), (.inl a1), (.inr (.inr (some 726)))] [(.inr (.inr (some 682))), (.inl a1)] σ (c + 1) := by
  obtain ⟨r1, r2, r3, r4, r5⟩ := rel_n H
  have hA : Dd 417 [(.inr (.inr (some 0))), (.inl a1), (.inr (.inr (some 726)))] σ (.inl (some (.inl 1)), σ) := by
    refine b417 ?_
    have hD4 : Dd 200 [(.inr (.inr (some 0))), (.inl a1)] σ (.inr 0, σ) := by
      refine b200 ?_
      have hD3 : Dd 227 [(.inr (.inr (some 0))), (.inl a1)] σ (.inr 0, σ) := by
        refine b227 ?_
        have hD1 : Dd 145 [(.inr (.inr (some 1))), (.inl a1)] σ (.inl (some (.inr (.inr none))), σ) := by
          refine b145 ?_
          rw [if_neg (show ¬ ((0 : Int) ≤ a1) by first | omega | (simp [upS]; done) | (simp [upS]; omega))]
          all_goals rfl
        refine ⟨_, _, hD1, ?_⟩
        clear hD1
        refine ⟨fun _ => ?_, fun _ hz2 => (by cases hz2)⟩
        all_goals rfl
      refine Or.inr ⟨_, _, hD3, ?_⟩
      all_goals rfl
    exact Or.inr (Or.inl ⟨_, hD4, rfl⟩)
  have hB : Dd 343 [(.inr (.inr (some 682))), (.inl a1)] σ (.inl (some (.inl 0)), (upS σ 682 0 1)) := by
    refine b343 ?_
    have hD6 : Dd 247 [(.inl a1)] σ (.inl (some (.inl 0)), σ) := by
      refine b247 ?_
      have hD5 : Dd 246 [(.inl a1), (.inl 4)] σ (.inl (some (.inl 0)), σ) := by
        refine b246 ?_
        try rw [if_neg (show ¬ ((0 : Int) ≤ a1) by first | omega | (simp [upS]; done) | (simp [upS]; omega))]
        all_goals rfl
      refine ⟨_, _, hD5, ?_⟩
      clear hD5
      refine ⟨(show 0 = 0 ∨ 0 = 1 by first | omega | (simp [upS]; done) | (simp [upS]; omega)), ?_⟩
      all_goals rfl
    refine ⟨_, _, hD6, ?_⟩
    clear hD6
    try rw [if_pos (show (0 : Int) = 0 by first | omega | (simp [upS]; done) | (simp [upS]; omega))]
    refine b343_24 ?_
    have hD7 : Dd 245 [(.inr (.inr (some 682))), (.inl 1)] σ (.inl (some (.inl 0)), (upS σ 682 0 1)) := by
      refine b245 ?_
      try rw [if_neg (show ¬ ((1 : Int) = 0) by first | omega | (simp [upS]; done) | (simp [upS]; omega))]
      all_goals rfl
    refine ⟨_, _, hD7, ?_⟩
    clear hD7
    rw [if_pos (show (0 : Int) = 0 by first | omega | (simp [upS]; done) | (simp [upS]; omega))]
    all_goals rfl
  exact op_x H (by decide) hA hB
theorem x28_1 {σ : Sg} {c : Int} {a1 : Int} (H : Rel c σ) (h0 : 4 ≤ a1) : OpR 417 343 [(.inr (.inr (some 0))), (.inl a1), (.inr (.inr (some 726)))] [(.inr (.inr (some 682))), (.inl a1)] σ (c + 1) := by
  obtain ⟨r1, r2, r3, r4, r5⟩ := rel_n H
  have hA : Dd 417 [(.inr (.inr (some 0))), (.inl a1), (.inr (.inr (some 726)))] σ (.inl (some (.inl 1)), σ) := by
    refine b417 ?_
    have hD4 : Dd 200 [(.inr (.inr (some 0))), (.inl a1)] σ (.inr 0, σ) := by
      refine b200 ?_
      have hD3 : Dd 227 [(.inr (.inr (some 0))), (.inl a1)] σ (.inr 0, σ) := by
        refine b227 ?_
        have hD1 : Dd 145 [(.inr (.inr (some 1))), (.inl a1)] σ (.inl (some (.inr (.inr none))), σ) := by
          refine b145 ?_
          rw [if_pos (show (0 : Int) ≤ a1 by first | omega | (simp [upS]; done) | (simp [upS]; omega))]
          refine ⟨4, (by decide +kernel), (by decide), ?_⟩
          rw [if_neg (show ¬ (a1 < ((4 : Nat) : Int)) by first | omega | (simp [upS]; done) | (simp [upS]; omega))]
          all_goals rfl
        refine ⟨_, _, hD1, ?_⟩
        clear hD1
        refine ⟨fun _ => ?_, fun _ hz2 => (by cases hz2)⟩
        all_goals rfl
      refine Or.inr ⟨_, _, hD3, ?_⟩
      all_goals rfl
    exact Or.inr (Or.inl ⟨_, hD4, rfl⟩)
  have hB : Dd 343 [(.inr (.inr (some 682))), (.inl a1)] σ (.inl (some (.inl 0)), (upS σ 682 0 1)) := by
    refine b343 ?_
    have hD6 : Dd 247 [(.inl a1)] σ (.inl (some (.inl 0)), σ) := by
      refine b247 ?_
      have hD5 : Dd 246 [(.inl a1), (.inl 4)] σ (.inl (some (.inl 0)), σ) := by
        refine b246 ?_
        try rw [if_pos (show (0 : Int) ≤ a1 by first | omega | (simp [upS]; done) | (simp [upS]; omega))]
        try rw [if_neg (show ¬ (a1 < 4) by first | omega | (simp [upS]; done) | (simp [upS]; omega))]
        all_goals rfl
      refine ⟨_, _, hD5, ?_⟩
      clear hD5
      refine ⟨(show 0 = 0 ∨ 0 = 1 by first | omega | (simp [upS]; done) | (simp [upS]; omega)), ?_⟩
      all_goals rfl
    refine ⟨_, _, hD6, ?_⟩
    clear hD6
    try rw [if_pos (show (0 : Int) = 0 by first | omega | (simp [upS]; done) | (simp [upS]; omega))]
    refine b343_24 ?_
    have hD7 : Dd 245 [(.inr (.inr (some 682))), (.inl 1)] σ (.inl (some (.inl 0)), (upS σ 682 0 1)) := by
      refine b245 ?_
      try rw [if_neg (show ¬ ((1 : Int) = 0) by first | omega | (simp [upS]; done) | (simp [upS]; omega))]
      all_goals rfl
    refine ⟨_, _, hD7, ?_⟩
    clear hD7
    rw [if_pos (show (0 : Int) = 0 by first | omega | (simp [upS]; done) | (simp [upS]; omega))]
    all_goals rfl
  exact op_x H (by decide) hA hB
theorem x29_0 {σ : Sg} {c : Int} {a1 : Int} (H : Rel c σ) (h0 : a1 < 0) : OpR 418 345 [(.inr (.inr (some 0))), (.inl a1), (.inr (.inr (some 726)))] [(.inr (.inr (some 682))), (.inl a1)] σ (c + 1) := by
  obtain ⟨r1, r2, r3, r4, r5⟩ := rel_n H
  have hA : Dd 418 [(.inr (.inr (some 0))), (.inl a1), (.inr (.inr (some 726)))] σ (.inl (some (.inl 1)), σ) := by
    refine b418 ?_
    have hD4 : Dd 201 [(.inr (.inr (some 0))), (.inl a1)] σ (.inr 0, σ) := by
      refine b201 ?_
      have hD3 : Dd 230 [(.inr (.inr (some 0))), (.inl a1)] σ (.inr 0, σ) := by
        refine b230 ?_
        have hD1 : Dd 89 [(.inr (.inr (some 19))), (.inl a1), (.inl (σ 0 3))] σ (.inl (some (.inr (.inr none))), σ) := by
          refine b89 ?_
          rw [if_neg (show ¬ ((0 : Int) ≤ a1) by first | omega | (simp [upS]; done) | (simp [upS]; omega))]
          all_goals rfl
        refine ⟨_, _, hD1, ?_⟩
        clear hD1
        refine ⟨fun _ => ?_, fun _ hz2 => (by cases hz2)⟩
        all_goals rfl
      refine Or.inr ⟨_, _, hD3, ?_⟩
      all_goals rfl
    exact Or.inr (Or.inl ⟨_, hD4, rfl⟩)
  have hB : Dd 345 [(.inr (.inr (some 682))), (.inl a1)] σ (.inl (some (.inl 0)), (upS σ 682 0 1)) := by
    refine b345 ?_
    have hD6 : Dd 248 [(.inr (.inr (some 682))), (.inl a1)] σ (.inl (some (.inl 0)), σ) := by
      refine b248 ?_
      have hD5 : Dd 246 [(.inl a1), (.inl (σ 682 3))] σ (.inl (some (.inl 0)), σ) := by
        refine b246 ?_
        try rw [if_neg (show ¬ ((0 : Int) ≤ a1) by first | omega | (simp [upS]; done) | (simp [upS]; omega))]
        all_goals rfl
      refine ⟨_, _, hD5, ?_⟩
      clear hD5
      refine ⟨(show 0 = 0 ∨ 0 = 1 by first | omega | (simp [upS]; done) | (simp [upS]; omega)), ?_⟩
      all_goals rfl
    refine ⟨_, _, hD6, ?_⟩
    clear hD6
    rw [if_pos (show (0 : Int) = 0 by first | omega | (simp [upS]; done) | (simp [upS]; omega))]
    refine b345_36 ?_
    have hD7 : Dd 245 [(.inr (.inr (some 682))), (.inl 1)] σ (.inl (some (.inl 0)), (upS σ 682 0 1)) := by
      refine b245 ?_
      try rw [if_neg (show ¬ ((1 : Int) = 0) by first | omega | (simp [upS]; done) | (simp [upS]; omega))]
      all_goals rfl
    refine ⟨_, _, hD7, ?_⟩
    clear hD7
    rw [if_pos (show (0 : Int) = 0 by first | omega | (simp [upS]; done) | (simp [upS]; omega))]
    all_goals rfl
  exact op_x H (by decide) hA hB
theorem x29_1 {σ : Sg} {c : Int} {a1 : Int} (H : Rel c σ) (h0 : σ 0 3 ≤ a1) : OpR 418 345 [(.inr (.inr (some 0))), (.inl a1), (.inr (.inr (some 726)))] [(.inr (.inr (some 682))), (.inl a1)] σ (c + 1) := by
  obtain ⟨r1, r2, r3, r4, r5⟩ := rel_n H
  have hA : Dd 418 [(.inr (.inr (some 0))), (.inl a1), (.inr (.inr (some 726)))] σ (.inl (some (.inl 1)), σ) := by
    refine b418 ?_
    have hD4 : Dd 201 [(.inr (.inr (some 0))), (.inl a1)] σ (.inr 0, σ) := by
      refine b201 ?_
      have hD3 : Dd 230 [(.inr (.inr (some 0))), (.inl a1)] σ (.inr 0, σ) := by
        refine b230 ?_
        have hD1 : Dd 89 [(.inr (.inr (some 19))), (.inl a1), (.inl (σ 0 3))] σ (.inl (some (.inr (.inr none))), σ) := by
          refine b89 ?_
          rw [if_pos (show (0 : Int) ≤ a1 by first | omega | (simp [upS]; done) | (simp [upS]; omega))]
          rw [if_neg (show ¬ (a1 < (σ 0 3)) by first | omega | (simp [upS]; done) | (simp [upS]; omega))]
          all_goals rfl
        refine ⟨_, _, hD1, ?_⟩
        clear hD1
        refine ⟨fun _ => ?_, fun _ hz2 => (by cases hz2)⟩
        all_goals rfl
      refine Or.inr ⟨_, _, hD3, ?_⟩
      all_goals rfl
    exact Or.inr (Or.inl ⟨_, hD4, rfl⟩)
  have hB : Dd 345 [(.inr (.inr (some 682))), (.inl a1)] σ (.inl (some (.inl 0)), (upS σ 682 0 1)) := by
    refine b345 ?_
    have hD6 : Dd 248 [(.inr (.inr (some 682))), (.inl a1)] σ (.inl (some (.inl 0)), σ) := by
      refine b248 ?_
      have hD5 : Dd 246 [(.inl a1), (.inl (σ 682 3))] σ (.inl (some (.inl 0)), σ) := by
        refine b246 ?_
        try rw [if_pos (show (0 : Int) ≤ a1 by first | omega | (simp [upS]; done) | (simp [upS]; omega))]
        try rw [if_neg (show ¬ (a1 < (σ 682 3)) by first | omega | (simp [upS]; done) | (simp [upS]; omega))]
        all_goals rfl
      refine ⟨_, _, hD5, ?_⟩
      clear hD5
      refine ⟨(show 0 = 0 ∨ 0 = 1 by first | omega | (simp [upS]; done) | (simp [upS]; omega)), ?_⟩
      all_goals rfl
    refine ⟨_, _, hD6, ?_⟩
    clear hD6
    rw [if_pos (show (0 : Int) = 0 by first | omega | (simp [upS]; done) | (simp [upS]; omega))]
    refine b345_36 ?_
    have hD7 : Dd 245 [(.inr (.inr (some 682))), (.inl 1)] σ (.inl (some (.inl 0)), (upS σ 682 0 1)) := by
      refine b245 ?_
      try rw [if_neg (show ¬ ((1 : Int) = 0) by first | omega | (simp [upS]; done) | (simp [upS]; omega))]
      all_goals rfl
    refine ⟨_, _, hD7, ?_⟩
    clear hD7
    rw [if_pos (show (0 : Int) = 0 by first | omega | (simp [upS]; done) | (simp [upS]; omega))]
    all_goals rfl
  exact op_x H (by decide) hA hB
theorem x31_0 {σ : Sg} {c : Int} {a1 : Int} (H : Rel c σ) (h0 : a1 < 0) : OpR 420 347 [(.inr (.inr (some 0))), (.inl a1), (.inr (.inr (some 726)))] [(.inr (.inr (some 682))), (.inl a1)] σ (c + 1) := by
  obtain ⟨r1, r2, r3, r4, r5⟩ := rel_n H
  have hA : Dd 420 [(.inr (.inr (some 0))), (.inl a1), (.inr (.inr (some 726)))] σ (.inl (some (.inl 1)), σ) := by
    refine b420 ?_
    have hD4 : Dd 203 [(.inr (.inr (some 0))), (.inl a1)] σ (.inr 0, σ) := by
      refine b203 ?_
      have hD3 : Dd 231 [(.inr (.inr (some 0))), (.inl a1)] σ (.inr 0, σ) := by
        refine b231 ?_
        have hD1 : Dd 89 [(.inr (.inr (some 405))), (.inl a1), (.inl (σ 402 3))] σ (.inl (some (.inr (.inr none))), σ) := by
          refine b89 ?_
          rw [if_neg (show ¬ ((0 : Int) ≤ a1) by first | omega | (simp [upS]; done) | (simp [upS]; omega))]
          all_goals rfl
        refine ⟨_, _, hD1, ?_⟩
        clear hD1
        refine ⟨fun _ => ?_, fun _ hz2 => (by cases hz2)⟩
        all_goals rfl
      refine Or.inr ⟨_, _, hD3, ?_⟩
      all_goals rfl
    exact Or.inr (Or.inl ⟨_, hD4, rfl⟩)
  have hB : Dd 347 [(.inr (.inr (some 682))), (.inl a1)] σ (.inl (some (.inl 0)), (upS σ 682 0 1)) := by
    refine b347 ?_
    have hD6 : Dd 340 [(.inr (.inr (some 682))), (.inl a1)] σ (.inl (some (.inl 0)), σ) := by
      refine b340 ?_
      have hD5 : Dd 246 [(.inl a1), (.inl (σ 682 40))] σ (.inl (some (.inl 0)), σ) := by
        refine b246 ?_
        try rw [if_neg (show ¬ ((0 : Int) ≤ a1) by first | omega | (simp [upS]; done) | (simp [upS]; omega))]
        all_goals rfl
      refine ⟨_, _, hD5, ?_⟩
      clear hD5
      refine ⟨(show 0 = 0 ∨ 0 = 1 by first | omega | (simp [upS]; done) | (simp [upS]; omega)), ?_⟩
      all_goals rfl
    refine ⟨_, _, hD6, ?_⟩
    clear hD6
    try rw [if_pos (show (0 : Int) = 0 by first | omega | (simp [upS]; done) | (simp [upS]; omega))]
    refine b347_27 ?_
    have hD7 : Dd 245 [(.inr (.inr (some 682))), (.inl 1)] σ (.inl (some (.inl 0)), (upS σ 682 0 1)) := by
      refine b245 ?_
      try rw [if_neg (show ¬ ((1 : Int) = 0) by first | omega | (simp [upS]; done) | (simp [upS]; omega))]
      all_goals rfl
    refine ⟨_, _, hD7, ?_⟩
    clear hD7
    rw [if_pos (show (0 : Int) = 0 by first | omega | (simp [upS]; done) | (simp [upS]; omega))]
    all_goals rfl
  exact op_x H (by decide) hA hB
theorem x31_1 {σ : Sg} {c : Int} {a1 : Int} (H : Rel c σ) (h0 : σ 402 3 ≤ a1) : OpR 420 347 [(.inr (.inr (some 0))), (.inl a1), (.inr (.inr (some 726)))] [(.inr (.inr (some 682))), (.inl a1)] σ (c + 1) := by
  obtain ⟨r1, r2, r3, r4, r5⟩ := rel_n H
  have hA : Dd 420 [(.inr (.inr (some 0))), (.inl a1), (.inr (.inr (some 726)))] σ (.inl (some (.inl 1)), σ) := by
    refine b420 ?_
    have hD4 : Dd 203 [(.inr (.inr (some 0))), (.inl a1)] σ (.inr 0, σ) := by
      refine b203 ?_
      have hD3 : Dd 231 [(.inr (.inr (some 0))), (.inl a1)] σ (.inr 0, σ) := by
        refine b231 ?_
        have hD1 : Dd 89 [(.inr (.inr (some 405))), (.inl a1), (.inl (σ 402 3))] σ (.inl (some (.inr (.inr none))), σ) := by
          refine b89 ?_
          rw [if_pos (show (0 : Int) ≤ a1 by first | omega | (simp [upS]; done) | (simp [upS]; omega))]
          rw [if_neg (show ¬ (a1 < (σ 402 3)) by first | omega | (simp [upS]; done) | (simp [upS]; omega))]
          all_goals rfl
        refine ⟨_, _, hD1, ?_⟩
        clear hD1
        refine ⟨fun _ => ?_, fun _ hz2 => (by cases hz2)⟩
        all_goals rfl
      refine Or.inr ⟨_, _, hD3, ?_⟩
      all_goals rfl
    exact Or.inr (Or.inl ⟨_, hD4, rfl⟩)
  have hB : Dd 347 [(.inr (.inr (some 682))), (.inl a1)] σ (.inl (some (.inl 0)), (upS σ 682 0 1)) := by
    refine b347 ?_
    have hD6 : Dd 340 [(.inr (.inr (some 682))), (.inl a1)] σ (.inl (some (.inl 0)), σ) := by
      refine b340 ?_
      have hD5 : Dd 246 [(.inl a1), (.inl (σ 682 40))] σ (.inl (some (.inl 0)), σ) := by
        refine b246 ?_
        try rw [if_pos (show (0 : Int) ≤ a1 by first | omega | (simp [upS]; done) | (simp [upS]; omega))]
        try rw [if_neg (show ¬ (a1 < (σ 682 40)) by first | omega | (simp [upS]; done) | (simp [upS]; omega))]
        all_goals rfl
      refine ⟨_, _, hD5, ?_⟩
      clear hD5
      refine ⟨(show 0 = 0 ∨ 0 = 1 by first | omega | (simp [upS]; done) | (simp [upS]; omega)), ?_⟩
      all_goals rfl
    refine ⟨_, _, hD6, ?_⟩
    clear hD6
    try rw [if_pos (show (0 : Int) = 0 by first | omega | (simp [upS]; done) | (simp [upS]; omega))]
    refine b347_27 ?_
    have hD7 : Dd 245 [(.inr (.inr (some 682))), (.inl 1)] σ (.inl (some (.inl 0)), (upS σ 682 0 1)) := by
      refine b245 ?_
      try rw [if_neg (show ¬ ((1 : Int) = 0) by first | omega | (simp [upS]; done) | (simp [upS]; omega))]
      all_goals rfl
    refine ⟨_, _, hD7, ?_⟩
    clear hD7
    rw [if_pos (show (0 : Int) = 0 by first | omega | (simp [upS]; done) | (simp [upS]; omega))]
    all_goals rfl
  exact op_x H (by decide) hA hB
theorem x32_0 {σ : Sg} {c : Int} {a1 : Int} (H : Rel c σ) (h0 : a1 < 0) : OpR 421 348 [(.inr (.inr (some 0))), (.inl a1), (.inr (.inr (some 726)))] [(.inr (.inr (some 682))), (.inl a1)] σ (c + 1) := by
  obtain ⟨r1, r2, r3, r4, r5⟩ := rel_n H
  have hA : Dd 421 [(.inr (.inr (some 0))), (.inl a1), (.inr (.inr (some 726)))] σ (.inl (some (.inl 1)), σ) := by
    refine b421 ?_
    have hD2 : Dd 204 [(.inr (.inr (some 0))), (.inl a1)] σ (.inr 0, σ) := by
      refine b204 ?_
      refine ⟨(show -2147483648 ≤ ((σ 402 3) - 1) ∧ ((σ 402 3) - 1) ≤ 2147483647 by first | omega | (simp [upS]; done) | (simp [upS]; omega)), ?_⟩
      have hD1 : Dd 232 [(.inr (.inr (some 0))), (.inl a1), (.inl ((σ 402 3) - 1))] σ (.inr 0, σ) := by
        refine b232 ?_
        rw [if_neg (show ¬ ((0 : Int) ≤ a1) by first | omega | (simp [upS]; done) | (simp [upS]; omega))]
        refine b232_9 ?_
        all_goals rfl
      refine Or.inr ⟨_, _, hD1, ?_⟩
      all_goals rfl
    exact Or.inr (Or.inl ⟨_, hD2, rfl⟩)
  have hB : Dd 348 [(.inr (.inr (some 682))), (.inl a1)] σ (.inl (some (.inl 0)), (upS σ 682 0 1)) := by
    refine b348 ?_
    have hD4 : Dd 340 [(.inr (.inr (some 682))), (.inl a1)] σ (.inl (some (.inl 0)), σ) := by
      refine b340 ?_
      have hD3 : Dd 246 [(.inl a1), (.inl (σ 682 40))] σ (.inl (some (.inl 0)), σ) := by
        refine b246 ?_
        try rw [if_neg (show ¬ ((0 : Int) ≤ a1) by first | omega | (simp [upS]; done) | (simp [upS]; omega))]
        all_goals rfl
      refine ⟨_, _, hD3, ?_⟩
      clear hD3
      refine ⟨(show 0 = 0 ∨ 0 = 1 by first | omega | (simp [upS]; done) | (simp [upS]; omega)), ?_⟩
      all_goals rfl
    refine ⟨_, _, hD4, ?_⟩
    clear hD4
    rw [if_pos (show (0 : Int) = 0 by first | omega | (simp [upS]; done) | (simp [upS]; omega))]
    refine b348_22 ?_
    refine b348_23 ?_
    rw [if_pos (show (0 : Int) = 0 by first | omega | (simp [upS]; done) | (simp [upS]; omega))]
    refine b348_49 ?_
    refine b348_50 ?_
    rw [if_pos (show (0 : Int) = 0 by first | omega | (simp [upS]; done) | (simp [upS]; omega))]
    refine b348_73 ?_
    rw [if_pos (show (0 : Int) = 0 by first | omega | (simp [upS]; done) | (simp [upS]; omega))]
    refine b348_103 ?_
    have hD5 : Dd 245 [(.inr (.inr (some 682))), (.inl 1)] σ (.inl (some (.inl 0)), (upS σ 682 0 1)) := by
      refine b245 ?_
      try rw [if_neg (show ¬ ((1 : Int) = 0) by first | omega | (simp [upS]; done) | (simp [upS]; omega))]
      all_goals rfl
    refine ⟨_, _, hD5, ?_⟩
    clear hD5
    rw [if_pos (show (0 : Int) = 0 by first | omega | (simp [upS]; done) | (simp [upS]; omega))]
    all_goals rfl
  exact op_x H (by decide) hA hB
theorem x32_1 {σ : Sg} {c : Int} {a1 : Int} (H : Rel c σ) (h0 : σ 402 3 ≤ a1) : OpR 421 348 [(.inr (.inr (some 0))), (.inl a1), (.inr (.inr (some 726)))] [(.inr (.inr (some 682))), (.inl a1)] σ (c + 1) := by
  obtain ⟨r1, r2, r3, r4, r5⟩ := rel_n H
  have hA : Dd 421 [(.inr (.inr (some 0))), (.inl a1), (.inr (.inr (some 726)))] σ (.inl (some (.inl 1)), σ) := by
    refine b421 ?_
    have hD2 : Dd 204 [(.inr (.inr (some 0))), (.inl a1)] σ (.inr 0, σ) := by
      refine b204 ?_
      refine ⟨(show -2147483648 ≤ ((σ 402 3) - 1) ∧ ((σ 402 3) - 1) ≤ 2147483647 by first | omega | (simp [upS]; done) | (simp [upS]; omega)), ?_⟩
      have hD1 : Dd 232 [(.inr (.inr (some 0))), (.inl a1), (.inl ((σ 402 3) - 1))] σ (.inr 0, σ) := by
        refine b232 ?_
        rw [if_pos (show (0 : Int) ≤ a1 by first | omega | (simp [upS]; done) | (simp [upS]; omega))]
        rw [if_pos (show ((σ 402 3) - 1) ≤ a1 by first | omega | (simp [upS]; done) | (simp [upS]; omega))]
        refine b232_9 ?_
        all_goals rfl
      refine Or.inr ⟨_, _, hD1, ?_⟩
      all_goals rfl
    exact Or.inr (Or.inl ⟨_, hD2, rfl⟩)
  have hB : Dd 348 [(.inr (.inr (some 682))), (.inl a1)] σ (.inl (some (.inl 0)), (upS σ 682 0 1)) := by
    refine b348 ?_
    have hD4 : Dd 340 [(.inr (.inr (some 682))), (.inl a1)] σ (.inl (some (.inl 0)), σ) := by
      refine b340 ?_
      have hD3 : Dd 246 [(.inl a1), (.inl (σ 682 40))] σ (.inl (some (.inl 0)), σ) := by
        refine b246 ?_
        try rw [if_pos (show (0 : Int) ≤ a1 by first | omega | (simp [upS]; done) | (simp [upS]; omega))]
        try rw [if_neg (show ¬ (a1 < (σ 682 40)) by first | omega | (simp [upS]; done) | (simp [upS]; omega))]
        all_goals rfl
      refine ⟨_, _, hD3, ?_⟩
      clear hD3
      refine ⟨(show 0 = 0 ∨ 0 = 1 by first | omega | (simp [upS]; done) | (simp [upS]; omega)), ?_⟩
      all_goals rfl
    refine ⟨_, _, hD4, ?_⟩
    clear hD4
    rw [if_pos (show (0 : Int) = 0 by first | omega | (simp [upS]; done) | (simp [upS]; omega))]
    refine b348_22 ?_
    refine b348_23 ?_
    rw [if_pos (show (0 : Int) = 0 by first | omega | (simp [upS]; done) | (simp [upS]; omega))]
    refine b348_49 ?_
    refine b348_50 ?_
    rw [if_pos (show (0 : Int) = 0 by first | omega | (simp [upS]; done) | (simp [upS]; omega))]
    refine b348_73 ?_
    rw [if_pos (show (0 : Int) = 0 by first | omega | (simp [upS]; done) | (simp [upS]; omega))]
    refine b348_103 ?_
    have hD5 : Dd 245 [(.inr (.inr (some 682))), (.inl 1)] σ (.inl (some (.inl 0)), (upS σ 682 0 1)) := by
      refine b245 ?_
      try rw [if_neg (show ¬ ((1 : Int) = 0) by first | omega | (simp [upS]; done) | (simp [upS]; omega))]
      all_goals rfl
    refine ⟨_, _, hD5, ?_⟩
    clear hD5
    rw [if_pos (show (0 : Int) = 0 by first | omega | (simp [upS]; done) | (simp [upS]; omega))]
    all_goals rfl
  exact op_x H (by decide) hA hB
theorem x32_2 {σ : Sg} {c : Int} {a1 : Int} (H : Rel c σ) (h0 : 0 ≤ a1 ∧ a1 + 1 = σ 402 3) : OpR 421 348 [(.inr (.inr (some 0))), (.inl a1), (.inr (.inr (some 726)))] [(.inr (.inr (some 682))), (.inl a1)] σ (c + 1) := by
  obtain ⟨r1, r2, r3, r4, r5⟩ := rel_n H
  have hA : Dd 421 [(.inr (.inr (some 0))), (.inl a1), (.inr (.inr (some 726)))] σ (.inl (some (.inl 1)), σ) := by
    refine b421 ?_
    have hD2 : Dd 204 [(.inr (.inr (some 0))), (.inl a1)] σ (.inr 0, σ) := by
      refine b204 ?_
      refine ⟨(show -2147483648 ≤ ((σ 402 3) - 1) ∧ ((σ 402 3) - 1) ≤ 2147483647 by first | omega | (simp [upS]; done) | (simp [upS]; omega)), ?_⟩
      have hD1 : Dd 232 [(.inr (.inr (some 0))), (.inl a1), (.inl ((σ 402 3) - 1))] σ (.inr 0, σ) := by
        refine b232 ?_
        rw [if_pos (show (0 : Int) ≤ a1 by first | omega | (simp [upS]; done) | (simp [upS]; omega))]
        rw [if_pos (show ((σ 402 3) - 1) ≤ a1 by first | omega | (simp [upS]; done) | (simp [upS]; omega))]
        refine b232_9 ?_
        all_goals rfl
      refine Or.inr ⟨_, _, hD1, ?_⟩
      all_goals rfl
    exact Or.inr (Or.inl ⟨_, hD2, rfl⟩)
  have hB : Dd 348 [(.inr (.inr (some 682))), (.inl a1)] σ (.inl (some (.inl 0)), (upS σ 682 0 1)) := by
    refine b348 ?_
    have hD4 : Dd 340 [(.inr (.inr (some 682))), (.inl a1)] σ (.inl (some (.inl 1)), σ) := by
      refine b340 ?_
      have hD3 : Dd 246 [(.inl a1), (.inl (σ 682 40))] σ (.inl (some (.inl 1)), σ) := by
        refine b246 ?_
        try rw [if_pos (show (0 : Int) ≤ a1 by first | omega | (simp [upS]; done) | (simp [upS]; omega))]
        try rw [if_pos (show a1 < (σ 682 40) by first | omega | (simp [upS]; done) | (simp [upS]; omega))]
        all_goals rfl
      refine ⟨_, _, hD3, ?_⟩
      clear hD3
      refine ⟨(show 1 = 0 ∨ 1 = 1 by first | omega | (simp [upS]; done) | (simp [upS]; omega)), ?_⟩
      all_goals rfl
    refine ⟨_, _, hD4, ?_⟩
    clear hD4
    rw [if_neg (show ¬ ((1 : Int) = 0) by first | omega | (simp [upS]; done) | (simp [upS]; omega))]
    refine ⟨(show -2147483648 ≤ (a1 + 1) ∧ (a1 + 1) ≤ 2147483647 by first | omega | (simp [upS]; done) | (simp [upS]; omega)), ?_⟩
    rw [if_neg (show ¬ ((a1 + 1) < (σ 682 40)) by first | omega | (simp [upS]; done) | (simp [upS]; omega))]
    refine b348_22 ?_
    refine b348_23 ?_
    rw [if_pos (show (0 : Int) = 0 by first | omega | (simp [upS]; done) | (simp [upS]; omega))]
    refine b348_49 ?_
    refine b348_50 ?_
    rw [if_pos (show (0 : Int) = 0 by first | omega | (simp [upS]; done) | (simp [upS]; omega))]
    refine b348_73 ?_
    rw [if_pos (show (0 : Int) = 0 by first | omega | (simp [upS]; done) | (simp [upS]; omega))]
    refine b348_103 ?_
    have hD5 : Dd 245 [(.inr (.inr (some 682))), (.inl 1)] σ (.inl (some (.inl 0)), (upS σ 682 0 1)) := by
      refine b245 ?_
      try rw [if_neg (show ¬ ((1 : Int) = 0) by first | omega | (simp [upS]; done) | (simp [upS]; omega))]
      all_goals rfl
    refine ⟨_, _, hD5, ?_⟩
    clear hD5
    rw [if_pos (show (0 : Int) = 0 by first | omega | (simp [upS]; done) | (simp [upS]; omega))]
    all_goals rfl
  exact op_x H (by decide) hA hB
theorem x33_0 {σ : Sg} {c : Int} {a1 : Int} (H : Rel c σ) (h0 : a1 < 0) : OpR 422 349 [(.inr (.inr (some 0))), (.inl a1), (.inr (.inr (some 726)))] [(.inr (.inr (some 682))), (.inl a1)] σ (c + 1) := by
  obtain ⟨r1, r2, r3, r4, r5⟩ := rel_n H
  have hA : Dd 422 [(.inr (.inr (some 0))), (.inl a1), (.inr (.inr (some 726)))] σ (.inl (some (.inl 1)), σ) := by
    refine b422 ?_
    have hD4 : Dd 205 [(.inr (.inr (some 0))), (.inl a1)] σ (.inr 0, σ) := by
      refine b205 ?_
      have hD3 : Dd 231 [(.inr (.inr (some 0))), (.inl a1)] σ (.inr 0, σ) := by
        refine b231 ?_
        have hD1 : Dd 89 [(.inr (.inr (some 405))), (.inl a1), (.inl (σ 402 3))] σ (.inl (some (.inr (.inr none))), σ) := by
          refine b89 ?_
          rw [if_neg (show ¬ ((0 : Int) ≤ a1) by first | omega | (simp [upS]; done) | (simp [upS]; omega))]
          all_goals rfl
        refine ⟨_, _, hD1, ?_⟩
        clear hD1
        refine ⟨fun _ => ?_, fun _ hz2 => (by cases hz2)⟩
        all_goals rfl
      refine Or.inr ⟨_, _, hD3, ?_⟩
      all_goals rfl
    exact Or.inr (⟨_, hD4, rfl⟩)
  have hB : Dd 349 [(.inr (.inr (some 682))), (.inl a1)] σ (.inl (some (.inl 0)), (upS σ 682 0 1)) := by
    refine b349 ?_
    have hD6 : Dd 340 [(.inr (.inr (some 682))), (.inl a1)] σ (.inl (some (.inl 0)), σ) := by
      refine b340 ?_
      have hD5 : Dd 246 [(.inl a1), (.inl (σ 682 40))] σ (.inl (some (.inl 0)), σ) := by
        refine b246 ?_
        try rw [if_neg (show ¬ ((0 : Int) ≤ a1) by first | omega | (simp [upS]; done) | (simp [upS]; omega))]
        all_goals rfl
      refine ⟨_, _, hD5, ?_⟩
      clear hD5
      refine ⟨(show 0 = 0 ∨ 0 = 1 by first | omega | (simp [upS]; done) | (simp [upS]; omega)), ?_⟩
      all_goals rfl
    refine ⟨_, _, hD6, ?_⟩
    clear hD6
    rw [if_pos (show (0 : Int) = 0 by first | omega | (simp [upS]; done) | (simp [upS]; omega))]
    refine b349_23 ?_
    refine b349_24 ?_
    have hD7 : Dd 245 [(.inr (.inr (some 682))), (.inl 1)] σ (.inl (some (.inl 0)), (upS σ 682 0 1)) := by
      refine b245 ?_
      try rw [if_neg (show ¬ ((1 : Int) = 0) by first | omega | (simp [upS]; done) | (simp [upS]; omega))]
      all_goals rfl
    refine ⟨_, _, hD7, ?_⟩
    clear hD7
    rw [if_pos (show (0 : Int) = 0 by first | omega | (simp [upS]; done) | (simp [upS]; omega))]
    all_goals rfl
  exact op_x H (by decide) hA hB
theorem x33_1 {σ : Sg} {c : Int} {a1 : Int} (H : Rel c σ) (h0 : σ 402 3 ≤ a1) : OpR 422 349 [(.inr (.inr (some 0))), (.inl a1), (.inr (.inr (some 726)))] [(.inr (.inr (some 682))), (.inl a1)] σ (c + 1) := by
  obtain ⟨r1, r2, r3, r4, r5⟩ := rel_n H
  have hA : Dd 422 [(.inr (.inr (some 0))), (.inl a1), (.inr (.inr (some 726)))] σ (.inl (some (.inl 1)), σ) := by
    refine b422 ?_
    have hD4 : Dd 205 [(.inr (.inr (some 0))), (.inl a1)] σ (.inr 0, σ) := by
      refine b205 ?_
      have hD3 : Dd 231 [(.inr (.inr (some 0))), (.inl a1)] σ (.inr 0, σ) := by
        refine b231 ?_
        have hD1 : Dd 89 [(.inr (.inr (some 405))), (.inl a1), (.inl (σ 402 3))] σ (.inl (some (.inr (.inr none))), σ) := by
          refine b89 ?_
          rw [if_pos (show (0 : Int) ≤ a1 by first | omega | (simp [upS]; done) | (simp [upS]; omega))]
          rw [if_neg (show ¬ (a1 < (σ 402 3)) by first | omega | (simp [upS]; done) | (simp [upS]; omega))]
          all_goals rfl
        refine ⟨_, _, hD1, ?_⟩
        clear hD1
        refine ⟨fun _ => ?_, fun _ hz2 => (by cases hz2)⟩
        all_goals rfl
      refine Or.inr ⟨_, _, hD3, ?_⟩
      all_goals rfl
    exact Or.inr (⟨_, hD4, rfl⟩)
  have hB : Dd 349 [(.inr (.inr (some 682))), (.inl a1)] σ (.inl (some (.inl 0)), (upS σ 682 0 1)) := by
    refine b349 ?_
    have hD6 : Dd 340 [(.inr (.inr (some 682))), (.inl a1)] σ (.inl (some (.inl 0)), σ) := by
      refine b340 ?_
      have hD5 : Dd 246 [(.inl a1), (.inl (σ 682 40))] σ (.inl (some (.inl 0)), σ) := by
        refine b246 ?_
        try rw [if_pos (show (0 : Int) ≤ a1 by first | omega | (simp [upS]; done) | (simp [upS]; omega))]
        try rw [if_neg (show ¬ (a1 < (σ 682 40)) by first | omega | (simp [upS]; done) | (simp [upS]; omega))]
        all_goals rfl
      refine ⟨_, _, hD5, ?_⟩
      clear hD5
      refine ⟨(show 0 = 0 ∨ 0 = 1 by first | omega | (simp [upS]; done) | (simp [upS]; omega)), ?_⟩
      all_goals rfl
    refine ⟨_, _, hD6, ?_⟩
    clear hD6
    rw [if_pos (show (0 : Int) = 0 by first | omega | (simp [upS]; done) | (simp [upS]; omega))]
    refine b349_23 ?_
    refine b349_24 ?_
    have hD7 : Dd 245 [(.inr (.inr (some 682))), (.inl 1)] σ (.inl (some (.inl 0)), (upS σ 682 0 1)) := by
      refine b245 ?_
      try rw [if_neg (show ¬ ((1 : Int) = 0) by first | omega | (simp [upS]; done) | (simp [upS]; omega))]
      all_goals rfl
    refine ⟨_, _, hD7, ?_⟩
    clear hD7
    rw [if_pos (show (0 : Int) = 0 by first | omega | (simp [upS]; done) | (simp [upS]; omega))]
    all_goals rfl
  exact op_x H (by decide) hA hB
theorem x33_2 {σ : Sg} {c : Int} {a1 : Int} (H : Rel c σ) (h0 : 0 ≤ a1 ∧ a1 < σ 402 3) (h1 : σ 402 3 ≤ a1 + 1) : OpR 422 349 [(.inr (.inr (some 0))), (.inl a1), (.inr (.inr (some 726)))] [(.inr (.inr (some 682))), (.inl a1)] σ (c + 1) := by
  obtain ⟨r1, r2, r3, r4, r5⟩ := rel_n H
  have hA : Dd 422 [(.inr (.inr (some 0))), (.inl a1), (.inr (.inr (some 726)))] σ (.inl (some (.inl 1)), σ) := by
    refine b422 ?_
    have hD7 : Dd 205 [(.inr (.inr (some 0))), (.inl a1)] σ (.inr 0, σ) := by
      refine b205 ?_
      have hD3 : Dd 231 [(.inr (.inr (some 0))), (.inl a1)] σ (.inl (some (.inr (.inr (some (406 + 13 * ((a1)).toNat))))), σ) := by
        refine b231 ?_
        have hD1 : Dd 89 [(.inr (.inr (some 405))), (.inl a1), (.inl (σ 402 3))] σ (.inl (some (.inr (.inr (some (406 + 13 * ((a1)).toNat))))), σ) := by
          refine b89 ?_
          rw [if_pos (show (0 : Int) ≤ a1 by first | omega | (simp [upS]; done) | (simp [upS]; omega))]
          rw [if_pos (show a1 < (σ 402 3) by first | omega | (simp [upS]; done) | (simp [upS]; omega))]
          refine ⟨5, (by decide +kernel), (by decide), ?_⟩
          rw [if_pos (show a1 < ((5 : Nat) : Int) by first | omega | (simp [upS]; done) | (simp [upS]; omega))]
          refine ⟨(show 0 ≤ a1 by first | omega | (simp [upS]; done) | (simp [upS]; omega)), ?_⟩
          refine ⟨(406 + 13 * ((a1)).toNat), (el_405 (i := (a1)) (by first | omega | (simp [upS]; done) | (simp [upS]; omega))).1, (el_405 (i := (a1)) (by first | omega | (simp [upS]; done) | (simp [upS]; omega))).2, ?_⟩
          all_goals rfl
        refine ⟨_, _, hD1, ?_⟩
        clear hD1
        refine ⟨fun hz2 => (by cases hz2), fun _ hz2 => ?_⟩
        cases hz2
        refine ⟨(el_405 (i := (a1)) (by first | omega | (simp [upS]; done) | (simp [upS]; omega))).2, ?_⟩
        all_goals rfl
      refine Or.inl ⟨_, _, hD3, (el_405 (i := (a1)) (by first | omega | (simp [upS]; done) | (simp [upS]; omega))).2, ?_⟩
      clear hD3
      refine ⟨(show -2147483648 ≤ (a1 + 1) ∧ (a1 + 1) ≤ 2147483647 by first | omega | (simp [upS]; done) | (simp [upS]; omega)), ?_⟩
      have hD6 : Dd 231 [(.inr (.inr (some 0))), (.inl (a1 + 1))] σ (.inr 0, σ) := by
        refine b231 ?_
        have hD4 : Dd 89 [(.inr (.inr (some 405))), (.inl (a1 + 1)), (.inl (σ 402 3))] σ (.inl (some (.inr (.inr none))), σ) := by
          refine b89 ?_
          rw [if_pos (show (0 : Int) ≤ (a1 + 1) by first | omega | (simp [upS]; done) | (simp [upS]; omega))]
          rw [if_neg (show ¬ ((a1 + 1) < (σ 402 3)) by first | omega | (simp [upS]; done) | (simp [upS]; omega))]
          all_goals rfl
        refine ⟨_, _, hD4, ?_⟩
        clear hD4
        refine ⟨fun _ => ?_, fun _ hz5 => (by cases hz5)⟩
        all_goals rfl
      refine Or.inr ⟨_, _, hD6, ?_⟩
      all_goals rfl
    exact Or.inr (⟨_, hD7, rfl⟩)
  have hB : Dd 349 [(.inr (.inr (some 682))), (.inl a1)] σ (.inl (some (.inl 0)), (upS σ 682 0 1)) := by
    refine b349 ?_
    have hD9 : Dd 340 [(.inr (.inr (some 682))), (.inl a1)] σ (.inl (some (.inl 1)), σ) := by
      refine b340 ?_
      have hD8 : Dd 246 [(.inl a1), (.inl (σ 682 40))] σ (.inl (some (.inl 1)), σ) := by
        refine b246 ?_
        try rw [if_pos (show (0 : Int) ≤ a1 by first | omega | (simp [upS]; done) | (simp [upS]; omega))]
        try rw [if_pos (show a1 < (σ 682 40) by first | omega | (simp [upS]; done) | (simp [upS]; omega))]
        all_goals rfl
      refine ⟨_, _, hD8, ?_⟩
      clear hD8
      refine ⟨(show 1 = 0 ∨ 1 = 1 by first | omega | (simp [upS]; done) | (simp [upS]; omega)), ?_⟩
      all_goals rfl
    refine ⟨_, _, hD9, ?_⟩
    clear hD9
    rw [if_neg (show ¬ ((1 : Int) = 0) by first | omega | (simp [upS]; done) | (simp [upS]; omega))]
    refine ⟨(show -2147483648 ≤ (a1 + 1) ∧ (a1 + 1) ≤ 2147483647 by first | omega | (simp [upS]; done) | (simp [upS]; omega)), ?_⟩
    rw [if_neg (show ¬ ((a1 + 1) < (σ 682 40)) by first | omega | (simp [upS]; done) | (simp [upS]; omega))]
    refine b349_23 ?_
    refine b349_24 ?_
    have hD10 : Dd 245 [(.inr (.inr (some 682))), (.inl 1)] σ (.inl (some (.inl 0)), (upS σ 682 0 1)) := by
      refine b245 ?_
      try rw [if_neg (show ¬ ((1 : Int) = 0) by first | omega | (simp [upS]; done) | (simp [upS]; omega))]
      all_goals rfl
    refine ⟨_, _, hD10, ?_⟩
    clear hD10
    rw [if_pos (show (0 : Int) = 0 by first | omega | (simp [upS]; done) | (simp [upS]; omega))]
    all_goals rfl
  exact op_x H (by decide) hA hB
theorem x34_0 {σ : Sg} {c : Int} {a1 : Int} {a2 : Int} {a3 : Int} (H : Rel c σ) (h0 : a1 < 0) : OpR 423 351 [(.inr (.inr (some 0))), (.inl a1), (.inl a2), (.inl a3), (.inr (.inr (some 726)))] [(.inr (.inr (some 682))), (.inl a1), (.inl a2), (.inl a3)] σ (c + 1) := by
  obtain ⟨r1, r2, r3, r4, r5⟩ := rel_n H
  have hA : Dd 423 [(.inr (.inr (some 0))), (.inl a1), (.inl a2), (.inl a3), (.inr (.inr (some 726)))] σ (.inl (some (.inl 1)), σ) := by
    refine b423 ?_
    have hD4 : Dd 206 [(.inr (.inr (some 0))), (.inl a1), (.inl a2), (.inl a3)] σ (.inr 0, σ) := by
      refine b206 ?_
      have hD3 : Dd 231 [(.inr (.inr (some 0))), (.inl a1)] σ (.inr 0, σ) := by
        refine b231 ?_
        have hD1 : Dd 89 [(.inr (.inr (some 405))), (.inl a1), (.inl (σ 402 3))] σ (.inl (some (.inr (.inr none))), σ) := by
          refine b89 ?_
          rw [if_neg (show ¬ ((0 : Int) ≤ a1) by first | omega | (simp [upS]; done) | (simp [upS]; omega))]
          all_goals rfl
        refine ⟨_, _, hD1, ?_⟩
        clear hD1
        refine ⟨fun _ => ?_, fun _ hz2 => (by cases hz2)⟩
        all_goals rfl
      refine Or.inr ⟨_, _, hD3, ?_⟩
      all_goals rfl
    exact Or.inr (Or.inl ⟨_, hD4, rfl⟩)
  have hB : Dd 351 [(.inr (.inr (some 682))), (.inl a1), (.inl a2), (.inl a3)] σ (.inl (some (.inl 0)), (upS σ 682 0 1)) := by
    refine b351 ?_
    have hD6 : Dd 340 [(.inr (.inr (some 682))), (.inl a1)] σ (.inl (some (.inl 0)), σ) := by
      refine b340 ?_
      have hD5 : Dd 246 [(.inl a1), (.inl (σ 682 40))] σ (.inl (some (.inl 0)), σ) := by
        refine b246 ?_
        try rw [if_neg (show ¬ ((0 : Int) ≤ a1) by first | omega | (simp [upS]; done) | (simp [upS]; omega))]
        all_goals rfl
      refine ⟨_, _, hD5, ?_⟩
      clear hD5
      refine ⟨(show 0 = 0 ∨ 0 = 1 by first | omega | (simp [upS]; done) | (simp [upS]; omega)), ?_⟩
      all_goals rfl
    refine ⟨_, _, hD6, ?_⟩
    clear hD6
    rw [if_pos (show (0 : Int) = 0 by first | omega | (simp [upS]; done) | (simp [upS]; omega))]
    refine b351_28 ?_
    refine b351_29 ?_
    rw [if_pos (show (0 : Int) = 0 by first | omega | (simp [upS]; done) | (simp [upS]; omega))]
    refine b351_69 ?_
    have hD7 : Dd 245 [(.inr (.inr (some 682))), (.inl 1)] σ (.inl (some (.inl 0)), (upS σ 682 0 1)) := by
      refine b245 ?_
      try rw [if_neg (show ¬ ((1 : Int) = 0) by first | omega | (simp [upS]; done) | (simp [upS]; omega))]
      all_goals rfl
    refine ⟨_, _, hD7, ?_⟩
    clear hD7
    rw [if_pos (show (0 : Int) = 0 by first | omega | (simp [upS]; done) | (simp [upS]; omega))]
    all_goals rfl
  exact op_x H (by decide) hA hB
theorem x34_1 {σ : Sg} {c : Int} {a1 : Int} {a2 : Int} {a3 : Int} (H : Rel c σ) (h0 : σ 402 3 ≤ a1) : OpR 423 351 [(.inr (.inr (some 0))), (.inl a1), (.inl a2), (.inl a3), (.inr (.inr (some 726)))] [(.inr (.inr (some 682))), (.inl a1), (.inl a2), (.inl a3)] σ (c + 1) := by
  obtain ⟨r1, r2, r3, r4, r5⟩ := rel_n H
  have hA : Dd 423 [(.inr (.inr (some 0))), (.inl a1), (.inl a2), (.inl a3), (.inr (.inr (some 726)))] σ (.inl (some (.inl 1)), σ) := by
    refine b423 ?_
    have hD4 : Dd 206 [(.inr (.inr (some 0))), (.inl a1), (.inl a2), (.inl a3)] σ (.inr 0, σ) := by
      refine b206 ?_
      have hD3 : Dd 231 [(.inr (.inr (some 0))), (.inl a1)] σ (.inr 0, σ) := by
        refine b231 ?_
        have hD1 : Dd 89 [(.inr (.inr (some 405))), (.inl a1), (.inl (σ 402 3))] σ (.inl (some (.inr (.inr none))), σ) := by
          refine b89 ?_
          rw [if_pos (show (0 : Int) ≤ a1 by first | omega | (simp [upS]; done) | (simp [upS]; omega))]
          rw [if_neg (show ¬ (a1 < (σ 402 3)) by first | omega | (simp [upS]; done) | (simp [upS]; omega))]
          all_goals rfl
        refine ⟨_, _, hD1, ?_⟩
        clear hD1
        refine ⟨fun _ => ?_, fun _ hz2 => (by cases hz2)⟩
        all_goals rfl
      refine Or.inr ⟨_, _, hD3, ?_⟩
      all_goals rfl
    exact Or.inr (Or.inl ⟨_, hD4, rfl⟩)
  have hB : Dd 351 [(.inr (.inr (some 682))), (.inl a1), (.inl a2), (.inl a3)] σ (.inl (some (.inl 0)), (upS σ 682 0 1)) := by
    refine b351 ?_
    have hD6 : Dd 340 [(.inr (.inr (some 682))), (.inl a1)] σ (.inl (some (.inl 0)), σ) := by
      refine b340 ?_
      have hD5 : Dd 246 [(.inl a1), (.inl (σ 682 40))] σ (.inl (some (.inl 0)), σ) := by
        refine b246 ?_
        try rw [if_pos (show (0 : Int) ≤ a1 by first | omega | (simp [upS]; done) | (simp [upS]; omega))]
        try rw [if_neg (show ¬ (a1 < (σ 682 40)) by first | omega | (simp [upS]; done) | (simp [upS]; omega))]
        all_goals rfl
      refine ⟨_, _, hD5, ?_⟩
      clear hD5
      refine ⟨(show 0 = 0 ∨ 0 = 1 by first | omega | (simp [upS]; done) | (simp [upS]; omega)), ?_⟩
      all_goals rfl
    refine ⟨_, _, hD6, ?_⟩
    clear hD6
    rw [if_pos (show (0 : Int) = 0 by first | omega | (simp [upS]; done) | (simp [upS]; omega))]
    refine b351_28 ?_
    refine b351_29 ?_
    rw [if_pos (show (0 : Int) = 0 by first | omega | (simp [upS]; done) | (simp [upS]; omega))]
    refine b351_69 ?_
    have hD7 : Dd 245 [(.inr (.inr (some 682))), (.inl 1)] σ (.inl (some (.inl 0)), (upS σ 682 0 1)) := by
      refine b245 ?_
      try rw [if_neg (show ¬ ((1 : Int) = 0) by first | omega | (simp [upS]; done) | (simp [upS]; omega))]
      all_goals rfl
    refine ⟨_, _, hD7, ?_⟩
    clear hD7
    rw [if_pos (show (0 : Int) = 0 by first | omega | (simp [upS]; done) | (simp [upS]; omega))]
    all_goals rfl
  exact op_x H (by decide) hA hB
theorem x35_0 {σ : Sg} {c : Int} {a1 : Int} {a2 : Int} (H : Rel c σ) (h0 : a1 < 0) : OpR 424 352 [(.inr (.inr (some 0))), (.inl a1), (.inl a2), (.inr (.inr (some 726)))] [(.inr (.inr (some 682))), (.inl a1), (.inl a2)] σ (c + 1) := by
  obtain ⟨r1, r2, r3, r4, r5⟩ := rel_n H
  have hA : Dd 424 [(.inr (.inr (some 0))), (.inl a1), (.inl a2), (.inr (.inr (some 726)))] σ (.inl (some (.inl 1)), σ) := by
    refine b424 ?_
    have hD4 : Dd 207 [(.inr (.inr (some 0))), (.inl a1), (.inl a2)] σ (.inr 0, σ) := by
      refine b207 ?_
      have hD3 : Dd 227 [(.inr (.inr (some 0))), (.inl a1)] σ (.inr 0, σ) := by
        refine b227 ?_
        have hD1 : Dd 145 [(.inr (.inr (some 1))), (.inl a1)] σ (.inl (some (.inr (.inr none))), σ) := by
          refine b145 ?_
          rw [if_neg (show ¬ ((0 : Int) ≤ a1) by first | omega | (simp [upS]; done) | (simp [upS]; omega))]
          all_goals rfl
        refine ⟨_, _, hD1, ?_⟩
        clear hD1
        refine ⟨fun _ => ?_, fun _ hz2 => (by cases hz2)⟩
        all_goals rfl
      refine Or.inr ⟨_, _, hD3, ?_⟩
      all_goals rfl
    exact Or.inr (Or.inl ⟨_, hD4, rfl⟩)
  have hB : Dd 352 [(.inr (.inr (some 682))), (.inl a1), (.inl a2)] σ (.inl (some (.inl 0)), (upS σ 682 0 1)) := by
    refine b352 ?_
    have hD6 : Dd 247 [(.inl a1)] σ (.inl (some (.inl 0)), σ) := by
      refine b247 ?_
      have hD5 : Dd 246 [(.inl a1), (.inl 4)] σ (.inl (some (.inl 0)), σ) := by
        refine b246 ?_
        try rw [if_neg (show ¬ ((0 : Int) ≤ a1) by first | omega | (simp [upS]; done) | (simp [upS]; omega))]
        all_goals rfl
      refine ⟨_, _, hD5, ?_⟩
      clear hD5
      refine ⟨(show 0 = 0 ∨ 0 = 1 by first | omega | (simp [upS]; done) | (simp [upS]; omega)), ?_⟩
      all_goals rfl
    refine ⟨_, _, hD6, ?_⟩
    clear hD6
    rw [if_pos (show (0 : Int) = 0 by first | omega | (simp [upS]; done) | (simp [upS]; omega))]
    refine b352_35 ?_
    have hD7 : Dd 245 [(.inr (.inr (some 682))), (.inl 1)] σ (.inl (some (.inl 0)), (upS σ 682 0 1)) := by
      refine b245 ?_
      try rw [if_neg (show ¬ ((1 : Int) = 0) by first | omega | (simp [upS]; done) | (simp [upS]; omega))]
      all_goals rfl
    refine ⟨_, _, hD7, ?_⟩
    clear hD7
    rw [if_pos (show (0 : Int) = 0 by first | omega | (simp [upS]; done) | (simp [upS]; omega))]
    all_goals rfl
  exact op_x H (by decide) hA hB
theorem x35_1 {σ : Sg} {c : Int} {a1 : Int} {a2 : Int} (H : Rel c σ) (h0 : 4 ≤ a1) : OpR 424 352 [(.inr (.inr (some 0))), (.inl a1), (.inl a2), (.inr (.inr (some 726)))] [(.inr (.inr (some 682))), (.inl a1), (.inl a2)] σ (c + 1) := by
  obtain ⟨r1, r2, r3, r4, r5⟩ := rel_n H
  have hA : Dd 424 [(.inr (.inr (some 0))), (.inl a1), (.inl a2), (.inr (.inr (some 726)))] σ (.inl (some (.inl 1)), σ) := by
    refine b424 ?_
    have hD4 : Dd 207 [(.inr (.inr (some 0))), (.inl a1), (.inl a2)] σ (.inr 0, σ) := by
      refine b207 ?_
      have hD3 : Dd 227 [(.inr (.inr (some 0))), (.inl a1)] σ (.inr 0, σ) := by
        refine b227 ?_
        have hD1 : Dd 145 [(.inr (.inr (some 1))), (.inl a1)] σ (.inl (some (.inr (.inr none))), σ) := by
          refine b145 ?_
          rw [if_pos (show (0 : Int) ≤ a1 by first | omega | (simp [upS]; done) | (simp [upS]; omega))]
          refine ⟨4, (by decide +kernel), (by decide), ?_⟩
          rw [if_neg (show ¬ (a1 < ((4 : Nat) : Int)) by first | omega | (simp [upS]; done) | (simp [upS]; omega))]
          all_goals rfl
        refine ⟨_, _, hD1, ?_⟩
        clear hD1
        refine ⟨fun _ => ?_, fun _ hz2 => (by cases hz2)⟩
        all_goals rfl
      refine Or.inr ⟨_, _, hD3, ?_⟩
      all_goals rfl
    exact Or.inr (Or.inl ⟨_, hD4, rfl⟩)
  have hB : Dd 352 [(.inr (.inr (some 682))), (.inl a1), (.inl a2)] σ (.inl (some (.inl 0)), (upS σ 682 0 1)) := by
    refine b352 ?_
    have hD6 : Dd 247 [(.inl a1)] σ (.inl (some (.inl 0)), σ) := by
      refine b247 ?_
      have hD5 : Dd 246 [(.inl a1), (.inl 4)] σ (.inl (some (.inl 0)), σ) := by
        refine b246 ?_
        try rw [if_pos (show (0 : Int) ≤ a1 by first | omega | (simp [upS]; done) | (simp [upS]; omega))]
        try rw [if_neg (show ¬ (a1 < 4) by first | omega | (simp [upS]; done) | (simp [upS]; omega))]
        all_goals rfl
      refine ⟨_, _, hD5, ?_⟩
      clear hD5
      refine ⟨(show 0 = 0 ∨ 0 = 1 by first | omega | (simp [upS]; done) | (simp [upS]; omega)), ?_⟩
      all_goals rfl
    refine ⟨_, _, hD6, ?_⟩
    clear hD6
    rw [if_pos (show (0 : Int) = 0 by first | omega | (simp [upS]; done) | (simp [upS]; omega))]
    refine b352_35 ?_
    have hD7 : Dd 245 [(.inr (.inr (some 682))), (.inl 1)] σ (.inl (some (.inl 0)), (upS σ 682 0 1)) := by
      refine b245 ?_
      try rw [if_neg (show ¬ ((1 : Int) = 0) by first | omega | (simp [upS]; done) | (simp [upS]; omega))]
      all_goals rfl
    refine ⟨_, _, hD7, ?_⟩
    clear hD7
    rw [if_pos (show (0 : Int) = 0 by first | omega | (simp [upS]; done) | (simp [upS]; omega))]
    all_goals rfl
  exact op_x H (by decide) hA hB
theorem x35_2 {σ : Sg} {c : Int} {a1 : Int} {a2 : Int} (H : Rel c σ) (h0 : 0 ≤ a1 ∧ a1 < 4) (h1 : a2 < 0) : OpR 424 352 [(.inr (.inr (some 0))), (.inl a1), (.inl a2), (.inr (.inr (some 726)))] [(.inr (.inr (some 682))), (.inl a1), (.inl a2)] σ (c + 1) := by
  obtain ⟨r1, r2, r3, r4, r5⟩ := rel_n H
  have t0 := rel_t H h0
  have hA : Dd 424 [(.inr (.inr (some 0))), (.inl a1), (.inl a2), (.inr (.inr (some 726)))] σ (.inl (some (.inl 2)), σ) := by
    refine b424 ?_
    have hD5 : Dd 207 [(.inr (.inr (some 0))), (.inl a1), (.inl a2)] σ (.inr 1, σ) := by
      refine b207 ?_
      have hD3 : Dd 227 [(.inr (.inr (some 0))), (.inl a1)] σ (.inl (some (.inr (.inr (some (2 + 2 * ((a1)).toNat))))), σ) := by
        refine b227 ?_
        have hD1 : Dd 145 [(.inr (.inr (some 1))), (.inl a1)] σ (.inl (some (.inr (.inr (some (2 + 2 * ((a1)).toNat))))), σ) := by
          refine b145 ?_
          rw [if_pos (show (0 : Int) ≤ a1 by first | omega | (simp [upS]; done) | (simp [upS]; omega))]
          refine ⟨4, (by decide +kernel), (by decide), ?_⟩
          rw [if_pos (show a1 < ((4 : Nat) : Int) by first | omega | (simp [upS]; done) | (simp [upS]; omega))]
          refine ⟨(show 0 ≤ a1 by first | omega | (simp [upS]; done) | (simp [upS]; omega)), ?_⟩
          refine ⟨(2 + 2 * ((a1)).toNat), (el_1 (i := (a1)) (by first | omega | (simp [upS]; done) | (simp [upS]; omega))).1, (el_1 (i := (a1)) (by first | omega | (simp [upS]; done) | (simp [upS]; omega))).2, ?_⟩
          all_goals rfl
        refine ⟨_, _, hD1, ?_⟩
        clear hD1
        refine ⟨fun hz2 => (by cases hz2), fun _ hz2 => ?_⟩
        cases hz2
        refine ⟨(el_1 (i := (a1)) (by first | omega | (simp [upS]; done) | (simp [upS]; omega))).2, ?_⟩
        all_goals rfl
      refine Or.inl ⟨_, _, hD3, (el_1 (i := (a1)) (by first | omega | (simp [upS]; done) | (simp [upS]; omega))).2, ?_⟩
      clear hD3
      have hD4 : Dd 236 [(.inr (.inr (some 0))), (.inl a2)] σ (.inr 1, σ) := by
        refine b236 ?_
        rw [if_neg (show ¬ (a2 = 0) by first | omega | (simp [upS]; done) | (simp [upS]; omega))]
        rw [if_neg (show ¬ (a2 = 1) by first | omega | (simp [upS]; done) | (simp [upS]; omega))]
        rw [if_neg (show ¬ (a2 = 2) by first | omega | (simp [upS]; done) | (simp [upS]; omega))]
        all_goals rfl
      refine Or.inr ⟨_, _, hD4, ?_⟩
      all_goals rfl
    exact Or.inr (Or.inr (Or.inl ⟨_, hD5, rfl⟩))
  have hB : Dd 352 [(.inr (.inr (some 682))), (.inl a1), (.inl a2)] σ (.inl (some (.inl 0)), (upS σ 682 0 2)) := by
    refine b352 ?_
    have hD7 : Dd 247 [(.inl a1)] σ (.inl (some (.inl 1)), σ) := by
      refine b247 ?_
      have hD6 : Dd 246 [(.inl a1), (.inl 4)] σ (.inl (some (.inl 1)), σ) := by
        refine b246 ?_
        try rw [if_pos (show (0 : Int) ≤ a1 by first | omega | (simp [upS]; done) | (simp [upS]; omega))]
        try rw [if_pos (show a1 < 4 by first | omega | (simp [upS]; done) | (simp [upS]; omega))]
        all_goals rfl
      refine ⟨_, _, hD6, ?_⟩
      clear hD6
      refine ⟨(show 1 = 0 ∨ 1 = 1 by first | omega | (simp [upS]; done) | (simp [upS]; omega)), ?_⟩
      all_goals rfl
    refine ⟨_, _, hD7, ?_⟩
    clear hD7
    rw [if_neg (show ¬ ((1 : Int) = 0) by first | omega | (simp [upS]; done) | (simp [upS]; omega))]
    have hD9 : Dd 275 [(.inl a2)] σ (.inl (some (.inl 0)), σ) := by
      refine b275 ?_
      have hD8 : Dd 246 [(.inl a2), (.inl 3)] σ (.inl (some (.inl 0)), σ) := by
        refine b246 ?_
        try rw [if_neg (show ¬ ((0 : Int) ≤ a2) by first | omega | (simp [upS]; done) | (simp [upS]; omega))]
        all_goals rfl
      refine ⟨_, _, hD8, ?_⟩
      clear hD8
      refine ⟨(show 0 = 0 ∨ 0 = 1 by first | omega | (simp [upS]; done) | (simp [upS]; omega)), ?_⟩
      all_goals rfl
    refine ⟨_, _, hD9, ?_⟩
    clear hD9
    try rw [if_pos (show (0 : Int) = 0 by first | omega | (simp [upS]; done) | (simp [upS]; omega))]
    refine b352_35 ?_
    have hD10 : Dd 245 [(.inr (.inr (some 682))), (.inl 2)] σ (.inl (some (.inl 0)), (upS σ 682 0 2)) := by
      refine b245 ?_
      try rw [if_neg (show ¬ ((2 : Int) = 0) by first | omega | (simp [upS]; done) | (simp [upS]; omega))]
      all_goals rfl
    refine ⟨_, _, hD10, ?_⟩
    clear hD10
    rw [if_pos (show (0 : Int) = 0 by first | omega | (simp [upS]; done) | (simp [upS]; omega))]
    all_goals rfl
  exact op_x H (by decide) hA hB
theorem x35_3 {σ : Sg} {c : Int} {a1 : Int} {a2 : Int} (H : Rel c σ) (h0 : 0 ≤ a1 ∧ a1 < 4) (h1 : 2 < a2) : OpR 424 352 [(.inr (.inr (some 0))), (.inl a1), (.inl a2), (.inr (.inr (some 726)))] [(.inr (.inr (some 682))), (.inl a1), (.inl a2)] σ (c + 1) := by
  obtain ⟨r1, r2, r3, r4, r5⟩ := rel_n H
  have t0 := rel_t H h0
  have hA : Dd 424 [(.inr (.inr (some 0))), (.inl a1), (.inl a2), (.inr (.inr (some 726)))] σ (.inl (some (.inl 2)), σ) := by
    refine b424 ?_
    have hD5 : Dd 207 [(.inr (.inr (some 0))), (.inl a1), (.inl a2)] σ (.inr 1, σ) := by
      refine b207 ?_
      have hD3 : Dd 227 [(.inr (.inr (some 0))), (.inl a1)] σ (.inl (some (.inr (.inr (some (2 + 2 * ((a1)).toNat))))), σ) := by
        refine b227 ?_
        have hD1 : Dd 145 [(.inr (.inr (some 1))), (.inl a1)] σ (.inl (some (.inr (.inr (some (2 + 2 * ((a1)).toNat))))), σ) := by
          refine b145 ?_
          rw [if_pos (show (0 : Int) ≤ a1 by first | omega | (simp [upS]; done) | (simp [upS]; omega))]
          refine ⟨4, (by decide +kernel), (by decide), ?_⟩
          rw [if_pos (show a1 < ((4 : Nat) : Int) by first | omega | (simp [upS]; done) | (simp [upS]; omega))]
          refine ⟨(show 0 ≤ a1 by first | omega | (simp [upS]; done) | (simp [upS]; omega)), ?_⟩
          refine ⟨(2 + 2 * ((a1)).toNat), (el_1 (i := (a1)) (by first | omega | (simp [upS]; done) | (simp [upS]; omega))).1, (el_1 (i := (a1)) (by first | omega | (simp [upS]; done) | (simp [upS]; omega))).2, ?_⟩
          all_goals rfl
        refine ⟨_, _, hD1, ?_⟩
        clear hD1
        refine ⟨fun hz2 => (by cases hz2), fun _ hz2 => ?_⟩
        cases hz2
        refine ⟨(el_1 (i := (a1)) (by first | omega | (simp [upS]; done) | (simp [upS]; omega))).2, ?_⟩
        all_goals rfl
      refine Or.inl ⟨_, _, hD3, (el_1 (i := (a1)) (by first | omega | (simp [upS]; done) | (simp [upS]; omega))).2, ?_⟩
      clear hD3
      have hD4 : Dd 236 [(.inr (.inr (some 0))), (.inl a2)] σ (.inr 1, σ) := by
        refine b236 ?_
        rw [if_neg (show ¬ (a2 = 0) by first | omega | (simp [upS]; done) | (simp [upS]; omega))]
        rw [if_neg (show ¬ (a2 = 1) by first | omega | (simp [upS]; done) | (simp [upS]; omega))]
        rw [if_neg (show ¬ (a2 = 2) by first | omega | (simp [upS]; done) | (simp [upS]; omega))]
        all_goals rfl
      refine Or.inr ⟨_, _, hD4, ?_⟩
      all_goals rfl
    exact Or.inr (Or.inr (Or.inl ⟨_, hD5, rfl⟩))
  have hB : Dd 352 [(.inr (.inr (some 682))), (.inl a1), (.inl a2)] σ (.inl (some (.inl 0)), (upS σ 682 0 2)) := by
    refine b352 ?_
    have hD7 : Dd 247 [(.inl a1)] σ (.inl (some (.inl 1)), σ) := by
      refine b247 ?_
      have hD6 : Dd 246 [(.inl a1), (.inl 4)] σ (.inl (some (.inl 1)), σ) := by
        refine b246 ?_
        try rw [if_pos (show (0 : Int) ≤ a1 by first | omega | (simp [upS]; done) | (simp [upS]; omega))]
        try rw [if_pos (show a1 < 4 by first | omega | (simp [upS]; done) | (simp [upS]; omega))]
        all_goals rfl
      refine ⟨_, _, hD6, ?_⟩
      clear hD6
      refine ⟨(show 1 = 0 ∨ 1 = 1 by first | omega | (simp [upS]; done) | (simp [upS]; omega)), ?_⟩
      all_goals rfl
    refine ⟨_, _, hD7, ?_⟩
    clear hD7
    rw [if_neg (show ¬ ((1 : Int) = 0) by first | omega | (simp [upS]; done) | (simp [upS]; omega))]
    have hD9 : Dd 275 [(.inl a2)] σ (.inl (some (.inl 0)), σ) := by
      refine b275 ?_
      have hD8 : Dd 246 [(.inl a2), (.inl 3)] σ (.inl (some (.inl 0)), σ) := by
        refine b246 ?_
        try rw [if_pos (show (0 : Int) ≤ a2 by first | omega | (simp [upS]; done) | (simp [upS]; omega))]
        try rw [if_neg (show ¬ (a2 < 3) by first | omega | (simp [upS]; done) | (simp [upS]; omega))]
        all_goals rfl
      refine ⟨_, _, hD8, ?_⟩
      clear hD8
      refine ⟨(show 0 = 0 ∨ 0 = 1 by first | omega | (simp [upS]; done) | (simp [upS]; omega)), ?_⟩
      all_goals rfl
    refine ⟨_, _, hD9, ?_⟩
    clear hD9
    try rw [if_pos (show (0 : Int) = 0 by first | omega | (simp [upS]; done) | (simp [upS]; omega))]
    refine b352_35 ?_
    have hD10 : Dd 245 [(.inr (.inr (some 682))), (.inl 2)] σ (.inl (some (.inl 0)), (upS σ 682 0 2)) := by
      refine b245 ?_
      try rw [if_neg (show ¬ ((2 : Int) = 0) by first | omega | (simp [upS]; done) | (simp [upS]; omega))]
      all_goals rfl
    refine ⟨_, _, hD10, ?_⟩
    clear hD10
    rw [if_pos (show (0 : Int) = 0 by first | omega | (simp [upS]; done) | (simp [upS]; omega))]
    all_goals rfl
  exact op_x H (by decide) hA hB
theorem x37_0 {σ : Sg} {c : Int} {a1 : Int} (H : Rel c σ) (h0 : a1 < 0) : OpR 425 354 [(.inr (.inr (some 0))), (.inl a1), (.inr (.inr (some 726)))] [(.inr (.inr (some 682))), (.inl a1)] σ (c + 1) := by
  obtain ⟨r1, r2, r3, r4, r5⟩ := rel_n H
  have hA : Dd 425 [(.inr (.inr (some 0))), (.inl a1), (.inr (.inr (some 726)))] σ (.inl (some (.inl 1)), σ) := by
    refine b425 ?_
    have hD2 : Dd 209 [(.inr (.inr (some 0))), (.inl a1)] σ (.inr 0, σ) := by
      refine b209 ?_
      have hD1 : Dd 232 [(.inr (.inr (some 0))), (.inl a1), (.inl (σ 402 3))] σ (.inr 0, σ) := by
        refine b232 ?_
        rw [if_neg (show ¬ ((0 : Int) ≤ a1) by first | omega | (simp [upS]; done) | (simp [upS]; omega))]
        refine b232_9 ?_
        all_goals rfl
      refine Or.inr ⟨_, _, hD1, ?_⟩
      all_goals rfl
    exact Or.inr (⟨_, hD2, rfl⟩)
  have hB : Dd 354 [(.inr (.inr (some 682))), (.inl a1)] σ (.inl (some (.inl 0)), (upS σ 682 0 1)) := by
    refine b354 ?_
    have hD4 : Dd 340 [(.inr (.inr (some 682))), (.inl a1)] σ (.inl (some (.inl 0)), σ) := by
      refine b340 ?_
      have hD3 : Dd 246 [(.inl a1), (.inl (σ 682 40))] σ (.inl (some (.inl 0)), σ) := by
        refine b246 ?_
        try rw [if_neg (show ¬ ((0 : Int) ≤ a1) by first | omega | (simp [upS]; done) | (simp [upS]; omega))]
        all_goals rfl
      refine ⟨_, _, hD3, ?_⟩
      clear hD3
      refine ⟨(show 0 = 0 ∨ 0 = 1 by first | omega | (simp [upS]; done) | (simp [upS]; omega)), ?_⟩
      all_goals rfl
    refine ⟨_, _, hD4, ?_⟩
    clear hD4
    try rw [if_pos (show (0 : Int) = 0 by first | omega | (simp [upS]; done) | (simp [upS]; omega))]
    refine b354_14 ?_
    have hD5 : Dd 245 [(.inr (.inr (some 682))), (.inl 1)] σ (.inl (some (.inl 0)), (upS σ 682 0 1)) := by
      refine b245 ?_
      try rw [if_neg (show ¬ ((1 : Int) = 0) by first | omega | (simp [upS]; done) | (simp [upS]; omega))]
      all_goals rfl
    refine ⟨_, _, hD5, ?_⟩
    clear hD5
    refine ⟨(show ¬ (0 = 0) → 0 ≤ a1 ∧ a1 < 5 by (first | (intros; first | omega | (simp [upS]; done) | (simp [upS]; omega)) | (intros; simp_all [upS]; done) | (intros; simp_all [upS]; omega))), ?_⟩
    try rw [if_pos (show (0 : Int) = 0 by first | omega | (simp [upS]; done) | (simp [upS]; omega))]
    all_goals rfl
  exact op_x H (by decide) hA hB
theorem x37_1 {σ : Sg} {c : Int} {a1 : Int} (H : Rel c σ) (h0 : σ 402 3 ≤ a1) : OpR 425 354 [(.inr (.inr (some 0))), (.inl a1), (.inr (.inr (some 726)))] [(.inr (.inr (some 682))), (.inl a1)] σ (c + 1) := by
  obtain ⟨r1, r2, r3, r4, r5⟩ := rel_n H
  have hA : Dd 425 [(.inr (.inr (some 0))), (.inl a1), (.inr (.inr (some 726)))] σ (.inl (some (.inl 1)), σ) := by
    refine b425 ?_
    have hD2 : Dd 209 [(.inr (.inr (some 0))), (.inl a1)] σ (.inr 0, σ) := by
      refine b209 ?_
      have hD1 : Dd 232 [(.inr (.inr (some 0))), (.inl a1), (.inl (σ 402 3))] σ (.inr 0, σ) := by
        refine b232 ?_
        rw [if_pos (show (0 : Int) ≤ a1 by first | omega | (simp [upS]; done) | (simp [upS]; omega))]
        rw [if_pos (show (σ 402 3) ≤ a1 by first | omega | (simp [upS]; done) | (simp [upS]; omega))]
        refine b232_9 ?_
        all_goals rfl
      refine Or.inr ⟨_, _, hD1, ?_⟩
      all_goals rfl
    exact Or.inr (⟨_, hD2, rfl⟩)
  have hB : Dd 354 [(.inr (.inr (some 682))), (.inl a1)] σ (.inl (some (.inl 0)), (upS σ 682 0 1)) := by
    refine b354 ?_
    have hD4 : Dd 340 [(.inr (.inr (some 682))), (.inl a1)] σ (.inl (some (.inl 0)), σ) := by
      refine b340 ?_
      have hD3 : Dd 246 [(.inl a1), (.inl (σ 682 40))] σ (.inl (some (.inl 0)), σ) := by
        refine b246 ?_
        try rw [if_pos (show (0 : Int) ≤ a1 by first | omega | (simp [upS]; done) | (simp [upS]; omega))]
        try rw [if_neg (show ¬ (a1 < (σ 682 40)) by first | omega | (simp [upS]; done) | (simp [upS]; omega))]
        all_goals rfl
      refine ⟨_, _, hD3, ?_⟩
      clear hD3
      refine ⟨(show 0 = 0 ∨ 0 = 1 by first | omega | (simp [upS]; done) | (simp [upS]; omega)), ?_⟩
      all_goals rfl
    refine ⟨_, _, hD4, ?_⟩
    clear hD4
    try rw [if_pos (show (0 : Int) = 0 by first | omega | (simp [upS]; done) | (simp [upS]; omega))]
    refine b354_14 ?_
    have hD5 : Dd 245 [(.inr (.inr (some 682))), (.inl 1)] σ (.inl (some (.inl 0)), (upS σ 682 0 1)) := by
      refine b245 ?_
      try rw [if_neg (show ¬ ((1 : Int) = 0) by first | omega | (simp [upS]; done) | (simp [upS]; omega))]
      all_goals rfl
    refine ⟨_, _, hD5, ?_⟩
    clear hD5
    refine ⟨(show ¬ (0 = 0) → 0 ≤ a1 ∧ a1 < 5 by (first | (intros; first | omega | (simp [upS]; done) | (simp [upS]; omega)) | (intros; simp_all [upS]; done) | (intros; simp_all [upS]; omega))), ?_⟩
    try rw [if_pos (show (0 : Int) = 0 by first | omega | (simp [upS]; done) | (simp [upS]; omega))]
    all_goals rfl
  exact op_x H (by decide) hA hB
theorem x38_0 {σ : Sg} {c : Int} {a1 : Int} (H : Rel c σ) (h0 : a1 < 0) : OpR 426 355 [(.inr (.inr (some 0))), (.inl a1), (.inr (.inr (some 726)))] [(.inr (.inr (some 682))), (.inl a1)] σ (c + 1) := by
  obtain ⟨r1, r2, r3, r4, r5⟩ := rel_n H
  have hA : Dd 426 [(.inr (.inr (some 0))), (.inl a1), (.inr (.inr (some 726)))] σ (.inl (some (.inl 1)), σ) := by
    refine b426 ?_
    have hD2 : Dd 210 [(.inr (.inr (some 0))), (.inl a1)] σ (.inr 0, σ) := by
      refine b210 ?_
      have hD1 : Dd 233 [(.inr (.inr (some 0))), (.inl a1)] σ (.inr 0, σ) := by
        refine b233 ?_
        rw [if_pos (show a1 < 0 by first | omega | (simp [upS]; done) | (simp [upS]; omega))]
        all_goals rfl
      refine Or.inr ⟨_, _, hD1, ?_⟩
      all_goals rfl
    exact Or.inr (⟨_, hD2, rfl⟩)
  have hB : Dd 355 [(.inr (.inr (some 682))), (.inl a1)] σ (.inl (some (.inl 0)), (upS σ 682 0 1)) := by
    refine b355 ?_
    try rw [if_neg (show ¬ ((0 : Int) ≤ a1) by first | omega | (simp [upS]; done) | (simp [upS]; omega))]
    refine b355_10 ?_
    have hD3 : Dd 245 [(.inr (.inr (some 682))), (.inl 1)] σ (.inl (some (.inl 0)), (upS σ 682 0 1)) := by
      refine b245 ?_
      try rw [if_neg (show ¬ ((1 : Int) = 0) by first | omega | (simp [upS]; done) | (simp [upS]; omega))]
      all_goals rfl
    refine ⟨_, _, hD3, ?_⟩
    clear hD3
    rw [if_pos (show (0 : Int) = 0 by first | omega | (simp [upS]; done) | (simp [upS]; omega))]
    all_goals rfl
  exact op_x H (by decide) hA hB
theorem x39_0 {σ : Sg} {c : Int} {a1 : Int} (H : Rel c σ) (h0 : a1 < 0) : OpR 427 357 [(.inr (.inr (some 0))), (.inl a1), (.inr (.inr (some 726)))] [(.inr (.inr (some 682))), (.inl a1)] σ (c + 1) := by
  obtain ⟨r1, r2, r3, r4, r5⟩ := rel_n H
  have hA : Dd 427 [(.inr (.inr (some 0))), (.inl a1), (.inr (.inr (some 726)))] σ (.inl (some (.inl 1)), σ) := by
    refine b427 ?_
    have hD2 : Dd 211 [(.inr (.inr (some 0))), (.inl a1)] σ (.inr 0, σ) := by
      refine b211 ?_
      have hD1 : Dd 232 [(.inr (.inr (some 0))), (.inl a1), (.inl (σ 402 3))] σ (.inr 0, σ) := by
        refine b232 ?_
        rw [if_neg (show ¬ ((0 : Int) ≤ a1) by first | omega | (simp [upS]; done) | (simp [upS]; omega))]
        refine b232_9 ?_
        all_goals rfl
      refine Or.inr ⟨_, _, hD1, ?_⟩
      all_goals rfl
    exact Or.inr (⟨_, hD2, rfl⟩)
  have hB : Dd 357 [(.inr (.inr (some 682))), (.inl a1)] σ (.inl (some (.inl 0)), (upS σ 682 0 1)) := by
    refine b357 ?_
    have hD4 : Dd 340 [(.inr (.inr (some 682))), (.inl a1)] σ (.inl (some (.inl 0)), σ) := by
      refine b340 ?_
      have hD3 : Dd 246 [(.inl a1), (.inl (σ 682 40))] σ (.inl (some (.inl 0)), σ) := by
        refine b246 ?_
        try rw [if_neg (show ¬ ((0 : Int) ≤ a1) by first | omega | (simp [upS]; done) | (simp [upS]; omega))]
        all_goals rfl
      refine ⟨_, _, hD3, ?_⟩
      clear hD3
      refine ⟨(show 0 = 0 ∨ 0 = 1 by first | omega | (simp [upS]; done) | (simp [upS]; omega)), ?_⟩
      all_goals rfl
    refine ⟨_, _, hD4, ?_⟩
    clear hD4
    try rw [if_pos (show (0 : Int) = 0 by first | omega | (simp [upS]; done) | (simp [upS]; omega))]
    refine b357_14 ?_
    have hD5 : Dd 245 [(.inr (.inr (some 682))), (.inl 1)] σ (.inl (some (.inl 0)), (upS σ 682 0 1)) := by
      refine b245 ?_
      try rw [if_neg (show ¬ ((1 : Int) = 0) by first | omega | (simp [upS]; done) | (simp [upS]; omega))]
      all_goals rfl
    refine ⟨_, _, hD5, ?_⟩
    clear hD5
    rw [if_pos (show (0 : Int) = 0 by first | omega | (simp [upS]; done) | (simp [upS]; omega))]
    all_goals rfl
  exact op_x H (by decide) hA hB
theorem x39_1 {σ : Sg} {c : Int} {a1 : Int} (H : Rel c σ) (h0 : σ 402 3 ≤ a1) : OpR 427 357 [(.inr (.inr (some 0))), (.inl a1), (.inr (.inr (some 726)))] [(.inr (.inr (some 682))), (.inl a1)] σ (c + 1) := by
  obtain ⟨r1, r2, r3, r4, r5⟩ := rel_n H
  have hA : Dd 427 [(.inr (.inr (some 0))), (.inl a1), (.inr (.inr (some 726)))] σ (.inl (some (.inl 1)), σ) := by
    refine b427 ?_
    have hD2 : Dd 211 [(.inr (.inr (some 0))), (.inl a1)] σ (.inr 0, σ) := by
      refine b211 ?_
      have hD1 : Dd 232 [(.inr (.inr (some 0))), (.inl a1), (.inl (σ 402 3))] σ (.inr 0, σ) := by
        refine b232 ?_
        rw [if_pos (show (0 : Int) ≤ a1 by first | omega | (simp [upS]; done) | (simp [upS]; omega))]
        rw [if_pos (show (σ 402 3) ≤ a1 by first | omega | (simp [upS]; done) | (simp [upS]; omega))]
        refine b232_9 ?_
        all_goals rfl
      refine Or.inr ⟨_, _, hD1, ?_⟩
      all_goals rfl
    exact Or.inr (⟨_, hD2, rfl⟩)
  have hB : Dd 357 [(.inr (.inr (some 682))), (.inl a1)] σ (.inl (some (.inl 0)), (upS σ 682 0 1)) := by
    refine b357 ?_
    have hD4 : Dd 340 [(.inr (.inr (some 682))), (.inl a1)] σ (.inl (some (.inl 0)), σ) := by
      refine b340 ?_
      have hD3 : Dd 246 [(.inl a1), (.inl (σ 682 40))] σ (.inl (some (.inl 0)), σ) := by
        refine b246 ?_
        try rw [if_pos (show (0 : Int) ≤ a1 by first | omega | (simp [upS]; done) | (simp [upS]; omega))]
        try rw [if_neg (show ¬ (a1 < (σ 682 40)) by first | omega | (simp [upS]; done) | (simp [upS]; omega))]
        all_goals rfl
      refine ⟨_, _, hD3, ?_⟩
      clear hD3
      refine ⟨(show 0 = 0 ∨ 0 = 1 by first | omega | (simp [upS]; done) | (simp [upS]; omega)), ?_⟩
      all_goals rfl
    refine ⟨_, _, hD4, ?_⟩
    clear hD4
    try rw [if_pos (show (0 : Int) = 0 by first | omega | (simp [upS]; done) | (simp [upS]; omega))]
    refine b357_14 ?_
    have hD5 : Dd 245 [(.inr (.inr (some 682))), (.inl 1)] σ (.inl (some (.inl 0)), (upS σ 682 0 1)) := by
      refine b245 ?_
      try rw [if_neg (show ¬ ((1 : Int) = 0) by first | omega | (simp [upS]; done) | (simp [upS]; omega))]
      all_goals rfl
    refine ⟨_, _, hD5, ?_⟩
    clear hD5
    rw [if_pos (show (0 : Int) = 0 by first | omega | (simp [upS]; done) | (simp [upS]; omega))]
    all_goals rfl
  exact op_x H (by decide) hA hB
theorem x43_0 {σ : Sg} {c : Int} {a1 : Int} {a2 : Int} {a3 : Int} (H : Rel c σ) (h0 : a1 < 0) : OpB 431 368 [(.inr (.inr (some 0))), (.inl a1), (.inl a2), (.inl a3), (.inr (.inr (some 726)))] [(.inr (.inr (some 682))), (.inl a1), (.inl a2), (.inl a3)] σ (c + 1) := by
  obtain ⟨r1, r2, r3, r4, r5⟩ := rel_n H
  have hA : Dd 431 [(.inr (.inr (some 0))), (.inl a1), (.inl a2), (.inl a3), (.inr (.inr (some 726)))] σ (.inl (some (.inl 1)), σ) := by
    refine b431 ?_
    have hD2 : Dd 215 [(.inr (.inr (some 0))), (.inl a1), (.inl a2), (.inl a3)] σ (.inr 0, σ) := by
      refine b215 ?_
      have hD1 : Dd 232 [(.inr (.inr (some 0))), (.inl a1), (.inl 3)] σ (.inr 0, σ) := by
        refine b232 ?_
        rw [if_neg (show ¬ ((0 : Int) ≤ a1) by first | omega | (simp [upS]; done) | (simp [upS]; omega))]
        refine b232_9 ?_
        all_goals rfl
      refine Or.inr ⟨_, _, hD1, ?_⟩
      all_goals rfl
    exact Or.inr (⟨_, hD2, rfl⟩)
  have hB : Dd 368 [(.inr (.inr (some 682))), (.inl a1), (.inl a2), (.inl a3)] σ (.inl (some (.inl 0)), (upS σ 682 0 1)) := by
    refine b368 ?_
    have hD3 : Dd 246 [(.inl a1), (.inl 3)] σ (.inl (some (.inl 0)), σ) := by
      refine b246 ?_
      try rw [if_neg (show ¬ ((0 : Int) ≤ a1) by first | omega | (simp [upS]; done) | (simp [upS]; omega))]
      all_goals rfl
    refine ⟨_, _, hD3, ?_⟩
    clear hD3
    rw [if_pos (show (0 : Int) = 0 by first | omega | (simp [upS]; done) | (simp [upS]; omega))]
    refine b368_33 ?_
    refine b368_34 ?_
    try rw [if_pos (show (0 : Int) = 0 by first | omega | (simp [upS]; done) | (simp [upS]; omega))]
    refine b368_47 ?_
    have hD4 : Dd 245 [(.inr (.inr (some 682))), (.inl 1)] σ (.inl (some (.inl 0)), (upS σ 682 0 1)) := by
      refine b245 ?_
      try rw [if_neg (show ¬ ((1 : Int) = 0) by first | omega | (simp [upS]; done) | (simp [upS]; omega))]
      all_goals rfl
    refine ⟨_, _, hD4, ?_⟩
    clear hD4
    rw [if_pos (show (0 : Int) = 0 by first | omega | (simp [upS]; done) | (simp [upS]; omega))]
    all_goals rfl
  exact op_xB H (by decide) hA hB
theorem x43_1 {σ : Sg} {c : Int} {a1 : Int} {a2 : Int} {a3 : Int} (H : Rel c σ) (h0 : 3 ≤ a1) : OpB 431 368 [(.inr (.inr (some 0))), (.inl a1), (.inl a2), (.inl a3), (.inr (.inr (some 726)))] [(.inr (.inr (some 682))), (.inl a1), (.inl a2), (.inl a3)] σ (c + 1) := by
  obtain ⟨r1, r2, r3, r4, r5⟩ := rel_n H
  have hA : Dd 431 [(.inr (.inr (some 0))), (.inl a1), (.inl a2), (.inl a3), (.inr (.inr (some 726)))] σ (.inl (some (.inl 1)), σ) := by
    refine b431 ?_
    have hD2 : Dd 215 [(.inr (.inr (some 0))), (.inl a1), (.inl a2), (.inl a3)] σ (.inr 0, σ) := by
      refine b215 ?_
      have hD1 : Dd 232 [(.inr (.inr (some 0))), (.inl a1), (.inl 3)] σ (.inr 0, σ) := by
        refine b232 ?_
        rw [if_pos (show (0 : Int) ≤ a1 by first | omega | (simp [upS]; done) | (simp [upS]; omega))]
        rw [if_pos (show (3 : Int) ≤ a1 by first | omega | (simp [upS]; done) | (simp [upS]; omega))]
        refine b232_9 ?_
        all_goals rfl
      refine Or.inr ⟨_, _, hD1, ?_⟩
      all_goals rfl
    exact Or.inr (⟨_, hD2, rfl⟩)
  have hB : Dd 368 [(.inr (.inr (some 682))), (.inl a1), (.inl a2), (.inl a3)] σ (.inl (some (.inl 0)), (upS σ 682 0 1)) := by
    refine b368 ?_
    have hD3 : Dd 246 [(.inl a1), (.inl 3)] σ (.inl (some (.inl 0)), σ) := by
      refine b246 ?_
      try rw [if_pos (show (0 : Int) ≤ a1 by first | omega | (simp [upS]; done) | (simp [upS]; omega))]
      try rw [if_neg (show ¬ (a1 < 3) by first | omega | (simp [upS]; done) | (simp [upS]; omega))]
      all_goals rfl
    refine ⟨_, _, hD3, ?_⟩
    clear hD3
    rw [if_pos (show (0 : Int) = 0 by first | omega | (simp [upS]; done) | (simp [upS]; omega))]
    refine b368_33 ?_
    refine b368_34 ?_
    try rw [if_pos (show (0 : Int) = 0 by first | omega | (simp [upS]; done) | (simp [upS]; omega))]
    refine b368_47 ?_
    have hD4 : Dd 245 [(.inr (.inr (some 682))), (.inl 1)] σ (.inl (some (.inl 0)), (upS σ 682 0 1)) := by
      refine b245 ?_
      try rw [if_neg (show ¬ ((1 : Int) = 0) by first | omega | (simp [upS]; done) | (simp [upS]; omega))]
      all_goals rfl
    refine ⟨_, _, hD4, ?_⟩
    clear hD4
    rw [if_pos (show (0 : Int) = 0 by first | omega | (simp [upS]; done) | (simp [upS]; omega))]
    all_goals rfl
  exact op_xB H (by decide) hA hB
theorem x43_2 {σ : Sg} {c : Int} {a1 : Int} {a2 : Int} {a3 : Int} (H : Rel c σ) (h0 : 0 ≤ a1 ∧ a1 < 3) (h1 : a2 < 0) : OpB 431 368 [(.inr (.inr (some 0))), (.inl a1), (.inl a2), (.inl a3), (.inr (.inr (some 726)))] [(.inr (.inr (some 682))), (.inl a1), (.inl a2), (.inl a3)] σ (c + 1) := by
  obtain ⟨r1, r2, r3, r4, r5⟩ := rel_n H
  have hA : Dd 431 [(.inr (.inr (some 0))), (.inl a1), (.inl a2), (.inl a3), (.inr (.inr (some 726)))] σ (.inl (some (.inl 1)), σ) := by
    refine b431 ?_
    have hD3 : Dd 215 [(.inr (.inr (some 0))), (.inl a1), (.inl a2), (.inl a3)] σ (.inr 0, σ) := by
      refine b215 ?_
      have hD1 : Dd 232 [(.inr (.inr (some 0))), (.inl a1), (.inl 3)] σ (.inl none, σ) := by
        refine b232 ?_
        rw [if_pos (show (0 : Int) ≤ a1 by first | omega | (simp [upS]; done) | (simp [upS]; omega))]
        rw [if_neg (show ¬ ((3 : Int) ≤ a1) by first | omega | (simp [upS]; done) | (simp [upS]; omega))]
        all_goals rfl
      refine Or.inl ⟨_, hD1, ?_⟩
      clear hD1
      have hD2 : Dd 232 [(.inr (.inr (some 0))), (.inl a2), (.inl 6)] σ (.inr 0, σ) := by
        refine b232 ?_
        rw [if_neg (show ¬ ((0 : Int) ≤ a2) by first | omega | (simp [upS]; done) | (simp [upS]; omega))]
        refine b232_9 ?_
        all_goals rfl
      refine Or.inr ⟨_, _, hD2, ?_⟩
      all_goals rfl
    exact Or.inr (⟨_, hD3, rfl⟩)
  have hB : Dd 368 [(.inr (.inr (some 682))), (.inl a1), (.inl a2), (.inl a3)] σ (.inl (some (.inl 0)), (upS σ 682 0 1)) := by
    refine b368 ?_
    have hD4 : Dd 246 [(.inl a1), (.inl 3)] σ (.inl (some (.inl 1)), σ) := by
      refine b246 ?_
      try rw [if_pos (show (0 : Int) ≤ a1 by first | omega | (simp [upS]; done) | (simp [upS]; omega))]
      try rw [if_pos (show a1 < 3 by first | omega | (simp [upS]; done) | (simp [upS]; omega))]
      all_goals rfl
    refine ⟨_, _, hD4, ?_⟩
    clear hD4
    rw [if_neg (show ¬ ((1 : Int) = 0) by first | omega | (simp [upS]; done) | (simp [upS]; omega))]
    have hD5 : Dd 246 [(.inl a2), (.inl 6)] σ (.inl (some (.inl 0)), σ) := by
      refine b246 ?_
      try rw [if_neg (show ¬ ((0 : Int) ≤ a2) by first | omega | (simp [upS]; done) | (simp [upS]; omega))]
      all_goals rfl
    refine ⟨_, _, hD5, ?_⟩
    clear hD5
    rw [if_pos (show (0 : Int) = 0 by first | omega | (simp [upS]; done) | (simp [upS]; omega))]
    refine b368_33 ?_
    refine b368_34 ?_
    try rw [if_pos (show (0 : Int) = 0 by first | omega | (simp [upS]; done) | (simp [upS]; omega))]
    refine b368_47 ?_
    have hD6 : Dd 245 [(.inr (.inr (some 682))), (.inl 1)] σ (.inl (some (.inl 0)), (upS σ 682 0 1)) := by
      refine b245 ?_
      try rw [if_neg (show ¬ ((1 : Int) = 0) by first | omega | (simp [upS]; done) | (simp [upS]; omega))]
      all_goals rfl
    refine ⟨_, _, hD6, ?_⟩
    clear hD6
    rw [if_pos (show (0 : Int) = 0 by first | omega | (simp [upS]; done) | (simp [upS]; omega))]
    all_goals rfl
  exact op_xB H (by decide) hA hB
theorem x43_3 {σ : Sg} {c : Int} {a1 : Int} {a2 : Int} {a3 : Int} (H : Rel c σ) (h0 : 0 ≤ a1 ∧ a1 < 3) (h1 : 6 ≤ a2) : OpB 431 368 [(.inr (.inr (some 0))), (.inl a1), (.inl a2), (.inl a3), (.inr (.inr (some 726)))] [(.inr (.inr (some 682))), (.inl a1), (.inl a2), (.inl a3)] σ (c + 1) := by
  obtain ⟨r1, r2, r3, r4, r5⟩ := rel_n H
  have hA : Dd 431 [(.inr (.inr (some 0))), (.inl a1), (.inl a2), (.inl a3), (.inr (.inr (some 726)))] σ (.inl (some (.inl 1)), σ) := by
    refine b431 ?_
    have hD3 : Dd 215 [(.inr (.inr (some 0))), (.inl a1), (.inl a2), (.inl a3)] σ (.inr 0, σ) := by
      refine b215 ?_
      have hD1 : Dd 232 [(.inr (.inr (some 0))), (.inl a1), (.inl 3)] σ (.inl none, σ) := by
        refine b232 ?_
        rw [if_pos (show (0 : Int) ≤ a1 by first | omega | (simp [upS]; done) | (simp [upS]; omega))]
        rw [if_neg (show ¬ ((3 : Int) ≤ a1) by first | omega | (simp [upS]; done) | (simp [upS]; omega))]
        all_goals rfl
      refine Or.inl ⟨_, hD1, ?_⟩
      clear hD1
      have hD2 : Dd 232 [(.inr (.inr (some 0))), (.inl a2), (.inl 6)] σ (.inr 0, σ) := by
        refine b232 ?_
        rw [if_pos (show (0 : Int) ≤ a2 by first | omega | (simp [upS]; done) | (simp [upS]; omega))]
        rw [if_pos (show (6 : Int) ≤ a2 by first | omega | (simp [upS]; done) | (simp [upS]; omega))]
        refine b232_9 ?_
        all_goals rfl
      refine Or.inr ⟨_, _, hD2, ?_⟩
      all_goals rfl
    exact Or.inr (⟨_, hD3, rfl⟩)
  have hB : Dd 368 [(.inr (.inr (some 682))), (.inl a1), (.inl a2), (.inl a3)] σ (.inl (some (.inl 0)), (upS σ 682 0 1)) := by
    refine b368 ?_
    have hD4 : Dd 246 [(.inl a1), (.inl 3)] σ (.inl (some (.inl 1)), σ) := by
      refine b246 ?_
      try rw [if_pos (show (0 : Int) ≤ a1 by first | omega | (simp [upS]; done) | (simp [upS]; omega))]
      try rw [if_pos (show a1 < 3 by first | omega | (simp [upS]; done) | (simp [upS]; omega))]
      all_goals rfl
    refine ⟨_, _, hD4, ?_⟩
    clear hD4
    rw [if_neg (show ¬ ((1 : Int) = 0) by first | omega | (simp [upS]; done) | (simp [upS]; omega))]
    have hD5 : Dd 246 [(.inl a2), (.inl 6)] σ (.inl (some (.inl 0)), σ) := by
      refine b246 ?_
      try rw [if_pos (show (0 : Int) ≤ a2 by first | omega | (simp [upS]; done) | (simp [upS]; omega))]
      try rw [if_neg (show ¬ (a2 < 6) by first | omega | (simp [upS]; done) | (simp [upS]; omega))]
      all_goals rfl
    refine ⟨_, _, hD5, ?_⟩
    clear hD5
    rw [if_pos (show (0 : Int) = 0 by first | omega | (simp [upS]; done) | (simp [upS]; omega))]
    refine b368_33 ?_
    refine b368_34 ?_
    try rw [if_pos (show (0 : Int) = 0 by first | omega | (simp [upS]; done) | (simp [upS]; omega))]
    refine b368_47 ?_
    have hD6 : Dd 245 [(.inr (.inr (some 682))), (.inl 1)] σ (.inl (some (.inl 0)), (upS σ 682 0 1)) := by
      refine b245 ?_
      try rw [if_neg (show ¬ ((1 : Int) = 0) by first | omega | (simp [upS]; done) | (simp [upS]; omega))]
      all_goals rfl
    refine ⟨_, _, hD6, ?_⟩
    clear hD6
    rw [if_pos (show (0 : Int) = 0 by first | omega | (simp [upS]; done) | (simp [upS]; omega))]
    all_goals rfl
  exact op_xB H (by decide) hA hB
theorem x43_4 {σ : Sg} {c : Int} {a1 : Int} {a2 : Int} {a3 : Int} (H : Rel c σ) (h0 : 0 ≤ a1 ∧ a1 < 3) (h1 : 0 ≤ a2 ∧ a2 < 6) (h2 : a3 < -1 ∧ σ 652 ((((a1 * 6) + a2))).toNat = 0) : OpB 431 368 [(.inr (.inr (some 0))), (.inl a1), (.inl a2), (.inl a3), (.inr (.inr (some 726)))] [(.inr (.inr (some 682))), (.inl a1), (.inl a2), (.inl a3)] σ (c + 1) := by
  obtain ⟨r1, r2, r3, r4, r5⟩ := rel_n H
  have hA : Dd 431 [(.inr (.inr (some 0))), (.inl a1), (.inl a2), (.inl a3), (.inr (.inr (some 726)))] σ (.inl (some (.inl 1)), σ) := by
    refine b431 ?_
    have hD8 : Dd 215 [(.inr (.inr (some 0))), (.inl a1), (.inl a2), (.inl a3)] σ (.inr 0, σ) := by
      refine b215 ?_
      have hD1 : Dd 232 [(.inr (.inr (some 0))), (.inl a1), (.inl 3)] σ (.inl none, σ) := by
        refine b232 ?_
        rw [if_pos (show (0 : Int) ≤ a1 by first | omega | (simp [upS]; done) | (simp [upS]; omega))]
        rw [if_neg (show ¬ ((3 : Int) ≤ a1) by first | omega | (simp [upS]; done) | (simp [upS]; omega))]
        all_goals rfl
      refine Or.inl ⟨_, hD1, ?_⟩
      clear hD1
      have hD2 : Dd 232 [(.inr (.inr (some 0))), (.inl a2), (.inl 6)] σ (.inl none, σ) := by
        refine b232 ?_
        rw [if_pos (show (0 : Int) ≤ a2 by first | omega | (simp [upS]; done) | (simp [upS]; omega))]
        rw [if_neg (show ¬ ((6 : Int) ≤ a2) by first | omega | (simp [upS]; done) | (simp [upS]; omega))]
        all_goals rfl
      refine Or.inl ⟨_, hD2, ?_⟩
      clear hD2
      have hD4 : Dd 50 [(.inr (.inr (some 614))), (.inl a1), (.inl a2)] σ (.inl (some (.inl 0)), σ) := by
        refine b50 ?_
        have hD3 : Dd 51 [(.inl a1), (.inl a2)] σ (.inl (some (.inl ((a1 * 6) + a2))), σ) := by
          refine b51 ?_
          rw [if_pos (show (0 : Int) ≤ a1 by first | omega | (simp [upS]; done) | (simp [upS]; omega))]
          rw [if_pos (show a1 < 3 by first | omega | (simp [upS]; done) | (simp [upS]; omega))]
          rw [if_pos (show (0 : Int) ≤ a2 by first | omega | (simp [upS]; done) | (simp [upS]; omega))]
          rw [if_pos (show a2 < 6 by first | omega | (simp [upS]; done) | (simp [upS]; omega))]
          refine b51_24 ?_
          refine ⟨(show ¬ (1 = 0) → -2147483648 ≤ (a1 * 6) ∧ (a1 * 6) ≤ 2147483647 by (first | (intros; first | omega | (simp [upS]; done) | (simp [upS]; omega)) | (intros; simp_all [upS]; done) | (intros; simp_all [upS]; omega))), ?_⟩
          refine ⟨(show ¬ (1 = 0) → -2147483648 ≤ ((a1 * 6) + a2) ∧ ((a1 * 6) + a2) ≤ 2147483647 by (first | (intros; first | omega | (simp [upS]; done) | (simp [upS]; omega)) | (intros; simp_all [upS]; done) | (intros; simp_all [upS]; omega))), ?_⟩
          try rw [if_neg (show ¬ ((1 : Int) = 0) by first | omega | (simp [upS]; done) | (simp [upS]; omega))]
          all_goals rfl
        refine ⟨_, _, hD3, ?_⟩
        clear hD3
        refine ⟨(show (((a1 * 6) + a2) < 18) → 0 ≤ ((a1 * 6) + a2) ∧ ((a1 * 6) + a2) < 18 by (first | (intros; first | omega | (simp [upS]; done) | (simp [upS]; omega)) | (intros; simp_all [upS]; done) | (intros; simp_all [upS]; omega))), ?_⟩
        try rw [if_pos (show ((a1 * 6) + a2) < 18 by first | omega | (simp [upS]; done) | (simp [upS]; omega))]
        try rw [if_pos (show (σ 652 (((a1 * 6) + a2)).toNat) = 0 by first | omega | (simp [upS]; done) | (simp [upS]; omega))]
        all_goals rfl
      refine ⟨_, _, hD4, ?_⟩
      clear hD4
      rw [if_neg (show ¬ (a3 = (-1)) by first | omega | (simp [upS]; done) | (simp [upS]; omega))]
      have hD7 : Dd 227 [(.inr (.inr (some 0))), (.inl a3)] σ (.inr 0, σ) := by
        refine b227 ?_
        have hD5 : Dd 145 [(.inr (.inr (some 1))), (.inl a3)] σ (.inl (some (.inr (.inr none))), σ) := by
          refine b145 ?_
          rw [if_neg (show ¬ ((0 : Int) ≤ a3) by first | omega | (simp [upS]; done) | (simp [upS]; omega))]
          all_goals rfl
        refine ⟨_, _, hD5, ?_⟩
        clear hD5
        refine ⟨fun _ => ?_, fun _ hz6 => (by cases hz6)⟩
        all_goals rfl
      refine Or.inr ⟨_, _, hD7, ?_⟩
      all_goals rfl
    exact Or.inr (⟨_, hD8, rfl⟩)
  have hB : Dd 368 [(.inr (.inr (some 682))), (.inl a1), (.inl a2), (.inl a3)] σ (.inl (some (.inl 0)), (upS σ 682 0 1)) := by
    refine b368 ?_
    have hD9 : Dd 246 [(.inl a1), (.inl 3)] σ (.inl (some (.inl 1)), σ) := by
      refine b246 ?_
      try rw [if_pos (show (0 : Int) ≤ a1 by first | omega | (simp [upS]; done) | (simp [upS]; omega))]
      try rw [if_pos (show a1 < 3 by first | omega | (simp [upS]; done) | (simp [upS]; omega))]
      all_goals rfl
    refine ⟨_, _, hD9, ?_⟩
    clear hD9
    rw [if_neg (show ¬ ((1 : Int) = 0) by first | omega | (simp [upS]; done) | (simp [upS]; omega))]
    have hD10 : Dd 246 [(.inl a2), (.inl 6)] σ (.inl (some (.inl 1)), σ) := by
      refine b246 ?_
      try rw [if_pos (show (0 : Int) ≤ a2 by first | omega | (simp [upS]; done) | (simp [upS]; omega))]
      try rw [if_pos (show a2 < 6 by first | omega | (simp [upS]; done) | (simp [upS]; omega))]
      all_goals rfl
    refine ⟨_, _, hD10, ?_⟩
    clear hD10
    rw [if_neg (show ¬ ((1 : Int) = 0) by first | omega | (simp [upS]; done) | (simp [upS]; omega))]
    have hD12 : Dd 247 [(.inl a3)] σ (.inl (some (.inl 0)), σ) := by
      refine b247 ?_
      have hD11 : Dd 246 [(.inl a3), (.inl 4)] σ (.inl (some (.inl 0)), σ) := by
        refine b246 ?_
        try rw [if_neg (show ¬ ((0 : Int) ≤ a3) by first | omega | (simp [upS]; done) | (simp [upS]; omega))]
        all_goals rfl
      refine ⟨_, _, hD11, ?_⟩
      clear hD11
      refine ⟨(show 0 = 0 ∨ 0 = 1 by first | omega | (simp [upS]; done) | (simp [upS]; omega)), ?_⟩
      all_goals rfl
    refine ⟨_, _, hD12, ?_⟩
    clear hD12
    rw [if_pos (show (0 : Int) = 0 by first | omega | (simp [upS]; done) | (simp [upS]; omega))]
    rw [if_neg (show ¬ (a3 = (-1)) by first | omega | (simp [upS]; done) | (simp [upS]; omega))]
    refine b368_33 ?_
    refine b368_34 ?_
    try rw [if_pos (show (0 : Int) = 0 by first | omega | (simp [upS]; done) | (simp [upS]; omega))]
    refine b368_47 ?_
    have hD13 : Dd 245 [(.inr (.inr (some 682))), (.inl 1)] σ (.inl (some (.inl 0)), (upS σ 682 0 1)) := by
      refine b245 ?_
      try rw [if_neg (show ¬ ((1 : Int) = 0) by first | omega | (simp [upS]; done) | (simp [upS]; omega))]
      all_goals rfl
    refine ⟨_, _, hD13, ?_⟩
    clear hD13
    rw [if_pos (show (0 : Int) = 0 by first | omega | (simp [upS]; done) | (simp [upS]; omega))]
    all_goals rfl
  exact op_xB H (by decide) hA hB
theorem x43_5 {σ : Sg} {c : Int} {a1 : Int} {a2 : Int} {a3 : Int} (H : Rel c σ) (h0 : 0 ≤ a1 ∧ a1 < 3) (h1 : 0 ≤ a2 ∧ a2 < 6) (h2 : 4 ≤ a3 ∧ σ 652 ((((a1 * 6) + a2))).toNat = 0) : OpB 431 368 [(.inr (.inr (some 0))), (.inl a1), (.inl a2), (.inl a3), (.inr (.inr (some 726)))] [(.inr (.inr (some 682))), (.inl a1), (.inl a2), (.inl a3)] σ (c + 1) := by
  obtain ⟨r1, r2, r3, r4, r5⟩ := rel_n H
  have hA : Dd 431 [(.inr (.inr (some 0))), (.inl a1), (.inl a2), (.inl a3), (.inr (.inr (some 726)))] σ (.inl (some (.inl 1)), σ) := by
    refine b431 ?_
    have hD8 : Dd 215 [(.inr (.inr (some 0))), (.inl a1), (.inl a2), (.inl a3)] σ (.inr 0, σ) := by
      refine b215 ?_
      have hD1 : Dd 232 [(.inr (.inr (some 0))), (.inl a1), (.inl 3)] σ (.inl none, σ) := by
        refine b232 ?_
        rw [if_pos (show (0 : Int) ≤ a1 by first | omega | (simp [upS]; done) | (simp [upS]; omega))]
        rw [if_neg (show ¬ ((3 : Int) ≤ a1) by first | omega | (simp [upS]; done) | (simp [upS]; omega))]
        all_goals rfl
      refine Or.inl ⟨_, hD1, ?_⟩
      clear hD1
      have hD2 : Dd 232 [(.inr (.inr (some 0))), (.inl a2), (.inl 6)] σ (.inl none, σ) := by
        refine b232 ?_
        rw [if_pos (show (0 : Int) ≤ a2 by first | omega | (simp [upS]; done) | (simp [upS]; omega))]
        rw [if_neg (show ¬ ((6 : Int) ≤ a2) by first | omega | (simp [upS]; done) | (simp [upS]; omega))]
        all_goals rfl
      refine Or.inl ⟨_, hD2, ?_⟩
      clear hD2
      have hD4 : Dd 50 [(.inr (.inr (some 614))), (.inl a1), (.inl a2)] σ (.inl (some (.inl 0)), σ) := by
        refine b50 ?_
        have hD3 : Dd 51 [(.inl a1), (.inl a2)] σ (.inl (some (.inl ((a1 * 6) + a2))), σ) := by
          refine b51 ?_
          rw [if_pos (show (0 : Int) ≤ a1 by first | omega | (simp [upS]; done) | (simp [upS]; omega))]
          rw [if_pos (show a1 < 3 by first | omega | (simp [upS]; done) | (simp [upS]; omega))]
          rw [if_pos (show (0 : Int) ≤ a2 by first | omega | (simp [upS]; done) | (simp [upS]; omega))]
          rw [if_pos (show a2 < 6 by first | omega | (simp [upS]; done) | (simp [upS]; omega))]
          refine b51_24 ?_
          refine ⟨(show ¬ (1 = 0) → -2147483648 ≤ (a1 * 6) ∧ (a1 * 6) ≤ 2147483647 by (first | (intros; first | omega | (simp [upS]; done) | (simp [upS]; omega)) | (intros; simp_all [upS]; done) | (intros; simp_all [upS]; omega))), ?_⟩
          refine ⟨(show ¬ (1 = 0) → -2147483648 ≤ ((a1 * 6) + a2) ∧ ((a1 * 6) + a2) ≤ 2147483647 by (first | (intros; first | omega | (simp [upS]; done) | (simp [upS]; omega)) | (intros; simp_all [upS]; done) | (intros; simp_all [upS]; omega))), ?_⟩
          try rw [if_neg (show ¬ ((1 : Int) = 0) by first | omega | (simp [upS]; done) | (simp [upS]; omega))]
          all_goals rfl
        refine ⟨_, _, hD3, ?_⟩
        clear hD3
        refine ⟨(show (((a1 * 6) + a2) < 18) → 0 ≤ ((a1 * 6) + a2) ∧ ((a1 * 6) + a2) < 18 by (first | (intros; first | omega | (simp [upS]; done) | (simp [upS]; omega)) | (intros; simp_all [upS]; done) | (intros; simp_all [upS]; omega))), ?_⟩
        try rw [if_pos (show ((a1 * 6) + a2) < 18 by first | omega | (simp [upS]; done) | (simp [upS]; omega))]
        try rw [if_pos (show (σ 652 (((a1 * 6) + a2)).toNat) = 0 by first | omega | (simp [upS]; done) | (simp [upS]; omega))]
        all_goals rfl
      refine ⟨_, _, hD4, ?_⟩
      clear hD4
      rw [if_neg (show ¬ (a3 = (-1)) by first | omega | (simp [upS]; done) | (simp [upS]; omega))]
      have hD7 : Dd 227 [(.inr (.inr (some 0))), (.inl a3)] σ (.inr 0, σ) := by
        refine b227 ?_
        have hD5 : Dd 145 [(.inr (.inr (some 1))), (.inl a3)] σ (.inl (some (.inr (.inr none))), σ) := by
          refine b145 ?_
          rw [if_pos (show (0 : Int) ≤ a3 by first | omega | (simp [upS]; done) | (simp [upS]; omega))]
          refine ⟨4, (by decide +kernel), (by decide), ?_⟩
          rw [if_neg (show ¬ (a3 < ((4 : Nat) : Int)) by first | omega | (simp [upS]; done) | (simp [upS]; omega))]
          all_goals rfl
        refine ⟨_, _, hD5, ?_⟩
        clear hD5
        refine ⟨fun _ => ?_, fun _ hz6 => (by cases hz6)⟩
        all_goals rfl
      refine Or.inr ⟨_, _, hD7, ?_⟩
      all_goals rfl
    exact Or.inr (⟨_, hD8, rfl⟩)
  have hB : Dd 368 [(.inr (.inr (some 682))), (.inl a1), (.inl a2), (.inl a3)] σ (.inl (some (.inl 0)), (upS σ 682 0 1)) := by
    refine b368 ?_
    have hD9 : Dd 246 [(.inl a1), (.inl 3)] σ (.inl (some (.inl 1)), σ) := by
      refine b246 ?_
      try rw [if_pos (show (0 : Int) ≤ a1 by first | omega | (simp [upS]; done) | (simp [upS]; omega))]
      try rw [if_pos (show a1 < 3 by first | omega | (simp [upS]; done) | (simp [upS]; omega))]
      all_goals rfl
    refine ⟨_, _, hD9, ?_⟩
    clear hD9
    rw [if_neg (show ¬ ((1 : Int) = 0) by first | omega | (simp [upS]; done) | (simp [upS]; omega))]
    have hD10 : Dd 246 [(.inl a2), (.inl 6)] σ (.inl (some (.inl 1)), σ) := by
      refine b246 ?_
      try rw [if_pos (show (0 : Int) ≤ a2 by first | omega | (simp [upS]; done) | (simp [upS]; omega))]
      try rw [if_pos (show a2 < 6 by first | omega | (simp [upS]; done) | (simp [upS]; omega))]
      all_goals rfl
    refine ⟨_, _, hD10, ?_⟩
    clear hD10
    rw [if_neg (show ¬ ((1 : Int) = 0) by first | omega | (simp [upS]; done) | (simp [upS]; omega))]
    have hD12 : Dd 247 [(.inl a3)] σ (.inl (some (.inl 0)), σ) := by
      refine b247 ?_
      have hD11 : Dd 246 [(.inl a3), (.inl 4)] σ (.inl (some (.inl 0)), σ) := by
        refine b246 ?_
        try rw [if_pos (show (0 : Int) ≤ a3 by first | omega | (simp [upS]; done) | (simp [upS]; omega))]
        try rw [if_neg (show ¬ (a3 < 4) by first | omega | (simp [upS]; done) | (simp [upS]; omega))]
        all_goals rfl
      refine ⟨_, _, hD11, ?_⟩
      clear hD11
      refine ⟨(show 0 = 0 ∨ 0 = 1 by first | omega | (simp [upS]; done) | (simp [upS]; omega)), ?_⟩
      all_goals rfl
    refine ⟨_, _, hD12, ?_⟩
    clear hD12
    rw [if_pos (show (0 : Int) = 0 by first | omega | (simp [upS]; done) | (simp [upS]; omega))]
    rw [if_neg (show ¬ (a3 = (-1)) by first | omega | (simp [upS]; done) | (simp [upS]; omega))]
    refine b368_33 ?_
    refine b368_34 ?_
    try rw [if_pos (show (0 : Int) = 0 by first | omega | (simp [upS]; done) | (simp [upS]; omega))]
    refine b368_47 ?_
    have hD13 : Dd 245 [(.inr (.inr (some 682))), (.inl 1)] σ (.inl (some (.inl 0)), (upS σ 682 0 1)) := by
      refine b245 ?_
      try rw [if_neg (show ¬ ((1 : Int) = 0) by first | omega | (simp [upS]; done) | (simp [upS]; omega))]
      all_goals rfl
    refine ⟨_, _, hD13, ?_⟩
    clear hD13
    rw [if_pos (show (0 : Int) = 0 by first | omega | (simp [upS]; done) | (simp [upS]; omega))]
    all_goals rfl
  exact op_xB H (by decide) hA hB
theorem x43_6 {σ : Sg} {c : Int} {a1 : Int} {a2 : Int} {a3 : Int} (H : Rel c σ) (h0 : 0 ≤ a1 ∧ a1 < 3) (h1 : 0 ≤ a2 ∧ a2 < 6) (h2 : a3 < -1 ∧ ¬ σ 652 ((((a1 * 6) + a2))).toNat = 0) : OpB 431 368 [(.inr (.inr (some 0))), (.inl a1), (.inl a2), (.inl a3), (.inr (.inr (some 726)))] [(.inr (.inr (some 682))), (.inl a1), (.inl a2), (.inl a3)] σ (c + 1) := by
  obtain ⟨r1, r2, r3, r4, r5⟩ := rel_n H
  have hA : Dd 431 [(.inr (.inr (some 0))), (.inl a1), (.inl a2), (.inl a3), (.inr (.inr (some 726)))] σ (.inl (some (.inl 1)), σ) := by
    refine b431 ?_
    have hD8 : Dd 215 [(.inr (.inr (some 0))), (.inl a1), (.inl a2), (.inl a3)] σ (.inr 0, σ) := by
      refine b215 ?_
      have hD1 : Dd 232 [(.inr (.inr (some 0))), (.inl a1), (.inl 3)] σ (.inl none, σ) := by
        refine b232 ?_
        rw [if_pos (show (0 : Int) ≤ a1 by first | omega | (simp [upS]; done) | (simp [upS]; omega))]
        rw [if_neg (show ¬ ((3 : Int) ≤ a1) by first | omega | (simp [upS]; done) | (simp [upS]; omega))]
        all_goals rfl
      refine Or.inl ⟨_, hD1, ?_⟩
      clear hD1
      have hD2 : Dd 232 [(.inr (.inr (some 0))), (.inl a2), (.inl 6)] σ (.inl none, σ) := by
        refine b232 ?_
        rw [if_pos (show (0 : Int) ≤ a2 by first | omega | (simp [upS]; done) | (simp [upS]; omega))]
        rw [if_neg (show ¬ ((6 : Int) ≤ a2) by first | omega | (simp [upS]; done) | (simp [upS]; omega))]
        all_goals rfl
      refine Or.inl ⟨_, hD2, ?_⟩
      clear hD2
      have hD4 : Dd 50 [(.inr (.inr (some 614))), (.inl a1), (.inl a2)] σ (.inl (some (.inl 1)), σ) := by
        refine b50 ?_
        have hD3 : Dd 51 [(.inl a1), (.inl a2)] σ (.inl (some (.inl ((a1 * 6) + a2))), σ) := by
          refine b51 ?_
          rw [if_pos (show (0 : Int) ≤ a1 by first | omega | (simp [upS]; done) | (simp [upS]; omega))]
          rw [if_pos (show a1 < 3 by first | omega | (simp [upS]; done) | (simp [upS]; omega))]
          rw [if_pos (show (0 : Int) ≤ a2 by first | omega | (simp [upS]; done) | (simp [upS]; omega))]
          rw [if_pos (show a2 < 6 by first | omega | (simp [upS]; done) | (simp [upS]; omega))]
          refine b51_24 ?_
          refine ⟨(show ¬ (1 = 0) → -2147483648 ≤ (a1 * 6) ∧ (a1 * 6) ≤ 2147483647 by (first | (intros; first | omega | (simp [upS]; done) | (simp [upS]; omega)) | (intros; simp_all [upS]; done) | (intros; simp_all [upS]; omega))), ?_⟩
          refine ⟨(show ¬ (1 = 0) → -2147483648 ≤ ((a1 * 6) + a2) ∧ ((a1 * 6) + a2) ≤ 2147483647 by (first | (intros; first | omega | (simp [upS]; done) | (simp [upS]; omega)) | (intros; simp_all [upS]; done) | (intros; simp_all [upS]; omega))), ?_⟩
          try rw [if_neg (show ¬ ((1 : Int) = 0) by first | omega | (simp [upS]; done) | (simp [upS]; omega))]
          all_goals rfl
        refine ⟨_, _, hD3, ?_⟩
        clear hD3
        refine ⟨(show (((a1 * 6) + a2) < 18) → 0 ≤ ((a1 * 6) + a2) ∧ ((a1 * 6) + a2) < 18 by (first | (intros; first | omega | (simp [upS]; done) | (simp [upS]; omega)) | (intros; simp_all [upS]; done) | (intros; simp_all [upS]; omega))), ?_⟩
        try rw [if_pos (show ((a1 * 6) + a2) < 18 by first | omega | (simp [upS]; done) | (simp [upS]; omega))]
        try rw [if_neg (show ¬ ((σ 652 (((a1 * 6) + a2)).toNat) = 0) by first | omega | (simp [upS]; done) | (simp [upS]; omega))]
        all_goals rfl
      refine ⟨_, _, hD4, ?_⟩
      clear hD4
      rw [if_neg (show ¬ (a3 = (-1)) by first | omega | (simp [upS]; done) | (simp [upS]; omega))]
      have hD7 : Dd 227 [(.inr (.inr (some 0))), (.inl a3)] σ (.inr 0, σ) := by
        refine b227 ?_
        have hD5 : Dd 145 [(.inr (.inr (some 1))), (.inl a3)] σ (.inl (some (.inr (.inr none))), σ) := by
          refine b145 ?_
          rw [if_neg (show ¬ ((0 : Int) ≤ a3) by first | omega | (simp [upS]; done) | (simp [upS]; omega))]
          all_goals rfl
        refine ⟨_, _, hD5, ?_⟩
        clear hD5
        refine ⟨fun _ => ?_, fun _ hz6 => (by cases hz6)⟩
        all_goals rfl
      refine Or.inr ⟨_, _, hD7, ?_⟩
      all_goals rfl
    exact Or.inr (⟨_, hD8, rfl⟩)
  have hB : Dd 368 [(.inr (.inr (some 682))), (.inl a1), (.inl a2), (.inl a3)] σ (.inl (some (.inl 0)), (upS σ 682 0 1)) := by
    refine b368 ?_
    have hD9 : Dd 246 [(.inl a1), (.inl 3)] σ (.inl (some (.inl 1)), σ) := by
      refine b246 ?_
      try rw [if_pos (show (0 : Int) ≤ a1 by first | omega | (simp [upS]; done) | (simp [upS]; omega))]
      try rw [if_pos (show a1 < 3 by first | omega | (simp [upS]; done) | (simp [upS]; omega))]
      all_goals rfl
    refine ⟨_, _, hD9, ?_⟩
    clear hD9
    rw [if_neg (show ¬ ((1 : Int) = 0) by first | omega | (simp [upS]; done) | (simp [upS]; omega))]
    have hD10 : Dd 246 [(.inl a2), (.inl 6)] σ (.inl (some (.inl 1)), σ) := by
      refine b246 ?_
      try rw [if_pos (show (0 : Int) ≤ a2 by first | omega | (simp [upS]; done) | (simp [upS]; omega))]
      try rw [if_pos (show a2 < 6 by first | omega | (simp [upS]; done) | (simp [upS]; omega))]
      all_goals rfl
    refine ⟨_, _, hD10, ?_⟩
    clear hD10
    rw [if_neg (show ¬ ((1 : Int) = 0) by first | omega | (simp [upS]; done) | (simp [upS]; omega))]
    have hD12 : Dd 247 [(.inl a3)] σ (.inl (some (.inl 0)), σ) := by
      refine b247 ?_
      have hD11 : Dd 246 [(.inl a3), (.inl 4)] σ (.inl (some (.inl 0)), σ) := by
        refine b246 ?_
        try rw [if_neg (show ¬ ((0 : Int) ≤ a3) by first | omega | (simp [upS]; done) | (simp [upS]; omega))]
        all_goals rfl
      refine ⟨_, _, hD11, ?_⟩
      clear hD11
      refine ⟨(show 0 = 0 ∨ 0 = 1 by first | omega | (simp [upS]; done) | (simp [upS]; omega)), ?_⟩
      all_goals rfl
    refine ⟨_, _, hD12, ?_⟩
    clear hD12
    rw [if_pos (show (0 : Int) = 0 by first | omega | (simp [upS]; done) | (simp [upS]; omega))]
    rw [if_neg (show ¬ (a3 = (-1)) by first | omega | (simp [upS]; done) | (simp [upS]; omega))]
    refine b368_33 ?_
    refine b368_34 ?_
    try rw [if_pos (show (0 : Int) = 0 by first | omega | (simp [upS]; done) | (simp [upS]; omega))]
    refine b368_47 ?_
    have hD13 : Dd 245 [(.inr (.inr (some 682))), (.inl 1)] σ (.inl (some (.inl 0)), (upS σ 682 0 1)) := by
      refine b245 ?_
      try rw [if_neg (show ¬ ((1 : Int) = 0) by first | omega | (simp [upS]; done) | (simp [upS]; omega))]
      all_goals rfl
    refine ⟨_, _, hD13, ?_⟩
    clear hD13
    rw [if_pos (show (0 : Int) = 0 by first | omega | (simp [upS]; done) | (simp [upS]; omega))]
    all_goals rfl
  exact op_xB H (by decide) hA hB
theorem x43_7 {σ : Sg} {c : Int} {a1 : Int} {a2 : Int} {a3 : Int} (H : Rel c σ) (h0 : 0 ≤ a1 ∧ a1 < 3) (h1 : 0 ≤ a2 ∧ a2 < 6) (h2 : 4 ≤ a3 ∧ ¬ σ 652 ((((a1 * 6) + a2))).toNat = 0) : OpB 431 368 [(.inr (.inr (some 0))), (.inl a1), (.inl a2), (.inl a3), (.inr (.inr (some 726)))] [(.inr (.inr (some 682))), (.inl a1), (.inl a2), (.inl a3)] σ (c + 1) := by
  obtain ⟨r1, r2, r3, r4, r5⟩ := rel_n H
  have hA : Dd 431 [(.inr (.inr (some 0))), (.inl a1), (.inl a2), (.inl a3), (.inr (.inr (some 726)))] σ (.inl (some (.inl 1)), σ) := by
    refine b431 ?_
    have hD8 : Dd 215 [(.inr (.inr (some 0))), (.inl a1), (.inl a2), (.inl a3)] σ (.inr 0, σ) := by
      refine b215 ?_
      have hD1 : Dd 232 [(.inr (.inr (some 0))), (.inl a1), (.inl 3)] σ (.inl none, σ) := by
        refine b232 ?_
        rw [if_pos (show (0 : Int) ≤ a1 by first | omega | (simp [upS]; done) | (simp [upS]; omega))]
        rw [if_neg (show ¬ ((3 : Int) ≤ a1) by first | omega | (simp [upS]; done) | (simp [upS]; omega))]
        all_goals rfl
      refine Or.inl ⟨_, hD1, ?_⟩
      clear hD1
      have hD2 : Dd 232 [(.inr (.inr (some 0))), (.inl a2), (.inl 6)] σ (.inl none, σ) := by
        refine b232 ?_
        rw [if_pos (show (0 : Int) ≤ a2 by first | omega | (simp [upS]; done) | (simp [upS]; omega))]
        rw [if_neg (show ¬ ((6 : Int) ≤ a2) by first | omega | (simp [upS]; done) | (simp [upS]; omega))]
        all_goals rfl
      refine Or.inl ⟨_, hD2, ?_⟩
      clear hD2
      have hD4 : Dd 50 [(.inr (.inr (some 614))), (.inl a1), (.inl a2)] σ (.inl (some (.inl 1)), σ) := by
        refine b50 ?_
        have hD3 : Dd 51 [(.inl a1), (.inl a2)] σ (.inl (some (.inl ((a1 * 6) + a2))), σ) := by
          refine b51 ?_
          rw [if_pos (show (0 : Int) ≤ a1 by first | omega | (simp [upS]; done) | (simp [upS]; omega))]
          rw [if_pos (show a1 < 3 by first | omega | (simp [upS]; done) | (simp [upS]; omega))]
          rw [if_pos (show (0 : Int) ≤ a2 by first | omega | (simp [upS]; done) | (simp [upS]; omega))]
          rw [if_pos (show a2 < 6 by first | omega | (simp [upS]; done) | (simp [upS]; omega))]
          refine b51_24 ?_
          refine ⟨(show ¬ (1 = 0) → -2147483648 ≤ (a1 * 6) ∧ (a1 * 6) ≤ 2147483647 by (first | (intros; first | omega | (simp [upS]; done) | (simp [upS]; omega)) | (intros; simp_all [upS]; done) | (intros; simp_all [upS]; omega))), ?_⟩
          refine ⟨(show ¬ (1 = 0) → -2147483648 ≤ ((a1 * 6) + a2) ∧ ((a1 * 6) + a2) ≤ 2147483647 by (first | (intros; first | omega | (simp [upS]; done) | (simp [upS]; omega)) | (intros; simp_all [upS]; done) | (intros; simp_all [upS]; omega))), ?_⟩
          try rw [if_neg (show ¬ ((1 : Int) = 0) by first | omega | (simp [upS]; done) | (simp [upS]; omega))]
          all_goals rfl
        refine ⟨_, _, hD3, ?_⟩
        clear hD3
        refine ⟨(show (((a1 * 6) + a2) < 18) → 0 ≤ ((a1 * 6) + a2) ∧ ((a1 * 6) + a2) < 18 by (first | (intros; first | omega | (simp [upS]; done) | (simp [upS]; omega)) | (intros; simp_all [upS]; done) | (intros; simp_all [upS]; omega))), ?_⟩
        try rw [if_pos (show ((a1 * 6) + a2) < 18 by first | omega | (simp [upS]; done) | (simp [upS]; omega))]
        try rw [if_neg (show ¬ ((σ 652 (((a1 * 6) + a2)).toNat) = 0) by first | omega | (simp [upS]; done) | (simp [upS]; omega))]
        all_goals rfl
      refine ⟨_, _, hD4, ?_⟩
      clear hD4
      rw [if_neg (show ¬ (a3 = (-1)) by first | omega | (simp [upS]; done) | (simp [upS]; omega))]
      have hD7 : Dd 227 [(.inr (.inr (some 0))), (.inl a3)] σ (.inr 0, σ) := by
        refine b227 ?_
        have hD5 : Dd 145 [(.inr (.inr (some 1))), (.inl a3)] σ (.inl (some (.inr (.inr none))), σ) := by
          refine b145 ?_
          rw [if_pos (show (0 : Int) ≤ a3 by first | omega | (simp [upS]; done) | (simp [upS]; omega))]
          refine ⟨4, (by decide +kernel), (by decide), ?_⟩
          rw [if_neg (show ¬ (a3 < ((4 : Nat) : Int)) by first | omega | (simp [upS]; done) | (simp [upS]; omega))]
          all_goals rfl
        refine ⟨_, _, hD5, ?_⟩
        clear hD5
        refine ⟨fun _ => ?_, fun _ hz6 => (by cases hz6)⟩
        all_goals rfl
      refine Or.inr ⟨_, _, hD7, ?_⟩
      all_goals rfl
    exact Or.inr (⟨_, hD8, rfl⟩)
  have hB : Dd 368 [(.inr (.inr (some 682))), (.inl a1), (.inl a2), (.inl a3)] σ (.inl (some (.inl 0)), (upS σ 682 0 1)) := by
    refine b368 ?_
    have hD9 : Dd 246 [(.inl a1), (.inl 3)] σ (.inl (some (.inl 1)), σ) := by
      refine b246 ?_
      try rw [if_pos (show (0 : Int) ≤ a1 by first | omega | (simp [upS]; done) | (simp [upS]; omega))]
      try rw [if_pos (show a1 < 3 by first | omega | (simp [upS]; done) | (simp [upS]; omega))]
      all_goals rfl
    refine ⟨_, _, hD9, ?_⟩
    clear hD9
    rw [if_neg (show ¬ ((1 : Int) = 0) by first | omega | (simp [upS]; done) | (simp [upS]; omega))]
    have hD10 : Dd 246 [(.inl a2), (.inl 6)] σ (.inl (some (.inl 1)), σ) := by
      refine b246 ?_
      try rw [if_pos (show (0 : Int) ≤ a2 by first | omega | (simp [upS]; done) | (simp [upS]; omega))]
      try rw [if_pos (show a2 < 6 by first | omega | (simp [upS]; done) | (simp [upS]; omega))]
      all_goals rfl
    refine ⟨_, _, hD10, ?_⟩
    clear hD10
    rw [if_neg (show ¬ ((1 : Int) = 0) by first | omega | (simp [upS]; done) | (simp [upS]; omega))]
    have hD12 : Dd 247 [(.inl a3)] σ (.inl (some (.inl 0)), σ) := by
      refine b247 ?_
      have hD11 : Dd 246 [(.inl a3), (.inl 4)] σ (.inl (some (.inl 0)), σ) := by
        refine b246 ?_
        try rw [if_pos (show (0 : Int) ≤ a3 by first | omega | (simp [upS]; done) | (simp [upS]; omega))]
        try rw [if_neg (show ¬ (a3 < 4) by first | omega | (simp [upS]; done) | (simp [upS]; omega))]
        all_goals rfl
      refine ⟨_, _, hD11, ?_⟩
      clear hD11
      refine ⟨(show 0 = 0 ∨ 0 = 1 by first | omega | (simp [upS]; done) | (simp [upS]; omega)), ?_⟩
      all_goals rfl
    refine ⟨_, _, hD12, ?_⟩
    clear hD12
    rw [if_pos (show (0 : Int) = 0 by first | omega | (simp [upS]; done) | (simp [upS]; omega))]
    rw [if_neg (show ¬ (a3 = (-1)) by first | omega | (simp [upS]; done) | (simp [upS]; omega))]
    refine b368_33 ?_
    refine b368_34 ?_
    try rw [if_pos (show (0 : Int) = 0 by first | omega | (simp [upS]; done) | (simp [upS]; omega))]
    refine b368_47 ?_
    have hD13 : Dd 245 [(.inr (.inr (some 682))), (.inl 1)] σ (.inl (some (.inl 0)), (upS σ 682 0 1)) := by
      refine b245 ?_
      try rw [if_neg (show ¬ ((1 : Int) = 0) by first | omega | (simp [upS]; done) | (simp [upS]; omega))]
      all_goals rfl
    refine ⟨_, _, hD13, ?_⟩
    clear hD13
    rw [if_pos (show (0 : Int) = 0 by first | omega | (simp [upS]; done) | (simp [upS]; omega))]
    all_goals rfl
  exact op_xB H (by decide) hA hB
theorem x44_0 {σ : Sg} {c : Int} {a1 : Int} {a2 : Int} (H : Rel c σ) (h0 : a1 < 0) : OpR 432 374 [(.inr (.inr (some 0))), (.inl a1), (.inl a2), (.inr (.inr (some 726)))] [(.inr (.inr (some 682))), (.inl a1), (.inl a2)] σ (c + 1) := by
  obtain ⟨r1, r2, r3, r4, r5⟩ := rel_n H
  have hA : Dd 432 [(.inr (.inr (some 0))), (.inl a1), (.inl a2), (.inr (.inr (some 726)))] σ (.inl (some (.inl 1)), σ) := by
    refine b432 ?_
    have hD2 : Dd 216 [(.inr (.inr (some 0))), (.inl a1), (.inl a2)] σ (.inr 0, σ) := by
      refine b216 ?_
      have hD1 : Dd 232 [(.inr (.inr (some 0))), (.inl a1), (.inl 3)] σ (.inr 0, σ) := by
        refine b232 ?_
        rw [if_neg (show ¬ ((0 : Int) ≤ a1) by first | omega | (simp [upS]; done) | (simp [upS]; omega))]
        refine b232_9 ?_
        all_goals rfl
      refine Or.inr ⟨_, _, hD1, ?_⟩
      all_goals rfl
    exact Or.inr (Or.inl ⟨_, hD2, rfl⟩)
  have hB : Dd 374 [(.inr (.inr (some 682))), (.inl a1), (.inl a2)] σ (.inl (some (.inl 0)), (upS σ 682 0 1)) := by
    refine b374 ?_
    have hD3 : Dd 246 [(.inl a1), (.inl 3)] σ (.inl (some (.inl 0)), σ) := by
      refine b246 ?_
      try rw [if_neg (show ¬ ((0 : Int) ≤ a1) by first | omega | (simp [upS]; done) | (simp [upS]; omega))]
      all_goals rfl
    refine ⟨_, _, hD3, ?_⟩
    clear hD3
    rw [if_pos (show (0 : Int) = 0 by first | omega | (simp [upS]; done) | (simp [upS]; omega))]
    refine b374_17 ?_
    refine b374_35 ?_
    have hD4 : Dd 245 [(.inr (.inr (some 682))), (.inl 1)] σ (.inl (some (.inl 0)), (upS σ 682 0 1)) := by
      refine b245 ?_
      try rw [if_neg (show ¬ ((1 : Int) = 0) by first | omega | (simp [upS]; done) | (simp [upS]; omega))]
      all_goals rfl
    refine ⟨_, _, hD4, ?_⟩
    clear hD4
    rw [if_pos (show (0 : Int) = 0 by first | omega | (simp [upS]; done) | (simp [upS]; omega))]
    all_goals rfl
  exact op_x H (by decide) hA hB
theorem x44_1 {σ : Sg} {c : Int} {a1 : Int} {a2 : Int} (H : Rel c σ) (h0 : 3 ≤ a1) : OpR 432 374 [(.inr (.inr (some 0))), (.inl a1), (.inl a2), (.inr (.inr (some 726)))] [(.inr (.inr (some 682))), (.inl a1), (.inl a2)] σ (c + 1) := by
  obtain ⟨r1, r2, r3, r4, r5⟩ := rel_n H
  have hA : Dd 432 [(.inr (.inr (some 0))), (.inl a1), (.inl a2), (.inr (.inr (some 726)))] σ (.inl (some (.inl 1)), σ) := by
    refine b432 ?_
    have hD2 : Dd 216 [(.inr (.inr (some 0))), (.inl a1), (.inl a2)] σ (.inr 0, σ) := by
      refine b216 ?_
      have hD1 : Dd 232 [(.inr (.inr (some 0))), (.inl a1), (.inl 3)] σ (.inr 0, σ) := by
        refine b232 ?_
        rw [if_pos (show (0 : Int) ≤ a1 by first | omega | (simp [upS]; done) | (simp [upS]; omega))]
        rw [if_pos (show (3 : Int) ≤ a1 by first | omega | (simp [upS]; done) | (simp [upS]; omega))]
        refine b232_9 ?_
        all_goals rfl
      refine Or.inr ⟨_, _, hD1, ?_⟩
      all_goals rfl
    exact Or.inr (Or.inl ⟨_, hD2, rfl⟩)
  have hB : Dd 374 [(.inr (.inr (some 682))), (.inl a1), (.inl a2)] σ (.inl (some (.inl 0)), (upS σ 682 0 1)) := by
    refine b374 ?_
    have hD3 : Dd 246 [(.inl a1), (.inl 3)] σ (.inl (some (.inl 0)), σ) := by
      refine b246 ?_
      try rw [if_pos (show (0 : Int) ≤ a1 by first | omega | (simp [upS]; done) | (simp [upS]; omega))]
      try rw [if_neg (show ¬ (a1 < 3) by first | omega | (simp [upS]; done) | (simp [upS]; omega))]
      all_goals rfl
    refine ⟨_, _, hD3, ?_⟩
    clear hD3
    rw [if_pos (show (0 : Int) = 0 by first | omega | (simp [upS]; done) | (simp [upS]; omega))]
    refine b374_17 ?_
    refine b374_35 ?_
    have hD4 : Dd 245 [(.inr (.inr (some 682))), (.inl 1)] σ (.inl (some (.inl 0)), (upS σ 682 0 1)) := by
      refine b245 ?_
      try rw [if_neg (show ¬ ((1 : Int) = 0) by first | omega | (simp [upS]; done) | (simp [upS]; omega))]
      all_goals rfl
    refine ⟨_, _, hD4, ?_⟩
    clear hD4
    rw [if_pos (show (0 : Int) = 0 by first | omega | (simp [upS]; done) | (simp [upS]; omega))]
    all_goals rfl
  exact op_x H (by decide) hA hB
theorem x44_2 {σ : Sg} {c : Int} {a1 : Int} {a2 : Int} (H : Rel c σ) (h0 : 0 ≤ a1 ∧ a1 < 3) (h1 : a2 < 0) : OpR 432 374 [(.inr (.inr (some 0))), (.inl a1), (.inl a2), (.inr (.inr (some 726)))] [(.inr (.inr (some 682))), (.inl a1), (.inl a2)] σ (c + 1) := by
  obtain ⟨r1, r2, r3, r4, r5⟩ := rel_n H
  have hA : Dd 432 [(.inr (.inr (some 0))), (.inl a1), (.inl a2), (.inr (.inr (some 726)))] σ (.inl (some (.inl 1)), σ) := by
    refine b432 ?_
    have hD3 : Dd 216 [(.inr (.inr (some 0))), (.inl a1), (.inl a2)] σ (.inr 0, σ) := by
      refine b216 ?_
      have hD1 : Dd 232 [(.inr (.inr (some 0))), (.inl a1), (.inl 3)] σ (.inl none, σ) := by
        refine b232 ?_
        rw [if_pos (show (0 : Int) ≤ a1 by first | omega | (simp [upS]; done) | (simp [upS]; omega))]
        rw [if_neg (show ¬ ((3 : Int) ≤ a1) by first | omega | (simp [upS]; done) | (simp [upS]; omega))]
        all_goals rfl
      refine Or.inl ⟨_, hD1, ?_⟩
      clear hD1
      have hD2 : Dd 232 [(.inr (.inr (some 0))), (.inl a2), (.inl 3)] σ (.inr 0, σ) := by
        refine b232 ?_
        rw [if_neg (show ¬ ((0 : Int) ≤ a2) by first | omega | (simp [upS]; done) | (simp [upS]; omega))]
        refine b232_9 ?_
        all_goals rfl
      refine Or.inr ⟨_, _, hD2, ?_⟩
      all_goals rfl
    exact Or.inr (Or.inl ⟨_, hD3, rfl⟩)
  have hB : Dd 374 [(.inr (.inr (some 682))), (.inl a1), (.inl a2)] σ (.inl (some (.inl 0)), (upS σ 682 0 1)) := by
    refine b374 ?_
    have hD4 : Dd 246 [(.inl a1), (.inl 3)] σ (.inl (some (.inl 1)), σ) := by
      refine b246 ?_
      try rw [if_pos (show (0 : Int) ≤ a1 by first | omega | (simp [upS]; done) | (simp [upS]; omega))]
      try rw [if_pos (show a1 < 3 by first | omega | (simp [upS]; done) | (simp [upS]; omega))]
      all_goals rfl
    refine ⟨_, _, hD4, ?_⟩
    clear hD4
    rw [if_neg (show ¬ ((1 : Int) = 0) by first | omega | (simp [upS]; done) | (simp [upS]; omega))]
    have hD5 : Dd 246 [(.inl a2), (.inl 3)] σ (.inl (some (.inl 0)), σ) := by
      refine b246 ?_
      try rw [if_neg (show ¬ ((0 : Int) ≤ a2) by first | omega | (simp [upS]; done) | (simp [upS]; omega))]
      all_goals rfl
    refine ⟨_, _, hD5, ?_⟩
    clear hD5
    rw [if_pos (show (0 : Int) = 0 by first | omega | (simp [upS]; done) | (simp [upS]; omega))]
    refine b374_17 ?_
    refine b374_35 ?_
    have hD6 : Dd 245 [(.inr (.inr (some 682))), (.inl 1)] σ (.inl (some (.inl 0)), (upS σ 682 0 1)) := by
      refine b245 ?_
      try rw [if_neg (show ¬ ((1 : Int) = 0) by first | omega | (simp [upS]; done) | (simp [upS]; omega))]
      all_goals rfl
    refine ⟨_, _, hD6, ?_⟩
    clear hD6
    rw [if_pos (show (0 : Int) = 0 by first | omega | (simp [upS]; done) | (simp [upS]; omega))]
    all_goals rfl
  exact op_x H (by decide) hA hB
theorem x44_3 {σ : Sg} {c : Int} {a1 : Int} {a2 : Int} (H : Rel c σ) (h0 : 0 ≤ a1 ∧ a1 < 3) (h1 : 3 ≤ a2) : OpR 432 374 [(.inr (.inr (some 0))), (.inl a1), (.inl a2), (.inr (.inr (some 726)))] [(.inr (.inr (some 682))), (.inl a1), (.inl a2)] σ (c + 1) := by
  obtain ⟨r1, r2, r3, r4, r5⟩ := rel_n H
  have hA : Dd 432 [(.inr (.inr (some 0))), (.inl a1), (.inl a2), (.inr (.inr (some 726)))] σ (.inl (some (.inl 1)), σ) := by
    refine b432 ?_
    have hD3 : Dd 216 [(.inr (.inr (some 0))), (.inl a1), (.inl a2)] σ (.inr 0, σ) := by
      refine b216 ?_
      have hD1 : Dd 232 [(.inr (.inr (some 0))), (.inl a1), (.inl 3)] σ (.inl none, σ) := by
        refine b232 ?_
        rw [if_pos (show (0 : Int) ≤ a1 by first | omega | (simp [upS]; done) | (simp [upS]; omega))]
        rw [if_neg (show ¬ ((3 : Int) ≤ a1) by first | omega | (simp [upS]; done) | (simp [upS]; omega))]
        all_goals rfl
      refine Or.inl ⟨_, hD1, ?_⟩
      clear hD1
      have hD2 : Dd 232 [(.inr (.inr (some 0))), (.inl a2), (.inl 3)] σ (.inr 0, σ) := by
        refine b232 ?_
        rw [if_pos (show (0 : Int) ≤ a2 by first | omega | (simp [upS]; done) | (simp [upS]; omega))]
        rw [if_pos (show (3 : Int) ≤ a2 by first | omega | (simp [upS]; done) | (simp [upS]; omega))]
        refine b232_9 ?_
        all_goals rfl
      refine Or.inr ⟨_, _, hD2, ?_⟩
      all_goals rfl
    exact Or.inr (Or.inl ⟨_, hD3, rfl⟩)
  have hB : Dd 374 [(.inr (.inr (some 682))), (.inl a1), (.inl a2)] σ (.inl (some (.inl 0)), (upS σ 682 0 1)) := by
    refine b374 ?_
    have hD4 : Dd 246 [(.inl a1), (.inl 3)] σ (.inl (some (.inl 1)), σ) := by
      refine b246 ?_
      try rw [if_pos (show (0 : Int) ≤ a1 by first | omega | (simp [upS]; done) | (simp [upS]; omega))]
      try rw [if_pos (show a1 < 3 by first | omega | (simp [upS]; done) | (simp [upS]; omega))]
      all_goals rfl
    refine ⟨_, _, hD4, ?_⟩
    clear hD4
    rw [if_neg (show ¬ ((1 : Int) = 0) by first | omega | (simp [upS]; done) | (simp [upS]; omega))]
    have hD5 : Dd 246 [(.inl a2), (.inl 3)] σ (.inl (some (.inl 0)), σ) := by
      refine b246 ?_
      try rw [if_pos (show (0 : Int) ≤ a2 by first | omega | (simp [upS]; done) | (simp [upS]; omega))]
      try rw [if_neg (show ¬ (a2 < 3) by first | omega | (simp [upS]; done) | (simp [upS]; omega))]
      all_goals rfl
    refine ⟨_, _, hD5, ?_⟩
    clear hD5
    rw [if_pos (show (0 : Int) = 0 by first | omega | (simp [upS]; done) | (simp [upS]; omega))]
    refine b374_17 ?_
    refine b374_35 ?_
    have hD6 : Dd 245 [(.inr (.inr (some 682))), (.inl 1)] σ (.inl (some (.inl 0)), (upS σ 682 0 1)) := by
      refine b245 ?_
      try rw [if_neg (show ¬ ((1 : Int) = 0) by first | omega | (simp [upS]; done) | (simp [upS]; omega))]
      all_goals rfl
    refine ⟨_, _, hD6, ?_⟩
    clear hD6
    rw [if_pos (show (0 : Int) = 0 by first | omega | (simp [upS]; done) | (simp [upS]; omega))]
    all_goals rfl
  exact op_x H (by decide) hA hB
end
