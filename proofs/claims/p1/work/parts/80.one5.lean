noncomputable section
theorem q24_0 {σ : Sg} {a1 : Int} (hz : ∀ a i, a < 1000 → σ a i = 0) (h0 : a1 < 0) : ∃ (kx b : Int) (s1 s2 : Sg), Dd 413 [(.inr (.inr (some 0))), (.inl a1), (.inr (.inr (some 726)))] σ (.inl (some (.inl kx)), s1) ∧ Dd 327 [(.inr (.inr (some 682))), (.inl a1)] s1 (.inl (some (.inl b)), s2) ∧ s2 682 0 = kx ∧ (kx = 0 → s2 726 0 = b) ∧ (∀ i, s1 SCR i = σ SCR i) ∧ s1 (SCR + 1) 0 = σ (SCR + 1) 0 ∧ s2 (SCR + 1) 0 = σ (SCR + 1) 0 := by
  have hA : Dd 413 [(.inr (.inr (some 0))), (.inl a1), (.inr (.inr (some 726)))] σ (.inl (some (.inl 1)), σ) := by
    refine b413 ?_
    have hD3 : Dd 196 [(.inr (.inr (some 0))), (.inl a1)] σ (.inr 0, σ) := by
      refine b196 ?_
      have hD1 : Dd 146 [(.inr (.inr (some 393)))] σ (.inl (some (.inl 0)), σ) := by
        refine b146 (by decide +kernel) ?_
        rw [show (σ 393 1) = 0 by (first | omega | (simp [upS, hz]; done) | (simp [upS, hz]; omega))]
        all_goals rfl
      refine ⟨_, _, hD1, ?_⟩
      clear hD1
      have hD2 : Dd 232 [(.inr (.inr (some 0))), (.inl a1), (.inl 0)] σ (.inr 0, σ) := by
        refine b232 ?_
        rw [if_neg (show ¬ ((0 : Int) ≤ a1) by first | omega | (simp [upS, hz]; done) | (simp [upS, hz]; omega))]
        refine b232_9 ?_
        all_goals rfl
      refine Or.inr ⟨_, _, hD2, ?_⟩
      all_goals rfl
    exact Or.inr (⟨_, hD3, rfl⟩)
  have hB : Dd 327 [(.inr (.inr (some 682))), (.inl a1)] σ (.inl (some (.inl 0)), (upS σ 682 0 1)) := by
    refine b327 ?_
    rw [show (σ 682 33) = 0 by (first | omega | (simp [upS, hz]; done) | (simp [upS, hz]; omega))]
    have hD4 : Dd 246 [(.inl a1), (.inl 0)] σ (.inl (some (.inl 0)), σ) := by
      refine b246 ?_
      try rw [if_neg (show ¬ ((0 : Int) ≤ a1) by first | omega | (simp [upS, hz]; done) | (simp [upS, hz]; omega))]
      all_goals rfl
    refine ⟨_, _, hD4, ?_⟩
    clear hD4
    try rw [if_pos (show (0 : Int) = 0 by first | omega | (simp [upS, hz]; done) | (simp [upS, hz]; omega))]
    refine b327_17 ?_
    have hD5 : Dd 245 [(.inr (.inr (some 682))), (.inl 1)] σ (.inl (some (.inl 0)), (upS σ 682 0 1)) := by
      refine b245 ?_
      try rw [if_neg (show ¬ ((1 : Int) = 0) by first | omega | (simp [upS, hz]; done) | (simp [upS, hz]; omega))]
      all_goals rfl
    refine ⟨_, _, hD5, ?_⟩
    clear hD5
    refine ⟨(show ¬ (0 = 0) → 0 ≤ a1 ∧ a1 < 32 by (first | (intros; first | omega | (simp [upS, hz]; done) | (simp [upS, hz]; omega)) | (intros; simp_all [upS, hz]; done) | (intros; simp_all [upS, hz]; omega))), ?_⟩
    refine ⟨(show ¬ (0 = 0) → ¬ (((upS σ 682 0 1) 706 (a1).toNat) = (-1)) → 0 ≤ a1 ∧ a1 < 32 by (first | (intros; first | omega | (simp [upS, hz]; done) | (simp [upS, hz]; omega)) | (intros; simp_all [upS, hz]; done) | (intros; simp_all [upS, hz]; omega))), ?_⟩
    refine ⟨(show ¬ (0 = 0) → ¬ (((upS σ 682 0 1) 706 (a1).toNat) = (-1)) → -2147483648 ≤ (10 * ((upS σ 682 0 1) 706 (a1).toNat)) ∧ (10 * ((upS σ 682 0 1) 706 (a1).toNat)) ≤ 2147483647 by (first | (intros; first | omega | (simp [upS, hz]; done) | (simp [upS, hz]; omega)) | (intros; simp_all [upS, hz]; done) | (intros; simp_all [upS, hz]; omega))), ?_⟩
    refine ⟨(show ¬ (0 = 0) → ¬ (((upS σ 682 0 1) 706 (a1).toNat) = (-1)) → 0 ≤ a1 ∧ a1 < 32 by (first | (intros; first | omega | (simp [upS, hz]; done) | (simp [upS, hz]; omega)) | (intros; simp_all [upS, hz]; done) | (intros; simp_all [upS, hz]; omega))), ?_⟩
    refine ⟨(show ¬ (0 = 0) → ¬ (((upS σ 682 0 1) 706 (a1).toNat) = (-1)) → -2147483648 ≤ ((10 * ((upS σ 682 0 1) 706 (a1).toNat)) + ((upS σ 682 0 1) 707 (a1).toNat)) ∧ ((10 * ((upS σ 682 0 1) 706 (a1).toNat)) + ((upS σ 682 0 1) 707 (a1).toNat)) ≤ 2147483647 by (first | (intros; first | omega | (simp [upS, hz]; done) | (simp [upS, hz]; omega)) | (intros; simp_all [upS, hz]; done) | (intros; simp_all [upS, hz]; omega))), ?_⟩
    try rw [if_pos (show (0 : Int) = 0 by first | omega | (simp [upS, hz]; done) | (simp [upS, hz]; omega))]
    all_goals rfl
  refine ⟨_, _, _, _, hA, hB, ?_, ?_, ?_, ?_, ?_⟩
  · (first | rfl | (simp [upS, SCR, hz]; done) | (simp [upS, SCR, hz]; omega))
  · first | (intro h9; omega) | (intro _; first | rfl | (simp [upS, SCR, hz]; done) | (simp [upS, SCR, hz]; omega))
  · intro i; first | rfl | (unfold upS SCR; (repeat' split) <;> first | rfl | omega)
  · first | rfl | (unfold upS SCR; (repeat' split) <;> first | rfl | omega)
  · first | rfl | (unfold upS SCR; (repeat' split) <;> first | rfl | omega)
theorem q24_1 {σ : Sg} {a1 : Int} (hz : ∀ a i, a < 1000 → σ a i = 0) (h0 : 0 ≤ a1) : ∃ (kx b : Int) (s1 s2 : Sg), Dd 413 [(.inr (.inr (some 0))), (.inl a1), (.inr (.inr (some 726)))] σ (.inl (some (.inl kx)), s1) ∧ Dd 327 [(.inr (.inr (some 682))), (.inl a1)] s1 (.inl (some (.inl b)), s2) ∧ s2 682 0 = kx ∧ (kx = 0 → s2 726 0 = b) ∧ (∀ i, s1 SCR i = σ SCR i) ∧ s1 (SCR + 1) 0 = σ (SCR + 1) 0 ∧ s2 (SCR + 1) 0 = σ (SCR + 1) 0 := by
  have hA : Dd 413 [(.inr (.inr (some 0))), (.inl a1), (.inr (.inr (some 726)))] σ (.inl (some (.inl 1)), σ) := by
    refine b413 ?_
    have hD3 : Dd 196 [(.inr (.inr (some 0))), (.inl a1)] σ (.inr 0, σ) := by
      refine b196 ?_
      have hD1 : Dd 146 [(.inr (.inr (some 393)))] σ (.inl (some (.inl 0)), σ) := by
        refine b146 (by decide +kernel) ?_
        rw [show (σ 393 1) = 0 by (first | omega | (simp [upS, hz]; done) | (simp [upS, hz]; omega))]
        all_goals rfl
      refine ⟨_, _, hD1, ?_⟩
      clear hD1
      have hD2 : Dd 232 [(.inr (.inr (some 0))), (.inl a1), (.inl 0)] σ (.inr 0, σ) := by
        refine b232 ?_
        rw [if_pos (show (0 : Int) ≤ a1 by first | omega | (simp [upS, hz]; done) | (simp [upS, hz]; omega))]
        rw [if_pos (show (0 : Int) ≤ a1 by first | omega | (simp [upS, hz]; done) | (simp [upS, hz]; omega))]
        refine b232_9 ?_
        all_goals rfl
      refine Or.inr ⟨_, _, hD2, ?_⟩
      all_goals rfl
    exact Or.inr (⟨_, hD3, rfl⟩)
  have hB : Dd 327 [(.inr (.inr (some 682))), (.inl a1)] σ (.inl (some (.inl 0)), (upS σ 682 0 1)) := by
    refine b327 ?_
    rw [show (σ 682 33) = 0 by (first | omega | (simp [upS, hz]; done) | (simp [upS, hz]; omega))]
    have hD4 : Dd 246 [(.inl a1), (.inl 0)] σ (.inl (some (.inl 0)), σ) := by
      refine b246 ?_
      try rw [if_pos (show (0 : Int) ≤ a1 by first | omega | (simp [upS, hz]; done) | (simp [upS, hz]; omega))]
      try rw [if_neg (show ¬ (a1 < 0) by first | omega | (simp [upS, hz]; done) | (simp [upS, hz]; omega))]
      all_goals rfl
    refine ⟨_, _, hD4, ?_⟩
    clear hD4
    try rw [if_pos (show (0 : Int) = 0 by first | omega | (simp [upS, hz]; done) | (simp [upS, hz]; omega))]
    refine b327_17 ?_
    have hD5 : Dd 245 [(.inr (.inr (some 682))), (.inl 1)] σ (.inl (some (.inl 0)), (upS σ 682 0 1)) := by
      refine b245 ?_
      try rw [if_neg (show ¬ ((1 : Int) = 0) by first | omega | (simp [upS, hz]; done) | (simp [upS, hz]; omega))]
      all_goals rfl
    refine ⟨_, _, hD5, ?_⟩
    clear hD5
    refine ⟨(show ¬ (0 = 0) → 0 ≤ a1 ∧ a1 < 32 by (first | (intros; first | omega | (simp [upS, hz]; done) | (simp [upS, hz]; omega)) | (intros; simp_all [upS, hz]; done) | (intros; simp_all [upS, hz]; omega))), ?_⟩
    refine ⟨(show ¬ (0 = 0) → ¬ (((upS σ 682 0 1) 706 (a1).toNat) = (-1)) → 0 ≤ a1 ∧ a1 < 32 by (first | (intros; first | omega | (simp [upS, hz]; done) | (simp [upS, hz]; omega)) | (intros; simp_all [upS, hz]; done) | (intros; simp_all [upS, hz]; omega))), ?_⟩
    refine ⟨(show ¬ (0 = 0) → ¬ (((upS σ 682 0 1) 706 (a1).toNat) = (-1)) → -2147483648 ≤ (10 * ((upS σ 682 0 1) 706 (a1).toNat)) ∧ (10 * ((upS σ 682 0 1) 706 (a1).toNat)) ≤ 2147483647 by (first | (intros; first | omega | (simp [upS, hz]; done) | (simp [upS, hz]; omega)) | (intros; simp_all [upS, hz]; done) | (intros; simp_all [upS, hz]; omega))), ?_⟩
    refine ⟨(show ¬ (0 = 0) → ¬ (((upS σ 682 0 1) 706 (a1).toNat) = (-1)) → 0 ≤ a1 ∧ a1 < 32 by (first | (intros; first | omega | (simp [upS, hz]; done) | (simp [upS, hz]; omega)) | (intros; simp_all [upS, hz]; done) | (intros; simp_all [upS, hz]; omega))), ?_⟩
    refine ⟨(show ¬ (0 = 0) → ¬ (((upS σ 682 0 1) 706 (a1).toNat) = (-1)) → -2147483648 ≤ ((10 * ((upS σ 682 0 1) 706 (a1).toNat)) + ((upS σ 682 0 1) 707 (a1).toNat)) ∧ ((10 * ((upS σ 682 0 1) 706 (a1).toNat)) + ((upS σ 682 0 1) 707 (a1).toNat)) ≤ 2147483647 by (first | (intros; first | omega | (simp [upS, hz]; done) | (simp [upS, hz]; omega)) | (intros; simp_all [upS, hz]; done) | (intros; simp_all [upS, hz]; omega))), ?_⟩
    try rw [if_pos (show (0 : Int) = 0 by first | omega | (simp [upS, hz]; done) | (simp [upS, hz]; omega))]
    all_goals rfl
  refine ⟨_, _, _, _, hA, hB, ?_, ?_, ?_, ?_, ?_⟩
  · (first | rfl | (simp [upS, SCR, hz]; done) | (simp [upS, SCR, hz]; omega))
  · first | (intro h9; omega) | (intro _; first | rfl | (simp [upS, SCR, hz]; done) | (simp [upS, SCR, hz]; omega))
  · intro i; first | rfl | (unfold upS SCR; (repeat' split) <;> first | rfl | omega)
  · first | rfl | (unfold upS SCR; (repeat' split) <;> first | rfl | omega)
  · first | rfl | (unfold upS SCR; (repeat' split) <;> first | rfl | omega)
theorem q25_0 {σ : Sg} {a1 : Int} {a2 : Int} {a3 : Int} (hz : ∀ a i, a < 1000 → σ a i = 0) (h0 : a1 < 0) : ∃ (kx b : Int) (s1 s2 : Sg), Dd 414 [(.inr (.inr (some 0))), (.inl a1), (.inl a2), (.inl a3), (.inr (.inr (some 726)))] σ (.inl (some (.inl kx)), s1) ∧ Dd 333 [(.inr (.inr (some 682))), (.inl a1), (.inl a2), (.inl a3)] s1 (.inl (some (.inl b)), s2) ∧ s2 682 0 = kx ∧ (kx = 0 → s2 726 0 = b) ∧ (∀ i, s1 SCR i = σ SCR i) ∧ s1 (SCR + 1) 0 = σ (SCR + 1) 0 ∧ s2 (SCR + 1) 0 = σ (SCR + 1) 0 := by
  have hA : Dd 414 [(.inr (.inr (some 0))), (.inl a1), (.inl a2), (.inl a3), (.inr (.inr (some 726)))] σ (.inl (some (.inl 1)), σ) := by
    refine b414 ?_
    have hD4 : Dd 197 [(.inr (.inr (some 0))), (.inl a1), (.inl a2), (.inl a3)] σ (.inr 0, σ) := by
      refine b197 ?_
      have hD3 : Dd 230 [(.inr (.inr (some 0))), (.inl a1)] σ (.inr 0, σ) := by
        refine b230 ?_
        rw [show (σ 0 3) = 0 by (first | omega | (simp [upS, hz]; done) | (simp [upS, hz]; omega))]
        have hD1 : Dd 89 [(.inr (.inr (some 19))), (.inl a1), (.inl 0)] σ (.inl (some (.inr (.inr none))), σ) := by
          refine b89 ?_
          rw [if_neg (show ¬ ((0 : Int) ≤ a1) by first | omega | (simp [upS, hz]; done) | (simp [upS, hz]; omega))]
          all_goals rfl
        refine ⟨_, _, hD1, ?_⟩
        clear hD1
        refine ⟨fun _ => ?_, fun _ hz2 => (by cases hz2)⟩
        all_goals rfl
      refine Or.inr ⟨_, _, hD3, ?_⟩
      all_goals rfl
    exact Or.inr (Or.inl ⟨_, hD4, rfl⟩)
  have hB : Dd 333 [(.inr (.inr (some 682))), (.inl a1), (.inl a2), (.inl a3)] σ (.inl (some (.inl 0)), (upS σ 682 0 1)) := by
    refine b333 ?_
    have hD6 : Dd 248 [(.inr (.inr (some 682))), (.inl a1)] σ (.inl (some (.inl 0)), σ) := by
      refine b248 ?_
      rw [show (σ 682 3) = 0 by (first | omega | (simp [upS, hz]; done) | (simp [upS, hz]; omega))]
      have hD5 : Dd 246 [(.inl a1), (.inl 0)] σ (.inl (some (.inl 0)), σ) := by
        refine b246 ?_
        try rw [if_neg (show ¬ ((0 : Int) ≤ a1) by first | omega | (simp [upS, hz]; done) | (simp [upS, hz]; omega))]
        all_goals rfl
      refine ⟨_, _, hD5, ?_⟩
      clear hD5
      refine ⟨(show 0 = 0 ∨ 0 = 1 by first | omega | (simp [upS, hz]; done) | (simp [upS, hz]; omega)), ?_⟩
      all_goals rfl
    refine ⟨_, _, hD6, ?_⟩
    clear hD6
    rw [if_pos (show (0 : Int) = 0 by first | omega | (simp [upS, hz]; done) | (simp [upS, hz]; omega))]
    refine b333_27 ?_
    refine b333_28 ?_
    rw [if_pos (show (0 : Int) = 0 by first | omega | (simp [upS, hz]; done) | (simp [upS, hz]; omega))]
    refine b333_48 ?_
    refine b333_49 ?_
    rw [if_pos (show (0 : Int) = 0 by first | omega | (simp [upS, hz]; done) | (simp [upS, hz]; omega))]
    refine b333_66 ?_
    rw [if_pos (show (0 : Int) = 0 by first | omega | (simp [upS, hz]; done) | (simp [upS, hz]; omega))]
    refine b333_97 ?_
    have hD7 : Dd 245 [(.inr (.inr (some 682))), (.inl 1)] σ (.inl (some (.inl 0)), (upS σ 682 0 1)) := by
      refine b245 ?_
      try rw [if_neg (show ¬ ((1 : Int) = 0) by first | omega | (simp [upS, hz]; done) | (simp [upS, hz]; omega))]
      all_goals rfl
    refine ⟨_, _, hD7, ?_⟩
    clear hD7
    rw [if_pos (show (0 : Int) = 0 by first | omega | (simp [upS, hz]; done) | (simp [upS, hz]; omega))]
    all_goals rfl
  refine ⟨_, _, _, _, hA, hB, ?_, ?_, ?_, ?_, ?_⟩
  · (first | rfl | (simp [upS, SCR, hz]; done) | (simp [upS, SCR, hz]; omega))
  · first | (intro h9; omega) | (intro _; first | rfl | (simp [upS, SCR, hz]; done) | (simp [upS, SCR, hz]; omega))
  · intro i; first | rfl | (unfold upS SCR; (repeat' split) <;> first | rfl | omega)
  · first | rfl | (unfold upS SCR; (repeat' split) <;> first | rfl | omega)
  · first | rfl | (unfold upS SCR; (repeat' split) <;> first | rfl | omega)
theorem q25_1 {σ : Sg} {a1 : Int} {a2 : Int} {a3 : Int} (hz : ∀ a i, a < 1000 → σ a i = 0) (h0 : 0 ≤ a1) : ∃ (kx b : Int) (s1 s2 : Sg), Dd 414 [(.inr (.inr (some 0))), (.inl a1), (.inl a2), (.inl a3), (.inr (.inr (some 726)))] σ (.inl (some (.inl kx)), s1) ∧ Dd 333 [(.inr (.inr (some 682))), (.inl a1), (.inl a2), (.inl a3)] s1 (.inl (some (.inl b)), s2) ∧ s2 682 0 = kx ∧ (kx = 0 → s2 726 0 = b) ∧ (∀ i, s1 SCR i = σ SCR i) ∧ s1 (SCR + 1) 0 = σ (SCR + 1) 0 ∧ s2 (SCR + 1) 0 = σ (SCR + 1) 0 := by
  have hA : Dd 414 [(.inr (.inr (some 0))), (.inl a1), (.inl a2), (.inl a3), (.inr (.inr (some 726)))] σ (.inl (some (.inl 1)), σ) := by
    refine b414 ?_
    have hD4 : Dd 197 [(.inr (.inr (some 0))), (.inl a1), (.inl a2), (.inl a3)] σ (.inr 0, σ) := by
      refine b197 ?_
      have hD3 : Dd 230 [(.inr (.inr (some 0))), (.inl a1)] σ (.inr 0, σ) := by
        refine b230 ?_
        rw [show (σ 0 3) = 0 by (first | omega | (simp [upS, hz]; done) | (simp [upS, hz]; omega))]
        have hD1 : Dd 89 [(.inr (.inr (some 19))), (.inl a1), (.inl 0)] σ (.inl (some (.inr (.inr none))), σ) := by
          refine b89 ?_
          rw [if_pos (show (0 : Int) ≤ a1 by first | omega | (simp [upS, hz]; done) | (simp [upS, hz]; omega))]
          rw [if_neg (show ¬ (a1 < 0) by first | omega | (simp [upS, hz]; done) | (simp [upS, hz]; omega))]
          all_goals rfl
        refine ⟨_, _, hD1, ?_⟩
        clear hD1
        refine ⟨fun _ => ?_, fun _ hz2 => (by cases hz2)⟩
        all_goals rfl
      refine Or.inr ⟨_, _, hD3, ?_⟩
      all_goals rfl
    exact Or.inr (Or.inl ⟨_, hD4, rfl⟩)
  have hB : Dd 333 [(.inr (.inr (some 682))), (.inl a1), (.inl a2), (.inl a3)] σ (.inl (some (.inl 0)), (upS σ 682 0 1)) := by
    refine b333 ?_
    have hD6 : Dd 248 [(.inr (.inr (some 682))), (.inl a1)] σ (.inl (some (.inl 0)), σ) := by
      refine b248 ?_
      rw [show (σ 682 3) = 0 by (first | omega | (simp [upS, hz]; done) | (simp [upS, hz]; omega))]
      have hD5 : Dd 246 [(.inl a1), (.inl 0)] σ (.inl (some (.inl 0)), σ) := by
        refine b246 ?_
        try rw [if_pos (show (0 : Int) ≤ a1 by first | omega | (simp [upS, hz]; done) | (simp [upS, hz]; omega))]
        try rw [if_neg (show ¬ (a1 < 0) by first | omega | (simp [upS, hz]; done) | (simp [upS, hz]; omega))]
        all_goals rfl
      refine ⟨_, _, hD5, ?_⟩
      clear hD5
      refine ⟨(show 0 = 0 ∨ 0 = 1 by first | omega | (simp [upS, hz]; done) | (simp [upS, hz]; omega)), ?_⟩
      all_goals rfl
    refine ⟨_, _, hD6, ?_⟩
    clear hD6
    rw [if_pos (show (0 : Int) = 0 by first | omega | (simp [upS, hz]; done) | (simp [upS, hz]; omega))]
    refine b333_27 ?_
    refine b333_28 ?_
    rw [if_pos (show (0 : Int) = 0 by first | omega | (simp [upS, hz]; done) | (simp [upS, hz]; omega))]
    refine b333_48 ?_
    refine b333_49 ?_
    rw [if_pos (show (0 : Int) = 0 by first | omega | (simp [upS, hz]; done) | (simp [upS, hz]; omega))]
    refine b333_66 ?_
    rw [if_pos (show (0 : Int) = 0 by first | omega | (simp [upS, hz]; done) | (simp [upS, hz]; omega))]
    refine b333_97 ?_
    have hD7 : Dd 245 [(.inr (.inr (some 682))), (.inl 1)] σ (.inl (some (.inl 0)), (upS σ 682 0 1)) := by
      refine b245 ?_
      try rw [if_neg (show ¬ ((1 : Int) = 0) by first | omega | (simp [upS, hz]; done) | (simp [upS, hz]; omega))]
      all_goals rfl
    refine ⟨_, _, hD7, ?_⟩
    clear hD7
    rw [if_pos (show (0 : Int) = 0 by first | omega | (simp [upS, hz]; done) | (simp [upS, hz]; omega))]
    all_goals rfl
  refine ⟨_, _, _, _, hA, hB, ?_, ?_, ?_, ?_, ?_⟩
  · (first | rfl | (simp [upS, SCR, hz]; done) | (simp [upS, SCR, hz]; omega))
  · first | (intro h9; omega) | (intro _; first | rfl | (simp [upS, SCR, hz]; done) | (simp [upS, SCR, hz]; omega))
  · intro i; first | rfl | (unfold upS SCR; (repeat' split) <;> first | rfl | omega)
  · first | rfl | (unfold upS SCR; (repeat' split) <;> first | rfl | omega)
  · first | rfl | (unfold upS SCR; (repeat' split) <;> first | rfl | omega)
theorem q26_0 {σ : Sg} {a1 : Int} (hz : ∀ a i, a < 1000 → σ a i = 0) (h0 : a1 < 0) : ∃ (kx b : Int) (s1 s2 : Sg), Dd 415 [(.inr (.inr (some 0))), (.inl a1), (.inr (.inr (some 726)))] σ (.inl (some (.inl kx)), s1) ∧ Dd 338 [(.inr (.inr (some 682))), (.inl a1)] s1 (.inl (some (.inl b)), s2) ∧ s2 682 0 = kx ∧ (kx = 0 → s2 726 0 = b) ∧ (∀ i, s1 SCR i = σ SCR i) ∧ s1 (SCR + 1) 0 = σ (SCR + 1) 0 ∧ s2 (SCR + 1) 0 = σ (SCR + 1) 0 := by
  have hA : Dd 415 [(.inr (.inr (some 0))), (.inl a1), (.inr (.inr (some 726)))] σ (.inl (some (.inl 1)), σ) := by
    refine b415 ?_
    have hD4 : Dd 198 [(.inr (.inr (some 0))), (.inl a1)] σ (.inr 0, σ) := by
      refine b198 ?_
      have hD3 : Dd 227 [(.inr (.inr (some 0))), (.inl a1)] σ (.inr 0, σ) := by
        refine b227 ?_
        have hD1 : Dd 145 [(.inr (.inr (some 1))), (.inl a1)] σ (.inl (some (.inr (.inr none))), σ) := by
          refine b145 ?_
          rw [if_neg (show ¬ ((0 : Int) ≤ a1) by first | omega | (simp [upS, hz]; done) | (simp [upS, hz]; omega))]
          all_goals rfl
        refine ⟨_, _, hD1, ?_⟩
        clear hD1
        refine ⟨fun _ => ?_, fun _ hz2 => (by cases hz2)⟩
        all_goals rfl
      refine Or.inr ⟨_, _, hD3, ?_⟩
      all_goals rfl
    exact Or.inr (⟨_, hD4, rfl⟩)
  have hB : Dd 338 [(.inr (.inr (some 682))), (.inl a1)] σ (.inl (some (.inl 0)), (upS σ 682 0 1)) := by
    refine b338 ?_
    have hD6 : Dd 247 [(.inl a1)] σ (.inl (some (.inl 0)), σ) := by
      refine b247 ?_
      have hD5 : Dd 246 [(.inl a1), (.inl 4)] σ (.inl (some (.inl 0)), σ) := by
        refine b246 ?_
        try rw [if_neg (show ¬ ((0 : Int) ≤ a1) by first | omega | (simp [upS, hz]; done) | (simp [upS, hz]; omega))]
        all_goals rfl
      refine ⟨_, _, hD5, ?_⟩
      clear hD5
      refine ⟨(show 0 = 0 ∨ 0 = 1 by first | omega | (simp [upS, hz]; done) | (simp [upS, hz]; omega)), ?_⟩
      all_goals rfl
    refine ⟨_, _, hD6, ?_⟩
    clear hD6
    try rw [if_pos (show (0 : Int) = 0 by first | omega | (simp [upS, hz]; done) | (simp [upS, hz]; omega))]
    refine b338_13 ?_
    have hD7 : Dd 245 [(.inr (.inr (some 682))), (.inl 1)] σ (.inl (some (.inl 0)), (upS σ 682 0 1)) := by
      refine b245 ?_
      try rw [if_neg (show ¬ ((1 : Int) = 0) by first | omega | (simp [upS, hz]; done) | (simp [upS, hz]; omega))]
      all_goals rfl
    refine ⟨_, _, hD7, ?_⟩
    clear hD7
    rw [if_pos (show (0 : Int) = 0 by first | omega | (simp [upS, hz]; done) | (simp [upS, hz]; omega))]
    all_goals rfl
  refine ⟨_, _, _, _, hA, hB, ?_, ?_, ?_, ?_, ?_⟩
  · (first | rfl | (simp [upS, SCR, hz]; done) | (simp [upS, SCR, hz]; omega))
  · first | (intro h9; omega) | (intro _; first | rfl | (simp [upS, SCR, hz]; done) | (simp [upS, SCR, hz]; omega))
  · intro i; first | rfl | (unfold upS SCR; (repeat' split) <;> first | rfl | omega)
  · first | rfl | (unfold upS SCR; (repeat' split) <;> first | rfl | omega)
  · first | rfl | (unfold upS SCR; (repeat' split) <;> first | rfl | omega)
theorem q26_1 {σ : Sg} {a1 : Int} (hz : ∀ a i, a < 1000 → σ a i = 0) (h0 : 4 ≤ a1) : ∃ (kx b : Int) (s1 s2 : Sg), Dd 415 [(.inr (.inr (some 0))), (.inl a1), (.inr (.inr (some 726)))] σ (.inl (some (.inl kx)), s1) ∧ Dd 338 [(.inr (.inr (some 682))), (.inl a1)] s1 (.inl (some (.inl b)), s2) ∧ s2 682 0 = kx ∧ (kx = 0 → s2 726 0 = b) ∧ (∀ i, s1 SCR i = σ SCR i) ∧ s1 (SCR + 1) 0 = σ (SCR + 1) 0 ∧ s2 (SCR + 1) 0 = σ (SCR + 1) 0 := by
  have hA : Dd 415 [(.inr (.inr (some 0))), (.inl a1), (.inr (.inr (some 726)))] σ (.inl (some (.inl 1)), σ) := by
    refine b415 ?_
    have hD4 : Dd 198 [(.inr (.inr (some 0))), (.inl a1)] σ (.inr 0, σ) := by
      refine b198 ?_
      have hD3 : Dd 227 [(.inr (.inr (some 0))), (.inl a1)] σ (.inr 0, σ) := by
        refine b227 ?_
        have hD1 : Dd 145 [(.inr (.inr (some 1))), (.inl a1)] σ (.inl (some (.inr (.inr none))), σ) := by
          refine b145 ?_
          rw [if_pos (show (0 : Int) ≤ a1 by first | omega | (simp [upS, hz]; done) | (simp [upS, hz]; omega))]
          refine ⟨4, (by decide +kernel), (by decide), ?_⟩
          rw [if_neg (show ¬ (a1 < ((4 : Nat) : Int)) by first | omega | (simp [upS, hz]; done) | (simp [upS, hz]; omega))]
          all_goals rfl
        refine ⟨_, _, hD1, ?_⟩
        clear hD1
        refine ⟨fun _ => ?_, fun _ hz2 => (by cases hz2)⟩
        all_goals rfl
      refine Or.inr ⟨_, _, hD3, ?_⟩
      all_goals rfl
    exact Or.inr (⟨_, hD4, rfl⟩)
  have hB : Dd 338 [(.inr (.inr (some 682))), (.inl a1)] σ (.inl (some (.inl 0)), (upS σ 682 0 1)) := by
    refine b338 ?_
    have hD6 : Dd 247 [(.inl a1)] σ (.inl (some (.inl 0)), σ) := by
      refine b247 ?_
      have hD5 : Dd 246 [(.inl a1), (.inl 4)] σ (.inl (some (.inl 0)), σ) := by
        refine b246 ?_
        try rw [if_pos (show (0 : Int) ≤ a1 by first | omega | (simp [upS, hz]; done) | (simp [upS, hz]; omega))]
        try rw [if_neg (show ¬ (a1 < 4) by first | omega | (simp [upS, hz]; done) | (simp [upS, hz]; omega))]
        all_goals rfl
      refine ⟨_, _, hD5, ?_⟩
      clear hD5
      refine ⟨(show 0 = 0 ∨ 0 = 1 by first | omega | (simp [upS, hz]; done) | (simp [upS, hz]; omega)), ?_⟩
      all_goals rfl
    refine ⟨_, _, hD6, ?_⟩
    clear hD6
    try rw [if_pos (show (0 : Int) = 0 by first | omega | (simp [upS, hz]; done) | (simp [upS, hz]; omega))]
    refine b338_13 ?_
    have hD7 : Dd 245 [(.inr (.inr (some 682))), (.inl 1)] σ (.inl (some (.inl 0)), (upS σ 682 0 1)) := by
      refine b245 ?_
      try rw [if_neg (show ¬ ((1 : Int) = 0) by first | omega | (simp [upS, hz]; done) | (simp [upS, hz]; omega))]
      all_goals rfl
    refine ⟨_, _, hD7, ?_⟩
    clear hD7
    rw [if_pos (show (0 : Int) = 0 by first | omega | (simp [upS, hz]; done) | (simp [upS, hz]; omega))]
    all_goals rfl
  refine ⟨_, _, _, _, hA, hB, ?_, ?_, ?_, ?_, ?_⟩
  · (first | rfl | (simp [upS, SCR, hz]; done) | (simp [upS, SCR, hz]; omega))
  · first | (intro h9; omega) | (intro _; first | rfl | (simp [upS, SCR, hz]; done) | (simp [upS, SCR, hz]; omega))
  · intro i; first | rfl | (unfold upS SCR; (repeat' split) <;> first | rfl | omega)
  · first | rfl | (unfold upS SCR; (repeat' split) <;> first | rfl | omega)
  · first | rfl | (unfold upS SCR; (repeat' split) <;> first | rfl | omega)
theorem q26_2 {σ : Sg} {a1 : Int} (hz : ∀ a i, a < 1000 → σ a i = 0) (h0 : 0 ≤ a1 ∧ a1 < 4) : ∃ (kx b : Int) (s1 s2 : Sg), Dd 415 [(.inr (.inr (some 0))), (.inl a1), (.inr (.inr (some 726)))] σ (.inl (some (.inl kx)), s1) ∧ Dd 338 [(.inr (.inr (some 682))), (.inl a1)] s1 (.inl (some (.inl b)), s2) ∧ s2 682 0 = kx ∧ (kx = 0 → s2 726 0 = b) ∧ (∀ i, s1 SCR i = σ SCR i) ∧ s1 (SCR + 1) 0 = σ (SCR + 1) 0 ∧ s2 (SCR + 1) 0 = σ (SCR + 1) 0 := by
  have za1 : ∀ i, σ (2 + 2 * ((a1)).toNat) i = 0 := fun i => hz _ i (by omega)
  have z1a1 : ∀ i, σ ((2 + 2 * ((a1)).toNat) + 1) i = 0 := fun i => hz _ i (by omega)
  have ca1 : (cap (2 + 2 * ((a1)).toNat) : Int) = 16 := cp_1 (by omega)
  have hA : Dd 415 [(.inr (.inr (some 0))), (.inl a1), (.inr (.inr (some 726)))] σ (.inl (some (.inl 0)), (upS σ 726 0 0)) := by
    refine b415 ?_
    have hD6 : Dd 198 [(.inr (.inr (some 0))), (.inl a1)] σ (.inl (some (.inl 0)), σ) := by
      refine b198 ?_
      have hD3 : Dd 227 [(.inr (.inr (some 0))), (.inl a1)] σ (.inl (some (.inr (.inr (some (2 + 2 * ((a1)).toNat))))), σ) := by
        refine b227 ?_
        have hD1 : Dd 145 [(.inr (.inr (some 1))), (.inl a1)] σ (.inl (some (.inr (.inr (some (2 + 2 * ((a1)).toNat))))), σ) := by
          refine b145 ?_
          rw [if_pos (show (0 : Int) ≤ a1 by first | omega | (simp [upS, hz, za1, z1a1, ca1]; done) | (simp [upS, hz, za1, z1a1, ca1]; omega))]
          refine ⟨4, (by decide +kernel), (by decide), ?_⟩
          rw [if_pos (show a1 < ((4 : Nat) : Int) by first | omega | (simp [upS, hz, za1, z1a1, ca1]; done) | (simp [upS, hz, za1, z1a1, ca1]; omega))]
          refine ⟨(show 0 ≤ a1 by first | omega | (simp [upS, hz, za1, z1a1, ca1]; done) | (simp [upS, hz, za1, z1a1, ca1]; omega)), ?_⟩
          refine ⟨(2 + 2 * ((a1)).toNat), (el_1 (i := (a1)) (by first | omega | (simp [upS, hz, za1, z1a1, ca1]; done) | (simp [upS, hz, za1, z1a1, ca1]; omega))).1, (el_1 (i := (a1)) (by first | omega | (simp [upS, hz, za1, z1a1, ca1]; done) | (simp [upS, hz, za1, z1a1, ca1]; omega))).2, ?_⟩
          all_goals rfl
        refine ⟨_, _, hD1, ?_⟩
        clear hD1
        refine ⟨fun hz2 => (by cases hz2), fun _ hz2 => ?_⟩
        cases hz2
        refine ⟨(el_1 (i := (a1)) (by first | omega | (simp [upS, hz, za1, z1a1, ca1]; done) | (simp [upS, hz, za1, z1a1, ca1]; omega))).2, ?_⟩
        all_goals rfl
      refine Or.inl ⟨_, _, hD3, (el_1 (i := (a1)) (by first | omega | (simp [upS, hz, za1, z1a1, ca1]; done) | (simp [upS, hz, za1, z1a1, ca1]; omega))).2, ?_⟩
      clear hD3
      have hD5 : Dd 82 [(.inr (.inr (some 399))), (.inr (.inr (some (2 + 2 * ((a1)).toNat))))] σ (.inl (some (.inl 0)), σ) := by
        refine b82 ?_
        refine b82_4 (el_1 (i := (a1)) (by first | omega | (simp [upS, hz, za1, z1a1, ca1]; done) | (simp [upS, hz, za1, z1a1, ca1]; omega))).2 ?_
        have hD4 : Dd 146 [(.inr (.inr (some (2 + 2 * ((a1)).toNat))))] σ (.inl (some (.inl 0)), σ) := by
          refine b146 (el_1 (i := (a1)) (by first | omega | (simp [upS, hz, za1, z1a1, ca1]; done) | (simp [upS, hz, za1, z1a1, ca1]; omega))).2 ?_
          rw [show (σ (2 + 2 * ((a1)).toNat) 1) = 0 by (first | omega | (simp [upS, hz, za1, z1a1, ca1]; done) | (simp [upS, hz, za1, z1a1, ca1]; omega))]
          all_goals rfl
        refine ⟨_, _, hD4, ?_⟩
        clear hD4
        rw [if_neg (show ¬ ((0 : Int) < 0) by first | omega | (simp [upS, hz, za1, z1a1, ca1]; done) | (simp [upS, hz, za1, z1a1, ca1]; omega))]
        all_goals rfl
      refine ⟨_, _, hD5, ?_⟩
      clear hD5
      all_goals rfl
    refine Or.inl ⟨_, _, hD6, ?_⟩
    clear hD6
    rw [(show (upS σ 726 ((0 : Int).toNat) 0) = (upS σ 726 0 0) from by rw [show ((0 : Int).toNat) = 0 by (first | omega | (simp [upS, hz, za1, z1a1, ca1]; done) | (simp [upS, hz, za1, z1a1, ca1]; omega))])]
    all_goals rfl
  have hB : Dd 338 [(.inr (.inr (some 682))), (.inl a1)] (upS σ 726 0 0) (.inl (some (.inl 0)), (upS (upS σ 726 0 0) 682 0 0)) := by
    refine b338 ?_
    have hD8 : Dd 247 [(.inl a1)] (upS σ 726 0 0) (.inl (some (.inl 1)), (upS σ 726 0 0)) := by
      refine b247 ?_
      have hD7 : Dd 246 [(.inl a1), (.inl 4)] (upS σ 726 0 0) (.inl (some (.inl 1)), (upS σ 726 0 0)) := by
        refine b246 ?_
        try rw [if_pos (show (0 : Int) ≤ a1 by first | omega | (simp [upS, hz, za1, z1a1, ca1]; done) | (simp [upS, hz, za1, z1a1, ca1]; omega))]
        try rw [if_pos (show a1 < 4 by first | omega | (simp [upS, hz, za1, z1a1, ca1]; done) | (simp [upS, hz, za1, z1a1, ca1]; omega))]
        all_goals rfl
      refine ⟨_, _, hD7, ?_⟩
      clear hD7
      refine ⟨(show 1 = 0 ∨ 1 = 1 by first | omega | (simp [upS, hz, za1, z1a1, ca1]; done) | (simp [upS, hz, za1, z1a1, ca1]; omega)), ?_⟩
      all_goals rfl
    refine ⟨_, _, hD8, ?_⟩
    clear hD8
    try rw [if_neg (show ¬ ((1 : Int) = 0) by first | omega | (simp [upS, hz, za1, z1a1, ca1]; done) | (simp [upS, hz, za1, z1a1, ca1]; omega))]
    refine b338_13 ?_
    have hD9 : Dd 245 [(.inr (.inr (some 682))), (.inl 0)] (upS σ 726 0 0) (.inl (some (.inl 1)), (upS (upS σ 726 0 0) 682 0 0)) := by
      refine b245 ?_
      try rw [if_pos (show (0 : Int) = 0 by first | omega | (simp [upS, hz, za1, z1a1, ca1]; done) | (simp [upS, hz, za1, z1a1, ca1]; omega))]
      all_goals rfl
    refine ⟨_, _, hD9, ?_⟩
    clear hD9
    rw [if_neg (show ¬ ((1 : Int) = 0) by first | omega | (simp [upS, hz, za1, z1a1, ca1]; done) | (simp [upS, hz, za1, z1a1, ca1]; omega))]
    have hD10 : Dd 337 [(.inr (.inr (some 682))), (.inl a1)] (upS (upS σ 726 0 0) 682 0 0) (.inl (some (.inl 0)), (upS (upS σ 726 0 0) 682 0 0)) := by
      refine b337 ?_
      refine b337_4 ?_
      refine ⟨(show 0 ≤ a1 ∧ a1 < 4 by first | omega | (simp [upS, hz, za1, z1a1, ca1]; done) | (simp [upS, hz, za1, z1a1, ca1]; omega)), ?_⟩
      rw [if_neg (show ¬ ((0 : Int) < ((upS (upS σ 726 0 0) 682 0 0) 684 (a1).toNat)) by first | omega | (simp [upS, hz, za1, z1a1, ca1]; done) | (simp [upS, hz, za1, z1a1, ca1]; omega))]
      all_goals rfl
    refine ⟨_, _, hD10, ?_⟩
    clear hD10
    all_goals rfl
  refine ⟨_, _, _, _, hA, hB, ?_, ?_, ?_, ?_, ?_⟩
  · (first | rfl | (simp [upS, SCR, hz, za1, z1a1, ca1]; done) | (simp [upS, SCR, hz, za1, z1a1, ca1]; omega))
  · first | (intro h9; omega) | (intro _; first | rfl | (simp [upS, SCR, hz, za1, z1a1, ca1]; done) | (simp [upS, SCR, hz, za1, z1a1, ca1]; omega))
  · intro i; first | rfl | (unfold upS SCR; (repeat' split) <;> first | rfl | omega)
  · first | rfl | (unfold upS SCR; (repeat' split) <;> first | rfl | omega)
  · first | rfl | (unfold upS SCR; (repeat' split) <;> first | rfl | omega)
theorem q27_0 {σ : Sg} {a1 : Int} {a2 : Int} {a3 : Int} (hz : ∀ a i, a < 1000 → σ a i = 0) (h0 : a1 < 0) : ∃ (kx b : Int) (s1 s2 : Sg), Dd 416 [(.inr (.inr (some 0))), (.inl a1), (.inl a2), (.inl a3), (.inr (.inr (some 726)))] σ (.inl (some (.inl kx)), s1) ∧ Dd 339 [(.inr (.inr (some 682))), (.inl a1), (.inl a2), (.inl a3)] s1 (.inl (some (.inl b)), s2) ∧ s2 682 0 = kx ∧ (kx = 0 → s2 726 0 = b) ∧ (∀ i, s1 SCR i = σ SCR i) ∧ s1 (SCR + 1) 0 = σ (SCR + 1) 0 ∧ s2 (SCR + 1) 0 = σ (SCR + 1) 0 := by
  have hA : Dd 416 [(.inr (.inr (some 0))), (.inl a1), (.inl a2), (.inl a3), (.inr (.inr (some 726)))] σ (.inl (some (.inl 1)), σ) := by
    refine b416 ?_
    have hD4 : Dd 199 [(.inr (.inr (some 0))), (.inl a1), (.inl a2), (.inl a3)] σ (.inr 0, σ) := by
      refine b199 ?_
      have hD3 : Dd 227 [(.inr (.inr (some 0))), (.inl a1)] σ (.inr 0, σ) := by
        refine b227 ?_
        have hD1 : Dd 145 [(.inr (.inr (some 1))), (.inl a1)] σ (.inl (some (.inr (.inr none))), σ) := by
          refine b145 ?_
          rw [if_neg (show ¬ ((0 : Int) ≤ a1) by first | omega | (simp [upS, hz]; done) | (simp [upS, hz]; omega))]
          all_goals rfl
        refine ⟨_, _, hD1, ?_⟩
        clear hD1
        refine ⟨fun _ => ?_, fun _ hz2 => (by cases hz2)⟩
        all_goals rfl
      refine Or.inr ⟨_, _, hD3, ?_⟩
      all_goals rfl
    exact Or.inr (Or.inl ⟨_, hD4, rfl⟩)
  have hB : Dd 339 [(.inr (.inr (some 682))), (.inl a1), (.inl a2), (.inl a3)] σ (.inl (some (.inl 0)), (upS σ 682 0 1)) := by
    refine b339 ?_
    have hD6 : Dd 247 [(.inl a1)] σ (.inl (some (.inl 0)), σ) := by
      refine b247 ?_
      have hD5 : Dd 246 [(.inl a1), (.inl 4)] σ (.inl (some (.inl 0)), σ) := by
        refine b246 ?_
        try rw [if_neg (show ¬ ((0 : Int) ≤ a1) by first | omega | (simp [upS, hz]; done) | (simp [upS, hz]; omega))]
        all_goals rfl
      refine ⟨_, _, hD5, ?_⟩
      clear hD5
      refine ⟨(show 0 = 0 ∨ 0 = 1 by first | omega | (simp [upS, hz]; done) | (simp [upS, hz]; omega)), ?_⟩
      all_goals rfl
    refine ⟨_, _, hD6, ?_⟩
    clear hD6
    rw [if_pos (show (0 : Int) = 0 by first | omega | (simp [upS, hz]; done) | (simp [upS, hz]; omega))]
    refine b339_23 ?_
    refine b339_24 ?_
    rw [if_pos (show (0 : Int) = 0 by first | omega | (simp [upS, hz]; done) | (simp [upS, hz]; omega))]
    refine b339_51 ?_
    have hD7 : Dd 245 [(.inr (.inr (some 682))), (.inl 1)] σ (.inl (some (.inl 0)), (upS σ 682 0 1)) := by
      refine b245 ?_
      try rw [if_neg (show ¬ ((1 : Int) = 0) by first | omega | (simp [upS, hz]; done) | (simp [upS, hz]; omega))]
      all_goals rfl
    refine ⟨_, _, hD7, ?_⟩
    clear hD7
    rw [if_pos (show (0 : Int) = 0 by first | omega | (simp [upS, hz]; done) | (simp [upS, hz]; omega))]
    all_goals rfl
  refine ⟨_, _, _, _, hA, hB, ?_, ?_, ?_, ?_, ?_⟩
  · (first | rfl | (simp [upS, SCR, hz]; done) | (simp [upS, SCR, hz]; omega))
  · first | (intro h9; omega) | (intro _; first | rfl | (simp [upS, SCR, hz]; done) | (simp [upS, SCR, hz]; omega))
  · intro i; first | rfl | (unfold upS SCR; (repeat' split) <;> first | rfl | omega)
  · first | rfl | (unfold upS SCR; (repeat' split) <;> first | rfl | omega)
  · first | rfl | (unfold upS SCR; (repeat' split) <;> first | rfl | omega)
theorem q27_1 {σ : Sg} {a1 : Int} {a2 : Int} {a3 : Int} (hz : ∀ a i, a < 1000 → σ a i = 0) (h0 : 4 ≤ a1) : ∃ (kx b : Int) (s1 s2 : Sg), Dd 416 [(.inr (.inr (some 0))), (.inl a1), (.inl a2), (.inl a3), (.inr (.inr (some 726)))] σ (.inl (some (.inl kx)), s1) ∧ Dd 339 [(.inr (.inr (some 682))), (.inl a1), (.inl a2), (.inl a3)] s1 (.inl (some (.inl b)), s2) ∧ s2 682 0 = kx ∧ (kx = 0 → s2 726 0 = b) ∧ (∀ i, s1 SCR i = σ SCR i) ∧ s1 (SCR + 1) 0 = σ (SCR + 1) 0 ∧ s2 (SCR + 1) 0 = σ (SCR + 1) 0 := by
  have hA : Dd 416 [(.inr (.inr (some 0))), (.inl a1), (.inl a2), (.inl a3), (.inr (.inr (some 726)))] σ (.inl (some (.inl 1)), σ) := by
    refine b416 ?_
    have hD4 : Dd 199 [(.inr (.inr (some 0))), (.inl a1), (.inl a2), (.inl a3)] σ (.inr 0, σ) := by
      refine b199 ?_
      have hD3 : Dd 227 [(.inr (.inr (some 0))), (.inl a1)] σ (.inr 0, σ) := by
        refine b227 ?_
        have hD1 : Dd 145 [(.inr (.inr (some 1))), (.inl a1)] σ (.inl (some (.inr (.inr none))), σ) := by
          refine b145 ?_
          rw [if_pos (show (0 : Int) ≤ a1 by first | omega | (simp [upS, hz]; done) | (simp [upS, hz]; omega))]
          refine ⟨4, (by decide +kernel), (by decide), ?_⟩
          rw [if_neg (show ¬ (a1 < ((4 : Nat) : Int)) by first | omega | (simp [upS, hz]; done) | (simp [upS, hz]; omega))]
          all_goals rfl
        refine ⟨_, _, hD1, ?_⟩
        clear hD1
        refine ⟨fun _ => ?_, fun _ hz2 => (by cases hz2)⟩
        all_goals rfl
      refine Or.inr ⟨_, _, hD3, ?_⟩
      all_goals rfl
    exact Or.inr (Or.inl ⟨_, hD4, rfl⟩)
  have hB : Dd 339 [(.inr (.inr (some 682))), (.inl a1), (.inl a2), (.inl a3)] σ (.inl (some (.inl 0)), (upS σ 682 0 1)) := by
    refine b339 ?_
    have hD6 : Dd 247 [(.inl a1)] σ (.inl (some (.inl 0)), σ) := by
      refine b247 ?_
      have hD5 : Dd 246 [(.inl a1), (.inl 4)] σ (.inl (some (.inl 0)), σ) := by
        refine b246 ?_
        try rw [if_pos (show (0 : Int) ≤ a1 by first | omega | (simp [upS, hz]; done) | (simp [upS, hz]; omega))]
        try rw [if_neg (show ¬ (a1 < 4) by first | omega | (simp [upS, hz]; done) | (simp [upS, hz]; omega))]
        all_goals rfl
      refine ⟨_, _, hD5, ?_⟩
      clear hD5
      refine ⟨(show 0 = 0 ∨ 0 = 1 by first | omega | (simp [upS, hz]; done) | (simp [upS, hz]; omega)), ?_⟩
      all_goals rfl
    refine ⟨_, _, hD6, ?_⟩
    clear hD6
    rw [if_pos (show (0 : Int) = 0 by first | omega | (simp [upS, hz]; done) | (simp [upS, hz]; omega))]
    refine b339_23 ?_
    refine b339_24 ?_
    rw [if_pos (show (0 : Int) = 0 by first | omega | (simp [upS, hz]; done) | (simp [upS, hz]; omega))]
    refine b339_51 ?_
    have hD7 : Dd 245 [(.inr (.inr (some 682))), (.inl 1)] σ (.inl (some (.inl 0)), (upS σ 682 0 1)) := by
      refine b245 ?_
      try rw [if_neg (show ¬ ((1 : Int) = 0) by first | omega | (simp [upS, hz]; done) | (simp [upS, hz]; omega))]
      all_goals rfl
    refine ⟨_, _, hD7, ?_⟩
    clear hD7
    rw [if_pos (show (0 : Int) = 0 by first | omega | (simp [upS, hz]; done) | (simp [upS, hz]; omega))]
    all_goals rfl
  refine ⟨_, _, _, _, hA, hB, ?_, ?_, ?_, ?_, ?_⟩
  · (first | rfl | (simp [upS, SCR, hz]; done) | (simp [upS, SCR, hz]; omega))
  · first | (intro h9; omega) | (intro _; first | rfl | (simp [upS, SCR, hz]; done) | (simp [upS, SCR, hz]; omega))
  · intro i; first | rfl | (unfold upS SCR; (repeat' split) <;> first | rfl | omega)
  · first | rfl | (unfold upS SCR; (repeat' split) <;> first | rfl | omega)
  · first | rfl | (unfold upS SCR; (repeat' split) <;> first | rfl | omega)
theorem q27_2 {σ : Sg} {a1 : Int} {a2 : Int} {a3 : Int} (hz : ∀ a i, a < 1000 → σ a i = 0) (h0 : 0 ≤ a1 ∧ a1 < 4) (h1 : a2 < 0) : ∃ (kx b : Int) (s1 s2 : Sg), Dd 416 [(.inr (.inr (some 0))), (.inl a1), (.inl a2), (.inl a3), (.inr (.inr (some 726)))] σ (.inl (some (.inl kx)), s1) ∧ Dd 339 [(.inr (.inr (some 682))), (.inl a1), (.inl a2), (.inl a3)] s1 (.inl (some (.inl b)), s2) ∧ s2 682 0 = kx ∧ (kx = 0 → s2 726 0 = b) ∧ (∀ i, s1 SCR i = σ SCR i) ∧ s1 (SCR + 1) 0 = σ (SCR + 1) 0 ∧ s2 (SCR + 1) 0 = σ (SCR + 1) 0 := by
  have za1 : ∀ i, σ (2 + 2 * ((a1)).toNat) i = 0 := fun i => hz _ i (by omega)
  have z1a1 : ∀ i, σ ((2 + 2 * ((a1)).toNat) + 1) i = 0 := fun i => hz _ i (by omega)
  have ca1 : (cap (2 + 2 * ((a1)).toNat) : Int) = 16 := cp_1 (by omega)
  have hA : Dd 416 [(.inr (.inr (some 0))), (.inl a1), (.inl a2), (.inl a3), (.inr (.inr (some 726)))] σ (.inl (some (.inl 1)), σ) := by
    refine b416 ?_
    have hD7 : Dd 199 [(.inr (.inr (some 0))), (.inl a1), (.inl a2), (.inl a3)] σ (.inr 0, σ) := by
      refine b199 ?_
      have hD3 : Dd 227 [(.inr (.inr (some 0))), (.inl a1)] σ (.inl (some (.inr (.inr (some (2 + 2 * ((a1)).toNat))))), σ) := by
        refine b227 ?_
        have hD1 : Dd 145 [(.inr (.inr (some 1))), (.inl a1)] σ (.inl (some (.inr (.inr (some (2 + 2 * ((a1)).toNat))))), σ) := by
          refine b145 ?_
          rw [if_pos (show (0 : Int) ≤ a1 by first | omega | (simp [upS, hz, za1, z1a1, ca1]; done) | (simp [upS, hz, za1, z1a1, ca1]; omega))]
          refine ⟨4, (by decide +kernel), (by decide), ?_⟩
          rw [if_pos (show a1 < ((4 : Nat) : Int) by first | omega | (simp [upS, hz, za1, z1a1, ca1]; done) | (simp [upS, hz, za1, z1a1, ca1]; omega))]
          refine ⟨(show 0 ≤ a1 by first | omega | (simp [upS, hz, za1, z1a1, ca1]; done) | (simp [upS, hz, za1, z1a1, ca1]; omega)), ?_⟩
          refine ⟨(2 + 2 * ((a1)).toNat), (el_1 (i := (a1)) (by first | omega | (simp [upS, hz, za1, z1a1, ca1]; done) | (simp [upS, hz, za1, z1a1, ca1]; omega))).1, (el_1 (i := (a1)) (by first | omega | (simp [upS, hz, za1, z1a1, ca1]; done) | (simp [upS, hz, za1, z1a1, ca1]; omega))).2, ?_⟩
          all_goals rfl
        refine ⟨_, _, hD1, ?_⟩
        clear hD1
        refine ⟨fun hz2 => (by cases hz2), fun _ hz2 => ?_⟩
        cases hz2
        refine ⟨(el_1 (i := (a1)) (by first | omega | (simp [upS, hz, za1, z1a1, ca1]; done) | (simp [upS, hz, za1, z1a1, ca1]; omega))).2, ?_⟩
        all_goals rfl
      refine Or.inl ⟨_, _, hD3, (el_1 (i := (a1)) (by first | omega | (simp [upS, hz, za1, z1a1, ca1]; done) | (simp [upS, hz, za1, z1a1, ca1]; omega))).2, ?_⟩
      clear hD3
      have hD5 : Dd 82 [(.inr (.inr (some 399))), (.inr (.inr (some (2 + 2 * ((a1)).toNat))))] σ (.inl (some (.inl 0)), σ) := by
        refine b82 ?_
        refine b82_4 (el_1 (i := (a1)) (by first | omega | (simp [upS, hz, za1, z1a1, ca1]; done) | (simp [upS, hz, za1, z1a1, ca1]; omega))).2 ?_
        have hD4 : Dd 146 [(.inr (.inr (some (2 + 2 * ((a1)).toNat))))] σ (.inl (some (.inl 0)), σ) := by
          refine b146 (el_1 (i := (a1)) (by first | omega | (simp [upS, hz, za1, z1a1, ca1]; done) | (simp [upS, hz, za1, z1a1, ca1]; omega))).2 ?_
          rw [show (σ (2 + 2 * ((a1)).toNat) 1) = 0 by (first | omega | (simp [upS, hz, za1, z1a1, ca1]; done) | (simp [upS, hz, za1, z1a1, ca1]; omega))]
          all_goals rfl
        refine ⟨_, _, hD4, ?_⟩
        clear hD4
        rw [if_neg (show ¬ ((0 : Int) < 0) by first | omega | (simp [upS, hz, za1, z1a1, ca1]; done) | (simp [upS, hz, za1, z1a1, ca1]; omega))]
        all_goals rfl
      refine ⟨_, _, hD5, ?_⟩
      clear hD5
      have hD6 : Dd 232 [(.inr (.inr (some 0))), (.inl a2), (.inl 0)] σ (.inr 0, σ) := by
        refine b232 ?_
        rw [if_neg (show ¬ ((0 : Int) ≤ a2) by first | omega | (simp [upS, hz, za1, z1a1, ca1]; done) | (simp [upS, hz, za1, z1a1, ca1]; omega))]
        refine b232_9 ?_
        all_goals rfl
      refine Or.inr ⟨_, _, hD6, ?_⟩
      all_goals rfl
    exact Or.inr (Or.inl ⟨_, hD7, rfl⟩)
  have hB : Dd 339 [(.inr (.inr (some 682))), (.inl a1), (.inl a2), (.inl a3)] σ (.inl (some (.inl 0)), (upS σ 682 0 1)) := by
    refine b339 ?_
    have hD9 : Dd 247 [(.inl a1)] σ (.inl (some (.inl 1)), σ) := by
      refine b247 ?_
      have hD8 : Dd 246 [(.inl a1), (.inl 4)] σ (.inl (some (.inl 1)), σ) := by
        refine b246 ?_
        try rw [if_pos (show (0 : Int) ≤ a1 by first | omega | (simp [upS, hz, za1, z1a1, ca1]; done) | (simp [upS, hz, za1, z1a1, ca1]; omega))]
        try rw [if_pos (show a1 < 4 by first | omega | (simp [upS, hz, za1, z1a1, ca1]; done) | (simp [upS, hz, za1, z1a1, ca1]; omega))]
        all_goals rfl
      refine ⟨_, _, hD8, ?_⟩
      clear hD8
      refine ⟨(show 1 = 0 ∨ 1 = 1 by first | omega | (simp [upS, hz, za1, z1a1, ca1]; done) | (simp [upS, hz, za1, z1a1, ca1]; omega)), ?_⟩
      all_goals rfl
    refine ⟨_, _, hD9, ?_⟩
    clear hD9
    rw [if_neg (show ¬ ((1 : Int) = 0) by first | omega | (simp [upS, hz, za1, z1a1, ca1]; done) | (simp [upS, hz, za1, z1a1, ca1]; omega))]
    have hD10 : Dd 337 [(.inr (.inr (some 682))), (.inl a1)] σ (.inl (some (.inl 0)), σ) := by
      refine b337 ?_
      refine b337_4 ?_
      refine ⟨(show 0 ≤ a1 ∧ a1 < 4 by first | omega | (simp [upS, hz, za1, z1a1, ca1]; done) | (simp [upS, hz, za1, z1a1, ca1]; omega)), ?_⟩
      rw [if_neg (show ¬ ((0 : Int) < (σ 684 (a1).toNat)) by first | omega | (simp [upS, hz, za1, z1a1, ca1]; done) | (simp [upS, hz, za1, z1a1, ca1]; omega))]
      all_goals rfl
    refine ⟨_, _, hD10, ?_⟩
    clear hD10
    have hD11 : Dd 246 [(.inl a2), (.inl 0)] σ (.inl (some (.inl 0)), σ) := by
      refine b246 ?_
      try rw [if_neg (show ¬ ((0 : Int) ≤ a2) by first | omega | (simp [upS, hz, za1, z1a1, ca1]; done) | (simp [upS, hz, za1, z1a1, ca1]; omega))]
      all_goals rfl
    refine ⟨_, _, hD11, ?_⟩
    clear hD11
    rw [if_pos (show (0 : Int) = 0 by first | omega | (simp [upS, hz, za1, z1a1, ca1]; done) | (simp [upS, hz, za1, z1a1, ca1]; omega))]
    refine b339_23 ?_
    refine b339_24 ?_
    rw [if_pos (show (0 : Int) = 0 by first | omega | (simp [upS, hz, za1, z1a1, ca1]; done) | (simp [upS, hz, za1, z1a1, ca1]; omega))]
    refine b339_51 ?_
    have hD12 : Dd 245 [(.inr (.inr (some 682))), (.inl 1)] σ (.inl (some (.inl 0)), (upS σ 682 0 1)) := by
      refine b245 ?_
      try rw [if_neg (show ¬ ((1 : Int) = 0) by first | omega | (simp [upS, hz, za1, z1a1, ca1]; done) | (simp [upS, hz, za1, z1a1, ca1]; omega))]
      all_goals rfl
    refine ⟨_, _, hD12, ?_⟩
    clear hD12
    rw [if_pos (show (0 : Int) = 0 by first | omega | (simp [upS, hz, za1, z1a1, ca1]; done) | (simp [upS, hz, za1, z1a1, ca1]; omega))]
    all_goals rfl
  refine ⟨_, _, _, _, hA, hB, ?_, ?_, ?_, ?_, ?_⟩
  · (first | rfl | (simp [upS, SCR, hz, za1, z1a1, ca1]; done) | (simp [upS, SCR, hz, za1, z1a1, ca1]; omega))
  · first | (intro h9; omega) | (intro _; first | rfl | (simp [upS, SCR, hz, za1, z1a1, ca1]; done) | (simp [upS, SCR, hz, za1, z1a1, ca1]; omega))
  · intro i; first | rfl | (unfold upS SCR; (repeat' split) <;> first | rfl | omega)
  · first | rfl | (unfold upS SCR; (repeat' split) <;> first | rfl | omega)
  · first | rfl | (unfold upS SCR; (repeat' split) <;> first | rfl | omega)
theorem q27_3 {σ : Sg} {a1 : Int} {a2 : Int} {a3 : Int} (hz : ∀ a i, a < 1000 → σ a i = 0) (h0 : 0 ≤ a1 ∧ a1 < 4) (h1 : 0 ≤ a2) : ∃ (kx b : Int) (s1 s2 : Sg), Dd 416 [(.inr (.inr (some 0))), (.inl a1), (.inl a2), (.inl a3), (.inr (.inr (some 726)))] σ (.inl (some (.inl kx)), s1) ∧ Dd 339 [(.inr (.inr (some 682))), (.inl a1), (.inl a2), (.inl a3)] s1 (.inl (some (.inl b)), s2) ∧ s2 682 0 = kx ∧ (kx = 0 → s2 726 0 = b) ∧ (∀ i, s1 SCR i = σ SCR i) ∧ s1 (SCR + 1) 0 = σ (SCR + 1) 0 ∧ s2 (SCR + 1) 0 = σ (SCR + 1) 0 := by
  have za1 : ∀ i, σ (2 + 2 * ((a1)).toNat) i = 0 := fun i => hz _ i (by omega)
  have z1a1 : ∀ i, σ ((2 + 2 * ((a1)).toNat) + 1) i = 0 := fun i => hz _ i (by omega)
  have ca1 : (cap (2 + 2 * ((a1)).toNat) : Int) = 16 := cp_1 (by omega)
  have hA : Dd 416 [(.inr (.inr (some 0))), (.inl a1), (.inl a2), (.inl a3), (.inr (.inr (some 726)))] σ (.inl (some (.inl 1)), σ) := by
    refine b416 ?_
    have hD7 : Dd 199 [(.inr (.inr (some 0))), (.inl a1), (.inl a2), (.inl a3)] σ (.inr 0, σ) := by
      refine b199 ?_
      have hD3 : Dd 227 [(.inr (.inr (some 0))), (.inl a1)] σ (.inl (some (.inr (.inr (some (2 + 2 * ((a1)).toNat))))), σ) := by
        refine b227 ?_
        have hD1 : Dd 145 [(.inr (.inr (some 1))), (.inl a1)] σ (.inl (some (.inr (.inr (some (2 + 2 * ((a1)).toNat))))), σ) := by
          refine b145 ?_
          rw [if_pos (show (0 : Int) ≤ a1 by first | omega | (simp [upS, hz, za1, z1a1, ca1]; done) | (simp [upS, hz, za1, z1a1, ca1]; omega))]
          refine ⟨4, (by decide +kernel), (by decide), ?_⟩
          rw [if_pos (show a1 < ((4 : Nat) : Int) by first | omega | (simp [upS, hz, za1, z1a1, ca1]; done) | (simp [upS, hz, za1, z1a1, ca1]; omega))]
          refine ⟨(show 0 ≤ a1 by first | omega | (simp [upS, hz, za1, z1a1, ca1]; done) | (simp [upS, hz, za1, z1a1, ca1]; omega)), ?_⟩
          refine ⟨(2 + 2 * ((a1)).toNat), (el_1 (i := (a1)) (by first | omega | (simp [upS, hz, za1, z1a1, ca1]; done) | (simp [upS, hz, za1, z1a1, ca1]; omega))).1, (el_1 (i := (a1)) (by first | omega | (simp [upS, hz, za1, z1a1, ca1]; done) | (simp [upS, hz, za1, z1a1, ca1]; omega))).2, ?_⟩
          all_goals rfl
        refine ⟨_, _, hD1, ?_⟩
        clear hD1
        refine ⟨fun hz2 => (by cases hz2), fun _ hz2 => ?_⟩
        cases hz2
        refine ⟨(el_1 (i := (a1)) (by first | omega | (simp [upS, hz, za1, z1a1, ca1]; done) | (simp [upS, hz, za1, z1a1, ca1]; omega))).2, ?_⟩
        all_goals rfl
      refine Or.inl ⟨_, _, hD3, (el_1 (i := (a1)) (by first | omega | (simp [upS, hz, za1, z1a1, ca1]; done) | (simp [upS, hz, za1, z1a1, ca1]; omega))).2, ?_⟩
      clear hD3
      have hD5 : Dd 82 [(.inr (.inr (some 399))), (.inr (.inr (some (2 + 2 * ((a1)).toNat))))] σ (.inl (some (.inl 0)), σ) := by
        refine b82 ?_
        refine b82_4 (el_1 (i := (a1)) (by first | omega | (simp [upS, hz, za1, z1a1, ca1]; done) | (simp [upS, hz, za1, z1a1, ca1]; omega))).2 ?_
        have hD4 : Dd 146 [(.inr (.inr (some (2 + 2 * ((a1)).toNat))))] σ (.inl (some (.inl 0)), σ) := by
          refine b146 (el_1 (i := (a1)) (by first | omega | (simp [upS, hz, za1, z1a1, ca1]; done) | (simp [upS, hz, za1, z1a1, ca1]; omega))).2 ?_
          rw [show (σ (2 + 2 * ((a1)).toNat) 1) = 0 by (first | omega | (simp [upS, hz, za1, z1a1, ca1]; done) | (simp [upS, hz, za1, z1a1, ca1]; omega))]
          all_goals rfl
        refine ⟨_, _, hD4, ?_⟩
        clear hD4
        rw [if_neg (show ¬ ((0 : Int) < 0) by first | omega | (simp [upS, hz, za1, z1a1, ca1]; done) | (simp [upS, hz, za1, z1a1, ca1]; omega))]
        all_goals rfl
      refine ⟨_, _, hD5, ?_⟩
      clear hD5
      have hD6 : Dd 232 [(.inr (.inr (some 0))), (.inl a2), (.inl 0)] σ (.inr 0, σ) := by
        refine b232 ?_
        rw [if_pos (show (0 : Int) ≤ a2 by first | omega | (simp [upS, hz, za1, z1a1, ca1]; done) | (simp [upS, hz, za1, z1a1, ca1]; omega))]
        rw [if_pos (show (0 : Int) ≤ a2 by first | omega | (simp [upS, hz, za1, z1a1, ca1]; done) | (simp [upS, hz, za1, z1a1, ca1]; omega))]
        refine b232_9 ?_
        all_goals rfl
      refine Or.inr ⟨_, _, hD6, ?_⟩
      all_goals rfl
    exact Or.inr (Or.inl ⟨_, hD7, rfl⟩)
  have hB : Dd 339 [(.inr (.inr (some 682))), (.inl a1), (.inl a2), (.inl a3)] σ (.inl (some (.inl 0)), (upS σ 682 0 1)) := by
    refine b339 ?_
    have hD9 : Dd 247 [(.inl a1)] σ (.inl (some (.inl 1)), σ) := by
      refine b247 ?_
      have hD8 : Dd 246 [(.inl a1), (.inl 4)] σ (.inl (some (.inl 1)), σ) := by
        refine b246 ?_
        try rw [if_pos (show (0 : Int) ≤ a1 by first | omega | (simp [upS, hz, za1, z1a1, ca1]; done) | (simp [upS, hz, za1, z1a1, ca1]; omega))]
        try rw [if_pos (show a1 < 4 by first | omega | (simp [upS, hz, za1, z1a1, ca1]; done) | (simp [upS, hz, za1, z1a1, ca1]; omega))]
        all_goals rfl
      refine ⟨_, _, hD8, ?_⟩
      clear hD8
      refine ⟨(show 1 = 0 ∨ 1 = 1 by first | omega | (simp [upS, hz, za1, z1a1, ca1]; done) | (simp [upS, hz, za1, z1a1, ca1]; omega)), ?_⟩
      all_goals rfl
    refine ⟨_, _, hD9, ?_⟩
    clear hD9
    rw [if_neg (show ¬ ((1 : Int) = 0) by first | omega | (simp [upS, hz, za1, z1a1, ca1]; done) | (simp [upS, hz, za1, z1a1, ca1]; omega))]
    have hD10 : Dd 337 [(.inr (.inr (some 682))), (.inl a1)] σ (.inl (some (.inl 0)), σ) := by
      refine b337 ?_
      refine b337_4 ?_
      refine ⟨(show 0 ≤ a1 ∧ a1 < 4 by first | omega | (simp [upS, hz, za1, z1a1, ca1]; done) | (simp [upS, hz, za1, z1a1, ca1]; omega)), ?_⟩
      rw [if_neg (show ¬ ((0 : Int) < (σ 684 (a1).toNat)) by first | omega | (simp [upS, hz, za1, z1a1, ca1]; done) | (simp [upS, hz, za1, z1a1, ca1]; omega))]
      all_goals rfl
    refine ⟨_, _, hD10, ?_⟩
    clear hD10
    have hD11 : Dd 246 [(.inl a2), (.inl 0)] σ (.inl (some (.inl 0)), σ) := by
      refine b246 ?_
      try rw [if_pos (show (0 : Int) ≤ a2 by first | omega | (simp [upS, hz, za1, z1a1, ca1]; done) | (simp [upS, hz, za1, z1a1, ca1]; omega))]
      try rw [if_neg (show ¬ (a2 < 0) by first | omega | (simp [upS, hz, za1, z1a1, ca1]; done) | (simp [upS, hz, za1, z1a1, ca1]; omega))]
      all_goals rfl
    refine ⟨_, _, hD11, ?_⟩
    clear hD11
    rw [if_pos (show (0 : Int) = 0 by first | omega | (simp [upS, hz, za1, z1a1, ca1]; done) | (simp [upS, hz, za1, z1a1, ca1]; omega))]
    refine b339_23 ?_
    refine b339_24 ?_
    rw [if_pos (show (0 : Int) = 0 by first | omega | (simp [upS, hz, za1, z1a1, ca1]; done) | (simp [upS, hz, za1, z1a1, ca1]; omega))]
    refine b339_51 ?_
    have hD12 : Dd 245 [(.inr (.inr (some 682))), (.inl 1)] σ (.inl (some (.inl 0)), (upS σ 682 0 1)) := by
      refine b245 ?_
      try rw [if_neg (show ¬ ((1 : Int) = 0) by first | omega | (simp [upS, hz, za1, z1a1, ca1]; done) | (simp [upS, hz, za1, z1a1, ca1]; omega))]
      all_goals rfl
    refine ⟨_, _, hD12, ?_⟩
    clear hD12
    rw [if_pos (show (0 : Int) = 0 by first | omega | (simp [upS, hz, za1, z1a1, ca1]; done) | (simp [upS, hz, za1, z1a1, ca1]; omega))]
    all_goals rfl
  refine ⟨_, _, _, _, hA, hB, ?_, ?_, ?_, ?_, ?_⟩
  · (first | rfl | (simp [upS, SCR, hz, za1, z1a1, ca1]; done) | (simp [upS, SCR, hz, za1, z1a1, ca1]; omega))
  · first | (intro h9; omega) | (intro _; first | rfl | (simp [upS, SCR, hz, za1, z1a1, ca1]; done) | (simp [upS, SCR, hz, za1, z1a1, ca1]; omega))
  · intro i; first | rfl | (unfold upS SCR; (repeat' split) <;> first | rfl | omega)
  · first | rfl | (unfold upS SCR; (repeat' split) <;> first | rfl | omega)
  · first | rfl | (unfold upS SCR; (repeat' split) <;> first | rfl | omega)
theorem q28_0 {σ : Sg} {a1 : Int} (hz : ∀ a i, a < 1000 → σ a i = 0) (h0 : a1 < 0) : ∃ (kx b : Int) (s1 s2 : Sg), Dd 417 [(.inr (.inr (some 0))), (.inl a1), (.inr (.inr (some 726)))] σ (.inl (some (.inl kx)), s1) ∧ Dd 343 [(.inr (.inr (some 682))), (.inl a1)] s1 (.inl (some (.inl b)), s2) ∧ s2 682 0 = kx ∧ (kx = 0 → s2 726 0 = b) ∧ (∀ i, s1 SCR i = σ SCR i) ∧ s1 (SCR + 1) 0 = σ (SCR + 1) 0 ∧ s2 (SCR + 1) 0 = σ (SCR + 1) 0 := by
  have hA : Dd 417 [(.inr (.inr (some 0))), (.inl a1), (.inr (.inr (some 726)))] σ (.inl (some (.inl 1)), σ) := by
    refine b417 ?_
    have hD4 : Dd 200 [(.inr (.inr (some 0))), (.inl a1)] σ (.inr 0, σ) := by
      refine b200 ?_
      have hD3 : Dd 227 [(.inr (.inr (some 0))), (.inl a1)] σ (.inr 0, σ) := by
        refine b227 ?_
        have hD1 : Dd 145 [(.inr (.inr (some 1))), (.inl a1)] σ (.inl (some (.inr (.inr none))), σ) := by
          refine b145 ?_
          rw [if_neg (show ¬ ((0 : Int) ≤ a1) by first | omega | (simp [upS, hz]; done) | (simp [upS, hz]; omega))]
          all_goals rfl
        refine ⟨_, _, hD1, ?_⟩
        clear hD1
        refine ⟨fun _ => ?_, fun _ hz2 => (by cases hz2)⟩
        all_goals rfl
      refine Or.inr ⟨_, _, hD3, ?_⟩
      all_goals rfl
    exact Or.inr (Or.inl ⟨_, hD4, rfl⟩)
  have hB : Dd 343 [(.inr (.inr (some 682))), (.inl a1)] σ (.inl (some (.inl 0)), (upS σ 682 0 1)) := by
    refine b343 ?_
    have hD6 : Dd 247 [(.inl a1)] σ (.inl (some (.inl 0)), σ) := by
      refine b247 ?_
      have hD5 : Dd 246 [(.inl a1), (.inl 4)] σ (.inl (some (.inl 0)), σ) := by
        refine b246 ?_
        try rw [if_neg (show ¬ ((0 : Int) ≤ a1) by first | omega | (simp [upS, hz]; done) | (simp [upS, hz]; omega))]
        all_goals rfl
      refine ⟨_, _, hD5, ?_⟩
      clear hD5
      refine ⟨(show 0 = 0 ∨ 0 = 1 by first | omega | (simp [upS, hz]; done) | (simp [upS, hz]; omega)), ?_⟩
      all_goals rfl
    refine ⟨_, _, hD6, ?_⟩
    clear hD6
    try rw [if_pos (show (0 : Int) = 0 by first | omega | (simp [upS, hz]; done) | (simp [upS, hz]; omega))]
    refine b343_24 ?_
    have hD7 : Dd 245 [(.inr (.inr (some 682))), (.inl 1)] σ (.inl (some (.inl 0)), (upS σ 682 0 1)) := by
      refine b245 ?_
      try rw [if_neg (show ¬ ((1 : Int) = 0) by first | omega | (simp [upS, hz]; done) | (simp [upS, hz]; omega))]
      all_goals rfl
    refine ⟨_, _, hD7, ?_⟩
    clear hD7
    rw [if_pos (show (0 : Int) = 0 by first | omega | (simp [upS, hz]; done) | (simp [upS, hz]; omega))]
    all_goals rfl
  refine ⟨_, _, _, _, hA, hB, ?_, ?_, ?_, ?_, ?_⟩
  · (first | rfl | (simp [upS, SCR, hz]; done) | (simp [upS, SCR, hz]; omega))
  · first | (intro h9; omega) | (intro _; first | rfl | (simp [upS, SCR, hz]; done) | (simp [upS, SCR, hz]; omega))
  · intro i; first | rfl | (unfold upS SCR; (repeat' split) <;> first | rfl | omega)
  · first | rfl | (unfold upS SCR; (repeat' split) <;> first | rfl | omega)
  · first | rfl | (unfold upS SCR; (repeat' split) <;> first | rfl | omega)
theorem q28_1 {σ : Sg} {a1 : Int} (hz : ∀ a i, a < 1000 → σ a i = 0) (h0 : 4 ≤ a1) : ∃ (kx b : Int) (s1 s2 : Sg), Dd 417 [(.inr (.inr (some 0))), (.inl a1), (.inr (.inr (some 726)))] σ (.inl (some (.inl kx)), s1) ∧ Dd 343 [(.inr (.inr (some 682))), (.inl a1)] s1 (.inl (some (.inl b)), s2) ∧ s2 682 0 = kx ∧ (kx = 0 → s2 726 0 = b) ∧ (∀ i, s1 SCR i = σ SCR i) ∧ s1 (SCR + 1) 0 = σ (SCR + 1) 0 ∧ s2 (SCR + 1) 0 = σ (SCR + 1) 0 := by
  have hA : Dd 417 [(.inr (.inr (some 0))), (.inl a1), (.inr (.inr (some 726)))] σ (.inl (some (.inl 1)), σ) := by
    refine b417 ?_
    have hD4 : Dd 200 [(.inr (.inr (some 0))), (.inl a1)] σ (.inr 0, σ) := by
      refine b200 ?_
      have hD3 : Dd 227 [(.inr (.inr (some 0))), (.inl a1)] σ (.inr 0, σ) := by
        refine b227 ?_
        have hD1 : Dd 145 [(.inr (.inr (some 1))), (.inl a1)] σ (.inl (some (.inr (.inr none))), σ) := by
          refine b145 ?_
          rw [if_pos (show (0 : Int) ≤ a1 by first | omega | (simp [upS, hz]; done) | (simp [upS, hz]; omega))]
          refine ⟨4, (by decide +kernel), (by decide), ?_⟩
          rw [if_neg (show ¬ (a1 < ((4 : Nat) : Int)) by first | omega | (simp [upS, hz]; done) | (simp [upS, hz]; omega))]
          all_goals rfl
        refine ⟨_, _, hD1, ?_⟩
        clear hD1
        refine ⟨fun _ => ?_, fun _ hz2 => (by cases hz2)⟩
        all_goals rfl
      refine Or.inr ⟨_, _, hD3, ?_⟩
      all_goals rfl
    exact Or.inr (Or.inl ⟨_, hD4, rfl⟩)
  have hB : Dd 343 [(.inr (.inr (some 682))), (.inl a1)] σ (.inl (some (.inl 0)), (upS σ 682 0 1)) := by
    refine b343 ?_
    have hD6 : Dd 247 [(.inl a1)] σ (.inl (some (.inl 0)), σ) := by
      refine b247 ?_
      have hD5 : Dd 246 [(.inl a1), (.inl 4)] σ (.inl (some (.inl 0)), σ) := by
        refine b246 ?_
        try rw [if_pos (show (0 : Int) ≤ a1 by first | omega | (simp [upS, hz]; done) | (simp [upS, hz]; omega))]
        try rw [if_neg (show ¬ (a1 < 4) by first | omega | (simp [upS, hz]; done) | (simp [upS, hz]; omega))]
        all_goals rfl
      refine ⟨_, _, hD5, ?_⟩
      clear hD5
      refine ⟨(show 0 = 0 ∨ 0 = 1 by first | omega | (simp [upS, hz]; done) | (simp [upS, hz]; omega)), ?_⟩
      all_goals rfl
    refine ⟨_, _, hD6, ?_⟩
    clear hD6
    try rw [if_pos (show (0 : Int) = 0 by first | omega | (simp [upS, hz]; done) | (simp [upS, hz]; omega))]
    refine b343_24 ?_
    have hD7 : Dd 245 [(.inr (.inr (some 682))), (.inl 1)] σ (.inl (some (.inl 0)), (upS σ 682 0 1)) := by
      refine b245 ?_
      try rw [if_neg (show ¬ ((1 : Int) = 0) by first | omega | (simp [upS, hz]; done) | (simp [upS, hz]; omega))]
      all_goals rfl
    refine ⟨_, _, hD7, ?_⟩
    clear hD7
    rw [if_pos (show (0 : Int) = 0 by first | omega | (simp [upS, hz]; done) | (simp [upS, hz]; omega))]
    all_goals rfl
  refine ⟨_, _, _, _, hA, hB, ?_, ?_, ?_, ?_, ?_⟩
  · (first | rfl | (simp [upS, SCR, hz]; done) | (simp [upS, SCR, hz]; omega))
  · first | (intro h9; omega) | (intro _; first | rfl | (simp [upS, SCR, hz]; done) | (simp [upS, SCR, hz]; omega))
  · intro i; first | rfl | (unfold upS SCR; (repeat' split) <;> first | rfl | omega)
  · first | rfl | (unfold upS SCR; (repeat' split) <;> first | rfl | omega)
  · first | rfl | (unfold upS SCR; (repeat' split) <;> first | rfl | omega)
theorem q28_2 {σ : Sg} {a1 : Int} (hz : ∀ a i, a < 1000 → σ a i = 0) (h0 : 0 ≤ a1 ∧ a1 < 4) : ∃ (kx b : Int) (s1 s2 : Sg), Dd 417 [(.inr (.inr (some 0))), (.inl a1), (.inr (.inr (some 726)))] σ (.inl (some (.inl kx)), s1) ∧ Dd 343 [(.inr (.inr (some 682))), (.inl a1)] s1 (.inl (some (.inl b)), s2) ∧ s2 682 0 = kx ∧ (kx = 0 → s2 726 0 = b) ∧ (∀ i, s1 SCR i = σ SCR i) ∧ s1 (SCR + 1) 0 = σ (SCR + 1) 0 ∧ s2 (SCR + 1) 0 = σ (SCR + 1) 0 := by
  have za1 : ∀ i, σ (2 + 2 * ((a1)).toNat) i = 0 := fun i => hz _ i (by omega)
  have z1a1 : ∀ i, σ ((2 + 2 * ((a1)).toNat) + 1) i = 0 := fun i => hz _ i (by omega)
  have ca1 : (cap (2 + 2 * ((a1)).toNat) : Int) = 16 := cp_1 (by omega)
  have hA : Dd 417 [(.inr (.inr (some 0))), (.inl a1), (.inr (.inr (some 726)))] σ (.inl (some (.inl 0)), (upS (upS σ 403 1 0) 726 0 0)) := by
    refine b417 ?_
    have hD6 : Dd 200 [(.inr (.inr (some 0))), (.inl a1)] σ (.inl (some (.inl 0)), (upS σ 403 1 0)) := by
      refine b200 ?_
      have hD3 : Dd 227 [(.inr (.inr (some 0))), (.inl a1)] σ (.inl (some (.inr (.inr (some (2 + 2 * ((a1)).toNat))))), σ) := by
        refine b227 ?_
        have hD1 : Dd 145 [(.inr (.inr (some 1))), (.inl a1)] σ (.inl (some (.inr (.inr (some (2 + 2 * ((a1)).toNat))))), σ) := by
          refine b145 ?_
          rw [if_pos (show (0 : Int) ≤ a1 by first | omega | (simp [upS, hz, za1, z1a1, ca1]; done) | (simp [upS, hz, za1, z1a1, ca1]; omega))]
          refine ⟨4, (by decide +kernel), (by decide), ?_⟩
          rw [if_pos (show a1 < ((4 : Nat) : Int) by first | omega | (simp [upS, hz, za1, z1a1, ca1]; done) | (simp [upS, hz, za1, z1a1, ca1]; omega))]
          refine ⟨(show 0 ≤ a1 by first | omega | (simp [upS, hz, za1, z1a1, ca1]; done) | (simp [upS, hz, za1, z1a1, ca1]; omega)), ?_⟩
          refine ⟨(2 + 2 * ((a1)).toNat), (el_1 (i := (a1)) (by first | omega | (simp [upS, hz, za1, z1a1, ca1]; done) | (simp [upS, hz, za1, z1a1, ca1]; omega))).1, (el_1 (i := (a1)) (by first | omega | (simp [upS, hz, za1, z1a1, ca1]; done) | (simp [upS, hz, za1, z1a1, ca1]; omega))).2, ?_⟩
          all_goals rfl
        refine ⟨_, _, hD1, ?_⟩
        clear hD1
        refine ⟨fun hz2 => (by cases hz2), fun _ hz2 => ?_⟩
        cases hz2
        refine ⟨(el_1 (i := (a1)) (by first | omega | (simp [upS, hz, za1, z1a1, ca1]; done) | (simp [upS, hz, za1, z1a1, ca1]; omega))).2, ?_⟩
        all_goals rfl
      refine Or.inl ⟨_, _, hD3, (el_1 (i := (a1)) (by first | omega | (simp [upS, hz, za1, z1a1, ca1]; done) | (simp [upS, hz, za1, z1a1, ca1]; omega))).2, ?_⟩
      clear hD3
      rw [if_neg (show ¬ ((0 : Int) < (σ 402 3)) by first | omega | (simp [upS, hz, za1, z1a1, ca1]; done) | (simp [upS, hz, za1, z1a1, ca1]; omega))]
      have hD4 : Dd 155 [(.inr (.inr (some 403))), (.inr (.inr (some (2 + 2 * ((a1)).toNat))))] σ (.inl none, (upS σ 403 1 0)) := by
        refine b155 (el_1 (i := (a1)) (by first | omega | (simp [upS, hz, za1, z1a1, ca1]; done) | (simp [upS, hz, za1, z1a1, ca1]; omega))).2 (by decide +kernel) ?_
        refine ⟨(show -2147483648 ≤ ((cap 403) : Int) ∧ ((cap 403) : Int) ≤ 2147483647 by have e403 : (cap 403 : Int) = 16 := (by decide +kernel); first | omega | (simp [upS, hz, za1, z1a1, ca1]; done) | (simp [upS, hz, za1, z1a1, ca1]; omega)), ?_⟩
        rw [(show (upS σ 403 1 (if ((cap 403) : Int) < (σ (2 + 2 * ((a1)).toNat) 1) then ((cap 403) : Int) else (σ (2 + 2 * ((a1)).toNat) 1))) = (upS σ 403 1 0) from by rw [show (if ((cap 403) : Int) < (σ (2 + 2 * ((a1)).toNat) 1) then ((cap 403) : Int) else (σ (2 + 2 * ((a1)).toNat) 1)) = 0 by (have e403 : (cap 403 : Int) = 16 := (by decide +kernel); first | omega | (simp [upS, hz, za1, z1a1, ca1]; done) | (simp [upS, hz, za1, z1a1, ca1]; omega))])]
        refine b155_18 (by decide +kernel) (el_1 (i := (a1)) (by first | omega | (simp [upS, hz, za1, z1a1, ca1]; done) | (simp [upS, hz, za1, z1a1, ca1]; omega))).2 ?_
        rw [if_neg (show ¬ ((0 : Int) < ((upS σ 403 1 0) 403 1)) by first | omega | (simp [upS, hz, za1, z1a1, ca1]; done) | (simp [upS, hz, za1, z1a1, ca1]; omega))]
        all_goals rfl
      refine ⟨_, hD4, ?_⟩
      clear hD4
      have hD5 : Dd 146 [(.inr (.inr (some (2 + 2 * ((a1)).toNat))))] (upS σ 403 1 0) (.inl (some (.inl 0)), (upS σ 403 1 0)) := by
        refine b146 (el_1 (i := (a1)) (by first | omega | (simp [upS, hz, za1, z1a1, ca1]; done) | (simp [upS, hz, za1, z1a1, ca1]; omega))).2 ?_
        rw [show ((upS σ 403 1 0) (2 + 2 * ((a1)).toNat) 1) = 0 by (first | omega | (simp [upS, hz, za1, z1a1, ca1]; done) | (simp [upS, hz, za1, z1a1, ca1]; omega))]
        all_goals rfl
      refine ⟨_, _, hD5, ?_⟩
      clear hD5
      all_goals rfl
    refine Or.inl ⟨_, _, hD6, ?_⟩
    clear hD6
    rw [(show (upS (upS σ 403 1 0) 726 ((0 : Int).toNat) 0) = (upS (upS σ 403 1 0) 726 0 0) from by rw [show ((0 : Int).toNat) = 0 by (first | omega | (simp [upS, hz, za1, z1a1, ca1]; done) | (simp [upS, hz, za1, z1a1, ca1]; omega))])]
    all_goals rfl
  have hB : Dd 343 [(.inr (.inr (some 682))), (.inl a1)] (upS (upS σ 403 1 0) 726 0 0) (.inl (some (.inl 0)), (upS (upS (upS (upS σ 403 1 0) 726 0 0) 682 0 0) 682 39 0)) := by
    refine b343 ?_
    have hD8 : Dd 247 [(.inl a1)] (upS (upS σ 403 1 0) 726 0 0) (.inl (some (.inl 1)), (upS (upS σ 403 1 0) 726 0 0)) := by
      refine b247 ?_
      have hD7 : Dd 246 [(.inl a1), (.inl 4)] (upS (upS σ 403 1 0) 726 0 0) (.inl (some (.inl 1)), (upS (upS σ 403 1 0) 726 0 0)) := by
        refine b246 ?_
        try rw [if_pos (show (0 : Int) ≤ a1 by first | omega | (simp [upS, hz, za1, z1a1, ca1]; done) | (simp [upS, hz, za1, z1a1, ca1]; omega))]
        try rw [if_pos (show a1 < 4 by first | omega | (simp [upS, hz, za1, z1a1, ca1]; done) | (simp [upS, hz, za1, z1a1, ca1]; omega))]
        all_goals rfl
      refine ⟨_, _, hD7, ?_⟩
      clear hD7
      refine ⟨(show 1 = 0 ∨ 1 = 1 by first | omega | (simp [upS, hz, za1, z1a1, ca1]; done) | (simp [upS, hz, za1, z1a1, ca1]; omega)), ?_⟩
      all_goals rfl
    refine ⟨_, _, hD8, ?_⟩
    clear hD8
    try rw [if_neg (show ¬ ((1 : Int) = 0) by first | omega | (simp [upS, hz, za1, z1a1, ca1]; done) | (simp [upS, hz, za1, z1a1, ca1]; omega))]
    try rw [if_neg (show ¬ ((0 : Int) < ((upS (upS σ 403 1 0) 726 0 0) 682 40)) by first | omega | (simp [upS, hz, za1, z1a1, ca1]; done) | (simp [upS, hz, za1, z1a1, ca1]; omega))]
    refine b343_24 ?_
    have hD9 : Dd 245 [(.inr (.inr (some 682))), (.inl 0)] (upS (upS σ 403 1 0) 726 0 0) (.inl (some (.inl 1)), (upS (upS (upS σ 403 1 0) 726 0 0) 682 0 0)) := by
      refine b245 ?_
      try rw [if_pos (show (0 : Int) = 0 by first | omega | (simp [upS, hz, za1, z1a1, ca1]; done) | (simp [upS, hz, za1, z1a1, ca1]; omega))]
      all_goals rfl
    refine ⟨_, _, hD9, ?_⟩
    clear hD9
    rw [if_neg (show ¬ ((1 : Int) = 0) by first | omega | (simp [upS, hz, za1, z1a1, ca1]; done) | (simp [upS, hz, za1, z1a1, ca1]; omega))]
    refine ⟨(show 0 ≤ a1 ∧ a1 < 4 by first | omega | (simp [upS, hz, za1, z1a1, ca1]; done) | (simp [upS, hz, za1, z1a1, ca1]; omega)), ?_⟩
    rw [(show (upS (upS (upS (upS σ 403 1 0) 726 0 0) 682 0 0) 682 39 ((upS (upS (upS σ 403 1 0) 726 0 0) 682 0 0) 684 (a1).toNat)) = (upS (upS (upS (upS σ 403 1 0) 726 0 0) 682 0 0) 682 39 0) from by rw [show ((upS (upS (upS σ 403 1 0) 726 0 0) 682 0 0) 684 (a1).toNat) = 0 by (first | omega | (simp [upS, hz, za1, z1a1, ca1]; done) | (simp [upS, hz, za1, z1a1, ca1]; omega))])]
    refine b343_44 ?_
    rw [if_neg (show ¬ ((0 : Int) < ((upS (upS (upS (upS σ 403 1 0) 726 0 0) 682 0 0) 682 39 0) 682 39)) by first | omega | (simp [upS, hz, za1, z1a1, ca1]; done) | (simp [upS, hz, za1, z1a1, ca1]; omega))]
    rw [show ((upS (upS (upS (upS σ 403 1 0) 726 0 0) 682 0 0) 682 39 0) 682 39) = 0 by (first | omega | (simp [upS, hz, za1, z1a1, ca1]; done) | (simp [upS, hz, za1, z1a1, ca1]; omega))]
    all_goals rfl
  refine ⟨_, _, _, _, hA, hB, ?_, ?_, ?_, ?_, ?_⟩
  · (first | rfl | (simp [upS, SCR, hz, za1, z1a1, ca1]; done) | (simp [upS, SCR, hz, za1, z1a1, ca1]; omega))
  · first | (intro h9; omega) | (intro _; first | rfl | (simp [upS, SCR, hz, za1, z1a1, ca1]; done) | (simp [upS, SCR, hz, za1, z1a1, ca1]; omega))
  · intro i; first | rfl | (unfold upS SCR; (repeat' split) <;> first | rfl | omega)
  · first | rfl | (unfold upS SCR; (repeat' split) <;> first | rfl | omega)
  · first | rfl | (unfold upS SCR; (repeat' split) <;> first | rfl | omega)
theorem q29_0 {σ : Sg} {a1 : Int} (hz : ∀ a i, a < 1000 → σ a i = 0) (h0 : a1 < 0) : ∃ (kx b : Int) (s1 s2 : Sg), Dd 418 [(.inr (.inr (some 0))), (.inl a1), (.inr (.inr (some 726)))] σ (.inl (some (.inl kx)), s1) ∧ Dd 345 [(.inr (.inr (some 682))), (.inl a1)] s1 (.inl (some (.inl b)), s2) ∧ s2 682 0 = kx ∧ (kx = 0 → s2 726 0 = b) ∧ (∀ i, s1 SCR i = σ SCR i) ∧ s1 (SCR + 1) 0 = σ (SCR + 1) 0 ∧ s2 (SCR + 1) 0 = σ (SCR + 1) 0 := by
  have hA : Dd 418 [(.inr (.inr (some 0))), (.inl a1), (.inr (.inr (some 726)))] σ (.inl (some (.inl 1)), σ) := by
    refine b418 ?_
    have hD4 : Dd 201 [(.inr (.inr (some 0))), (.inl a1)] σ (.inr 0, σ) := by
      refine b201 ?_
      have hD3 : Dd 230 [(.inr (.inr (some 0))), (.inl a1)] σ (.inr 0, σ) := by
        refine b230 ?_
        rw [show (σ 0 3) = 0 by (first | omega | (simp [upS, hz]; done) | (simp [upS, hz]; omega))]
        have hD1 : Dd 89 [(.inr (.inr (some 19))), (.inl a1), (.inl 0)] σ (.inl (some (.inr (.inr none))), σ) := by
          refine b89 ?_
          rw [if_neg (show ¬ ((0 : Int) ≤ a1) by first | omega | (simp [upS, hz]; done) | (simp [upS, hz]; omega))]
          all_goals rfl
        refine ⟨_, _, hD1, ?_⟩
        clear hD1
        refine ⟨fun _ => ?_, fun _ hz2 => (by cases hz2)⟩
        all_goals rfl
      refine Or.inr ⟨_, _, hD3, ?_⟩
      all_goals rfl
    exact Or.inr (Or.inl ⟨_, hD4, rfl⟩)
  have hB : Dd 345 [(.inr (.inr (some 682))), (.inl a1)] σ (.inl (some (.inl 0)), (upS σ 682 0 1)) := by
    refine b345 ?_
    have hD6 : Dd 248 [(.inr (.inr (some 682))), (.inl a1)] σ (.inl (some (.inl 0)), σ) := by
      refine b248 ?_
      rw [show (σ 682 3) = 0 by (first | omega | (simp [upS, hz]; done) | (simp [upS, hz]; omega))]
      have hD5 : Dd 246 [(.inl a1), (.inl 0)] σ (.inl (some (.inl 0)), σ) := by
        refine b246 ?_
        try rw [if_neg (show ¬ ((0 : Int) ≤ a1) by first | omega | (simp [upS, hz]; done) | (simp [upS, hz]; omega))]
        all_goals rfl
      refine ⟨_, _, hD5, ?_⟩
      clear hD5
      refine ⟨(show 0 = 0 ∨ 0 = 1 by first | omega | (simp [upS, hz]; done) | (simp [upS, hz]; omega)), ?_⟩
      all_goals rfl
    refine ⟨_, _, hD6, ?_⟩
    clear hD6
    rw [if_pos (show (0 : Int) = 0 by first | omega | (simp [upS, hz]; done) | (simp [upS, hz]; omega))]
    refine b345_36 ?_
    have hD7 : Dd 245 [(.inr (.inr (some 682))), (.inl 1)] σ (.inl (some (.inl 0)), (upS σ 682 0 1)) := by
      refine b245 ?_
      try rw [if_neg (show ¬ ((1 : Int) = 0) by first | omega | (simp [upS, hz]; done) | (simp [upS, hz]; omega))]
      all_goals rfl
    refine ⟨_, _, hD7, ?_⟩
    clear hD7
    rw [if_pos (show (0 : Int) = 0 by first | omega | (simp [upS, hz]; done) | (simp [upS, hz]; omega))]
    all_goals rfl
  refine ⟨_, _, _, _, hA, hB, ?_, ?_, ?_, ?_, ?_⟩
  · (first | rfl | (simp [upS, SCR, hz]; done) | (simp [upS, SCR, hz]; omega))
  · first | (intro h9; omega) | (intro _; first | rfl | (simp [upS, SCR, hz]; done) | (simp [upS, SCR, hz]; omega))
  · intro i; first | rfl | (unfold upS SCR; (repeat' split) <;> first | rfl | omega)
  · first | rfl | (unfold upS SCR; (repeat' split) <;> first | rfl | omega)
  · first | rfl | (unfold upS SCR; (repeat' split) <;> first | rfl | omega)
theorem q29_1 {σ : Sg} {a1 : Int} (hz : ∀ a i, a < 1000 → σ a i = 0) (h0 : 0 ≤ a1) : ∃ (kx b : Int) (s1 s2 : Sg), Dd 418 [(.inr (.inr (some 0))), (.inl a1), (.inr (.inr (some 726)))] σ (.inl (some (.inl kx)), s1) ∧ Dd 345 [(.inr (.inr (some 682))), (.inl a1)] s1 (.inl (some (.inl b)), s2) ∧ s2 682 0 = kx ∧ (kx = 0 → s2 726 0 = b) ∧ (∀ i, s1 SCR i = σ SCR i) ∧ s1 (SCR + 1) 0 = σ (SCR + 1) 0 ∧ s2 (SCR + 1) 0 = σ (SCR + 1) 0 := by
  have hA : Dd 418 [(.inr (.inr (some 0))), (.inl a1), (.inr (.inr (some 726)))] σ (.inl (some (.inl 1)), σ) := by
    refine b418 ?_
    have hD4 : Dd 201 [(.inr (.inr (some 0))), (.inl a1)] σ (.inr 0, σ) := by
      refine b201 ?_
      have hD3 : Dd 230 [(.inr (.inr (some 0))), (.inl a1)] σ (.inr 0, σ) := by
        refine b230 ?_
        rw [show (σ 0 3) = 0 by (first | omega | (simp [upS, hz]; done) | (simp [upS, hz]; omega))]
        have hD1 : Dd 89 [(.inr (.inr (some 19))), (.inl a1), (.inl 0)] σ (.inl (some (.inr (.inr none))), σ) := by
          refine b89 ?_
          rw [if_pos (show (0 : Int) ≤ a1 by first | omega | (simp [upS, hz]; done) | (simp [upS, hz]; omega))]
          rw [if_neg (show ¬ (a1 < 0) by first | omega | (simp [upS, hz]; done) | (simp [upS, hz]; omega))]
          all_goals rfl
        refine ⟨_, _, hD1, ?_⟩
        clear hD1
        refine ⟨fun _ => ?_, fun _ hz2 => (by cases hz2)⟩
        all_goals rfl
      refine Or.inr ⟨_, _, hD3, ?_⟩
      all_goals rfl
    exact Or.inr (Or.inl ⟨_, hD4, rfl⟩)
  have hB : Dd 345 [(.inr (.inr (some 682))), (.inl a1)] σ (.inl (some (.inl 0)), (upS σ 682 0 1)) := by
    refine b345 ?_
    have hD6 : Dd 248 [(.inr (.inr (some 682))), (.inl a1)] σ (.inl (some (.inl 0)), σ) := by
      refine b248 ?_
      rw [show (σ 682 3) = 0 by (first | omega | (simp [upS, hz]; done) | (simp [upS, hz]; omega))]
      have hD5 : Dd 246 [(.inl a1), (.inl 0)] σ (.inl (some (.inl 0)), σ) := by
        refine b246 ?_
        try rw [if_pos (show (0 : Int) ≤ a1 by first | omega | (simp [upS, hz]; done) | (simp [upS, hz]; omega))]
        try rw [if_neg (show ¬ (a1 < 0) by first | omega | (simp [upS, hz]; done) | (simp [upS, hz]; omega))]
        all_goals rfl
      refine ⟨_, _, hD5, ?_⟩
      clear hD5
      refine ⟨(show 0 = 0 ∨ 0 = 1 by first | omega | (simp [upS, hz]; done) | (simp [upS, hz]; omega)), ?_⟩
      all_goals rfl
    refine ⟨_, _, hD6, ?_⟩
    clear hD6
    rw [if_pos (show (0 : Int) = 0 by first | omega | (simp [upS, hz]; done) | (simp [upS, hz]; omega))]
    refine b345_36 ?_
    have hD7 : Dd 245 [(.inr (.inr (some 682))), (.inl 1)] σ (.inl (some (.inl 0)), (upS σ 682 0 1)) := by
      refine b245 ?_
      try rw [if_neg (show ¬ ((1 : Int) = 0) by first | omega | (simp [upS, hz]; done) | (simp [upS, hz]; omega))]
      all_goals rfl
    refine ⟨_, _, hD7, ?_⟩
    clear hD7
    rw [if_pos (show (0 : Int) = 0 by first | omega | (simp [upS, hz]; done) | (simp [upS, hz]; omega))]
    all_goals rfl
  refine ⟨_, _, _, _, hA, hB, ?_, ?_, ?_, ?_, ?_⟩
  · (first | rfl | (simp [upS, SCR, hz]; done) | (simp [upS, SCR, hz]; omega))
  · first | (intro h9; omega) | (intro _; first | rfl | (simp [upS, SCR, hz]; done) | (simp [upS, SCR, hz]; omega))
  · intro i; first | rfl | (unfold upS SCR; (repeat' split) <;> first | rfl | omega)
  · first | rfl | (unfold upS SCR; (repeat' split) <;> first | rfl | omega)
  · first | rfl | (unfold upS SCR; (repeat' split) <;> first | rfl | omega)
theorem q30_0 {σ : Sg} (hz : ∀ a i, a < 1000 → σ a i = 0)  : ∃ (kx b : Int) (s1 s2 : Sg), Dd 419 [(.inr (.inr (some 0))), (.inr (.inr (some 726)))] σ (.inl (some (.inl kx)), s1) ∧ Dd 346 [(.inr (.inr (some 682)))] s1 (.inl (some (.inl b)), s2) ∧ s2 682 0 = kx ∧ (kx = 0 → s2 726 0 = b) ∧ (∀ i, s1 SCR i = σ SCR i) ∧ s1 (SCR + 1) 0 = σ (SCR + 1) 0 ∧ s2 (SCR + 1) 0 = σ (SCR + 1) 0 := by
  have hA : Dd 419 [(.inr (.inr (some 0))), (.inr (.inr (some 726)))] σ (.inl (some (.inl 1)), σ) := by
    refine b419 ?_
    have hD2 : Dd 202 [(.inr (.inr (some 0)))] σ (.inr 2, σ) := by
      refine b202 ?_
      have hD1 : Dd 238 [(.inr (.inr (some 0)))] σ (.inr 2, σ) := by
        refine b238 ?_
        rw [if_pos (show (σ 402 3) < 1 by first | omega | (simp [upS, hz]; done) | (simp [upS, hz]; omega))]
        all_goals rfl
      refine Or.inr ⟨_, _, hD1, ?_⟩
      all_goals rfl
    exact Or.inr (⟨_, hD2, rfl⟩)
  have hB : Dd 346 [(.inr (.inr (some 682)))] σ (.inl (some (.inl 0)), (upS σ 682 0 1)) := by
    refine b346 ?_
    try rw [if_pos (show (σ 682 40) = 0 by first | omega | (simp [upS, hz]; done) | (simp [upS, hz]; omega))]
    refine b346_13 ?_
    have hD3 : Dd 245 [(.inr (.inr (some 682))), (.inl 1)] σ (.inl (some (.inl 0)), (upS σ 682 0 1)) := by
      refine b245 ?_
      try rw [if_neg (show ¬ ((1 : Int) = 0) by first | omega | (simp [upS, hz]; done) | (simp [upS, hz]; omega))]
      all_goals rfl
    refine ⟨_, _, hD3, ?_⟩
    clear hD3
    rw [if_pos (show (0 : Int) = 0 by first | omega | (simp [upS, hz]; done) | (simp [upS, hz]; omega))]
    all_goals rfl
  refine ⟨_, _, _, _, hA, hB, ?_, ?_, ?_, ?_, ?_⟩
  · (first | rfl | (simp [upS, SCR, hz]; done) | (simp [upS, SCR, hz]; omega))
  · first | (intro h9; omega) | (intro _; first | rfl | (simp [upS, SCR, hz]; done) | (simp [upS, SCR, hz]; omega))
  · intro i; first | rfl | (unfold upS SCR; (repeat' split) <;> first | rfl | omega)
  · first | rfl | (unfold upS SCR; (repeat' split) <;> first | rfl | omega)
  · first | rfl | (unfold upS SCR; (repeat' split) <;> first | rfl | omega)
theorem q31_0 {σ : Sg} {a1 : Int} (hz : ∀ a i, a < 1000 → σ a i = 0) (h0 : a1 < 0) : ∃ (kx b : Int) (s1 s2 : Sg), Dd 420 [(.inr (.inr (some 0))), (.inl a1), (.inr (.inr (some 726)))] σ (.inl (some (.inl kx)), s1) ∧ Dd 347 [(.inr (.inr (some 682))), (.inl a1)] s1 (.inl (some (.inl b)), s2) ∧ s2 682 0 = kx ∧ (kx = 0 → s2 726 0 = b) ∧ (∀ i, s1 SCR i = σ SCR i) ∧ s1 (SCR + 1) 0 = σ (SCR + 1) 0 ∧ s2 (SCR + 1) 0 = σ (SCR + 1) 0 := by
  have hA : Dd 420 [(.inr (.inr (some 0))), (.inl a1), (.inr (.inr (some 726)))] σ (.inl (some (.inl 1)), σ) := by
    refine b420 ?_
    have hD4 : Dd 203 [(.inr (.inr (some 0))), (.inl a1)] σ (.inr 0, σ) := by
      refine b203 ?_
      have hD3 : Dd 231 [(.inr (.inr (some 0))), (.inl a1)] σ (.inr 0, σ) := by
        refine b231 ?_
        rw [show (σ 402 3) = 0 by (first | omega | (simp [upS, hz]; done) | (simp [upS, hz]; omega))]
        have hD1 : Dd 89 [(.inr (.inr (some 405))), (.inl a1), (.inl 0)] σ (.inl (some (.inr (.inr none))), σ) := by
          refine b89 ?_
          rw [if_neg (show ¬ ((0 : Int) ≤ a1) by first | omega | (simp [upS, hz]; done) | (simp [upS, hz]; omega))]
          all_goals rfl
        refine ⟨_, _, hD1, ?_⟩
        clear hD1
        refine ⟨fun _ => ?_, fun _ hz2 => (by cases hz2)⟩
        all_goals rfl
      refine Or.inr ⟨_, _, hD3, ?_⟩
      all_goals rfl
    exact Or.inr (Or.inl ⟨_, hD4, rfl⟩)
  have hB : Dd 347 [(.inr (.inr (some 682))), (.inl a1)] σ (.inl (some (.inl 0)), (upS σ 682 0 1)) := by
    refine b347 ?_
    have hD6 : Dd 340 [(.inr (.inr (some 682))), (.inl a1)] σ (.inl (some (.inl 0)), σ) := by
      refine b340 ?_
      rw [show (σ 682 40) = 0 by (first | omega | (simp [upS, hz]; done) | (simp [upS, hz]; omega))]
      have hD5 : Dd 246 [(.inl a1), (.inl 0)] σ (.inl (some (.inl 0)), σ) := by
        refine b246 ?_
        try rw [if_neg (show ¬ ((0 : Int) ≤ a1) by first | omega | (simp [upS, hz]; done) | (simp [upS, hz]; omega))]
        all_goals rfl
      refine ⟨_, _, hD5, ?_⟩
      clear hD5
      refine ⟨(show 0 = 0 ∨ 0 = 1 by first | omega | (simp [upS, hz]; done) | (simp [upS, hz]; omega)), ?_⟩
      all_goals rfl
    refine ⟨_, _, hD6, ?_⟩
    clear hD6
    try rw [if_pos (show (0 : Int) = 0 by first | omega | (simp [upS, hz]; done) | (simp [upS, hz]; omega))]
    refine b347_27 ?_
    have hD7 : Dd 245 [(.inr (.inr (some 682))), (.inl 1)] σ (.inl (some (.inl 0)), (upS σ 682 0 1)) := by
      refine b245 ?_
      try rw [if_neg (show ¬ ((1 : Int) = 0) by first | omega | (simp [upS, hz]; done) | (simp [upS, hz]; omega))]
      all_goals rfl
    refine ⟨_, _, hD7, ?_⟩
    clear hD7
    rw [if_pos (show (0 : Int) = 0 by first | omega | (simp [upS, hz]; done) | (simp [upS, hz]; omega))]
    all_goals rfl
  refine ⟨_, _, _, _, hA, hB, ?_, ?_, ?_, ?_, ?_⟩
  · (first | rfl | (simp [upS, SCR, hz]; done) | (simp [upS, SCR, hz]; omega))
  · first | (intro h9; omega) | (intro _; first | rfl | (simp [upS, SCR, hz]; done) | (simp [upS, SCR, hz]; omega))
  · intro i; first | rfl | (unfold upS SCR; (repeat' split) <;> first | rfl | omega)
  · first | rfl | (unfold upS SCR; (repeat' split) <;> first | rfl | omega)
  · first | rfl | (unfold upS SCR; (repeat' split) <;> first | rfl | omega)
theorem q31_1 {σ : Sg} {a1 : Int} (hz : ∀ a i, a < 1000 → σ a i = 0) (h0 : 0 ≤ a1) : ∃ (kx b : Int) (s1 s2 : Sg), Dd 420 [(.inr (.inr (some 0))), (.inl a1), (.inr (.inr (some 726)))] σ (.inl (some (.inl kx)), s1) ∧ Dd 347 [(.inr (.inr (some 682))), (.inl a1)] s1 (.inl (some (.inl b)), s2) ∧ s2 682 0 = kx ∧ (kx = 0 → s2 726 0 = b) ∧ (∀ i, s1 SCR i = σ SCR i) ∧ s1 (SCR + 1) 0 = σ (SCR + 1) 0 ∧ s2 (SCR + 1) 0 = σ (SCR + 1) 0 := by
  have hA : Dd 420 [(.inr (.inr (some 0))), (.inl a1), (.inr (.inr (some 726)))] σ (.inl (some (.inl 1)), σ) := by
    refine b420 ?_
    have hD4 : Dd 203 [(.inr (.inr (some 0))), (.inl a1)] σ (.inr 0, σ) := by
      refine b203 ?_
      have hD3 : Dd 231 [(.inr (.inr (some 0))), (.inl a1)] σ (.inr 0, σ) := by
        refine b231 ?_
        rw [show (σ 402 3) = 0 by (first | omega | (simp [upS, hz]; done) | (simp [upS, hz]; omega))]
        have hD1 : Dd 89 [(.inr (.inr (some 405))), (.inl a1), (.inl 0)] σ (.inl (some (.inr (.inr none))), σ) := by
          refine b89 ?_
          rw [if_pos (show (0 : Int) ≤ a1 by first | omega | (simp [upS, hz]; done) | (simp [upS, hz]; omega))]
          rw [if_neg (show ¬ (a1 < 0) by first | omega | (simp [upS, hz]; done) | (simp [upS, hz]; omega))]
          all_goals rfl
        refine ⟨_, _, hD1, ?_⟩
        clear hD1
        refine ⟨fun _ => ?_, fun _ hz2 => (by cases hz2)⟩
        all_goals rfl
      refine Or.inr ⟨_, _, hD3, ?_⟩
      all_goals rfl
    exact Or.inr (Or.inl ⟨_, hD4, rfl⟩)
  have hB : Dd 347 [(.inr (.inr (some 682))), (.inl a1)] σ (.inl (some (.inl 0)), (upS σ 682 0 1)) := by
    refine b347 ?_
    have hD6 : Dd 340 [(.inr (.inr (some 682))), (.inl a1)] σ (.inl (some (.inl 0)), σ) := by
      refine b340 ?_
      rw [show (σ 682 40) = 0 by (first | omega | (simp [upS, hz]; done) | (simp [upS, hz]; omega))]
      have hD5 : Dd 246 [(.inl a1), (.inl 0)] σ (.inl (some (.inl 0)), σ) := by
        refine b246 ?_
        try rw [if_pos (show (0 : Int) ≤ a1 by first | omega | (simp [upS, hz]; done) | (simp [upS, hz]; omega))]
        try rw [if_neg (show ¬ (a1 < 0) by first | omega | (simp [upS, hz]; done) | (simp [upS, hz]; omega))]
        all_goals rfl
      refine ⟨_, _, hD5, ?_⟩
      clear hD5
      refine ⟨(show 0 = 0 ∨ 0 = 1 by first | omega | (simp [upS, hz]; done) | (simp [upS, hz]; omega)), ?_⟩
      all_goals rfl
    refine ⟨_, _, hD6, ?_⟩
    clear hD6
    try rw [if_pos (show (0 : Int) = 0 by first | omega | (simp [upS, hz]; done) | (simp [upS, hz]; omega))]
    refine b347_27 ?_
    have hD7 : Dd 245 [(.inr (.inr (some 682))), (.inl 1)] σ (.inl (some (.inl 0)), (upS σ 682 0 1)) := by
      refine b245 ?_
      try rw [if_neg (show ¬ ((1 : Int) = 0) by first | omega | (simp [upS, hz]; done) | (simp [upS, hz]; omega))]
      all_goals rfl
    refine ⟨_, _, hD7, ?_⟩
    clear hD7
    rw [if_pos (show (0 : Int) = 0 by first | omega | (simp [upS, hz]; done) | (simp [upS, hz]; omega))]
    all_goals rfl
  refine ⟨_, _, _, _, hA, hB, ?_, ?_, ?_, ?_, ?_⟩
  · (first | rfl | (simp [upS, SCR, hz]; done) | (simp [upS, SCR, hz]; omega))
  · first | (intro h9; omega) | (intro _; first | rfl | (simp [upS, SCR, hz]; done) | (simp [upS, SCR, hz]; omega))
  · intro i; first | rfl | (unfold upS SCR; (repeat' split) <;> first | rfl | omega)
  · first | rfl | (unfold upS SCR; (repeat' split) <;> first | rfl | omega)
  · first | rfl | (unfold upS SCR; (repeat' split) <;> first | rfl | omega)
theorem q32_0 {σ : Sg} {a1 : Int} (hz : ∀ a i, a < 1000 → σ a i = 0) (h0 : a1 < 0) : ∃ (kx b : Int) (s1 s2 : Sg), Dd 421 [(.inr (.inr (some 0))), (.inl a1), (.inr (.inr (some 726)))] σ (.inl (some (.inl kx)), s1) ∧ Dd 348 [(.inr (.inr (some 682))), (.inl a1)] s1 (.inl (some (.inl b)), s2) ∧ s2 682 0 = kx ∧ (kx = 0 → s2 726 0 = b) ∧ (∀ i, s1 SCR i = σ SCR i) ∧ s1 (SCR + 1) 0 = σ (SCR + 1) 0 ∧ s2 (SCR + 1) 0 = σ (SCR + 1) 0 := by
  have hA : Dd 421 [(.inr (.inr (some 0))), (.inl a1), (.inr (.inr (some 726)))] σ (.inl (some (.inl 1)), σ) := by
    refine b421 ?_
    have hD2 : Dd 204 [(.inr (.inr (some 0))), (.inl a1)] σ (.inr 0, σ) := by
      refine b204 ?_
      refine ⟨(show -2147483648 ≤ ((σ 402 3) - 1) ∧ ((σ 402 3) - 1) ≤ 2147483647 by first | omega | (simp [upS, hz]; done) | (simp [upS, hz]; omega)), ?_⟩
      rw [show ((σ 402 3) - 1) = (-1) by (first | omega | (simp [upS, hz]; done) | (simp [upS, hz]; omega))]
      have hD1 : Dd 232 [(.inr (.inr (some 0))), (.inl a1), (.inl (-1))] σ (.inr 0, σ) := by
        refine b232 ?_
        rw [if_neg (show ¬ ((0 : Int) ≤ a1) by first | omega | (simp [upS, hz]; done) | (simp [upS, hz]; omega))]
        refine b232_9 ?_
        all_goals rfl
      refine Or.inr ⟨_, _, hD1, ?_⟩
      all_goals rfl
    exact Or.inr (Or.inl ⟨_, hD2, rfl⟩)
  have hB : Dd 348 [(.inr (.inr (some 682))), (.inl a1)] σ (.inl (some (.inl 0)), (upS σ 682 0 1)) := by
    refine b348 ?_
    have hD4 : Dd 340 [(.inr (.inr (some 682))), (.inl a1)] σ (.inl (some (.inl 0)), σ) := by
      refine b340 ?_
      rw [show (σ 682 40) = 0 by (first | omega | (simp [upS, hz]; done) | (simp [upS, hz]; omega))]
      have hD3 : Dd 246 [(.inl a1), (.inl 0)] σ (.inl (some (.inl 0)), σ) := by
        refine b246 ?_
        try rw [if_neg (show ¬ ((0 : Int) ≤ a1) by first | omega | (simp [upS, hz]; done) | (simp [upS, hz]; omega))]
        all_goals rfl
      refine ⟨_, _, hD3, ?_⟩
      clear hD3
      refine ⟨(show 0 = 0 ∨ 0 = 1 by first | omega | (simp [upS, hz]; done) | (simp [upS, hz]; omega)), ?_⟩
      all_goals rfl
    refine ⟨_, _, hD4, ?_⟩
    clear hD4
    rw [if_pos (show (0 : Int) = 0 by first | omega | (simp [upS, hz]; done) | (simp [upS, hz]; omega))]
    refine b348_22 ?_
    refine b348_23 ?_
    rw [if_pos (show (0 : Int) = 0 by first | omega | (simp [upS, hz]; done) | (simp [upS, hz]; omega))]
    refine b348_49 ?_
    refine b348_50 ?_
    rw [if_pos (show (0 : Int) = 0 by first | omega | (simp [upS, hz]; done) | (simp [upS, hz]; omega))]
    refine b348_73 ?_
    rw [if_pos (show (0 : Int) = 0 by first | omega | (simp [upS, hz]; done) | (simp [upS, hz]; omega))]
    refine b348_103 ?_
    have hD5 : Dd 245 [(.inr (.inr (some 682))), (.inl 1)] σ (.inl (some (.inl 0)), (upS σ 682 0 1)) := by
      refine b245 ?_
      try rw [if_neg (show ¬ ((1 : Int) = 0) by first | omega | (simp [upS, hz]; done) | (simp [upS, hz]; omega))]
      all_goals rfl
    refine ⟨_, _, hD5, ?_⟩
    clear hD5
    rw [if_pos (show (0 : Int) = 0 by first | omega | (simp [upS, hz]; done) | (simp [upS, hz]; omega))]
    all_goals rfl
  refine ⟨_, _, _, _, hA, hB, ?_, ?_, ?_, ?_, ?_⟩
  · (first | rfl | (simp [upS, SCR, hz]; done) | (simp [upS, SCR, hz]; omega))
  · first | (intro h9; omega) | (intro _; first | rfl | (simp [upS, SCR, hz]; done) | (simp [upS, SCR, hz]; omega))
  · intro i; first | rfl | (unfold upS SCR; (repeat' split) <;> first | rfl | omega)
  · first | rfl | (unfold upS SCR; (repeat' split) <;> first | rfl | omega)
  · first | rfl | (unfold upS SCR; (repeat' split) <;> first | rfl | omega)
theorem q32_1 {σ : Sg} {a1 : Int} (hz : ∀ a i, a < 1000 → σ a i = 0) (h0 : 0 ≤ a1) : ∃ (kx b : Int) (s1 s2 : Sg), Dd 421 [(.inr (.inr (some 0))), (.inl a1), (.inr (.inr (some 726)))] σ (.inl (some (.inl kx)), s1) ∧ Dd 348 [(.inr (.inr (some 682))), (.inl a1)] s1 (.inl (some (.inl b)), s2) ∧ s2 682 0 = kx ∧ (kx = 0 → s2 726 0 = b) ∧ (∀ i, s1 SCR i = σ SCR i) ∧ s1 (SCR + 1) 0 = σ (SCR + 1) 0 ∧ s2 (SCR + 1) 0 = σ (SCR + 1) 0 := by
  have hA : Dd 421 [(.inr (.inr (some 0))), (.inl a1), (.inr (.inr (some 726)))] σ (.inl (some (.inl 1)), σ) := by
    refine b421 ?_
    have hD2 : Dd 204 [(.inr (.inr (some 0))), (.inl a1)] σ (.inr 0, σ) := by
      refine b204 ?_
      refine ⟨(show -2147483648 ≤ ((σ 402 3) - 1) ∧ ((σ 402 3) - 1) ≤ 2147483647 by first | omega | (simp [upS, hz]; done) | (simp [upS, hz]; omega)), ?_⟩
      rw [show ((σ 402 3) - 1) = (-1) by (first | omega | (simp [upS, hz]; done) | (simp [upS, hz]; omega))]
      have hD1 : Dd 232 [(.inr (.inr (some 0))), (.inl a1), (.inl (-1))] σ (.inr 0, σ) := by
        refine b232 ?_
        rw [if_pos (show (0 : Int) ≤ a1 by first | omega | (simp [upS, hz]; done) | (simp [upS, hz]; omega))]
        rw [if_pos (show ((-1) : Int) ≤ a1 by first | omega | (simp [upS, hz]; done) | (simp [upS, hz]; omega))]
        refine b232_9 ?_
        all_goals rfl
      refine Or.inr ⟨_, _, hD1, ?_⟩
      all_goals rfl
    exact Or.inr (Or.inl ⟨_, hD2, rfl⟩)
  have hB : Dd 348 [(.inr (.inr (some 682))), (.inl a1)] σ (.inl (some (.inl 0)), (upS σ 682 0 1)) := by
    refine b348 ?_
    have hD4 : Dd 340 [(.inr (.inr (some 682))), (.inl a1)] σ (.inl (some (.inl 0)), σ) := by
      refine b340 ?_
      rw [show (σ 682 40) = 0 by (first | omega | (simp [upS, hz]; done) | (simp [upS, hz]; omega))]
      have hD3 : Dd 246 [(.inl a1), (.inl 0)] σ (.inl (some (.inl 0)), σ) := by
        refine b246 ?_
        try rw [if_pos (show (0 : Int) ≤ a1 by first | omega | (simp [upS, hz]; done) | (simp [upS, hz]; omega))]
        try rw [if_neg (show ¬ (a1 < 0) by first | omega | (simp [upS, hz]; done) | (simp [upS, hz]; omega))]
        all_goals rfl
      refine ⟨_, _, hD3, ?_⟩
      clear hD3
      refine ⟨(show 0 = 0 ∨ 0 = 1 by first | omega | (simp [upS, hz]; done) | (simp [upS, hz]; omega)), ?_⟩
      all_goals rfl
    refine ⟨_, _, hD4, ?_⟩
    clear hD4
    rw [if_pos (show (0 : Int) = 0 by first | omega | (simp [upS, hz]; done) | (simp [upS, hz]; omega))]
    refine b348_22 ?_
    refine b348_23 ?_
    rw [if_pos (show (0 : Int) = 0 by first | omega | (simp [upS, hz]; done) | (simp [upS, hz]; omega))]
    refine b348_49 ?_
    refine b348_50 ?_
    rw [if_pos (show (0 : Int) = 0 by first | omega | (simp [upS, hz]; done) | (simp [upS, hz]; omega))]
    refine b348_73 ?_
    rw [if_pos (show (0 : Int) = 0 by first | omega | (simp [upS, hz]; done) | (simp [upS, hz]; omega))]
    refine b348_103 ?_
    have hD5 : Dd 245 [(.inr (.inr (some 682))), (.inl 1)] σ (.inl (some (.inl 0)), (upS σ 682 0 1)) := by
      refine b245 ?_
      try rw [if_neg (show ¬ ((1 : Int) = 0) by first | omega | (simp [upS, hz]; done) | (simp [upS, hz]; omega))]
      all_goals rfl
    refine ⟨_, _, hD5, ?_⟩
    clear hD5
    rw [if_pos (show (0 : Int) = 0 by first | omega | (simp [upS, hz]; done) | (simp [upS, hz]; omega))]
    all_goals rfl
  refine ⟨_, _, _, _, hA, hB, ?_, ?_, ?_, ?_, ?_⟩
  · (first | rfl | (simp [upS, SCR, hz]; done) | (simp [upS, SCR, hz]; omega))
  · first | (intro h9; omega) | (intro _; first | rfl | (simp [upS, SCR, hz]; done) | (simp [upS, SCR, hz]; omega))
  · intro i; first | rfl | (unfold upS SCR; (repeat' split) <;> first | rfl | omega)
  · first | rfl | (unfold upS SCR; (repeat' split) <;> first | rfl | omega)
  · first | rfl | (unfold upS SCR; (repeat' split) <;> first | rfl | omega)
theorem q33_0 {σ : Sg} {a1 : Int} (hz : ∀ a i, a < 1000 → σ a i = 0) (h0 : a1 < 0) : ∃ (kx b : Int) (s1 s2 : Sg), Dd 422 [(.inr (.inr (some 0))), (.inl a1), (.inr (.inr (some 726)))] σ (.inl (some (.inl kx)), s1) ∧ Dd 349 [(.inr (.inr (some 682))), (.inl a1)] s1 (.inl (some (.inl b)), s2) ∧ s2 682 0 = kx ∧ (kx = 0 → s2 726 0 = b) ∧ (∀ i, s1 SCR i = σ SCR i) ∧ s1 (SCR + 1) 0 = σ (SCR + 1) 0 ∧ s2 (SCR + 1) 0 = σ (SCR + 1) 0 := by
  have hA : Dd 422 [(.inr (.inr (some 0))), (.inl a1), (.inr (.inr (some 726)))] σ (.inl (some (.inl 1)), σ) := by
    refine b422 ?_
    have hD4 : Dd 205 [(.inr (.inr (some 0))), (.inl a1)] σ (.inr 0, σ) := by
      refine b205 ?_
      have hD3 : Dd 231 [(.inr (.inr (some 0))), (.inl a1)] σ (.inr 0, σ) := by
        refine b231 ?_
        rw [show (σ 402 3) = 0 by (first | omega | (simp [upS, hz]; done) | (simp [upS, hz]; omega))]
        have hD1 : Dd 89 [(.inr (.inr (some 405))), (.inl a1), (.inl 0)] σ (.inl (some (.inr (.inr none))), σ) := by
          refine b89 ?_
          rw [if_neg (show ¬ ((0 : Int) ≤ a1) by first | omega | (simp [upS, hz]; done) | (simp [upS, hz]; omega))]
          all_goals rfl
        refine ⟨_, _, hD1, ?_⟩
        clear hD1
        refine ⟨fun _ => ?_, fun _ hz2 => (by cases hz2)⟩
        all_goals rfl
      refine Or.inr ⟨_, _, hD3, ?_⟩
      all_goals rfl
    exact Or.inr (⟨_, hD4, rfl⟩)
  have hB : Dd 349 [(.inr (.inr (some 682))), (.inl a1)] σ (.inl (some (.inl 0)), (upS σ 682 0 1)) := by
    refine b349 ?_
    have hD6 : Dd 340 [(.inr (.inr (some 682))), (.inl a1)] σ (.inl (some (.inl 0)), σ) := by
      refine b340 ?_
      rw [show (σ 682 40) = 0 by (first | omega | (simp [upS, hz]; done) | (simp [upS, hz]; omega))]
      have hD5 : Dd 246 [(.inl a1), (.inl 0)] σ (.inl (some (.inl 0)), σ) := by
        refine b246 ?_
        try rw [if_neg (show ¬ ((0 : Int) ≤ a1) by first | omega | (simp [upS, hz]; done) | (simp [upS, hz]; omega))]
        all_goals rfl
      refine ⟨_, _, hD5, ?_⟩
      clear hD5
      refine ⟨(show 0 = 0 ∨ 0 = 1 by first | omega | (simp [upS, hz]; done) | (simp [upS, hz]; omega)), ?_⟩
      all_goals rfl
    refine ⟨_, _, hD6, ?_⟩
    clear hD6
    rw [if_pos (show (0 : Int) = 0 by first | omega | (simp [upS, hz]; done) | (simp [upS, hz]; omega))]
    refine b349_23 ?_
    refine b349_24 ?_
    have hD7 : Dd 245 [(.inr (.inr (some 682))), (.inl 1)] σ (.inl (some (.inl 0)), (upS σ 682 0 1)) := by
      refine b245 ?_
      try rw [if_neg (show ¬ ((1 : Int) = 0) by first | omega | (simp [upS, hz]; done) | (simp [upS, hz]; omega))]
      all_goals rfl
    refine ⟨_, _, hD7, ?_⟩
    clear hD7
    rw [if_pos (show (0 : Int) = 0 by first | omega | (simp [upS, hz]; done) | (simp [upS, hz]; omega))]
    all_goals rfl
  refine ⟨_, _, _, _, hA, hB, ?_, ?_, ?_, ?_, ?_⟩
  · (first | rfl | (simp [upS, SCR, hz]; done) | (simp [upS, SCR, hz]; omega))
  · first | (intro h9; omega) | (intro _; first | rfl | (simp [upS, SCR, hz]; done) | (simp [upS, SCR, hz]; omega))
  · intro i; first | rfl | (unfold upS SCR; (repeat' split) <;> first | rfl | omega)
  · first | rfl | (unfold upS SCR; (repeat' split) <;> first | rfl | omega)
  · first | rfl | (unfold upS SCR; (repeat' split) <;> first | rfl | omega)
theorem q33_1 {σ : Sg} {a1 : Int} (hz : ∀ a i, a < 1000 → σ a i = 0) (h0 : 0 ≤ a1) : ∃ (kx b : Int) (s1 s2 : Sg), Dd 422 [(.inr (.inr (some 0))), (.inl a1), (.inr (.inr (some 726)))] σ (.inl (some (.inl kx)), s1) ∧ Dd 349 [(.inr (.inr (some 682))), (.inl a1)] s1 (.inl (some (.inl b)), s2) ∧ s2 682 0 = kx ∧ (kx = 0 → s2 726 0 = b) ∧ (∀ i, s1 SCR i = σ SCR i) ∧ s1 (SCR + 1) 0 = σ (SCR + 1) 0 ∧ s2 (SCR + 1) 0 = σ (SCR + 1) 0 := by
  have hA : Dd 422 [(.inr (.inr (some 0))), (.inl a1), (.inr (.inr (some 726)))] σ (.inl (some (.inl 1)), σ) := by
    refine b422 ?_
    have hD4 : Dd 205 [(.inr (.inr (some 0))), (.inl a1)] σ (.inr 0, σ) := by
      refine b205 ?_
      have hD3 : Dd 231 [(.inr (.inr (some 0))), (.inl a1)] σ (.inr 0, σ) := by
        refine b231 ?_
        rw [show (σ 402 3) = 0 by (first | omega | (simp [upS, hz]; done) | (simp [upS, hz]; omega))]
        have hD1 : Dd 89 [(.inr (.inr (some 405))), (.inl a1), (.inl 0)] σ (.inl (some (.inr (.inr none))), σ) := by
          refine b89 ?_
          rw [if_pos (show (0 : Int) ≤ a1 by first | omega | (simp [upS, hz]; done) | (simp [upS, hz]; omega))]
          rw [if_neg (show ¬ (a1 < 0) by first | omega | (simp [upS, hz]; done) | (simp [upS, hz]; omega))]
          all_goals rfl
        refine ⟨_, _, hD1, ?_⟩
        clear hD1
        refine ⟨fun _ => ?_, fun _ hz2 => (by cases hz2)⟩
        all_goals rfl
      refine Or.inr ⟨_, _, hD3, ?_⟩
      all_goals rfl
    exact Or.inr (⟨_, hD4, rfl⟩)
  have hB : Dd 349 [(.inr (.inr (some 682))), (.inl a1)] σ (.inl (some (.inl 0)), (upS σ 682 0 1)) := by
    refine b349 ?_
    have hD6 : Dd 340 [(.inr (.inr (some 682))), (.inl a1)] σ (.inl (some (.inl 0)), σ) := by
      refine b340 ?_
      rw [show (σ 682 40) = 0 by (first | omega | (simp [upS, hz]; done) | (simp [upS, hz]; omega))]
      have hD5 : Dd 246 [(.inl a1), (.inl 0)] σ (.inl (some (.inl 0)), σ) := by
        refine b246 ?_
        try rw [if_pos (show (0 : Int) ≤ a1 by first | omega | (simp [upS, hz]; done) | (simp [upS, hz]; omega))]
        try rw [if_neg (show ¬ (a1 < 0) by first | omega | (simp [upS, hz]; done) | (simp [upS, hz]; omega))]
        all_goals rfl
      refine ⟨_, _, hD5, ?_⟩
      clear hD5
      refine ⟨(show 0 = 0 ∨ 0 = 1 by first | omega | (simp [upS, hz]; done) | (simp [upS, hz]; omega)), ?_⟩
      all_goals rfl
    refine ⟨_, _, hD6, ?_⟩
    clear hD6
    rw [if_pos (show (0 : Int) = 0 by first | omega | (simp [upS, hz]; done) | (simp [upS, hz]; omega))]
    refine b349_23 ?_
    refine b349_24 ?_
    have hD7 : Dd 245 [(.inr (.inr (some 682))), (.inl 1)] σ (.inl (some (.inl 0)), (upS σ 682 0 1)) := by
      refine b245 ?_
      try rw [if_neg (show ¬ ((1 : Int) = 0) by first | omega | (simp [upS, hz]; done) | (simp [upS, hz]; omega))]
      all_goals rfl
    refine ⟨_, _, hD7, ?_⟩
    clear hD7
    rw [if_pos (show (0 : Int) = 0 by first | omega | (simp [upS, hz]; done) | (simp [upS, hz]; omega))]
    all_goals rfl
  refine ⟨_, _, _, _, hA, hB, ?_, ?_, ?_, ?_, ?_⟩
  · (first | rfl | (simp [upS, SCR, hz]; done) | (simp [upS, SCR, hz]; omega))
  · first | (intro h9; omega) | (intro _; first | rfl | (simp [upS, SCR, hz]; done) | (simp [upS, SCR, hz]; omega))
  · intro i; first | rfl | (unfold upS SCR; (repeat' split) <;> first | rfl | omega)
  · first | rfl | (unfold upS SCR; (repeat' split) <;> first | rfl | omega)
  · first | rfl | (unfold upS SCR; (repeat' split) <;> first | rfl | omega)
theorem q34_0 {σ : Sg} {a1 : Int} {a2 : Int} {a3 : Int} (hz : ∀ a i, a < 1000 → σ a i = 0) (h0 : a1 < 0) : ∃ (kx b : Int) (s1 s2 : Sg), Dd 423 [(.inr (.inr (some 0))), (.inl a1), (.inl a2), (.inl a3), (.inr (.inr (some 726)))] σ (.inl (some (.inl kx)), s1) ∧ Dd 351 [(.inr (.inr (some 682))), (.inl a1), (.inl a2), (.inl a3)] s1 (.inl (some (.inl b)), s2) ∧ s2 682 0 = kx ∧ (kx = 0 → s2 726 0 = b) ∧ (∀ i, s1 SCR i = σ SCR i) ∧ s1 (SCR + 1) 0 = σ (SCR + 1) 0 ∧ s2 (SCR + 1) 0 = σ (SCR + 1) 0 := by
  have hA : Dd 423 [(.inr (.inr (some 0))), (.inl a1), (.inl a2), (.inl a3), (.inr (.inr (some 726)))] σ (.inl (some (.inl 1)), σ) := by
    refine b423 ?_
    have hD4 : Dd 206 [(.inr (.inr (some 0))), (.inl a1), (.inl a2), (.inl a3)] σ (.inr 0, σ) := by
      refine b206 ?_
      have hD3 : Dd 231 [(.inr (.inr (some 0))), (.inl a1)] σ (.inr 0, σ) := by
        refine b231 ?_
        rw [show (σ 402 3) = 0 by (first | omega | (simp [upS, hz]; done) | (simp [upS, hz]; omega))]
        have hD1 : Dd 89 [(.inr (.inr (some 405))), (.inl a1), (.inl 0)] σ (.inl (some (.inr (.inr none))), σ) := by
          refine b89 ?_
          rw [if_neg (show ¬ ((0 : Int) ≤ a1) by first | omega | (simp [upS, hz]; done) | (simp [upS, hz]; omega))]
          all_goals rfl
        refine ⟨_, _, hD1, ?_⟩
        clear hD1
        refine ⟨fun _ => ?_, fun _ hz2 => (by cases hz2)⟩
        all_goals rfl
      refine Or.inr ⟨_, _, hD3, ?_⟩
      all_goals rfl
    exact Or.inr (Or.inl ⟨_, hD4, rfl⟩)
  have hB : Dd 351 [(.inr (.inr (some 682))), (.inl a1), (.inl a2), (.inl a3)] σ (.inl (some (.inl 0)), (upS σ 682 0 1)) := by
    refine b351 ?_
    have hD6 : Dd 340 [(.inr (.inr (some 682))), (.inl a1)] σ (.inl (some (.inl 0)), σ) := by
      refine b340 ?_
      rw [show (σ 682 40) = 0 by (first | omega | (simp [upS, hz]; done) | (simp [upS, hz]; omega))]
      have hD5 : Dd 246 [(.inl a1), (.inl 0)] σ (.inl (some (.inl 0)), σ) := by
        refine b246 ?_
        try rw [if_neg (show ¬ ((0 : Int) ≤ a1) by first | omega | (simp [upS, hz]; done) | (simp [upS, hz]; omega))]
        all_goals rfl
      refine ⟨_, _, hD5, ?_⟩
      clear hD5
      refine ⟨(show 0 = 0 ∨ 0 = 1 by first | omega | (simp [upS, hz]; done) | (simp [upS, hz]; omega)), ?_⟩
      all_goals rfl
    refine ⟨_, _, hD6, ?_⟩
    clear hD6
    rw [if_pos (show (0 : Int) = 0 by first | omega | (simp [upS, hz]; done) | (simp [upS, hz]; omega))]
    refine b351_28 ?_
    refine b351_29 ?_
    rw [if_pos (show (0 : Int) = 0 by first | omega | (simp [upS, hz]; done) | (simp [upS, hz]; omega))]
    refine b351_69 ?_
    have hD7 : Dd 245 [(.inr (.inr (some 682))), (.inl 1)] σ (.inl (some (.inl 0)), (upS σ 682 0 1)) := by
      refine b245 ?_
      try rw [if_neg (show ¬ ((1 : Int) = 0) by first | omega | (simp [upS, hz]; done) | (simp [upS, hz]; omega))]
      all_goals rfl
    refine ⟨_, _, hD7, ?_⟩
    clear hD7
    rw [if_pos (show (0 : Int) = 0 by first | omega | (simp [upS, hz]; done) | (simp [upS, hz]; omega))]
    all_goals rfl
  refine ⟨_, _, _, _, hA, hB, ?_, ?_, ?_, ?_, ?_⟩
  · (first | rfl | (simp [upS, SCR, hz]; done) | (simp [upS, SCR, hz]; omega))
  · first | (intro h9; omega) | (intro _; first | rfl | (simp [upS, SCR, hz]; done) | (simp [upS, SCR, hz]; omega))
  · intro i; first | rfl | (unfold upS SCR; (repeat' split) <;> first | rfl | omega)
  · first | rfl | (unfold upS SCR; (repeat' split) <;> first | rfl | omega)
  · first | rfl | (unfold upS SCR; (repeat' split) <;> first | rfl | omega)
theorem q34_1 {σ : Sg} {a1 : Int} {a2 : Int} {a3 : Int} (hz : ∀ a i, a < 1000 → σ a i = 0) (h0 : 0 ≤ a1) : ∃ (kx b : Int) (s1 s2 : Sg), Dd 423 [(.inr (.inr (some 0))), (.inl a1), (.inl a2), (.inl a3), (.inr (.inr (some 726)))] σ (.inl (some (.inl kx)), s1) ∧ Dd 351 [(.inr (.inr (some 682))), (.inl a1), (.inl a2), (.inl a3)] s1 (.inl (some (.inl b)), s2) ∧ s2 682 0 = kx ∧ (kx = 0 → s2 726 0 = b) ∧ (∀ i, s1 SCR i = σ SCR i) ∧ s1 (SCR + 1) 0 = σ (SCR + 1) 0 ∧ s2 (SCR + 1) 0 = σ (SCR + 1) 0 := by
  have hA : Dd 423 [(.inr (.inr (some 0))), (.inl a1), (.inl a2), (.inl a3), (.inr (.inr (some 726)))] σ (.inl (some (.inl 1)), σ) := by
    refine b423 ?_
    have hD4 : Dd 206 [(.inr (.inr (some 0))), (.inl a1), (.inl a2), (.inl a3)] σ (.inr 0, σ) := by
      refine b206 ?_
      have hD3 : Dd 231 [(.inr (.inr (some 0))), (.inl a1)] σ (.inr 0, σ) := by
        refine b231 ?_
        rw [show (σ 402 3) = 0 by (first | omega | (simp [upS, hz]; done) | (simp [upS, hz]; omega))]
        have hD1 : Dd 89 [(.inr (.inr (some 405))), (.inl a1), (.inl 0)] σ (.inl (some (.inr (.inr none))), σ) := by
          refine b89 ?_
          rw [if_pos (show (0 : Int) ≤ a1 by first | omega | (simp [upS, hz]; done) | (simp [upS, hz]; omega))]
          rw [if_neg (show ¬ (a1 < 0) by first | omega | (simp [upS, hz]; done) | (simp [upS, hz]; omega))]
          all_goals rfl
        refine ⟨_, _, hD1, ?_⟩
        clear hD1
        refine ⟨fun _ => ?_, fun _ hz2 => (by cases hz2)⟩
        all_goals rfl
      refine Or.inr ⟨_, _, hD3, ?_⟩
      all_goals rfl
    exact Or.inr (Or.inl ⟨_, hD4, rfl⟩)
  have hB : Dd 351 [(.inr (.inr (some 682))), (.inl a1), (.inl a2), (.inl a3)] σ (.inl (some (.inl 0)), (upS σ 682 0 1)) := by
    refine b351 ?_
    have hD6 : Dd 340 [(.inr (.inr (some 682))), (.inl a1)] σ (.inl (some (.inl 0)), σ) := by
      refine b340 ?_
      rw [show (σ 682 40) = 0 by (first | omega | (simp [upS, hz]; done) | (simp [upS, hz]; omega))]
      have hD5 : Dd 246 [(.inl a1), (.inl 0)] σ (.inl (some (.inl 0)), σ) := by
        refine b246 ?_
        try rw [if_pos (show (0 : Int) ≤ a1 by first | omega | (simp [upS, hz]; done) | (simp [upS, hz]; omega))]
        try rw [if_neg (show ¬ (a1 < 0) by first | omega | (simp [upS, hz]; done) | (simp [upS, hz]; omega))]
        all_goals rfl
      refine ⟨_, _, hD5, ?_⟩
      clear hD5
      refine ⟨(show 0 = 0 ∨ 0 = 1 by first | omega | (simp [upS, hz]; done) | (simp [upS, hz]; omega)), ?_⟩
      all_goals rfl
    refine ⟨_, _, hD6, ?_⟩
    clear hD6
    rw [if_pos (show (0 : Int) = 0 by first | omega | (simp [upS, hz]; done) | (simp [upS, hz]; omega))]
    refine b351_28 ?_
    refine b351_29 ?_
    rw [if_pos (show (0 : Int) = 0 by first | omega | (simp [upS, hz]; done) | (simp [upS, hz]; omega))]
    refine b351_69 ?_
    have hD7 : Dd 245 [(.inr (.inr (some 682))), (.inl 1)] σ (.inl (some (.inl 0)), (upS σ 682 0 1)) := by
      refine b245 ?_
      try rw [if_neg (show ¬ ((1 : Int) = 0) by first | omega | (simp [upS, hz]; done) | (simp [upS, hz]; omega))]
      all_goals rfl
    refine ⟨_, _, hD7, ?_⟩
    clear hD7
    rw [if_pos (show (0 : Int) = 0 by first | omega | (simp [upS, hz]; done) | (simp [upS, hz]; omega))]
    all_goals rfl
  refine ⟨_, _, _, _, hA, hB, ?_, ?_, ?_, ?_, ?_⟩
  · (first | rfl | (simp [upS, SCR, hz]; done) | (simp [upS, SCR, hz]; omega))
  · first | (intro h9; omega) | (intro _; first | rfl | (simp [upS, SCR, hz]; done) | (simp [upS, SCR, hz]; omega))
  · intro i; first | rfl | (unfold upS SCR; (repeat' split) <;> first | rfl | omega)
  · first | rfl | (unfold upS SCR; (repeat' split) <;> first | rfl | omega)
  · first | rfl | (unfold upS SCR; (repeat' split) <;> first | rfl | omega)
theorem q35_0 {σ : Sg} {a1 : Int} {a2 : Int} (hz : ∀ a i, a < 1000 → σ a i = 0) (h0 : a1 < 0) : ∃ (kx b : Int) (s1 s2 : Sg), Dd 424 [(.inr (.inr (some 0))), (.inl a1), (.inl a2), (.inr (.inr (some 726)))] σ (.inl (some (.inl kx)), s1) ∧ Dd 352 [(.inr (.inr (some 682))), (.inl a1), (.inl a2)] s1 (.inl (some (.inl b)), s2) ∧ s2 682 0 = kx ∧ (kx = 0 → s2 726 0 = b) ∧ (∀ i, s1 SCR i = σ SCR i) ∧ s1 (SCR + 1) 0 = σ (SCR + 1) 0 ∧ s2 (SCR + 1) 0 = σ (SCR + 1) 0 := by
  have hA : Dd 424 [(.inr (.inr (some 0))), (.inl a1), (.inl a2), (.inr (.inr (some 726)))] σ (.inl (some (.inl 1)), σ) := by
    refine b424 ?_
    have hD4 : Dd 207 [(.inr (.inr (some 0))), (.inl a1), (.inl a2)] σ (.inr 0, σ) := by
      refine b207 ?_
      have hD3 : Dd 227 [(.inr (.inr (some 0))), (.inl a1)] σ (.inr 0, σ) := by
        refine b227 ?_
        have hD1 : Dd 145 [(.inr (.inr (some 1))), (.inl a1)] σ (.inl (some (.inr (.inr none))), σ) := by
          refine b145 ?_
          rw [if_neg (show ¬ ((0 : Int) ≤ a1) by first | omega | (simp [upS, hz]; done) | (simp [upS, hz]; omega))]
          all_goals rfl
        refine ⟨_, _, hD1, ?_⟩
        clear hD1
        refine ⟨fun _ => ?_, fun _ hz2 => (by cases hz2)⟩
        all_goals rfl
      refine Or.inr ⟨_, _, hD3, ?_⟩
      all_goals rfl
    exact Or.inr (Or.inl ⟨_, hD4, rfl⟩)
  have hB : Dd 352 [(.inr (.inr (some 682))), (.inl a1), (.inl a2)] σ (.inl (some (.inl 0)), (upS σ 682 0 1)) := by
    refine b352 ?_
    have hD6 : Dd 247 [(.inl a1)] σ (.inl (some (.inl 0)), σ) := by
      refine b247 ?_
      have hD5 : Dd 246 [(.inl a1), (.inl 4)] σ (.inl (some (.inl 0)), σ) := by
        refine b246 ?_
        try rw [if_neg (show ¬ ((0 : Int) ≤ a1) by first | omega | (simp [upS, hz]; done) | (simp [upS, hz]; omega))]
        all_goals rfl
      refine ⟨_, _, hD5, ?_⟩
      clear hD5
      refine ⟨(show 0 = 0 ∨ 0 = 1 by first | omega | (simp [upS, hz]; done) | (simp [upS, hz]; omega)), ?_⟩
      all_goals rfl
    refine ⟨_, _, hD6, ?_⟩
    clear hD6
    rw [if_pos (show (0 : Int) = 0 by first | omega | (simp [upS, hz]; done) | (simp [upS, hz]; omega))]
    refine b352_35 ?_
    have hD7 : Dd 245 [(.inr (.inr (some 682))), (.inl 1)] σ (.inl (some (.inl 0)), (upS σ 682 0 1)) := by
      refine b245 ?_
      try rw [if_neg (show ¬ ((1 : Int) = 0) by first | omega | (simp [upS, hz]; done) | (simp [upS, hz]; omega))]
      all_goals rfl
    refine ⟨_, _, hD7, ?_⟩
    clear hD7
    rw [if_pos (show (0 : Int) = 0 by first | omega | (simp [upS, hz]; done) | (simp [upS, hz]; omega))]
    all_goals rfl
  refine ⟨_, _, _, _, hA, hB, ?_, ?_, ?_, ?_, ?_⟩
  · (first | rfl | (simp [upS, SCR, hz]; done) | (simp [upS, SCR, hz]; omega))
  · first | (intro h9; omega) | (intro _; first | rfl | (simp [upS, SCR, hz]; done) | (simp [upS, SCR, hz]; omega))
  · intro i; first | rfl | (unfold upS SCR; (repeat' split) <;> first | rfl | omega)
  · first | rfl | (unfold upS SCR; (repeat' split) <;> first | rfl | omega)
  · first | rfl | (unfold upS SCR; (repeat' split) <;> first | rfl | omega)
theorem q35_1 {σ : Sg} {a1 : Int} {a2 : Int} (hz : ∀ a i, a < 1000 → σ a i = 0) (h0 : 4 ≤ a1) : ∃ (kx b : Int) (s1 s2 : Sg), Dd 424 [(.inr (.inr (some 0))), (.inl a1), (.inl a2), (.inr (.inr (some 726)))] σ (.inl (some (.inl kx)), s1) ∧ Dd 352 [(.inr (.inr (some 682))), (.inl a1), (.inl a2)] s1 (.inl (some (.inl b)), s2) ∧ s2 682 0 = kx ∧ (kx = 0 → s2 726 0 = b) ∧ (∀ i, s1 SCR i = σ SCR i) ∧ s1 (SCR + 1) 0 = σ (SCR + 1) 0 ∧ s2 (SCR + 1) 0 = σ (SCR + 1) 0 := by
  have hA : Dd 424 [(.inr (.inr (some 0))), (.inl a1), (.inl a2), (.inr (.inr (some 726)))] σ (.inl (some (.inl 1)), σ) := by
    refine b424 ?_
    have hD4 : Dd 207 [(.inr (.inr (some 0))), (.inl a1), (.inl a2)] σ (.inr 0, σ) := by
      refine b207 ?_
      have hD3 : Dd 227 [(.inr (.inr (some 0))), (.inl a1)] σ (.inr 0, σ) := by
        refine b227 ?_
        have hD1 : Dd 145 [(.inr (.inr (some 1))), (.inl a1)] σ (.inl (some (.inr (.inr none))), σ) := by
          refine b145 ?_
          rw [if_pos (show (0 : Int) ≤ a1 by first | omega | (simp [upS, hz]; done) | (simp [upS, hz]; omega))]
          refine ⟨4, (by decide +kernel), (by decide), ?_⟩
          rw [if_neg (show ¬ (a1 < ((4 : Nat) : Int)) by first | omega | (simp [upS, hz]; done) | (simp [upS, hz]; omega))]
          all_goals rfl
        refine ⟨_, _, hD1, ?_⟩
        clear hD1
        refine ⟨fun _ => ?_, fun _ hz2 => (by cases hz2)⟩
        all_goals rfl
      refine Or.inr ⟨_, _, hD3, ?_⟩
      all_goals rfl
    exact Or.inr (Or.inl ⟨_, hD4, rfl⟩)
  have hB : Dd 352 [(.inr (.inr (some 682))), (.inl a1), (.inl a2)] σ (.inl (some (.inl 0)), (upS σ 682 0 1)) := by
    refine b352 ?_
    have hD6 : Dd 247 [(.inl a1)] σ (.inl (some (.inl 0)), σ) := by
      refine b247 ?_
      have hD5 : Dd 246 [(.inl a1), (.inl 4)] σ (.inl (some (.inl 0)), σ) := by
        refine b246 ?_
        try rw [if_pos (show (0 : Int) ≤ a1 by first | omega | (simp [upS, hz]; done) | (simp [upS, hz]; omega))]
        try rw [if_neg (show ¬ (a1 < 4) by first | omega | (simp [upS, hz]; done) | (simp [upS, hz]; omega))]
        all_goals rfl
      refine ⟨_, _, hD5, ?_⟩
      clear hD5
      refine ⟨(show 0 = 0 ∨ 0 = 1 by first | omega | (simp [upS, hz]; done) | (simp [upS, hz]; omega)), ?_⟩
      all_goals rfl
    refine ⟨_, _, hD6, ?_⟩
    clear hD6
    rw [if_pos (show (0 : Int) = 0 by first | omega | (simp [upS, hz]; done) | (simp [upS, hz]; omega))]
    refine b352_35 ?_
    have hD7 : Dd 245 [(.inr (.inr (some 682))), (.inl 1)] σ (.inl (some (.inl 0)), (upS σ 682 0 1)) := by
      refine b245 ?_
      try rw [if_neg (show ¬ ((1 : Int) = 0) by first | omega | (simp [upS, hz]; done) | (simp [upS, hz]; omega))]
      all_goals rfl
    refine ⟨_, _, hD7, ?_⟩
    clear hD7
    rw [if_pos (show (0 : Int) = 0 by first | omega | (simp [upS, hz]; done) | (simp [upS, hz]; omega))]
    all_goals rfl
  refine ⟨_, _, _, _, hA, hB, ?_, ?_, ?_, ?_, ?_⟩
  · (first | rfl | (simp [upS, SCR, hz]; done) | (simp [upS, SCR, hz]; omega))
  · first | (intro h9; omega) | (intro _; first | rfl | (simp [upS, SCR, hz]; done) | (simp [upS, SCR, hz]; omega))
  · intro i; first | rfl | (unfold upS SCR; (repeat' split) <;> first | rfl | omega)
  · first | rfl | (unfold upS SCR; (repeat' split) <;> first | rfl | omega)
  · first | rfl | (unfold upS SCR; (repeat' split) <;> first | rfl | omega)
theorem q35_2 {σ : Sg} {a1 : Int} {a2 : Int} (hz : ∀ a i, a < 1000 → σ a i = 0) (h0 : 0 ≤ a1 ∧ a1 < 4) (h1 : a2 < 0) : ∃ (kx b : Int) (s1 s2 : Sg), Dd 424 [(.inr (.inr (some 0))), (.inl a1), (.inl a2), (.inr (.inr (some 726)))] σ (.inl (some (.inl kx)), s1) ∧ Dd 352 [(.inr (.inr (some 682))), (.inl a1), (.inl a2)] s1 (.inl (some (.inl b)), s2) ∧ s2 682 0 = kx ∧ (kx = 0 → s2 726 0 = b) ∧ (∀ i, s1 SCR i = σ SCR i) ∧ s1 (SCR + 1) 0 = σ (SCR + 1) 0 ∧ s2 (SCR + 1) 0 = σ (SCR + 1) 0 := by
  have za1 : ∀ i, σ (2 + 2 * ((a1)).toNat) i = 0 := fun i => hz _ i (by omega)
  have z1a1 : ∀ i, σ ((2 + 2 * ((a1)).toNat) + 1) i = 0 := fun i => hz _ i (by omega)
  have ca1 : (cap (2 + 2 * ((a1)).toNat) : Int) = 16 := cp_1 (by omega)
  have hA : Dd 424 [(.inr (.inr (some 0))), (.inl a1), (.inl a2), (.inr (.inr (some 726)))] σ (.inl (some (.inl 2)), σ) := by
    refine b424 ?_
    have hD5 : Dd 207 [(.inr (.inr (some 0))), (.inl a1), (.inl a2)] σ (.inr 1, σ) := by
      refine b207 ?_
      have hD3 : Dd 227 [(.inr (.inr (some 0))), (.inl a1)] σ (.inl (some (.inr (.inr (some (2 + 2 * ((a1)).toNat))))), σ) := by
        refine b227 ?_
        have hD1 : Dd 145 [(.inr (.inr (some 1))), (.inl a1)] σ (.inl (some (.inr (.inr (some (2 + 2 * ((a1)).toNat))))), σ) := by
          refine b145 ?_
          rw [if_pos (show (0 : Int) ≤ a1 by first | omega | (simp [upS, hz, za1, z1a1, ca1]; done) | (simp [upS, hz, za1, z1a1, ca1]; omega))]
          refine ⟨4, (by decide +kernel), (by decide), ?_⟩
          rw [if_pos (show a1 < ((4 : Nat) : Int) by first | omega | (simp [upS, hz, za1, z1a1, ca1]; done) | (simp [upS, hz, za1, z1a1, ca1]; omega))]
          refine ⟨(show 0 ≤ a1 by first | omega | (simp [upS, hz, za1, z1a1, ca1]; done) | (simp [upS, hz, za1, z1a1, ca1]; omega)), ?_⟩
          refine ⟨(2 + 2 * ((a1)).toNat), (el_1 (i := (a1)) (by first | omega | (simp [upS, hz, za1, z1a1, ca1]; done) | (simp [upS, hz, za1, z1a1, ca1]; omega))).1, (el_1 (i := (a1)) (by first | omega | (simp [upS, hz, za1, z1a1, ca1]; done) | (simp [upS, hz, za1, z1a1, ca1]; omega))).2, ?_⟩
          all_goals rfl
        refine ⟨_, _, hD1, ?_⟩
        clear hD1
        refine ⟨fun hz2 => (by cases hz2), fun _ hz2 => ?_⟩
        cases hz2
        refine ⟨(el_1 (i := (a1)) (by first | omega | (simp [upS, hz, za1, z1a1, ca1]; done) | (simp [upS, hz, za1, z1a1, ca1]; omega))).2, ?_⟩
        all_goals rfl
      refine Or.inl ⟨_, _, hD3, (el_1 (i := (a1)) (by first | omega | (simp [upS, hz, za1, z1a1, ca1]; done) | (simp [upS, hz, za1, z1a1, ca1]; omega))).2, ?_⟩
      clear hD3
      have hD4 : Dd 236 [(.inr (.inr (some 0))), (.inl a2)] σ (.inr 1, σ) := by
        refine b236 ?_
        rw [if_neg (show ¬ (a2 = 0) by first | omega | (simp [upS, hz, za1, z1a1, ca1]; done) | (simp [upS, hz, za1, z1a1, ca1]; omega))]
        rw [if_neg (show ¬ (a2 = 1) by first | omega | (simp [upS, hz, za1, z1a1, ca1]; done) | (simp [upS, hz, za1, z1a1, ca1]; omega))]
        rw [if_neg (show ¬ (a2 = 2) by first | omega | (simp [upS, hz, za1, z1a1, ca1]; done) | (simp [upS, hz, za1, z1a1, ca1]; omega))]
        all_goals rfl
      refine Or.inr ⟨_, _, hD4, ?_⟩
      all_goals rfl
    exact Or.inr (Or.inr (Or.inl ⟨_, hD5, rfl⟩))
  have hB : Dd 352 [(.inr (.inr (some 682))), (.inl a1), (.inl a2)] σ (.inl (some (.inl 0)), (upS σ 682 0 2)) := by
    refine b352 ?_
    have hD7 : Dd 247 [(.inl a1)] σ (.inl (some (.inl 1)), σ) := by
      refine b247 ?_
      have hD6 : Dd 246 [(.inl a1), (.inl 4)] σ (.inl (some (.inl 1)), σ) := by
        refine b246 ?_
        try rw [if_pos (show (0 : Int) ≤ a1 by first | omega | (simp [upS, hz, za1, z1a1, ca1]; done) | (simp [upS, hz, za1, z1a1, ca1]; omega))]
        try rw [if_pos (show a1 < 4 by first | omega | (simp [upS, hz, za1, z1a1, ca1]; done) | (simp [upS, hz, za1, z1a1, ca1]; omega))]
        all_goals rfl
      refine ⟨_, _, hD6, ?_⟩
      clear hD6
      refine ⟨(show 1 = 0 ∨ 1 = 1 by first | omega | (simp [upS, hz, za1, z1a1, ca1]; done) | (simp [upS, hz, za1, z1a1, ca1]; omega)), ?_⟩
      all_goals rfl
    refine ⟨_, _, hD7, ?_⟩
    clear hD7
    rw [if_neg (show ¬ ((1 : Int) = 0) by first | omega | (simp [upS, hz, za1, z1a1, ca1]; done) | (simp [upS, hz, za1, z1a1, ca1]; omega))]
    have hD9 : Dd 275 [(.inl a2)] σ (.inl (some (.inl 0)), σ) := by
      refine b275 ?_
      have hD8 : Dd 246 [(.inl a2), (.inl 3)] σ (.inl (some (.inl 0)), σ) := by
        refine b246 ?_
        try rw [if_neg (show ¬ ((0 : Int) ≤ a2) by first | omega | (simp [upS, hz, za1, z1a1, ca1]; done) | (simp [upS, hz, za1, z1a1, ca1]; omega))]
        all_goals rfl
      refine ⟨_, _, hD8, ?_⟩
      clear hD8
      refine ⟨(show 0 = 0 ∨ 0 = 1 by first | omega | (simp [upS, hz, za1, z1a1, ca1]; done) | (simp [upS, hz, za1, z1a1, ca1]; omega)), ?_⟩
      all_goals rfl
    refine ⟨_, _, hD9, ?_⟩
    clear hD9
    try rw [if_pos (show (0 : Int) = 0 by first | omega | (simp [upS, hz, za1, z1a1, ca1]; done) | (simp [upS, hz, za1, z1a1, ca1]; omega))]
    refine b352_35 ?_
    have hD10 : Dd 245 [(.inr (.inr (some 682))), (.inl 2)] σ (.inl (some (.inl 0)), (upS σ 682 0 2)) := by
      refine b245 ?_
      try rw [if_neg (show ¬ ((2 : Int) = 0) by first | omega | (simp [upS, hz, za1, z1a1, ca1]; done) | (simp [upS, hz, za1, z1a1, ca1]; omega))]
      all_goals rfl
    refine ⟨_, _, hD10, ?_⟩
    clear hD10
    rw [if_pos (show (0 : Int) = 0 by first | omega | (simp [upS, hz, za1, z1a1, ca1]; done) | (simp [upS, hz, za1, z1a1, ca1]; omega))]
    all_goals rfl
  refine ⟨_, _, _, _, hA, hB, ?_, ?_, ?_, ?_, ?_⟩
  · (first | rfl | (simp [upS, SCR, hz, za1, z1a1, ca1]; done) | (simp [upS, SCR, hz, za1, z1a1, ca1]; omega))
  · first | (intro h9; omega) | (intro _; first | rfl | (simp [upS, SCR, hz, za1, z1a1, ca1]; done) | (simp [upS, SCR, hz, za1, z1a1, ca1]; omega))
  · intro i; first | rfl | (unfold upS SCR; (repeat' split) <;> first | rfl | omega)
  · first | rfl | (unfold upS SCR; (repeat' split) <;> first | rfl | omega)
  · first | rfl | (unfold upS SCR; (repeat' split) <;> first | rfl | omega)
theorem q35_3 {σ : Sg} {a1 : Int} {a2 : Int} (hz : ∀ a i, a < 1000 → σ a i = 0) (h0 : 0 ≤ a1 ∧ a1 < 4) (h1 : 2 < a2) : ∃ (kx b : Int) (s1 s2 : Sg), Dd 424 [(.inr (.inr (some 0))), (.inl a1), (.inl a2), (.inr (.inr (some 726)))] σ (.inl (some (.inl kx)), s1) ∧ Dd 352 [(.inr (.inr (some 682))), (.inl a1), (.inl a2)] s1 (.inl (some (.inl b)), s2) ∧ s2 682 0 = kx ∧ (kx = 0 → s2 726 0 = b) ∧ (∀ i, s1 SCR i = σ SCR i) ∧ s1 (SCR + 1) 0 = σ (SCR + 1) 0 ∧ s2 (SCR + 1) 0 = σ (SCR + 1) 0 := by
  have za1 : ∀ i, σ (2 + 2 * ((a1)).toNat) i = 0 := fun i => hz _ i (by omega)
  have z1a1 : ∀ i, σ ((2 + 2 * ((a1)).toNat) + 1) i = 0 := fun i => hz _ i (by omega)
  have ca1 : (cap (2 + 2 * ((a1)).toNat) : Int) = 16 := cp_1 (by omega)
  have hA : Dd 424 [(.inr (.inr (some 0))), (.inl a1), (.inl a2), (.inr (.inr (some 726)))] σ (.inl (some (.inl 2)), σ) := by
    refine b424 ?_
    have hD5 : Dd 207 [(.inr (.inr (some 0))), (.inl a1), (.inl a2)] σ (.inr 1, σ) := by
      refine b207 ?_
      have hD3 : Dd 227 [(.inr (.inr (some 0))), (.inl a1)] σ (.inl (some (.inr (.inr (some (2 + 2 * ((a1)).toNat))))), σ) := by
        refine b227 ?_
        have hD1 : Dd 145 [(.inr (.inr (some 1))), (.inl a1)] σ (.inl (some (.inr (.inr (some (2 + 2 * ((a1)).toNat))))), σ) := by
          refine b145 ?_
          rw [if_pos (show (0 : Int) ≤ a1 by first | omega | (simp [upS, hz, za1, z1a1, ca1]; done) | (simp [upS, hz, za1, z1a1, ca1]; omega))]
          refine ⟨4, (by decide +kernel), (by decide), ?_⟩
          rw [if_pos (show a1 < ((4 : Nat) : Int) by first | omega | (simp [upS, hz, za1, z1a1, ca1]; done) | (simp [upS, hz, za1, z1a1, ca1]; omega))]
          refine ⟨(show 0 ≤ a1 by first | omega | (simp [upS, hz, za1, z1a1, ca1]; done) | (simp [upS, hz, za1, z1a1, ca1]; omega)), ?_⟩
          refine ⟨(2 + 2 * ((a1)).toNat), (el_1 (i := (a1)) (by first | omega | (simp [upS, hz, za1, z1a1, ca1]; done) | (simp [upS, hz, za1, z1a1, ca1]; omega))).1, (el_1 (i := (a1)) (by first | omega | (simp [upS, hz, za1, z1a1, ca1]; done) | (simp [upS, hz, za1, z1a1, ca1]; omega))).2, ?_⟩
          all_goals rfl
        refine ⟨_, _, hD1, ?_⟩
        clear hD1
        refine ⟨fun hz2 => (by cases hz2), fun _ hz2 => ?_⟩
        cases hz2
        refine ⟨(el_1 (i := (a1)) (by first | omega | (simp [upS, hz, za1, z1a1, ca1]; done) | (simp [upS, hz, za1, z1a1, ca1]; omega))).2, ?_⟩
        all_goals rfl
      refine Or.inl ⟨_, _, hD3, (el_1 (i := (a1)) (by first | omega | (simp [upS, hz, za1, z1a1, ca1]; done) | (simp [upS, hz, za1, z1a1, ca1]; omega))).2, ?_⟩
      clear hD3
      have hD4 : Dd 236 [(.inr (.inr (some 0))), (.inl a2)] σ (.inr 1, σ) := by
        refine b236 ?_
        rw [if_neg (show ¬ (a2 = 0) by first | omega | (simp [upS, hz, za1, z1a1, ca1]; done) | (simp [upS, hz, za1, z1a1, ca1]; omega))]
        rw [if_neg (show ¬ (a2 = 1) by first | omega | (simp [upS, hz, za1, z1a1, ca1]; done) | (simp [upS, hz, za1, z1a1, ca1]; omega))]
        rw [if_neg (show ¬ (a2 = 2) by first | omega | (simp [upS, hz, za1, z1a1, ca1]; done) | (simp [upS, hz, za1, z1a1, ca1]; omega))]
        all_goals rfl
      refine Or.inr ⟨_, _, hD4, ?_⟩
      all_goals rfl
    exact Or.inr (Or.inr (Or.inl ⟨_, hD5, rfl⟩))
  have hB : Dd 352 [(.inr (.inr (some 682))), (.inl a1), (.inl a2)] σ (.inl (some (.inl 0)), (upS σ 682 0 2)) := by
    refine b352 ?_
    have hD7 : Dd 247 [(.inl a1)] σ (.inl (some (.inl 1)), σ) := by
      refine b247 ?_
      have hD6 : Dd 246 [(.inl a1), (.inl 4)] σ (.inl (some (.inl 1)), σ) := by
        refine b246 ?_
        try rw [if_pos (show (0 : Int) ≤ a1 by first | omega | (simp [upS, hz, za1, z1a1, ca1]; done) | (simp [upS, hz, za1, z1a1, ca1]; omega))]
        try rw [if_pos (show a1 < 4 by first | omega | (simp [upS, hz, za1, z1a1, ca1]; done) | (simp [upS, hz, za1, z1a1, ca1]; omega))]
        all_goals rfl
      refine ⟨_, _, hD6, ?_⟩
      clear hD6
      refine ⟨(show 1 = 0 ∨ 1 = 1 by first | omega | (simp [upS, hz, za1, z1a1, ca1]; done) | (simp [upS, hz, za1, z1a1, ca1]; omega)), ?_⟩
      all_goals rfl
    refine ⟨_, _, hD7, ?_⟩
    clear hD7
    rw [if_neg (show ¬ ((1 : Int) = 0) by first | omega | (simp [upS, hz, za1, z1a1, ca1]; done) | (simp [upS, hz, za1, z1a1, ca1]; omega))]
    have hD9 : Dd 275 [(.inl a2)] σ (.inl (some (.inl 0)), σ) := by
      refine b275 ?_
      have hD8 : Dd 246 [(.inl a2), (.inl 3)] σ (.inl (some (.inl 0)), σ) := by
        refine b246 ?_
        try rw [if_pos (show (0 : Int) ≤ a2 by first | omega | (simp [upS, hz, za1, z1a1, ca1]; done) | (simp [upS, hz, za1, z1a1, ca1]; omega))]
        try rw [if_neg (show ¬ (a2 < 3) by first | omega | (simp [upS, hz, za1, z1a1, ca1]; done) | (simp [upS, hz, za1, z1a1, ca1]; omega))]
        all_goals rfl
      refine ⟨_, _, hD8, ?_⟩
      clear hD8
      refine ⟨(show 0 = 0 ∨ 0 = 1 by first | omega | (simp [upS, hz, za1, z1a1, ca1]; done) | (simp [upS, hz, za1, z1a1, ca1]; omega)), ?_⟩
      all_goals rfl
    refine ⟨_, _, hD9, ?_⟩
    clear hD9
    try rw [if_pos (show (0 : Int) = 0 by first | omega | (simp [upS, hz, za1, z1a1, ca1]; done) | (simp [upS, hz, za1, z1a1, ca1]; omega))]
    refine b352_35 ?_
    have hD10 : Dd 245 [(.inr (.inr (some 682))), (.inl 2)] σ (.inl (some (.inl 0)), (upS σ 682 0 2)) := by
      refine b245 ?_
      try rw [if_neg (show ¬ ((2 : Int) = 0) by first | omega | (simp [upS, hz, za1, z1a1, ca1]; done) | (simp [upS, hz, za1, z1a1, ca1]; omega))]
      all_goals rfl
    refine ⟨_, _, hD10, ?_⟩
    clear hD10
    rw [if_pos (show (0 : Int) = 0 by first | omega | (simp [upS, hz, za1, z1a1, ca1]; done) | (simp [upS, hz, za1, z1a1, ca1]; omega))]
    all_goals rfl
  refine ⟨_, _, _, _, hA, hB, ?_, ?_, ?_, ?_, ?_⟩
  · (first | rfl | (simp [upS, SCR, hz, za1, z1a1, ca1]; done) | (simp [upS, SCR, hz, za1, z1a1, ca1]; omega))
  · first | (intro h9; omega) | (intro _; first | rfl | (simp [upS, SCR, hz, za1, z1a1, ca1]; done) | (simp [upS, SCR, hz, za1, z1a1, ca1]; omega))
  · intro i; first | rfl | (unfold upS SCR; (repeat' split) <;> first | rfl | omega)
  · first | rfl | (unfold upS SCR; (repeat' split) <;> first | rfl | omega)
  · first | rfl | (unfold upS SCR; (repeat' split) <;> first | rfl | omega)
theorem q35_4 {σ : Sg} {a1 : Int} {a2 : Int} (hz : ∀ a i, a < 1000 → σ a i = 0) (h0 : 0 ≤ a1 ∧ a1 < 4) (h1 : a2 = 0) : ∃ (kx b : Int) (s1 s2 : Sg), Dd 424 [(.inr (.inr (some 0))), (.inl a1), (.inl a2), (.inr (.inr (some 726)))] σ (.inl (some (.inl kx)), s1) ∧ Dd 352 [(.inr (.inr (some 682))), (.inl a1), (.inl a2)] s1 (.inl (some (.inl b)), s2) ∧ s2 682 0 = kx ∧ (kx = 0 → s2 726 0 = b) ∧ (∀ i, s1 SCR i = σ SCR i) ∧ s1 (SCR + 1) 0 = σ (SCR + 1) 0 ∧ s2 (SCR + 1) 0 = σ (SCR + 1) 0 := by
  have za1 : ∀ i, σ (2 + 2 * ((a1)).toNat) i = 0 := fun i => hz _ i (by omega)
  have z1a1 : ∀ i, σ ((2 + 2 * ((a1)).toNat) + 1) i = 0 := fun i => hz _ i (by omega)
  have ca1 : (cap (2 + 2 * ((a1)).toNat) : Int) = 16 := cp_1 (by omega)
  have hA : Dd 424 [(.inr (.inr (some 0))), (.inl a1), (.inl a2), (.inr (.inr (some 726)))] σ (.inl (some (.inl 3)), σ) := by
    refine b424 ?_
    have hD6 : Dd 207 [(.inr (.inr (some 0))), (.inl a1), (.inl a2)] σ (.inr 2, σ) := by
      refine b207 ?_
      have hD3 : Dd 227 [(.inr (.inr (some 0))), (.inl a1)] σ (.inl (some (.inr (.inr (some (2 + 2 * ((a1)).toNat))))), σ) := by
        refine b227 ?_
        have hD1 : Dd 145 [(.inr (.inr (some 1))), (.inl a1)] σ (.inl (some (.inr (.inr (some (2 + 2 * ((a1)).toNat))))), σ) := by
          refine b145 ?_
          rw [if_pos (show (0 : Int) ≤ a1 by first | omega | (simp [upS, hz, za1, z1a1, ca1]; done) | (simp [upS, hz, za1, z1a1, ca1]; omega))]
          refine ⟨4, (by decide +kernel), (by decide), ?_⟩
          rw [if_pos (show a1 < ((4 : Nat) : Int) by first | omega | (simp [upS, hz, za1, z1a1, ca1]; done) | (simp [upS, hz, za1, z1a1, ca1]; omega))]
          refine ⟨(show 0 ≤ a1 by first | omega | (simp [upS, hz, za1, z1a1, ca1]; done) | (simp [upS, hz, za1, z1a1, ca1]; omega)), ?_⟩
          refine ⟨(2 + 2 * ((a1)).toNat), (el_1 (i := (a1)) (by first | omega | (simp [upS, hz, za1, z1a1, ca1]; done) | (simp [upS, hz, za1, z1a1, ca1]; omega))).1, (el_1 (i := (a1)) (by first | omega | (simp [upS, hz, za1, z1a1, ca1]; done) | (simp [upS, hz, za1, z1a1, ca1]; omega))).2, ?_⟩
          all_goals rfl
        refine ⟨_, _, hD1, ?_⟩
        clear hD1
        refine ⟨fun hz2 => (by cases hz2), fun _ hz2 => ?_⟩
        cases hz2
        refine ⟨(el_1 (i := (a1)) (by first | omega | (simp [upS, hz, za1, z1a1, ca1]; done) | (simp [upS, hz, za1, z1a1, ca1]; omega))).2, ?_⟩
        all_goals rfl
      refine Or.inl ⟨_, _, hD3, (el_1 (i := (a1)) (by first | omega | (simp [upS, hz, za1, z1a1, ca1]; done) | (simp [upS, hz, za1, z1a1, ca1]; omega))).2, ?_⟩
      clear hD3
      have hD4 : Dd 236 [(.inr (.inr (some 0))), (.inl a2)] σ (.inl none, σ) := by
        refine b236 ?_
        rw [if_pos (show a2 = 0 by first | omega | (simp [upS, hz, za1, z1a1, ca1]; done) | (simp [upS, hz, za1, z1a1, ca1]; omega))]
        all_goals rfl
      refine Or.inl ⟨_, hD4, ?_⟩
      clear hD4
      have hD5 : Dd 238 [(.inr (.inr (some 0)))] σ (.inr 2, σ) := by
        refine b238 ?_
        rw [if_pos (show (σ 402 3) < 1 by first | omega | (simp [upS, hz, za1, z1a1, ca1]; done) | (simp [upS, hz, za1, z1a1, ca1]; omega))]
        all_goals rfl
      refine Or.inr ⟨_, _, hD5, ?_⟩
      all_goals rfl
    exact Or.inr (Or.inr (Or.inr (⟨_, hD6, rfl⟩)))
  have hB : Dd 352 [(.inr (.inr (some 682))), (.inl a1), (.inl a2)] σ (.inl (some (.inl 0)), (upS σ 682 0 3)) := by
    refine b352 ?_
    have hD8 : Dd 247 [(.inl a1)] σ (.inl (some (.inl 1)), σ) := by
      refine b247 ?_
      have hD7 : Dd 246 [(.inl a1), (.inl 4)] σ (.inl (some (.inl 1)), σ) := by
        refine b246 ?_
        try rw [if_pos (show (0 : Int) ≤ a1 by first | omega | (simp [upS, hz, za1, z1a1, ca1]; done) | (simp [upS, hz, za1, z1a1, ca1]; omega))]
        try rw [if_pos (show a1 < 4 by first | omega | (simp [upS, hz, za1, z1a1, ca1]; done) | (simp [upS, hz, za1, z1a1, ca1]; omega))]
        all_goals rfl
      refine ⟨_, _, hD7, ?_⟩
      clear hD7
      refine ⟨(show 1 = 0 ∨ 1 = 1 by first | omega | (simp [upS, hz, za1, z1a1, ca1]; done) | (simp [upS, hz, za1, z1a1, ca1]; omega)), ?_⟩
      all_goals rfl
    refine ⟨_, _, hD8, ?_⟩
    clear hD8
    rw [if_neg (show ¬ ((1 : Int) = 0) by first | omega | (simp [upS, hz, za1, z1a1, ca1]; done) | (simp [upS, hz, za1, z1a1, ca1]; omega))]
    have hD10 : Dd 275 [(.inl a2)] σ (.inl (some (.inl 1)), σ) := by
      refine b275 ?_
      have hD9 : Dd 246 [(.inl a2), (.inl 3)] σ (.inl (some (.inl 1)), σ) := by
        refine b246 ?_
        try rw [if_pos (show (0 : Int) ≤ a2 by first | omega | (simp [upS, hz, za1, z1a1, ca1]; done) | (simp [upS, hz, za1, z1a1, ca1]; omega))]
        try rw [if_pos (show a2 < 3 by first | omega | (simp [upS, hz, za1, z1a1, ca1]; done) | (simp [upS, hz, za1, z1a1, ca1]; omega))]
        all_goals rfl
      refine ⟨_, _, hD9, ?_⟩
      clear hD9
      refine ⟨(show 1 = 0 ∨ 1 = 1 by first | omega | (simp [upS, hz, za1, z1a1, ca1]; done) | (simp [upS, hz, za1, z1a1, ca1]; omega)), ?_⟩
      all_goals rfl
    refine ⟨_, _, hD10, ?_⟩
    clear hD10
    try rw [if_neg (show ¬ ((1 : Int) = 0) by first | omega | (simp [upS, hz, za1, z1a1, ca1]; done) | (simp [upS, hz, za1, z1a1, ca1]; omega))]
    try rw [if_pos (show (σ 682 40) = 0 by first | omega | (simp [upS, hz, za1, z1a1, ca1]; done) | (simp [upS, hz, za1, z1a1, ca1]; omega))]
    refine b352_35 ?_
    have hD11 : Dd 245 [(.inr (.inr (some 682))), (.inl 3)] σ (.inl (some (.inl 0)), (upS σ 682 0 3)) := by
      refine b245 ?_
      try rw [if_neg (show ¬ ((3 : Int) = 0) by first | omega | (simp [upS, hz, za1, z1a1, ca1]; done) | (simp [upS, hz, za1, z1a1, ca1]; omega))]
      all_goals rfl
    refine ⟨_, _, hD11, ?_⟩
    clear hD11
    rw [if_pos (show (0 : Int) = 0 by first | omega | (simp [upS, hz, za1, z1a1, ca1]; done) | (simp [upS, hz, za1, z1a1, ca1]; omega))]
    all_goals rfl
  refine ⟨_, _, _, _, hA, hB, ?_, ?_, ?_, ?_, ?_⟩
  · (first | rfl | (simp [upS, SCR, hz, za1, z1a1, ca1]; done) | (simp [upS, SCR, hz, za1, z1a1, ca1]; omega))
  · first | (intro h9; omega) | (intro _; first | rfl | (simp [upS, SCR, hz, za1, z1a1, ca1]; done) | (simp [upS, SCR, hz, za1, z1a1, ca1]; omega))
  · intro i; first | rfl | (unfold upS SCR; (repeat' split) <;> first | rfl | omega)
  · first | rfl | (unfold upS SCR; (repeat' split) <;> first | rfl | omega)
  · first | rfl | (unfold upS SCR; (repeat' split) <;> first | rfl | omega)
theorem q35_5 {σ : Sg} {a1 : Int} {a2 : Int} (hz : ∀ a i, a < 1000 → σ a i = 0) (h0 : 0 ≤ a1 ∧ a1 < 4) (h1 : a2 = 1) : ∃ (kx b : Int) (s1 s2 : Sg), Dd 424 [(.inr (.inr (some 0))), (.inl a1), (.inl a2), (.inr (.inr (some 726)))] σ (.inl (some (.inl kx)), s1) ∧ Dd 352 [(.inr (.inr (some 682))), (.inl a1), (.inl a2)] s1 (.inl (some (.inl b)), s2) ∧ s2 682 0 = kx ∧ (kx = 0 → s2 726 0 = b) ∧ (∀ i, s1 SCR i = σ SCR i) ∧ s1 (SCR + 1) 0 = σ (SCR + 1) 0 ∧ s2 (SCR + 1) 0 = σ (SCR + 1) 0 := by
  have za1 : ∀ i, σ (2 + 2 * ((a1)).toNat) i = 0 := fun i => hz _ i (by omega)
  have z1a1 : ∀ i, σ ((2 + 2 * ((a1)).toNat) + 1) i = 0 := fun i => hz _ i (by omega)
  have ca1 : (cap (2 + 2 * ((a1)).toNat) : Int) = 16 := cp_1 (by omega)
  have hA : Dd 424 [(.inr (.inr (some 0))), (.inl a1), (.inl a2), (.inr (.inr (some 726)))] σ (.inl (some (.inl 3)), σ) := by
    refine b424 ?_
    have hD6 : Dd 207 [(.inr (.inr (some 0))), (.inl a1), (.inl a2)] σ (.inr 2, σ) := by
      refine b207 ?_
      have hD3 : Dd 227 [(.inr (.inr (some 0))), (.inl a1)] σ (.inl (some (.inr (.inr (some (2 + 2 * ((a1)).toNat))))), σ) := by
        refine b227 ?_
        have hD1 : Dd 145 [(.inr (.inr (some 1))), (.inl a1)] σ (.inl (some (.inr (.inr (some (2 + 2 * ((a1)).toNat))))), σ) := by
          refine b145 ?_
          rw [if_pos (show (0 : Int) ≤ a1 by first | omega | (simp [upS, hz, za1, z1a1, ca1]; done) | (simp [upS, hz, za1, z1a1, ca1]; omega))]
          refine ⟨4, (by decide +kernel), (by decide), ?_⟩
          rw [if_pos (show a1 < ((4 : Nat) : Int) by first | omega | (simp [upS, hz, za1, z1a1, ca1]; done) | (simp [upS, hz, za1, z1a1, ca1]; omega))]
          refine ⟨(show 0 ≤ a1 by first | omega | (simp [upS, hz, za1, z1a1, ca1]; done) | (simp [upS, hz, za1, z1a1, ca1]; omega)), ?_⟩
          refine ⟨(2 + 2 * ((a1)).toNat), (el_1 (i := (a1)) (by first | omega | (simp [upS, hz, za1, z1a1, ca1]; done) | (simp [upS, hz, za1, z1a1, ca1]; omega))).1, (el_1 (i := (a1)) (by first | omega | (simp [upS, hz, za1, z1a1, ca1]; done) | (simp [upS, hz, za1, z1a1, ca1]; omega))).2, ?_⟩
          all_goals rfl
        refine ⟨_, _, hD1, ?_⟩
        clear hD1
        refine ⟨fun hz2 => (by cases hz2), fun _ hz2 => ?_⟩
        cases hz2
        refine ⟨(el_1 (i := (a1)) (by first | omega | (simp [upS, hz, za1, z1a1, ca1]; done) | (simp [upS, hz, za1, z1a1, ca1]; omega))).2, ?_⟩
        all_goals rfl
      refine Or.inl ⟨_, _, hD3, (el_1 (i := (a1)) (by first | omega | (simp [upS, hz, za1, z1a1, ca1]; done) | (simp [upS, hz, za1, z1a1, ca1]; omega))).2, ?_⟩
      clear hD3
      have hD4 : Dd 236 [(.inr (.inr (some 0))), (.inl a2)] σ (.inl none, σ) := by
        refine b236 ?_
        rw [if_neg (show ¬ (a2 = 0) by first | omega | (simp [upS, hz, za1, z1a1, ca1]; done) | (simp [upS, hz, za1, z1a1, ca1]; omega))]
        rw [if_pos (show a2 = 1 by first | omega | (simp [upS, hz, za1, z1a1, ca1]; done) | (simp [upS, hz, za1, z1a1, ca1]; omega))]
        all_goals rfl
      refine Or.inl ⟨_, hD4, ?_⟩
      clear hD4
      have hD5 : Dd 238 [(.inr (.inr (some 0)))] σ (.inr 2, σ) := by
        refine b238 ?_
        rw [if_pos (show (σ 402 3) < 1 by first | omega | (simp [upS, hz, za1, z1a1, ca1]; done) | (simp [upS, hz, za1, z1a1, ca1]; omega))]
        all_goals rfl
      refine Or.inr ⟨_, _, hD5, ?_⟩
      all_goals rfl
    exact Or.inr (Or.inr (Or.inr (⟨_, hD6, rfl⟩)))
  have hB : Dd 352 [(.inr (.inr (some 682))), (.inl a1), (.inl a2)] σ (.inl (some (.inl 0)), (upS σ 682 0 3)) := by
    refine b352 ?_
    have hD8 : Dd 247 [(.inl a1)] σ (.inl (some (.inl 1)), σ) := by
      refine b247 ?_
      have hD7 : Dd 246 [(.inl a1), (.inl 4)] σ (.inl (some (.inl 1)), σ) := by
        refine b246 ?_
        try rw [if_pos (show (0 : Int) ≤ a1 by first | omega | (simp [upS, hz, za1, z1a1, ca1]; done) | (simp [upS, hz, za1, z1a1, ca1]; omega))]
        try rw [if_pos (show a1 < 4 by first | omega | (simp [upS, hz, za1, z1a1, ca1]; done) | (simp [upS, hz, za1, z1a1, ca1]; omega))]
        all_goals rfl
      refine ⟨_, _, hD7, ?_⟩
      clear hD7
      refine ⟨(show 1 = 0 ∨ 1 = 1 by first | omega | (simp [upS, hz, za1, z1a1, ca1]; done) | (simp [upS, hz, za1, z1a1, ca1]; omega)), ?_⟩
      all_goals rfl
    refine ⟨_, _, hD8, ?_⟩
    clear hD8
    rw [if_neg (show ¬ ((1 : Int) = 0) by first | omega | (simp [upS, hz, za1, z1a1, ca1]; done) | (simp [upS, hz, za1, z1a1, ca1]; omega))]
    have hD10 : Dd 275 [(.inl a2)] σ (.inl (some (.inl 1)), σ) := by
      refine b275 ?_
      have hD9 : Dd 246 [(.inl a2), (.inl 3)] σ (.inl (some (.inl 1)), σ) := by
        refine b246 ?_
        try rw [if_pos (show (0 : Int) ≤ a2 by first | omega | (simp [upS, hz, za1, z1a1, ca1]; done) | (simp [upS, hz, za1, z1a1, ca1]; omega))]
        try rw [if_pos (show a2 < 3 by first | omega | (simp [upS, hz, za1, z1a1, ca1]; done) | (simp [upS, hz, za1, z1a1, ca1]; omega))]
        all_goals rfl
      refine ⟨_, _, hD9, ?_⟩
      clear hD9
      refine ⟨(show 1 = 0 ∨ 1 = 1 by first | omega | (simp [upS, hz, za1, z1a1, ca1]; done) | (simp [upS, hz, za1, z1a1, ca1]; omega)), ?_⟩
      all_goals rfl
    refine ⟨_, _, hD10, ?_⟩
    clear hD10
    try rw [if_neg (show ¬ ((1 : Int) = 0) by first | omega | (simp [upS, hz, za1, z1a1, ca1]; done) | (simp [upS, hz, za1, z1a1, ca1]; omega))]
    try rw [if_pos (show (σ 682 40) = 0 by first | omega | (simp [upS, hz, za1, z1a1, ca1]; done) | (simp [upS, hz, za1, z1a1, ca1]; omega))]
    refine b352_35 ?_
    have hD11 : Dd 245 [(.inr (.inr (some 682))), (.inl 3)] σ (.inl (some (.inl 0)), (upS σ 682 0 3)) := by
      refine b245 ?_
      try rw [if_neg (show ¬ ((3 : Int) = 0) by first | omega | (simp [upS, hz, za1, z1a1, ca1]; done) | (simp [upS, hz, za1, z1a1, ca1]; omega))]
      all_goals rfl
    refine ⟨_, _, hD11, ?_⟩
    clear hD11
    rw [if_pos (show (0 : Int) = 0 by first | omega | (simp [upS, hz, za1, z1a1, ca1]; done) | (simp [upS, hz, za1, z1a1, ca1]; omega))]
    all_goals rfl
  refine ⟨_, _, _, _, hA, hB, ?_, ?_, ?_, ?_, ?_⟩
  · (first | rfl | (simp [upS, SCR, hz, za1, z1a1, ca1]; done) | (simp [upS, SCR, hz, za1, z1a1, ca1]; omega))
  · first | (intro h9; omega) | (intro _; first | rfl | (simp [upS, SCR, hz, za1, z1a1, ca1]; done) | (simp [upS, SCR, hz, za1, z1a1, ca1]; omega))
  · intro i; first | rfl | (unfold upS SCR; (repeat' split) <;> first | rfl | omega)
  · first | rfl | (unfold upS SCR; (repeat' split) <;> first | rfl | omega)
  · first | rfl | (unfold upS SCR; (repeat' split) <;> first | rfl | omega)
theorem q35_6 {σ : Sg} {a1 : Int} {a2 : Int} (hz : ∀ a i, a < 1000 → σ a i = 0) (h0 : 0 ≤ a1 ∧ a1 < 4) (h1 : a2 = 2) : ∃ (kx b : Int) (s1 s2 : Sg), Dd 424 [(.inr (.inr (some 0))), (.inl a1), (.inl a2), (.inr (.inr (some 726)))] σ (.inl (some (.inl kx)), s1) ∧ Dd 352 [(.inr (.inr (some 682))), (.inl a1), (.inl a2)] s1 (.inl (some (.inl b)), s2) ∧ s2 682 0 = kx ∧ (kx = 0 → s2 726 0 = b) ∧ (∀ i, s1 SCR i = σ SCR i) ∧ s1 (SCR + 1) 0 = σ (SCR + 1) 0 ∧ s2 (SCR + 1) 0 = σ (SCR + 1) 0 := by
  have za1 : ∀ i, σ (2 + 2 * ((a1)).toNat) i = 0 := fun i => hz _ i (by omega)
  have z1a1 : ∀ i, σ ((2 + 2 * ((a1)).toNat) + 1) i = 0 := fun i => hz _ i (by omega)
  have ca1 : (cap (2 + 2 * ((a1)).toNat) : Int) = 16 := cp_1 (by omega)
  have hA : Dd 424 [(.inr (.inr (some 0))), (.inl a1), (.inl a2), (.inr (.inr (some 726)))] σ (.inl (some (.inl 3)), σ) := by
    refine b424 ?_
    have hD6 : Dd 207 [(.inr (.inr (some 0))), (.inl a1), (.inl a2)] σ (.inr 2, σ) := by
      refine b207 ?_
      have hD3 : Dd 227 [(.inr (.inr (some 0))), (.inl a1)] σ (.inl (some (.inr (.inr (some (2 + 2 * ((a1)).toNat))))), σ) := by
        refine b227 ?_
        have hD1 : Dd 145 [(.inr (.inr (some 1))), (.inl a1)] σ (.inl (some (.inr (.inr (some (2 + 2 * ((a1)).toNat))))), σ) := by
          refine b145 ?_
          rw [if_pos (show (0 : Int) ≤ a1 by first | omega | (simp [upS, hz, za1, z1a1, ca1]; done) | (simp [upS, hz, za1, z1a1, ca1]; omega))]
          refine ⟨4, (by decide +kernel), (by decide), ?_⟩
          rw [if_pos (show a1 < ((4 : Nat) : Int) by first | omega | (simp [upS, hz, za1, z1a1, ca1]; done) | (simp [upS, hz, za1, z1a1, ca1]; omega))]
          refine ⟨(show 0 ≤ a1 by first | omega | (simp [upS, hz, za1, z1a1, ca1]; done) | (simp [upS, hz, za1, z1a1, ca1]; omega)), ?_⟩
          refine ⟨(2 + 2 * ((a1)).toNat), (el_1 (i := (a1)) (by first | omega | (simp [upS, hz, za1, z1a1, ca1]; done) | (simp [upS, hz, za1, z1a1, ca1]; omega))).1, (el_1 (i := (a1)) (by first | omega | (simp [upS, hz, za1, z1a1, ca1]; done) | (simp [upS, hz, za1, z1a1, ca1]; omega))).2, ?_⟩
          all_goals rfl
        refine ⟨_, _, hD1, ?_⟩
        clear hD1
        refine ⟨fun hz2 => (by cases hz2), fun _ hz2 => ?_⟩
        cases hz2
        refine ⟨(el_1 (i := (a1)) (by first | omega | (simp [upS, hz, za1, z1a1, ca1]; done) | (simp [upS, hz, za1, z1a1, ca1]; omega))).2, ?_⟩
        all_goals rfl
      refine Or.inl ⟨_, _, hD3, (el_1 (i := (a1)) (by first | omega | (simp [upS, hz, za1, z1a1, ca1]; done) | (simp [upS, hz, za1, z1a1, ca1]; omega))).2, ?_⟩
      clear hD3
      have hD4 : Dd 236 [(.inr (.inr (some 0))), (.inl a2)] σ (.inl none, σ) := by
        refine b236 ?_
        rw [if_neg (show ¬ (a2 = 0) by first | omega | (simp [upS, hz, za1, z1a1, ca1]; done) | (simp [upS, hz, za1, z1a1, ca1]; omega))]
        rw [if_neg (show ¬ (a2 = 1) by first | omega | (simp [upS, hz, za1, z1a1, ca1]; done) | (simp [upS, hz, za1, z1a1, ca1]; omega))]
        rw [if_pos (show a2 = 2 by first | omega | (simp [upS, hz, za1, z1a1, ca1]; done) | (simp [upS, hz, za1, z1a1, ca1]; omega))]
        all_goals rfl
      refine Or.inl ⟨_, hD4, ?_⟩
      clear hD4
      have hD5 : Dd 238 [(.inr (.inr (some 0)))] σ (.inr 2, σ) := by
        refine b238 ?_
        rw [if_pos (show (σ 402 3) < 1 by first | omega | (simp [upS, hz, za1, z1a1, ca1]; done) | (simp [upS, hz, za1, z1a1, ca1]; omega))]
        all_goals rfl
      refine Or.inr ⟨_, _, hD5, ?_⟩
      all_goals rfl
    exact Or.inr (Or.inr (Or.inr (⟨_, hD6, rfl⟩)))
  have hB : Dd 352 [(.inr (.inr (some 682))), (.inl a1), (.inl a2)] σ (.inl (some (.inl 0)), (upS σ 682 0 3)) := by
    refine b352 ?_
    have hD8 : Dd 247 [(.inl a1)] σ (.inl (some (.inl 1)), σ) := by
      refine b247 ?_
      have hD7 : Dd 246 [(.inl a1), (.inl 4)] σ (.inl (some (.inl 1)), σ) := by
        refine b246 ?_
        try rw [if_pos (show (0 : Int) ≤ a1 by first | omega | (simp [upS, hz, za1, z1a1, ca1]; done) | (simp [upS, hz, za1, z1a1, ca1]; omega))]
        try rw [if_pos (show a1 < 4 by first | omega | (simp [upS, hz, za1, z1a1, ca1]; done) | (simp [upS, hz, za1, z1a1, ca1]; omega))]
        all_goals rfl
      refine ⟨_, _, hD7, ?_⟩
      clear hD7
      refine ⟨(show 1 = 0 ∨ 1 = 1 by first | omega | (simp [upS, hz, za1, z1a1, ca1]; done) | (simp [upS, hz, za1, z1a1, ca1]; omega)), ?_⟩
      all_goals rfl
    refine ⟨_, _, hD8, ?_⟩
    clear hD8
    rw [if_neg (show ¬ ((1 : Int) = 0) by first | omega | (simp [upS, hz, za1, z1a1, ca1]; done) | (simp [upS, hz, za1, z1a1, ca1]; omega))]
    have hD10 : Dd 275 [(.inl a2)] σ (.inl (some (.inl 1)), σ) := by
      refine b275 ?_
      have hD9 : Dd 246 [(.inl a2), (.inl 3)] σ (.inl (some (.inl 1)), σ) := by
        refine b246 ?_
        try rw [if_pos (show (0 : Int) ≤ a2 by first | omega | (simp [upS, hz, za1, z1a1, ca1]; done) | (simp [upS, hz, za1, z1a1, ca1]; omega))]
        try rw [if_pos (show a2 < 3 by first | omega | (simp [upS, hz, za1, z1a1, ca1]; done) | (simp [upS, hz, za1, z1a1, ca1]; omega))]
        all_goals rfl
      refine ⟨_, _, hD9, ?_⟩
      clear hD9
      refine ⟨(show 1 = 0 ∨ 1 = 1 by first | omega | (simp [upS, hz, za1, z1a1, ca1]; done) | (simp [upS, hz, za1, z1a1, ca1]; omega)), ?_⟩
      all_goals rfl
    refine ⟨_, _, hD10, ?_⟩
    clear hD10
    try rw [if_neg (show ¬ ((1 : Int) = 0) by first | omega | (simp [upS, hz, za1, z1a1, ca1]; done) | (simp [upS, hz, za1, z1a1, ca1]; omega))]
    try rw [if_pos (show (σ 682 40) = 0 by first | omega | (simp [upS, hz, za1, z1a1, ca1]; done) | (simp [upS, hz, za1, z1a1, ca1]; omega))]
    refine b352_35 ?_
    have hD11 : Dd 245 [(.inr (.inr (some 682))), (.inl 3)] σ (.inl (some (.inl 0)), (upS σ 682 0 3)) := by
      refine b245 ?_
      try rw [if_neg (show ¬ ((3 : Int) = 0) by first | omega | (simp [upS, hz, za1, z1a1, ca1]; done) | (simp [upS, hz, za1, z1a1, ca1]; omega))]
      all_goals rfl
    refine ⟨_, _, hD11, ?_⟩
    clear hD11
    rw [if_pos (show (0 : Int) = 0 by first | omega | (simp [upS, hz, za1, z1a1, ca1]; done) | (simp [upS, hz, za1, z1a1, ca1]; omega))]
    all_goals rfl
  refine ⟨_, _, _, _, hA, hB, ?_, ?_, ?_, ?_, ?_⟩
  · (first | rfl | (simp [upS, SCR, hz, za1, z1a1, ca1]; done) | (simp [upS, SCR, hz, za1, z1a1, ca1]; omega))
  · first | (intro h9; omega) | (intro _; first | rfl | (simp [upS, SCR, hz, za1, z1a1, ca1]; done) | (simp [upS, SCR, hz, za1, z1a1, ca1]; omega))
  · intro i; first | rfl | (unfold upS SCR; (repeat' split) <;> first | rfl | omega)
  · first | rfl | (unfold upS SCR; (repeat' split) <;> first | rfl | omega)
  · first | rfl | (unfold upS SCR; (repeat' split) <;> first | rfl | omega)
end
