noncomputable section
theorem q36_0 {σ : Sg} (hz : ∀ a i, a < 1000 → σ a i = 0)  : ∃ (kx b : Int) (s1 s2 : Sg), Dd 208 [(.inr (.inr (some 0)))] σ (.inl (some (.inl kx)), s1) ∧ Dd 353 [(.inr (.inr (some 682)))] s1 (.inl (some (.inl b)), s2) ∧ kx = b ∧ (∀ i, s1 SCR i = σ SCR i) ∧ s1 (SCR + 1) 0 = σ (SCR + 1) 0 ∧ s2 (SCR + 1) 0 = σ (SCR + 1) 0 := by
  have hA : Dd 208 [(.inr (.inr (some 0)))] σ (.inl (some (.inl 0)), σ) := by
    refine b208 ?_
    rw [show (σ 402 3) = 0 by (first | omega | (simp [upS, hz]; done) | (simp [upS, hz]; omega))]
    all_goals rfl
  have hB : Dd 353 [(.inr (.inr (some 682)))] σ (.inl (some (.inl 0)), (upS σ 682 0 0)) := by
    refine b353 ?_
    rw [show ((upS σ 682 0 0) 682 40) = 0 by (first | omega | (simp [upS, hz]; done) | (simp [upS, hz]; omega))]
    all_goals rfl
  refine ⟨_, _, _, _, hA, hB, ?_, ?_, ?_, ?_⟩
  · (first | rfl | (simp [upS, SCR, hz]; done) | (simp [upS, SCR, hz]; omega))
  · intro i; first | rfl | (unfold upS SCR; (repeat' split) <;> first | rfl | omega)
  · first | rfl | (unfold upS SCR; (repeat' split) <;> first | rfl | omega)
  · first | rfl | (unfold upS SCR; (repeat' split) <;> first | rfl | omega)
theorem q37_0 {σ : Sg} {a1 : Int} (hz : ∀ a i, a < 1000 → σ a i = 0) (h0 : a1 < 0) : ∃ (kx b : Int) (s1 s2 : Sg), Dd 425 [(.inr (.inr (some 0))), (.inl a1), (.inr (.inr (some 726)))] σ (.inl (some (.inl kx)), s1) ∧ Dd 354 [(.inr (.inr (some 682))), (.inl a1)] s1 (.inl (some (.inl b)), s2) ∧ s2 682 0 = kx ∧ (kx = 0 → s2 726 0 = b) ∧ (∀ i, s1 SCR i = σ SCR i) ∧ s1 (SCR + 1) 0 = σ (SCR + 1) 0 ∧ s2 (SCR + 1) 0 = σ (SCR + 1) 0 := by
  have hA : Dd 425 [(.inr (.inr (some 0))), (.inl a1), (.inr (.inr (some 726)))] σ (.inl (some (.inl 1)), σ) := by
    refine b425 ?_
    have hD2 : Dd 209 [(.inr (.inr (some 0))), (.inl a1)] σ (.inr 0, σ) := by
      refine b209 ?_
      rw [show (σ 402 3) = 0 by (first | omega | (simp [upS, hz]; done) | (simp [upS, hz]; omega))]
      have hD1 : Dd 232 [(.inr (.inr (some 0))), (.inl a1), (.inl 0)] σ (.inr 0, σ) := by
        refine b232 ?_
        rw [if_neg (show ¬ ((0 : Int) ≤ a1) by first | omega | (simp [upS, hz]; done) | (simp [upS, hz]; omega))]
        refine b232_9 ?_
        all_goals rfl
      refine Or.inr ⟨_, _, hD1, ?_⟩
      all_goals rfl
    exact Or.inr (⟨_, hD2, rfl⟩)
  have hB : Dd 354 [(.inr (.inr (some 682))), (.inl a1)] σ (.inl (some (.inl 0)), (upS σ 682 0 1)) := by
    refine b354 ?_
    have hD4 : Dd 340 [(.inr (.inr (some 682))), (.inl a1)] σ (.inl (some (.inl 0)), σ) := by
      refine b340 ?_
      rw [show (σ 682 40) = 0 by (first | omega | (simp [upS, hz]; done) | (simp [upS, hz]; omega))]
      have hD3 : Dd 246 [(.inl a1), (.inl 0)] σ (.inl (some (.inl 0)), σ) := by
        refine b246 ?_
        try rw [if_neg (show ¬ ((0 : Int) ≤ a1) by first | omega | (simp [upS, hz]; done) | (simp [upS, hz]; omega))]
        all_goals rfl
      refine ⟨_, _, hD3, ?_⟩
      clear hD3
      refine ⟨(show 0 = 0 ∨ 0 = 1 by first | omega | (simp [upS, hz]; done) | (simp [upS, hz]; omega)), ?_⟩
      all_goals rfl
    refine ⟨_, _, hD4, ?_⟩
    clear hD4
    try rw [if_pos (show (0 : Int) = 0 by first | omega | (simp [upS, hz]; done) | (simp [upS, hz]; omega))]
    refine b354_14 ?_
    have hD5 : Dd 245 [(.inr (.inr (some 682))), (.inl 1)] σ (.inl (some (.inl 0)), (upS σ 682 0 1)) := by
      refine b245 ?_
      try rw [if_neg (show ¬ ((1 : Int) = 0) by first | omega | (simp [upS, hz]; done) | (simp [upS, hz]; omega))]
      all_goals rfl
    refine ⟨_, _, hD5, ?_⟩
    clear hD5
    refine ⟨(show ¬ (0 = 0) → 0 ≤ a1 ∧ a1 < 5 by (first | (intros; first | omega | (simp [upS, hz]; done) | (simp [upS, hz]; omega)) | (intros; simp_all [upS, hz]; done) | (intros; simp_all [upS, hz]; omega))), ?_⟩
    try rw [if_pos (show (0 : Int) = 0 by first | omega | (simp [upS, hz]; done) | (simp [upS, hz]; omega))]
    all_goals rfl
  refine ⟨_, _, _, _, hA, hB, ?_, ?_, ?_, ?_, ?_⟩
  · (first | rfl | (simp [upS, SCR, hz]; done) | (simp [upS, SCR, hz]; omega))
  · first | (intro h9; omega) | (intro _; first | rfl | (simp [upS, SCR, hz]; done) | (simp [upS, SCR, hz]; omega))
  · intro i; first | rfl | (unfold upS SCR; (repeat' split) <;> first | rfl | omega)
  · first | rfl | (unfold upS SCR; (repeat' split) <;> first | rfl | omega)
  · first | rfl | (unfold upS SCR; (repeat' split) <;> first | rfl | omega)
theorem q37_1 {σ : Sg} {a1 : Int} (hz : ∀ a i, a < 1000 → σ a i = 0) (h0 : 0 ≤ a1) : ∃ (kx b : Int) (s1 s2 : Sg), Dd 425 [(.inr (.inr (some 0))), (.inl a1), (.inr (.inr (some 726)))] σ (.inl (some (.inl kx)), s1) ∧ Dd 354 [(.inr (.inr (some 682))), (.inl a1)] s1 (.inl (some (.inl b)), s2) ∧ s2 682 0 = kx ∧ (kx = 0 → s2 726 0 = b) ∧ (∀ i, s1 SCR i = σ SCR i) ∧ s1 (SCR + 1) 0 = σ (SCR + 1) 0 ∧ s2 (SCR + 1) 0 = σ (SCR + 1) 0 := by
  have hA : Dd 425 [(.inr (.inr (some 0))), (.inl a1), (.inr (.inr (some 726)))] σ (.inl (some (.inl 1)), σ) := by
    refine b425 ?_
    have hD2 : Dd 209 [(.inr (.inr (some 0))), (.inl a1)] σ (.inr 0, σ) := by
      refine b209 ?_
      rw [show (σ 402 3) = 0 by (first | omega | (simp [upS, hz]; done) | (simp [upS, hz]; omega))]
      have hD1 : Dd 232 [(.inr (.inr (some 0))), (.inl a1), (.inl 0)] σ (.inr 0, σ) := by
        refine b232 ?_
        rw [if_pos (show (0 : Int) ≤ a1 by first | omega | (simp [upS, hz]; done) | (simp [upS, hz]; omega))]
        rw [if_pos (show (0 : Int) ≤ a1 by first | omega | (simp [upS, hz]; done) | (simp [upS, hz]; omega))]
        refine b232_9 ?_
        all_goals rfl
      refine Or.inr ⟨_, _, hD1, ?_⟩
      all_goals rfl
    exact Or.inr (⟨_, hD2, rfl⟩)
  have hB : Dd 354 [(.inr (.inr (some 682))), (.inl a1)] σ (.inl (some (.inl 0)), (upS σ 682 0 1)) := by
    refine b354 ?_
    have hD4 : Dd 340 [(.inr (.inr (some 682))), (.inl a1)] σ (.inl (some (.inl 0)), σ) := by
      refine b340 ?_
      rw [show (σ 682 40) = 0 by (first | omega | (simp [upS, hz]; done) | (simp [upS, hz]; omega))]
      have hD3 : Dd 246 [(.inl a1), (.inl 0)] σ (.inl (some (.inl 0)), σ) := by
        refine b246 ?_
        try rw [if_pos (show (0 : Int) ≤ a1 by first | omega | (simp [upS, hz]; done) | (simp [upS, hz]; omega))]
        try rw [if_neg (show ¬ (a1 < 0) by first | omega | (simp [upS, hz]; done) | (simp [upS, hz]; omega))]
        all_goals rfl
      refine ⟨_, _, hD3, ?_⟩
      clear hD3
      refine ⟨(show 0 = 0 ∨ 0 = 1 by first | omega | (simp [upS, hz]; done) | (simp [upS, hz]; omega)), ?_⟩
      all_goals rfl
    refine ⟨_, _, hD4, ?_⟩
    clear hD4
    try rw [if_pos (show (0 : Int) = 0 by first | omega | (simp [upS, hz]; done) | (simp [upS, hz]; omega))]
    refine b354_14 ?_
    have hD5 : Dd 245 [(.inr (.inr (some 682))), (.inl 1)] σ (.inl (some (.inl 0)), (upS σ 682 0 1)) := by
      refine b245 ?_
      try rw [if_neg (show ¬ ((1 : Int) = 0) by first | omega | (simp [upS, hz]; done) | (simp [upS, hz]; omega))]
      all_goals rfl
    refine ⟨_, _, hD5, ?_⟩
    clear hD5
    refine ⟨(show ¬ (0 = 0) → 0 ≤ a1 ∧ a1 < 5 by (first | (intros; first | omega | (simp [upS, hz]; done) | (simp [upS, hz]; omega)) | (intros; simp_all [upS, hz]; done) | (intros; simp_all [upS, hz]; omega))), ?_⟩
    try rw [if_pos (show (0 : Int) = 0 by first | omega | (simp [upS, hz]; done) | (simp [upS, hz]; omega))]
    all_goals rfl
  refine ⟨_, _, _, _, hA, hB, ?_, ?_, ?_, ?_, ?_⟩
  · (first | rfl | (simp [upS, SCR, hz]; done) | (simp [upS, SCR, hz]; omega))
  · first | (intro h9; omega) | (intro _; first | rfl | (simp [upS, SCR, hz]; done) | (simp [upS, SCR, hz]; omega))
  · intro i; first | rfl | (unfold upS SCR; (repeat' split) <;> first | rfl | omega)
  · first | rfl | (unfold upS SCR; (repeat' split) <;> first | rfl | omega)
  · first | rfl | (unfold upS SCR; (repeat' split) <;> first | rfl | omega)
theorem q38_0 {σ : Sg} {a1 : Int} (hz : ∀ a i, a < 1000 → σ a i = 0) (h0 : a1 < 0) : ∃ (kx b : Int) (s1 s2 : Sg), Dd 426 [(.inr (.inr (some 0))), (.inl a1), (.inr (.inr (some 726)))] σ (.inl (some (.inl kx)), s1) ∧ Dd 355 [(.inr (.inr (some 682))), (.inl a1)] s1 (.inl (some (.inl b)), s2) ∧ s2 682 0 = kx ∧ (kx = 0 → s2 726 0 = b) ∧ (∀ i, s1 SCR i = σ SCR i) ∧ s1 (SCR + 1) 0 = σ (SCR + 1) 0 ∧ s2 (SCR + 1) 0 = σ (SCR + 1) 0 := by
  have hA : Dd 426 [(.inr (.inr (some 0))), (.inl a1), (.inr (.inr (some 726)))] σ (.inl (some (.inl 1)), σ) := by
    refine b426 ?_
    have hD2 : Dd 210 [(.inr (.inr (some 0))), (.inl a1)] σ (.inr 0, σ) := by
      refine b210 ?_
      have hD1 : Dd 233 [(.inr (.inr (some 0))), (.inl a1)] σ (.inr 0, σ) := by
        refine b233 ?_
        rw [if_pos (show a1 < 0 by first | omega | (simp [upS, hz]; done) | (simp [upS, hz]; omega))]
        all_goals rfl
      refine Or.inr ⟨_, _, hD1, ?_⟩
      all_goals rfl
    exact Or.inr (⟨_, hD2, rfl⟩)
  have hB : Dd 355 [(.inr (.inr (some 682))), (.inl a1)] σ (.inl (some (.inl 0)), (upS σ 682 0 1)) := by
    refine b355 ?_
    try rw [if_neg (show ¬ ((0 : Int) ≤ a1) by first | omega | (simp [upS, hz]; done) | (simp [upS, hz]; omega))]
    refine b355_10 ?_
    have hD3 : Dd 245 [(.inr (.inr (some 682))), (.inl 1)] σ (.inl (some (.inl 0)), (upS σ 682 0 1)) := by
      refine b245 ?_
      try rw [if_neg (show ¬ ((1 : Int) = 0) by first | omega | (simp [upS, hz]; done) | (simp [upS, hz]; omega))]
      all_goals rfl
    refine ⟨_, _, hD3, ?_⟩
    clear hD3
    rw [if_pos (show (0 : Int) = 0 by first | omega | (simp [upS, hz]; done) | (simp [upS, hz]; omega))]
    all_goals rfl
  refine ⟨_, _, _, _, hA, hB, ?_, ?_, ?_, ?_, ?_⟩
  · (first | rfl | (simp [upS, SCR, hz]; done) | (simp [upS, SCR, hz]; omega))
  · first | (intro h9; omega) | (intro _; first | rfl | (simp [upS, SCR, hz]; done) | (simp [upS, SCR, hz]; omega))
  · intro i; first | rfl | (unfold upS SCR; (repeat' split) <;> first | rfl | omega)
  · first | rfl | (unfold upS SCR; (repeat' split) <;> first | rfl | omega)
  · first | rfl | (unfold upS SCR; (repeat' split) <;> first | rfl | omega)
theorem q38_1 {σ : Sg} {a1 : Int} (hz : ∀ a i, a < 1000 → σ a i = 0) (h0 : 0 ≤ a1) : ∃ (kx b : Int) (s1 s2 : Sg), Dd 426 [(.inr (.inr (some 0))), (.inl a1), (.inr (.inr (some 726)))] σ (.inl (some (.inl kx)), s1) ∧ Dd 355 [(.inr (.inr (some 682))), (.inl a1)] s1 (.inl (some (.inl b)), s2) ∧ s2 682 0 = kx ∧ (kx = 0 → s2 726 0 = b) ∧ (∀ i, s1 SCR i = σ SCR i) ∧ s1 (SCR + 1) 0 = σ (SCR + 1) 0 ∧ s2 (SCR + 1) 0 = σ (SCR + 1) 0 := by
  have hA : Dd 426 [(.inr (.inr (some 0))), (.inl a1), (.inr (.inr (some 726)))] σ (.inl (some (.inl 0)), (upS σ 726 0 (-1))) := by
    refine b426 ?_
    have hD4 : Dd 210 [(.inr (.inr (some 0))), (.inl a1)] σ (.inl (some (.inl (-1))), σ) := by
      refine b210 ?_
      have hD1 : Dd 233 [(.inr (.inr (some 0))), (.inl a1)] σ (.inl none, σ) := by
        refine b233 ?_
        rw [if_neg (show ¬ (a1 < 0) by first | omega | (simp [upS, hz]; done) | (simp [upS, hz]; omega))]
        all_goals rfl
      refine Or.inl ⟨_, hD1, ?_⟩
      clear hD1
      have hD2 : Dd 127 [(.inr (.inr (some 402)))] σ (.inl (some (.inr (.inr (some 403)))), σ) := by
        refine b127 ?_
        rw [if_neg (show ¬ ((0 : Int) < (σ 402 3)) by first | omega | (simp [upS, hz]; done) | (simp [upS, hz]; omega))]
        refine b127_36 ?_
        all_goals rfl
      refine ⟨_, _, hD2, (by decide +kernel), ?_⟩
      clear hD2
      have hD3 : Dd 147 [(.inr (.inr (some 403))), (.inl a1)] σ (.inl (some (.inl (-1))), σ) := by
        refine b147 (by decide +kernel) ?_
        refine ⟨(show (0 ≤ a1) → (a1 < (σ 403 1)) → 0 ≤ a1 ∧ a1 < ((cap 403) : Int) by (first | (intros; have e403 : (cap 403 : Int) = 16 := (by decide +kernel); first | omega | (simp [upS, hz]; done) | (simp [upS, hz]; omega)) | (intros; simp_all [upS, hz]; done) | (intros; simp_all [upS, hz]; omega))), ?_⟩
        try rw [if_pos (show (0 : Int) ≤ a1 by first | omega | (simp [upS, hz]; done) | (simp [upS, hz]; omega))]
        try rw [if_neg (show ¬ (a1 < (σ 403 1)) by first | omega | (simp [upS, hz]; done) | (simp [upS, hz]; omega))]
        all_goals rfl
      refine ⟨_, _, hD3, ?_⟩
      clear hD3
      all_goals rfl
    refine Or.inl ⟨_, _, hD4, ?_⟩
    clear hD4
    rw [(show (upS σ 726 ((0 : Int).toNat) (-1)) = (upS σ 726 0 (-1)) from by rw [show ((0 : Int).toNat) = 0 by (first | omega | (simp [upS, hz]; done) | (simp [upS, hz]; omega))])]
    all_goals rfl
  have hB : Dd 355 [(.inr (.inr (some 682))), (.inl a1)] (upS σ 726 0 (-1)) (.inl (some (.inl (-1))), (upS (upS σ 726 0 (-1)) 682 0 0)) := by
    refine b355 ?_
    try rw [if_pos (show (0 : Int) ≤ a1 by first | omega | (simp [upS, hz]; done) | (simp [upS, hz]; omega))]
    refine b355_10 ?_
    have hD5 : Dd 245 [(.inr (.inr (some 682))), (.inl 0)] (upS σ 726 0 (-1)) (.inl (some (.inl 1)), (upS (upS σ 726 0 (-1)) 682 0 0)) := by
      refine b245 ?_
      try rw [if_pos (show (0 : Int) = 0 by first | omega | (simp [upS, hz]; done) | (simp [upS, hz]; omega))]
      all_goals rfl
    refine ⟨_, _, hD5, ?_⟩
    clear hD5
    rw [if_neg (show ¬ ((1 : Int) = 0) by first | omega | (simp [upS, hz]; done) | (simp [upS, hz]; omega))]
    have hD6 : Dd 341 [(.inr (.inr (some 682)))] (upS (upS σ 726 0 (-1)) 682 0 0) (.inl (some (.inl 0)), (upS (upS σ 726 0 (-1)) 682 0 0)) := by
      refine b341 ?_
      refine ⟨(show ¬ (((upS (upS σ 726 0 (-1)) 682 0 0) 682 40) = 0) → -2147483648 ≤ (24 + ((upS (upS σ 726 0 (-1)) 682 0 0) 682 40)) ∧ (24 + ((upS (upS σ 726 0 (-1)) 682 0 0) 682 40)) ≤ 2147483647 by (first | (intros; first | omega | (simp [upS, hz]; done) | (simp [upS, hz]; omega)) | (intros; simp_all [upS, hz]; done) | (intros; simp_all [upS, hz]; omega))), ?_⟩
      refine ⟨(show ¬ (((upS (upS σ 726 0 (-1)) 682 0 0) 682 40) = 0) → -2147483648 ≤ ((24 + ((upS (upS σ 726 0 (-1)) 682 0 0) 682 40)) - 1) ∧ ((24 + ((upS (upS σ 726 0 (-1)) 682 0 0) 682 40)) - 1) ≤ 2147483647 by (first | (intros; first | omega | (simp [upS, hz]; done) | (simp [upS, hz]; omega)) | (intros; simp_all [upS, hz]; done) | (intros; simp_all [upS, hz]; omega))), ?_⟩
      refine ⟨(show ¬ (((upS (upS σ 726 0 (-1)) 682 0 0) 682 40) = 0) → 0 ≤ ((24 + ((upS (upS σ 726 0 (-1)) 682 0 0) 682 40)) - 1) ∧ ((24 + ((upS (upS σ 726 0 (-1)) 682 0 0) 682 40)) - 1) < 44 by (first | (intros; first | omega | (simp [upS, hz]; done) | (simp [upS, hz]; omega)) | (intros; simp_all [upS, hz]; done) | (intros; simp_all [upS, hz]; omega))), ?_⟩
      try rw [if_pos (show ((upS (upS σ 726 0 (-1)) 682 0 0) 682 40) = 0 by first | omega | (simp [upS, hz]; done) | (simp [upS, hz]; omega))]
      rw [show ((upS (upS σ 726 0 (-1)) 682 0 0) 682 39) = 0 by (first | omega | (simp [upS, hz]; done) | (simp [upS, hz]; omega))]
      all_goals rfl
    refine ⟨_, _, hD6, ?_⟩
    clear hD6
    rw [if_neg (show ¬ (a1 < 0) by first | omega | (simp [upS, hz]; done) | (simp [upS, hz]; omega))]
    all_goals rfl
  refine ⟨_, _, _, _, hA, hB, ?_, ?_, ?_, ?_, ?_⟩
  · (first | rfl | (simp [upS, SCR, hz]; done) | (simp [upS, SCR, hz]; omega))
  · first | (intro h9; omega) | (intro _; first | rfl | (simp [upS, SCR, hz]; done) | (simp [upS, SCR, hz]; omega))
  · intro i; first | rfl | (unfold upS SCR; (repeat' split) <;> first | rfl | omega)
  · first | rfl | (unfold upS SCR; (repeat' split) <;> first | rfl | omega)
  · first | rfl | (unfold upS SCR; (repeat' split) <;> first | rfl | omega)
theorem q39_0 {σ : Sg} {a1 : Int} (hz : ∀ a i, a < 1000 → σ a i = 0) (h0 : a1 < 0) : ∃ (kx b : Int) (s1 s2 : Sg), Dd 427 [(.inr (.inr (some 0))), (.inl a1), (.inr (.inr (some 726)))] σ (.inl (some (.inl kx)), s1) ∧ Dd 357 [(.inr (.inr (some 682))), (.inl a1)] s1 (.inl (some (.inl b)), s2) ∧ s2 682 0 = kx ∧ (kx = 0 → s2 726 0 = b) ∧ (∀ i, s1 SCR i = σ SCR i) ∧ s1 (SCR + 1) 0 = σ (SCR + 1) 0 ∧ s2 (SCR + 1) 0 = σ (SCR + 1) 0 := by
  have hA : Dd 427 [(.inr (.inr (some 0))), (.inl a1), (.inr (.inr (some 726)))] σ (.inl (some (.inl 1)), σ) := by
    refine b427 ?_
    have hD2 : Dd 211 [(.inr (.inr (some 0))), (.inl a1)] σ (.inr 0, σ) := by
      refine b211 ?_
      rw [show (σ 402 3) = 0 by (first | omega | (simp [upS, hz]; done) | (simp [upS, hz]; omega))]
      have hD1 : Dd 232 [(.inr (.inr (some 0))), (.inl a1), (.inl 0)] σ (.inr 0, σ) := by
        refine b232 ?_
        rw [if_neg (show ¬ ((0 : Int) ≤ a1) by first | omega | (simp [upS, hz]; done) | (simp [upS, hz]; omega))]
        refine b232_9 ?_
        all_goals rfl
      refine Or.inr ⟨_, _, hD1, ?_⟩
      all_goals rfl
    exact Or.inr (⟨_, hD2, rfl⟩)
  have hB : Dd 357 [(.inr (.inr (some 682))), (.inl a1)] σ (.inl (some (.inl 0)), (upS σ 682 0 1)) := by
    refine b357 ?_
    have hD4 : Dd 340 [(.inr (.inr (some 682))), (.inl a1)] σ (.inl (some (.inl 0)), σ) := by
      refine b340 ?_
      rw [show (σ 682 40) = 0 by (first | omega | (simp [upS, hz]; done) | (simp [upS, hz]; omega))]
      have hD3 : Dd 246 [(.inl a1), (.inl 0)] σ (.inl (some (.inl 0)), σ) := by
        refine b246 ?_
        try rw [if_neg (show ¬ ((0 : Int) ≤ a1) by first | omega | (simp [upS, hz]; done) | (simp [upS, hz]; omega))]
        all_goals rfl
      refine ⟨_, _, hD3, ?_⟩
      clear hD3
      refine ⟨(show 0 = 0 ∨ 0 = 1 by first | omega | (simp [upS, hz]; done) | (simp [upS, hz]; omega)), ?_⟩
      all_goals rfl
    refine ⟨_, _, hD4, ?_⟩
    clear hD4
    try rw [if_pos (show (0 : Int) = 0 by first | omega | (simp [upS, hz]; done) | (simp [upS, hz]; omega))]
    refine b357_14 ?_
    have hD5 : Dd 245 [(.inr (.inr (some 682))), (.inl 1)] σ (.inl (some (.inl 0)), (upS σ 682 0 1)) := by
      refine b245 ?_
      try rw [if_neg (show ¬ ((1 : Int) = 0) by first | omega | (simp [upS, hz]; done) | (simp [upS, hz]; omega))]
      all_goals rfl
    refine ⟨_, _, hD5, ?_⟩
    clear hD5
    rw [if_pos (show (0 : Int) = 0 by first | omega | (simp [upS, hz]; done) | (simp [upS, hz]; omega))]
    all_goals rfl
  refine ⟨_, _, _, _, hA, hB, ?_, ?_, ?_, ?_, ?_⟩
  · (first | rfl | (simp [upS, SCR, hz]; done) | (simp [upS, SCR, hz]; omega))
  · first | (intro h9; omega) | (intro _; first | rfl | (simp [upS, SCR, hz]; done) | (simp [upS, SCR, hz]; omega))
  · intro i; first | rfl | (unfold upS SCR; (repeat' split) <;> first | rfl | omega)
  · first | rfl | (unfold upS SCR; (repeat' split) <;> first | rfl | omega)
  · first | rfl | (unfold upS SCR; (repeat' split) <;> first | rfl | omega)
theorem q39_1 {σ : Sg} {a1 : Int} (hz : ∀ a i, a < 1000 → σ a i = 0) (h0 : 0 ≤ a1) : ∃ (kx b : Int) (s1 s2 : Sg), Dd 427 [(.inr (.inr (some 0))), (.inl a1), (.inr (.inr (some 726)))] σ (.inl (some (.inl kx)), s1) ∧ Dd 357 [(.inr (.inr (some 682))), (.inl a1)] s1 (.inl (some (.inl b)), s2) ∧ s2 682 0 = kx ∧ (kx = 0 → s2 726 0 = b) ∧ (∀ i, s1 SCR i = σ SCR i) ∧ s1 (SCR + 1) 0 = σ (SCR + 1) 0 ∧ s2 (SCR + 1) 0 = σ (SCR + 1) 0 := by
  have hA : Dd 427 [(.inr (.inr (some 0))), (.inl a1), (.inr (.inr (some 726)))] σ (.inl (some (.inl 1)), σ) := by
    refine b427 ?_
    have hD2 : Dd 211 [(.inr (.inr (some 0))), (.inl a1)] σ (.inr 0, σ) := by
      refine b211 ?_
      rw [show (σ 402 3) = 0 by (first | omega | (simp [upS, hz]; done) | (simp [upS, hz]; omega))]
      have hD1 : Dd 232 [(.inr (.inr (some 0))), (.inl a1), (.inl 0)] σ (.inr 0, σ) := by
        refine b232 ?_
        rw [if_pos (show (0 : Int) ≤ a1 by first | omega | (simp [upS, hz]; done) | (simp [upS, hz]; omega))]
        rw [if_pos (show (0 : Int) ≤ a1 by first | omega | (simp [upS, hz]; done) | (simp [upS, hz]; omega))]
        refine b232_9 ?_
        all_goals rfl
      refine Or.inr ⟨_, _, hD1, ?_⟩
      all_goals rfl
    exact Or.inr (⟨_, hD2, rfl⟩)
  have hB : Dd 357 [(.inr (.inr (some 682))), (.inl a1)] σ (.inl (some (.inl 0)), (upS σ 682 0 1)) := by
    refine b357 ?_
    have hD4 : Dd 340 [(.inr (.inr (some 682))), (.inl a1)] σ (.inl (some (.inl 0)), σ) := by
      refine b340 ?_
      rw [show (σ 682 40) = 0 by (first | omega | (simp [upS, hz]; done) | (simp [upS, hz]; omega))]
      have hD3 : Dd 246 [(.inl a1), (.inl 0)] σ (.inl (some (.inl 0)), σ) := by
        refine b246 ?_
        try rw [if_pos (show (0 : Int) ≤ a1 by first | omega | (simp [upS, hz]; done) | (simp [upS, hz]; omega))]
        try rw [if_neg (show ¬ (a1 < 0) by first | omega | (simp [upS, hz]; done) | (simp [upS, hz]; omega))]
        all_goals rfl
      refine ⟨_, _, hD3, ?_⟩
      clear hD3
      refine ⟨(show 0 = 0 ∨ 0 = 1 by first | omega | (simp [upS, hz]; done) | (simp [upS, hz]; omega)), ?_⟩
      all_goals rfl
    refine ⟨_, _, hD4, ?_⟩
    clear hD4
    try rw [if_pos (show (0 : Int) = 0 by first | omega | (simp [upS, hz]; done) | (simp [upS, hz]; omega))]
    refine b357_14 ?_
    have hD5 : Dd 245 [(.inr (.inr (some 682))), (.inl 1)] σ (.inl (some (.inl 0)), (upS σ 682 0 1)) := by
      refine b245 ?_
      try rw [if_neg (show ¬ ((1 : Int) = 0) by first | omega | (simp [upS, hz]; done) | (simp [upS, hz]; omega))]
      all_goals rfl
    refine ⟨_, _, hD5, ?_⟩
    clear hD5
    rw [if_pos (show (0 : Int) = 0 by first | omega | (simp [upS, hz]; done) | (simp [upS, hz]; omega))]
    all_goals rfl
  refine ⟨_, _, _, _, hA, hB, ?_, ?_, ?_, ?_, ?_⟩
  · (first | rfl | (simp [upS, SCR, hz]; done) | (simp [upS, SCR, hz]; omega))
  · first | (intro h9; omega) | (intro _; first | rfl | (simp [upS, SCR, hz]; done) | (simp [upS, SCR, hz]; omega))
  · intro i; first | rfl | (unfold upS SCR; (repeat' split) <;> first | rfl | omega)
  · first | rfl | (unfold upS SCR; (repeat' split) <;> first | rfl | omega)
  · first | rfl | (unfold upS SCR; (repeat' split) <;> first | rfl | omega)
theorem q40_0 {σ : Sg} (hz : ∀ a i, a < 1000 → σ a i = 0)  : ∃ (kx b : Int) (s1 s2 : Sg), Dd 428 [(.inr (.inr (some 0))), (.inr (.inr (some 726)))] σ (.inl (some (.inl kx)), s1) ∧ Dd 361 [(.inr (.inr (some 682)))] s1 (.inl (some (.inl b)), s2) ∧ s2 682 0 = kx ∧ (kx = 0 → s2 726 0 = b) ∧ (∀ i, s1 SCR i = σ SCR i) ∧ s1 (SCR + 1) 0 = σ (SCR + 1) 0 ∧ s2 (SCR + 1) 0 = σ (SCR + 1) 0 := by
  have hA : Dd 428 [(.inr (.inr (some 0))), (.inr (.inr (some 726)))] σ (.inl (some (.inl 0)), (upS (upS (upS (upS (upS (upS (upS (upS (upS (upS σ 606 1 0) 608 1 0) 610 1 0) (606 + 1) 0 0) 606 1 1) (608 + 1) 0 (-1)) 608 1 1) (610 + 1) 0 (-1)) 610 1 1) 726 0 1)) := by
    refine b428 ?_
    have hD16 : Dd 212 [(.inr (.inr (some 0)))] σ (.inl (some (.inl 1)), (upS (upS (upS (upS (upS (upS (upS (upS (upS σ 606 1 0) 608 1 0) 610 1 0) (606 + 1) 0 0) 606 1 1) (608 + 1) 0 (-1)) 608 1 1) (610 + 1) 0 (-1)) 610 1 1)) := by
      refine b212 ?_
      rw [if_neg (show ¬ ((4 : Int) < (σ 402 3)) by first | omega | (simp [upS, hz]; done) | (simp [upS, hz]; omega))]
      have hD14 : Dd 165 [(.inr (.inr (some 473))), (.inr (.inr (some 402)))] σ (.inl (some (.inl 1)), (upS (upS (upS (upS (upS (upS (upS (upS (upS σ 606 1 0) 608 1 0) 610 1 0) (606 + 1) 0 0) 606 1 1) (608 + 1) 0 (-1)) 608 1 1) (610 + 1) 0 (-1)) 610 1 1)) := by
        refine b165 ?_
        have hD1 : Dd 152 [(.inr (.inr (some 606)))] σ (.inl none, (upS σ 606 1 0)) := by
          refine b152 (by decide +kernel) ?_
          all_goals rfl
        refine ⟨_, hD1, ?_⟩
        clear hD1
        have hD2 : Dd 152 [(.inr (.inr (some 608)))] (upS σ 606 1 0) (.inl none, (upS (upS σ 606 1 0) 608 1 0)) := by
          refine b152 (by decide +kernel) ?_
          all_goals rfl
        refine ⟨_, hD2, ?_⟩
        clear hD2
        have hD3 : Dd 152 [(.inr (.inr (some 610)))] (upS (upS σ 606 1 0) 608 1 0) (.inl none, (upS (upS (upS σ 606 1 0) 608 1 0) 610 1 0)) := by
          refine b152 (by decide +kernel) ?_
          all_goals rfl
        refine ⟨_, hD3, ?_⟩
        clear hD3
        rw [show ((upS (upS (upS σ 606 1 0) 608 1 0) 610 1 0) 402 3) = 0 by (first | omega | (simp [upS, hz]; done) | (simp [upS, hz]; omega))]
        have hD4 : Dd 166 [(.inl 0)] (upS (upS (upS σ 606 1 0) 608 1 0) 610 1 0) (.inl (some (.inl 0)), (upS (upS (upS σ 606 1 0) 608 1 0) 610 1 0)) := by
          refine b166 ?_
          refine b166_4 ?_
          rw [if_neg (show ¬ ((0 : Int) < 0) by first | omega | (simp [upS, hz]; done) | (simp [upS, hz]; omega))]
          all_goals rfl
        refine ⟨_, _, hD4, ?_⟩
        clear hD4
        have hD9 : Dd 168 [(.inr (.inr (some 473))), (.inl 0), (.inl (-1)), (.inl (-1))] (upS (upS (upS σ 606 1 0) 608 1 0) 610 1 0) (.inl none, (upS (upS (upS (upS (upS (upS (upS (upS (upS σ 606 1 0) 608 1 0) 610 1 0) (606 + 1) 0 0) 606 1 1) (608 + 1) 0 (-1)) 608 1 1) (610 + 1) 0 (-1)) 610 1 1)) := by
          refine b168 ?_
          have hD5 : Dd 149 [(.inr (.inr (some 606))), (.inl 0)] (upS (upS (upS σ 606 1 0) 608 1 0) 610 1 0) (.inl none, (upS (upS (upS (upS (upS σ 606 1 0) 608 1 0) 610 1 0) (606 + 1) 0 0) 606 1 1)) := by
            refine b149 (by decide +kernel) ?_
            refine ⟨(show -2147483648 ≤ ((cap 606) : Int) ∧ ((cap 606) : Int) ≤ 2147483647 by have e606 : (cap 606 : Int) = 24 := (by decide +kernel); first | omega | (simp [upS, hz]; done) | (simp [upS, hz]; omega)), ?_⟩
            rw [if_pos (show ((upS (upS (upS σ 606 1 0) 608 1 0) 610 1 0) 606 1) < ((cap 606) : Int) by have e606 : (cap 606 : Int) = 24 := (by decide +kernel); first | omega | (simp [upS, hz]; done) | (simp [upS, hz]; omega))]
            refine ⟨(show 0 ≤ ((upS (upS (upS σ 606 1 0) 608 1 0) 610 1 0) 606 1) ∧ ((upS (upS (upS σ 606 1 0) 608 1 0) 610 1 0) 606 1) < ((cap 606) : Int) by have e606 : (cap 606 : Int) = 24 := (by decide +kernel); first | omega | (simp [upS, hz]; done) | (simp [upS, hz]; omega)), ?_⟩
            refine ⟨(show -2147483648 ≤ (((upS (upS (upS (upS σ 606 1 0) 608 1 0) 610 1 0) (606 + 1) ((((upS (upS (upS σ 606 1 0) 608 1 0) 610 1 0) 606 1)).toNat) 0) 606 1) + 1) ∧ (((upS (upS (upS (upS σ 606 1 0) 608 1 0) 610 1 0) (606 + 1) ((((upS (upS (upS σ 606 1 0) 608 1 0) 610 1 0) 606 1)).toNat) 0) 606 1) + 1) ≤ 2147483647 by first | omega | (simp [upS, hz]; done) | (simp [upS, hz]; omega)), ?_⟩
            rw [(show (upS (upS (upS (upS (upS σ 606 1 0) 608 1 0) 610 1 0) (606 + 1) ((((upS (upS (upS σ 606 1 0) 608 1 0) 610 1 0) 606 1)).toNat) 0) 606 1 (((upS (upS (upS (upS σ 606 1 0) 608 1 0) 610 1 0) (606 + 1) ((((upS (upS (upS σ 606 1 0) 608 1 0) 610 1 0) 606 1)).toNat) 0) 606 1) + 1)) = (upS (upS (upS (upS (upS σ 606 1 0) 608 1 0) 610 1 0) (606 + 1) 0 0) 606 1 1) from by rw [show (((upS (upS (upS (upS σ 606 1 0) 608 1 0) 610 1 0) (606 + 1) ((((upS (upS (upS σ 606 1 0) 608 1 0) 610 1 0) 606 1)).toNat) 0) 606 1) + 1) = 1 by (first | omega | (simp [upS, hz]; done) | (simp [upS, hz]; omega)), show ((((upS (upS (upS σ 606 1 0) 608 1 0) 610 1 0) 606 1)).toNat) = 0 by (first | omega | (simp [upS, hz]; done) | (simp [upS, hz]; omega))])]
            all_goals rfl
          refine ⟨_, hD5, ?_⟩
          clear hD5
          have hD6 : Dd 149 [(.inr (.inr (some 608))), (.inl (-1))] (upS (upS (upS (upS (upS σ 606 1 0) 608 1 0) 610 1 0) (606 + 1) 0 0) 606 1 1) (.inl none, (upS (upS (upS (upS (upS (upS (upS σ 606 1 0) 608 1 0) 610 1 0) (606 + 1) 0 0) 606 1 1) (608 + 1) 0 (-1)) 608 1 1)) := by
            refine b149 (by decide +kernel) ?_
            refine ⟨(show -2147483648 ≤ ((cap 608) : Int) ∧ ((cap 608) : Int) ≤ 2147483647 by have e608 : (cap 608 : Int) = 24 := (by decide +kernel); first | omega | (simp [upS, hz]; done) | (simp [upS, hz]; omega)), ?_⟩
            rw [if_pos (show ((upS (upS (upS (upS (upS σ 606 1 0) 608 1 0) 610 1 0) (606 + 1) 0 0) 606 1 1) 608 1) < ((cap 608) : Int) by have e608 : (cap 608 : Int) = 24 := (by decide +kernel); first | omega | (simp [upS, hz]; done) | (simp [upS, hz]; omega))]
            refine ⟨(show 0 ≤ ((upS (upS (upS (upS (upS σ 606 1 0) 608 1 0) 610 1 0) (606 + 1) 0 0) 606 1 1) 608 1) ∧ ((upS (upS (upS (upS (upS σ 606 1 0) 608 1 0) 610 1 0) (606 + 1) 0 0) 606 1 1) 608 1) < ((cap 608) : Int) by have e608 : (cap 608 : Int) = 24 := (by decide +kernel); first | omega | (simp [upS, hz]; done) | (simp [upS, hz]; omega)), ?_⟩
            refine ⟨(show -2147483648 ≤ (((upS (upS (upS (upS (upS (upS σ 606 1 0) 608 1 0) 610 1 0) (606 + 1) 0 0) 606 1 1) (608 + 1) ((((upS (upS (upS (upS (upS σ 606 1 0) 608 1 0) 610 1 0) (606 + 1) 0 0) 606 1 1) 608 1)).toNat) (-1)) 608 1) + 1) ∧ (((upS (upS (upS (upS (upS (upS σ 606 1 0) 608 1 0) 610 1 0) (606 + 1) 0 0) 606 1 1) (608 + 1) ((((upS (upS (upS (upS (upS σ 606 1 0) 608 1 0) 610 1 0) (606 + 1) 0 0) 606 1 1) 608 1)).toNat) (-1)) 608 1) + 1) ≤ 2147483647 by first | omega | (simp [upS, hz]; done) | (simp [upS, hz]; omega)), ?_⟩
            rw [(show (upS (upS (upS (upS (upS (upS (upS σ 606 1 0) 608 1 0) 610 1 0) (606 + 1) 0 0) 606 1 1) (608 + 1) ((((upS (upS (upS (upS (upS σ 606 1 0) 608 1 0) 610 1 0) (606 + 1) 0 0) 606 1 1) 608 1)).toNat) (-1)) 608 1 (((upS (upS (upS (upS (upS (upS σ 606 1 0) 608 1 0) 610 1 0) (606 + 1) 0 0) 606 1 1) (608 + 1) ((((upS (upS (upS (upS (upS σ 606 1 0) 608 1 0) 610 1 0) (606 + 1) 0 0) 606 1 1) 608 1)).toNat) (-1)) 608 1) + 1)) = (upS (upS (upS (upS (upS (upS (upS σ 606 1 0) 608 1 0) 610 1 0) (606 + 1) 0 0) 606 1 1) (608 + 1) 0 (-1)) 608 1 1) from by rw [show (((upS (upS (upS (upS (upS (upS σ 606 1 0) 608 1 0) 610 1 0) (606 + 1) 0 0) 606 1 1) (608 + 1) ((((upS (upS (upS (upS (upS σ 606 1 0) 608 1 0) 610 1 0) (606 + 1) 0 0) 606 1 1) 608 1)).toNat) (-1)) 608 1) + 1) = 1 by (first | omega | (simp [upS, hz]; done) | (simp [upS, hz]; omega)), show ((((upS (upS (upS (upS (upS σ 606 1 0) 608 1 0) 610 1 0) (606 + 1) 0 0) 606 1 1) 608 1)).toNat) = 0 by (first | omega | (simp [upS, hz]; done) | (simp [upS, hz]; omega))])]
            all_goals rfl
          obtain ⟨S7, E7⟩ : ∃ s : Sg, s = (upS (upS (upS (upS (upS (upS (upS σ 606 1 0) 608 1 0) 610 1 0) (606 + 1) 0 0) 606 1 1) (608 + 1) 0 (-1)) 608 1 1) := ⟨_, rfl⟩
          rw [← E7] at hD6
          refine ⟨_, hD6, ?_⟩
          clear hD6
          have hD8 : Dd 149 [(.inr (.inr (some 610))), (.inl (-1))] S7 (.inl none, (upS (upS S7 (610 + 1) 0 (-1)) 610 1 1)) := by
            refine b149 (by decide +kernel) ?_
            refine ⟨(show -2147483648 ≤ ((cap 610) : Int) ∧ ((cap 610) : Int) ≤ 2147483647 by have e610 : (cap 610 : Int) = 24 := (by decide +kernel); first | omega | (simp [upS, hz, E7]; done) | (simp [upS, hz, E7]; omega)), ?_⟩
            rw [if_pos (show (S7 610 1) < ((cap 610) : Int) by have e610 : (cap 610 : Int) = 24 := (by decide +kernel); first | omega | (simp [upS, hz, E7]; done) | (simp [upS, hz, E7]; omega))]
            refine ⟨(show 0 ≤ (S7 610 1) ∧ (S7 610 1) < ((cap 610) : Int) by have e610 : (cap 610 : Int) = 24 := (by decide +kernel); first | omega | (simp [upS, hz, E7]; done) | (simp [upS, hz, E7]; omega)), ?_⟩
            refine ⟨(show -2147483648 ≤ (((upS S7 (610 + 1) (((S7 610 1)).toNat) (-1)) 610 1) + 1) ∧ (((upS S7 (610 + 1) (((S7 610 1)).toNat) (-1)) 610 1) + 1) ≤ 2147483647 by first | omega | (simp [upS, hz, E7]; done) | (simp [upS, hz, E7]; omega)), ?_⟩
            rw [(show (upS (upS S7 (610 + 1) (((S7 610 1)).toNat) (-1)) 610 1 (((upS S7 (610 + 1) (((S7 610 1)).toNat) (-1)) 610 1) + 1)) = (upS (upS S7 (610 + 1) 0 (-1)) 610 1 1) from by rw [show (((upS S7 (610 + 1) (((S7 610 1)).toNat) (-1)) 610 1) + 1) = 1 by (first | omega | (simp [upS, hz, E7]; done) | (simp [upS, hz, E7]; omega)), show (((S7 610 1)).toNat) = 0 by (first | omega | (simp [upS, hz, E7]; done) | (simp [upS, hz, E7]; omega))])]
            all_goals rfl
          refine ⟨_, hD8, ?_⟩
          clear hD8
          all_goals (first | rfl | (simp only [E7]))
        obtain ⟨S10, E10⟩ : ∃ s : Sg, s = (upS (upS (upS (upS (upS (upS (upS (upS (upS σ 606 1 0) 608 1 0) 610 1 0) (606 + 1) 0 0) 606 1 1) (608 + 1) 0 (-1)) 608 1 1) (610 + 1) 0 (-1)) 610 1 1) := ⟨_, rfl⟩
        rw [← E10] at hD9
        refine ⟨_, hD9, ?_⟩
        clear hD9
        refine b165_36 ?_
        rw [if_pos (show (0 : Int) < 24 by first | omega | (simp [upS, hz, E10]; done) | (simp [upS, hz, E10]; omega))]
        have hD11 : Dd 146 [(.inr (.inr (some 606)))] S10 (.inl (some (.inl 1)), S10) := by
          refine b146 (by decide +kernel) ?_
          rw [show (S10 606 1) = 1 by (first | omega | (simp [upS, hz, E10]; done) | (simp [upS, hz, E10]; omega))]
          all_goals rfl
        refine ⟨_, _, hD11, ?_⟩
        clear hD11
        rw [if_pos (show (0 : Int) < 1 by first | omega | (simp [upS, hz, E10]; done) | (simp [upS, hz, E10]; omega))]
        refine b165_55 ?_
        refine ⟨(show (-2147483648 : Int) ≤ (0 + 1) ∧ ((0 + 1) : Int) ≤ 2147483647 by first | omega | (simp [upS, hz, E10]; done) | (simp [upS, hz, E10]; omega)), ?_⟩
        rw [if_neg (show ¬ (((0 + 1) : Int) < (S10 402 3)) by first | omega | (simp [upS, hz, E10]; done) | (simp [upS, hz, E10]; omega))]
        refine ⟨(show (-2147483648 : Int) ≤ (0 + 1) ∧ ((0 + 1) : Int) ≤ 2147483647 by first | omega | (simp [upS, hz, E10]; done) | (simp [upS, hz, E10]; omega)), ?_⟩
        rw [show ((0 + 1) : Int) = 1 by (first | omega | (simp [upS, hz, E10]; done) | (simp [upS, hz, E10]; omega))]
        refine b165_36 ?_
        rw [if_pos (show (1 : Int) < 24 by first | omega | (simp [upS, hz, E10]; done) | (simp [upS, hz, E10]; omega))]
        have hD12 : Dd 146 [(.inr (.inr (some 606)))] S10 (.inl (some (.inl 1)), S10) := by
          refine b146 (by decide +kernel) ?_
          rw [show (S10 606 1) = 1 by (first | omega | (simp [upS, hz, E10]; done) | (simp [upS, hz, E10]; omega))]
          all_goals rfl
        refine ⟨_, _, hD12, ?_⟩
        clear hD12
        rw [if_neg (show ¬ ((1 : Int) < 1) by first | omega | (simp [upS, hz, E10]; done) | (simp [upS, hz, E10]; omega))]
        refine b165_152 ?_
        have hD13 : Dd 146 [(.inr (.inr (some 606)))] S10 (.inl (some (.inl 1)), S10) := by
          refine b146 (by decide +kernel) ?_
          rw [show (S10 606 1) = 1 by (first | omega | (simp [upS, hz, E10]; done) | (simp [upS, hz, E10]; omega))]
          all_goals rfl
        refine ⟨_, _, hD13, ?_⟩
        clear hD13
        all_goals (first | rfl | (simp only [E10]))
      obtain ⟨S15, E15⟩ : ∃ s : Sg, s = (upS (upS (upS (upS (upS (upS (upS (upS (upS σ 606 1 0) 608 1 0) 610 1 0) (606 + 1) 0 0) 606 1 1) (608 + 1) 0 (-1)) 608 1 1) (610 + 1) 0 (-1)) 610 1 1) := ⟨_, rfl⟩
      rw [← E15] at hD14
      refine ⟨_, _, hD14, ?_⟩
      clear hD14
      all_goals (first | rfl | (simp only [E15]))
    obtain ⟨S17, E17⟩ : ∃ s : Sg, s = (upS (upS (upS (upS (upS (upS (upS (upS (upS σ 606 1 0) 608 1 0) 610 1 0) (606 + 1) 0 0) 606 1 1) (608 + 1) 0 (-1)) 608 1 1) (610 + 1) 0 (-1)) 610 1 1) := ⟨_, rfl⟩
    rw [← E17] at hD16
    refine Or.inl ⟨_, _, hD16, ?_⟩
    clear hD16
    rw [(show (upS S17 726 ((0 : Int).toNat) 1) = (upS S17 726 0 1) from by rw [show ((0 : Int).toNat) = 0 by (first | omega | (simp [upS, hz, E17]; done) | (simp [upS, hz, E17]; omega))])]
    all_goals (first | rfl | (simp only [E17]))
  obtain ⟨S900, E900⟩ : ∃ s : Sg, s = (upS (upS (upS (upS (upS (upS (upS (upS (upS (upS σ 606 1 0) 608 1 0) 610 1 0) (606 + 1) 0 0) 606 1 1) (608 + 1) 0 (-1)) 608 1 1) (610 + 1) 0 (-1)) 610 1 1) 726 0 1) := ⟨_, rfl⟩
  rw [← E900] at hA
  have hB : Dd 361 [(.inr (.inr (some 682)))] S900 (.inl (some (.inl 1)), (upS (upS S900 682 0 0) 712 0 0)) := by
    refine b361 ?_
    try rw [if_neg (show ¬ ((4 : Int) < (S900 682 40)) by first | omega | (simp [upS, hz, E900]; done) | (simp [upS, hz, E900]; omega))]
    refine b361_14 ?_
    have hD18 : Dd 245 [(.inr (.inr (some 682))), (.inl 0)] S900 (.inl (some (.inl 1)), (upS S900 682 0 0)) := by
      refine b245 ?_
      try rw [if_pos (show (0 : Int) = 0 by first | omega | (simp [upS, hz, E900]; done) | (simp [upS, hz, E900]; omega))]
      all_goals rfl
    refine ⟨_, _, hD18, ?_⟩
    clear hD18
    rw [if_neg (show ¬ ((1 : Int) = 0) by first | omega | (simp [upS, hz, E900]; done) | (simp [upS, hz, E900]; omega))]
    have hD19 : Dd 359 [(.inr (.inr (some 682))), (.inl 0)] (upS S900 682 0 0) (.inl none, (upS S900 682 0 0)) := by
      refine b359 ?_
      refine b359_4 ?_
      rw [if_neg (show ¬ ((0 : Int) < 0) by first | omega | (simp [upS, hz, E900]; done) | (simp [upS, hz, E900]; omega))]
      refine b359_35 ?_
      rw [if_neg (show ¬ ((0 : Int) < ((upS S900 682 0 0) 682 40)) by first | omega | (simp [upS, hz, E900]; done) | (simp [upS, hz, E900]; omega))]
      refine ⟨(show (-2147483648 : Int) ≤ (0 - 1) ∧ ((0 - 1) : Int) ≤ 2147483647 by first | omega | (simp [upS, hz, E900]; done) | (simp [upS, hz, E900]; omega)), ?_⟩
      rw [show ((0 - 1) : Int) = (-1) by (first | omega | (simp [upS, hz, E900]; done) | (simp [upS, hz, E900]; omega))]
      refine b359_72 ?_
      rw [if_neg (show ¬ ((0 : Int) ≤ (-1)) by first | omega | (simp [upS, hz, E900]; done) | (simp [upS, hz, E900]; omega))]
      all_goals rfl
    refine ⟨_, hD19, ?_⟩
    clear hD19
    have hD20 : Dd 360 [(.inr (.inr (some 682)))] (upS S900 682 0 0) (.inl (some (.inl 0)), (upS S900 682 0 0)) := by
      refine b360 ?_
      refine b360_4 ?_
      rw [if_neg (show ¬ ((0 : Int) < ((upS S900 682 0 0) 682 40)) by first | omega | (simp [upS, hz, E900]; done) | (simp [upS, hz, E900]; omega))]
      all_goals rfl
    refine ⟨_, _, hD20, ?_⟩
    clear hD20
    rw [(show (upS (upS S900 682 0 0) 712 ((0 : Int).toNat) 0) = (upS (upS S900 682 0 0) 712 0 0) from by rw [show ((0 : Int).toNat) = 0 by (first | omega | (simp [upS, hz, E900]; done) | (simp [upS, hz, E900]; omega))])]
    refine b361_41 ?_
    rw [if_pos (show (0 : Int) < 1 by first | omega | (simp [upS, hz, E900]; done) | (simp [upS, hz, E900]; omega))]
    refine b361_48 ?_
    refine ⟨(show (-2147483648 : Int) ≤ (0 + 1) ∧ ((0 + 1) : Int) ≤ 2147483647 by first | omega | (simp [upS, hz, E900]; done) | (simp [upS, hz, E900]; omega)), ?_⟩
    rw [if_neg (show ¬ (((0 + 1) : Int) < ((upS (upS S900 682 0 0) 712 0 0) 682 40)) by first | omega | (simp [upS, hz, E900]; done) | (simp [upS, hz, E900]; omega))]
    refine ⟨(show (-2147483648 : Int) ≤ (0 + 1) ∧ ((0 + 1) : Int) ≤ 2147483647 by first | omega | (simp [upS, hz, E900]; done) | (simp [upS, hz, E900]; omega)), ?_⟩
    rw [show ((0 + 1) : Int) = 1 by (first | omega | (simp [upS, hz, E900]; done) | (simp [upS, hz, E900]; omega))]
    refine b361_41 ?_
    rw [if_neg (show ¬ ((1 : Int) < 1) by first | omega | (simp [upS, hz, E900]; done) | (simp [upS, hz, E900]; omega))]
    all_goals rfl
  refine ⟨_, _, _, _, hA, hB, ?_, ?_, ?_, ?_, ?_⟩
  all_goals subst E900
  · (first | rfl | (simp [upS, SCR, hz]; done) | (simp [upS, SCR, hz]; omega))
  · first | (intro h9; omega) | (intro _; first | rfl | (simp [upS, SCR, hz]; done) | (simp [upS, SCR, hz]; omega))
  · intro i; first | rfl | (unfold upS SCR; (repeat' split) <;> first | rfl | omega)
  · first | rfl | (unfold upS SCR; (repeat' split) <;> first | rfl | omega)
  · first | rfl | (unfold upS SCR; (repeat' split) <;> first | rfl | omega)
theorem q41_0 {σ : Sg} {a1 : Int} (hz : ∀ a i, a < 1000 → σ a i = 0) (h0 : a1 < 0) : ∃ (kx b : Int) (s1 s2 : Sg), Dd 429 [(.inr (.inr (some 0))), (.inl a1), (.inr (.inr (some 726)))] σ (.inl (some (.inl kx)), s1) ∧ Dd 366 [(.inr (.inr (some 682))), (.inl a1)] s1 (.inl (some (.inl b)), s2) ∧ s2 682 0 = kx ∧ (kx = 0 → s2 726 0 = b) ∧ (∀ i, s1 SCR i = σ SCR i) ∧ s1 (SCR + 1) 0 = σ (SCR + 1) 0 ∧ s2 (SCR + 1) 0 = σ (SCR + 1) 0 := by
  have hA : Dd 429 [(.inr (.inr (some 0))), (.inl a1), (.inr (.inr (some 726)))] σ (.inl (some (.inl 1)), σ) := by
    refine b429 ?_
    have hD4 : Dd 213 [(.inr (.inr (some 0))), (.inl a1)] σ (.inr 0, σ) := by
      refine b213 ?_
      have hD1 : Dd 127 [(.inr (.inr (some 402)))] σ (.inl (some (.inr (.inr (some 403)))), σ) := by
        refine b127 ?_
        rw [if_neg (show ¬ ((0 : Int) < (σ 402 3)) by first | omega | (simp [upS, hz]; done) | (simp [upS, hz]; omega))]
        refine b127_36 ?_
        all_goals rfl
      refine ⟨_, _, hD1, (by decide +kernel), ?_⟩
      clear hD1
      have hD2 : Dd 146 [(.inr (.inr (some 403)))] σ (.inl (some (.inl 0)), σ) := by
        refine b146 (by decide +kernel) ?_
        rw [show (σ 403 1) = 0 by (first | omega | (simp [upS, hz]; done) | (simp [upS, hz]; omega))]
        all_goals rfl
      refine ⟨_, _, hD2, ?_⟩
      clear hD2
      have hD3 : Dd 232 [(.inr (.inr (some 0))), (.inl a1), (.inl 0)] σ (.inr 0, σ) := by
        refine b232 ?_
        rw [if_neg (show ¬ ((0 : Int) ≤ a1) by first | omega | (simp [upS, hz]; done) | (simp [upS, hz]; omega))]
        refine b232_9 ?_
        all_goals rfl
      refine Or.inr ⟨_, _, hD3, ?_⟩
      all_goals rfl
    exact Or.inr (⟨_, hD4, rfl⟩)
  have hB : Dd 366 [(.inr (.inr (some 682))), (.inl a1)] σ (.inl (some (.inl 0)), (upS σ 682 0 1)) := by
    refine b366 ?_
    have hD8 : Dd 365 [(.inr (.inr (some 682))), (.inl a1)] σ (.inl (some (.inl 0)), (upS σ 682 0 1)) := by
      refine b365 ?_
      have hD5 : Dd 341 [(.inr (.inr (some 682)))] σ (.inl (some (.inl 0)), σ) := by
        refine b341 ?_
        refine ⟨(show ¬ ((σ 682 40) = 0) → -2147483648 ≤ (24 + (σ 682 40)) ∧ (24 + (σ 682 40)) ≤ 2147483647 by (first | (intros; first | omega | (simp [upS, hz]; done) | (simp [upS, hz]; omega)) | (intros; simp_all [upS, hz]; done) | (intros; simp_all [upS, hz]; omega))), ?_⟩
        refine ⟨(show ¬ ((σ 682 40) = 0) → -2147483648 ≤ ((24 + (σ 682 40)) - 1) ∧ ((24 + (σ 682 40)) - 1) ≤ 2147483647 by (first | (intros; first | omega | (simp [upS, hz]; done) | (simp [upS, hz]; omega)) | (intros; simp_all [upS, hz]; done) | (intros; simp_all [upS, hz]; omega))), ?_⟩
        refine ⟨(show ¬ ((σ 682 40) = 0) → 0 ≤ ((24 + (σ 682 40)) - 1) ∧ ((24 + (σ 682 40)) - 1) < 44 by (first | (intros; first | omega | (simp [upS, hz]; done) | (simp [upS, hz]; omega)) | (intros; simp_all [upS, hz]; done) | (intros; simp_all [upS, hz]; omega))), ?_⟩
        try rw [if_pos (show (σ 682 40) = 0 by first | omega | (simp [upS, hz]; done) | (simp [upS, hz]; omega))]
        rw [show (σ 682 39) = 0 by (first | omega | (simp [upS, hz]; done) | (simp [upS, hz]; omega))]
        all_goals rfl
      refine ⟨_, _, hD5, ?_⟩
      clear hD5
      have hD6 : Dd 246 [(.inl a1), (.inl 0)] σ (.inl (some (.inl 0)), σ) := by
        refine b246 ?_
        try rw [if_neg (show ¬ ((0 : Int) ≤ a1) by first | omega | (simp [upS, hz]; done) | (simp [upS, hz]; omega))]
        all_goals rfl
      refine ⟨_, _, hD6, ?_⟩
      clear hD6
      try rw [if_pos (show (0 : Int) = 0 by first | omega | (simp [upS, hz]; done) | (simp [upS, hz]; omega))]
      refine b365_17 ?_
      have hD7 : Dd 245 [(.inr (.inr (some 682))), (.inl 1)] σ (.inl (some (.inl 0)), (upS σ 682 0 1)) := by
        refine b245 ?_
        try rw [if_neg (show ¬ ((1 : Int) = 0) by first | omega | (simp [upS, hz]; done) | (simp [upS, hz]; omega))]
        all_goals rfl
      refine ⟨_, _, hD7, ?_⟩
      clear hD7
      refine ⟨(show 0 = 0 ∨ 0 = 1 by first | omega | (simp [upS, hz]; done) | (simp [upS, hz]; omega)), ?_⟩
      all_goals rfl
    refine ⟨_, _, hD8, ?_⟩
    clear hD8
    rw [if_pos (show (0 : Int) = 0 by first | omega | (simp [upS, hz]; done) | (simp [upS, hz]; omega))]
    all_goals rfl
  refine ⟨_, _, _, _, hA, hB, ?_, ?_, ?_, ?_, ?_⟩
  · (first | rfl | (simp [upS, SCR, hz]; done) | (simp [upS, SCR, hz]; omega))
  · first | (intro h9; omega) | (intro _; first | rfl | (simp [upS, SCR, hz]; done) | (simp [upS, SCR, hz]; omega))
  · intro i; first | rfl | (unfold upS SCR; (repeat' split) <;> first | rfl | omega)
  · first | rfl | (unfold upS SCR; (repeat' split) <;> first | rfl | omega)
  · first | rfl | (unfold upS SCR; (repeat' split) <;> first | rfl | omega)
theorem q41_1 {σ : Sg} {a1 : Int} (hz : ∀ a i, a < 1000 → σ a i = 0) (h0 : 0 ≤ a1) : ∃ (kx b : Int) (s1 s2 : Sg), Dd 429 [(.inr (.inr (some 0))), (.inl a1), (.inr (.inr (some 726)))] σ (.inl (some (.inl kx)), s1) ∧ Dd 366 [(.inr (.inr (some 682))), (.inl a1)] s1 (.inl (some (.inl b)), s2) ∧ s2 682 0 = kx ∧ (kx = 0 → s2 726 0 = b) ∧ (∀ i, s1 SCR i = σ SCR i) ∧ s1 (SCR + 1) 0 = σ (SCR + 1) 0 ∧ s2 (SCR + 1) 0 = σ (SCR + 1) 0 := by
  have hA : Dd 429 [(.inr (.inr (some 0))), (.inl a1), (.inr (.inr (some 726)))] σ (.inl (some (.inl 1)), σ) := by
    refine b429 ?_
    have hD4 : Dd 213 [(.inr (.inr (some 0))), (.inl a1)] σ (.inr 0, σ) := by
      refine b213 ?_
      have hD1 : Dd 127 [(.inr (.inr (some 402)))] σ (.inl (some (.inr (.inr (some 403)))), σ) := by
        refine b127 ?_
        rw [if_neg (show ¬ ((0 : Int) < (σ 402 3)) by first | omega | (simp [upS, hz]; done) | (simp [upS, hz]; omega))]
        refine b127_36 ?_
        all_goals rfl
      refine ⟨_, _, hD1, (by decide +kernel), ?_⟩
      clear hD1
      have hD2 : Dd 146 [(.inr (.inr (some 403)))] σ (.inl (some (.inl 0)), σ) := by
        refine b146 (by decide +kernel) ?_
        rw [show (σ 403 1) = 0 by (first | omega | (simp [upS, hz]; done) | (simp [upS, hz]; omega))]
        all_goals rfl
      refine ⟨_, _, hD2, ?_⟩
      clear hD2
      have hD3 : Dd 232 [(.inr (.inr (some 0))), (.inl a1), (.inl 0)] σ (.inr 0, σ) := by
        refine b232 ?_
        rw [if_pos (show (0 : Int) ≤ a1 by first | omega | (simp [upS, hz]; done) | (simp [upS, hz]; omega))]
        rw [if_pos (show (0 : Int) ≤ a1 by first | omega | (simp [upS, hz]; done) | (simp [upS, hz]; omega))]
        refine b232_9 ?_
        all_goals rfl
      refine Or.inr ⟨_, _, hD3, ?_⟩
      all_goals rfl
    exact Or.inr (⟨_, hD4, rfl⟩)
  have hB : Dd 366 [(.inr (.inr (some 682))), (.inl a1)] σ (.inl (some (.inl 0)), (upS σ 682 0 1)) := by
    refine b366 ?_
    have hD8 : Dd 365 [(.inr (.inr (some 682))), (.inl a1)] σ (.inl (some (.inl 0)), (upS σ 682 0 1)) := by
      refine b365 ?_
      have hD5 : Dd 341 [(.inr (.inr (some 682)))] σ (.inl (some (.inl 0)), σ) := by
        refine b341 ?_
        refine ⟨(show ¬ ((σ 682 40) = 0) → -2147483648 ≤ (24 + (σ 682 40)) ∧ (24 + (σ 682 40)) ≤ 2147483647 by (first | (intros; first | omega | (simp [upS, hz]; done) | (simp [upS, hz]; omega)) | (intros; simp_all [upS, hz]; done) | (intros; simp_all [upS, hz]; omega))), ?_⟩
        refine ⟨(show ¬ ((σ 682 40) = 0) → -2147483648 ≤ ((24 + (σ 682 40)) - 1) ∧ ((24 + (σ 682 40)) - 1) ≤ 2147483647 by (first | (intros; first | omega | (simp [upS, hz]; done) | (simp [upS, hz]; omega)) | (intros; simp_all [upS, hz]; done) | (intros; simp_all [upS, hz]; omega))), ?_⟩
        refine ⟨(show ¬ ((σ 682 40) = 0) → 0 ≤ ((24 + (σ 682 40)) - 1) ∧ ((24 + (σ 682 40)) - 1) < 44 by (first | (intros; first | omega | (simp [upS, hz]; done) | (simp [upS, hz]; omega)) | (intros; simp_all [upS, hz]; done) | (intros; simp_all [upS, hz]; omega))), ?_⟩
        try rw [if_pos (show (σ 682 40) = 0 by first | omega | (simp [upS, hz]; done) | (simp [upS, hz]; omega))]
        rw [show (σ 682 39) = 0 by (first | omega | (simp [upS, hz]; done) | (simp [upS, hz]; omega))]
        all_goals rfl
      refine ⟨_, _, hD5, ?_⟩
      clear hD5
      have hD6 : Dd 246 [(.inl a1), (.inl 0)] σ (.inl (some (.inl 0)), σ) := by
        refine b246 ?_
        try rw [if_pos (show (0 : Int) ≤ a1 by first | omega | (simp [upS, hz]; done) | (simp [upS, hz]; omega))]
        try rw [if_neg (show ¬ (a1 < 0) by first | omega | (simp [upS, hz]; done) | (simp [upS, hz]; omega))]
        all_goals rfl
      refine ⟨_, _, hD6, ?_⟩
      clear hD6
      try rw [if_pos (show (0 : Int) = 0 by first | omega | (simp [upS, hz]; done) | (simp [upS, hz]; omega))]
      refine b365_17 ?_
      have hD7 : Dd 245 [(.inr (.inr (some 682))), (.inl 1)] σ (.inl (some (.inl 0)), (upS σ 682 0 1)) := by
        refine b245 ?_
        try rw [if_neg (show ¬ ((1 : Int) = 0) by first | omega | (simp [upS, hz]; done) | (simp [upS, hz]; omega))]
        all_goals rfl
      refine ⟨_, _, hD7, ?_⟩
      clear hD7
      refine ⟨(show 0 = 0 ∨ 0 = 1 by first | omega | (simp [upS, hz]; done) | (simp [upS, hz]; omega)), ?_⟩
      all_goals rfl
    refine ⟨_, _, hD8, ?_⟩
    clear hD8
    rw [if_pos (show (0 : Int) = 0 by first | omega | (simp [upS, hz]; done) | (simp [upS, hz]; omega))]
    all_goals rfl
  refine ⟨_, _, _, _, hA, hB, ?_, ?_, ?_, ?_, ?_⟩
  · (first | rfl | (simp [upS, SCR, hz]; done) | (simp [upS, SCR, hz]; omega))
  · first | (intro h9; omega) | (intro _; first | rfl | (simp [upS, SCR, hz]; done) | (simp [upS, SCR, hz]; omega))
  · intro i; first | rfl | (unfold upS SCR; (repeat' split) <;> first | rfl | omega)
  · first | rfl | (unfold upS SCR; (repeat' split) <;> first | rfl | omega)
  · first | rfl | (unfold upS SCR; (repeat' split) <;> first | rfl | omega)
theorem q42_0 {σ : Sg} {a1 : Int} (hz : ∀ a i, a < 1000 → σ a i = 0) (h0 : a1 < 0) : ∃ (kx b : Int) (s1 s2 : Sg), Dd 430 [(.inr (.inr (some 0))), (.inl a1), (.inr (.inr (some 726)))] σ (.inl (some (.inl kx)), s1) ∧ Dd 367 [(.inr (.inr (some 682))), (.inl a1)] s1 (.inl (some (.inl b)), s2) ∧ s2 682 0 = kx ∧ (kx = 0 → s2 726 0 = b) ∧ (∀ i, s1 SCR i = σ SCR i) ∧ s1 (SCR + 1) 0 = σ (SCR + 1) 0 ∧ s2 (SCR + 1) 0 = σ (SCR + 1) 0 := by
  have hA : Dd 430 [(.inr (.inr (some 0))), (.inl a1), (.inr (.inr (some 726)))] σ (.inl (some (.inl 1)), σ) := by
    refine b430 ?_
    have hD4 : Dd 214 [(.inr (.inr (some 0))), (.inl a1)] σ (.inr 0, σ) := by
      refine b214 ?_
      have hD1 : Dd 127 [(.inr (.inr (some 402)))] σ (.inl (some (.inr (.inr (some 403)))), σ) := by
        refine b127 ?_
        rw [if_neg (show ¬ ((0 : Int) < (σ 402 3)) by first | omega | (simp [upS, hz]; done) | (simp [upS, hz]; omega))]
        refine b127_36 ?_
        all_goals rfl
      refine ⟨_, _, hD1, (by decide +kernel), ?_⟩
      clear hD1
      have hD2 : Dd 146 [(.inr (.inr (some 403)))] σ (.inl (some (.inl 0)), σ) := by
        refine b146 (by decide +kernel) ?_
        rw [show (σ 403 1) = 0 by (first | omega | (simp [upS, hz]; done) | (simp [upS, hz]; omega))]
        all_goals rfl
      refine ⟨_, _, hD2, ?_⟩
      clear hD2
      have hD3 : Dd 232 [(.inr (.inr (some 0))), (.inl a1), (.inl 0)] σ (.inr 0, σ) := by
        refine b232 ?_
        rw [if_neg (show ¬ ((0 : Int) ≤ a1) by first | omega | (simp [upS, hz]; done) | (simp [upS, hz]; omega))]
        refine b232_9 ?_
        all_goals rfl
      refine Or.inr ⟨_, _, hD3, ?_⟩
      all_goals rfl
    exact Or.inr (⟨_, hD4, rfl⟩)
  have hB : Dd 367 [(.inr (.inr (some 682))), (.inl a1)] σ (.inl (some (.inl 0)), (upS σ 682 0 1)) := by
    refine b367 ?_
    have hD8 : Dd 365 [(.inr (.inr (some 682))), (.inl a1)] σ (.inl (some (.inl 0)), (upS σ 682 0 1)) := by
      refine b365 ?_
      have hD5 : Dd 341 [(.inr (.inr (some 682)))] σ (.inl (some (.inl 0)), σ) := by
        refine b341 ?_
        refine ⟨(show ¬ ((σ 682 40) = 0) → -2147483648 ≤ (24 + (σ 682 40)) ∧ (24 + (σ 682 40)) ≤ 2147483647 by (first | (intros; first | omega | (simp [upS, hz]; done) | (simp [upS, hz]; omega)) | (intros; simp_all [upS, hz]; done) | (intros; simp_all [upS, hz]; omega))), ?_⟩
        refine ⟨(show ¬ ((σ 682 40) = 0) → -2147483648 ≤ ((24 + (σ 682 40)) - 1) ∧ ((24 + (σ 682 40)) - 1) ≤ 2147483647 by (first | (intros; first | omega | (simp [upS, hz]; done) | (simp [upS, hz]; omega)) | (intros; simp_all [upS, hz]; done) | (intros; simp_all [upS, hz]; omega))), ?_⟩
        refine ⟨(show ¬ ((σ 682 40) = 0) → 0 ≤ ((24 + (σ 682 40)) - 1) ∧ ((24 + (σ 682 40)) - 1) < 44 by (first | (intros; first | omega | (simp [upS, hz]; done) | (simp [upS, hz]; omega)) | (intros; simp_all [upS, hz]; done) | (intros; simp_all [upS, hz]; omega))), ?_⟩
        try rw [if_pos (show (σ 682 40) = 0 by first | omega | (simp [upS, hz]; done) | (simp [upS, hz]; omega))]
        rw [show (σ 682 39) = 0 by (first | omega | (simp [upS, hz]; done) | (simp [upS, hz]; omega))]
        all_goals rfl
      refine ⟨_, _, hD5, ?_⟩
      clear hD5
      have hD6 : Dd 246 [(.inl a1), (.inl 0)] σ (.inl (some (.inl 0)), σ) := by
        refine b246 ?_
        try rw [if_neg (show ¬ ((0 : Int) ≤ a1) by first | omega | (simp [upS, hz]; done) | (simp [upS, hz]; omega))]
        all_goals rfl
      refine ⟨_, _, hD6, ?_⟩
      clear hD6
      try rw [if_pos (show (0 : Int) = 0 by first | omega | (simp [upS, hz]; done) | (simp [upS, hz]; omega))]
      refine b365_17 ?_
      have hD7 : Dd 245 [(.inr (.inr (some 682))), (.inl 1)] σ (.inl (some (.inl 0)), (upS σ 682 0 1)) := by
        refine b245 ?_
        try rw [if_neg (show ¬ ((1 : Int) = 0) by first | omega | (simp [upS, hz]; done) | (simp [upS, hz]; omega))]
        all_goals rfl
      refine ⟨_, _, hD7, ?_⟩
      clear hD7
      refine ⟨(show 0 = 0 ∨ 0 = 1 by first | omega | (simp [upS, hz]; done) | (simp [upS, hz]; omega)), ?_⟩
      all_goals rfl
    refine ⟨_, _, hD8, ?_⟩
    clear hD8
    rw [if_pos (show (0 : Int) = 0 by first | omega | (simp [upS, hz]; done) | (simp [upS, hz]; omega))]
    all_goals rfl
  refine ⟨_, _, _, _, hA, hB, ?_, ?_, ?_, ?_, ?_⟩
  · (first | rfl | (simp [upS, SCR, hz]; done) | (simp [upS, SCR, hz]; omega))
  · first | (intro h9; omega) | (intro _; first | rfl | (simp [upS, SCR, hz]; done) | (simp [upS, SCR, hz]; omega))
  · intro i; first | rfl | (unfold upS SCR; (repeat' split) <;> first | rfl | omega)
  · first | rfl | (unfold upS SCR; (repeat' split) <;> first | rfl | omega)
  · first | rfl | (unfold upS SCR; (repeat' split) <;> first | rfl | omega)
theorem q42_1 {σ : Sg} {a1 : Int} (hz : ∀ a i, a < 1000 → σ a i = 0) (h0 : 0 ≤ a1) : ∃ (kx b : Int) (s1 s2 : Sg), Dd 430 [(.inr (.inr (some 0))), (.inl a1), (.inr (.inr (some 726)))] σ (.inl (some (.inl kx)), s1) ∧ Dd 367 [(.inr (.inr (some 682))), (.inl a1)] s1 (.inl (some (.inl b)), s2) ∧ s2 682 0 = kx ∧ (kx = 0 → s2 726 0 = b) ∧ (∀ i, s1 SCR i = σ SCR i) ∧ s1 (SCR + 1) 0 = σ (SCR + 1) 0 ∧ s2 (SCR + 1) 0 = σ (SCR + 1) 0 := by
  have hA : Dd 430 [(.inr (.inr (some 0))), (.inl a1), (.inr (.inr (some 726)))] σ (.inl (some (.inl 1)), σ) := by
    refine b430 ?_
    have hD4 : Dd 214 [(.inr (.inr (some 0))), (.inl a1)] σ (.inr 0, σ) := by
      refine b214 ?_
      have hD1 : Dd 127 [(.inr (.inr (some 402)))] σ (.inl (some (.inr (.inr (some 403)))), σ) := by
        refine b127 ?_
        rw [if_neg (show ¬ ((0 : Int) < (σ 402 3)) by first | omega | (simp [upS, hz]; done) | (simp [upS, hz]; omega))]
        refine b127_36 ?_
        all_goals rfl
      refine ⟨_, _, hD1, (by decide +kernel), ?_⟩
      clear hD1
      have hD2 : Dd 146 [(.inr (.inr (some 403)))] σ (.inl (some (.inl 0)), σ) := by
        refine b146 (by decide +kernel) ?_
        rw [show (σ 403 1) = 0 by (first | omega | (simp [upS, hz]; done) | (simp [upS, hz]; omega))]
        all_goals rfl
      refine ⟨_, _, hD2, ?_⟩
      clear hD2
      have hD3 : Dd 232 [(.inr (.inr (some 0))), (.inl a1), (.inl 0)] σ (.inr 0, σ) := by
        refine b232 ?_
        rw [if_pos (show (0 : Int) ≤ a1 by first | omega | (simp [upS, hz]; done) | (simp [upS, hz]; omega))]
        rw [if_pos (show (0 : Int) ≤ a1 by first | omega | (simp [upS, hz]; done) | (simp [upS, hz]; omega))]
        refine b232_9 ?_
        all_goals rfl
      refine Or.inr ⟨_, _, hD3, ?_⟩
      all_goals rfl
    exact Or.inr (⟨_, hD4, rfl⟩)
  have hB : Dd 367 [(.inr (.inr (some 682))), (.inl a1)] σ (.inl (some (.inl 0)), (upS σ 682 0 1)) := by
    refine b367 ?_
    have hD8 : Dd 365 [(.inr (.inr (some 682))), (.inl a1)] σ (.inl (some (.inl 0)), (upS σ 682 0 1)) := by
      refine b365 ?_
      have hD5 : Dd 341 [(.inr (.inr (some 682)))] σ (.inl (some (.inl 0)), σ) := by
        refine b341 ?_
        refine ⟨(show ¬ ((σ 682 40) = 0) → -2147483648 ≤ (24 + (σ 682 40)) ∧ (24 + (σ 682 40)) ≤ 2147483647 by (first | (intros; first | omega | (simp [upS, hz]; done) | (simp [upS, hz]; omega)) | (intros; simp_all [upS, hz]; done) | (intros; simp_all [upS, hz]; omega))), ?_⟩
        refine ⟨(show ¬ ((σ 682 40) = 0) → -2147483648 ≤ ((24 + (σ 682 40)) - 1) ∧ ((24 + (σ 682 40)) - 1) ≤ 2147483647 by (first | (intros; first | omega | (simp [upS, hz]; done) | (simp [upS, hz]; omega)) | (intros; simp_all [upS, hz]; done) | (intros; simp_all [upS, hz]; omega))), ?_⟩
        refine ⟨(show ¬ ((σ 682 40) = 0) → 0 ≤ ((24 + (σ 682 40)) - 1) ∧ ((24 + (σ 682 40)) - 1) < 44 by (first | (intros; first | omega | (simp [upS, hz]; done) | (simp [upS, hz]; omega)) | (intros; simp_all [upS, hz]; done) | (intros; simp_all [upS, hz]; omega))), ?_⟩
        try rw [if_pos (show (σ 682 40) = 0 by first | omega | (simp [upS, hz]; done) | (simp [upS, hz]; omega))]
        rw [show (σ 682 39) = 0 by (first | omega | (simp [upS, hz]; done) | (simp [upS, hz]; omega))]
        all_goals rfl
      refine ⟨_, _, hD5, ?_⟩
      clear hD5
      have hD6 : Dd 246 [(.inl a1), (.inl 0)] σ (.inl (some (.inl 0)), σ) := by
        refine b246 ?_
        try rw [if_pos (show (0 : Int) ≤ a1 by first | omega | (simp [upS, hz]; done) | (simp [upS, hz]; omega))]
        try rw [if_neg (show ¬ (a1 < 0) by first | omega | (simp [upS, hz]; done) | (simp [upS, hz]; omega))]
        all_goals rfl
      refine ⟨_, _, hD6, ?_⟩
      clear hD6
      try rw [if_pos (show (0 : Int) = 0 by first | omega | (simp [upS, hz]; done) | (simp [upS, hz]; omega))]
      refine b365_17 ?_
      have hD7 : Dd 245 [(.inr (.inr (some 682))), (.inl 1)] σ (.inl (some (.inl 0)), (upS σ 682 0 1)) := by
        refine b245 ?_
        try rw [if_neg (show ¬ ((1 : Int) = 0) by first | omega | (simp [upS, hz]; done) | (simp [upS, hz]; omega))]
        all_goals rfl
      refine ⟨_, _, hD7, ?_⟩
      clear hD7
      refine ⟨(show 0 = 0 ∨ 0 = 1 by first | omega | (simp [upS, hz]; done) | (simp [upS, hz]; omega)), ?_⟩
      all_goals rfl
    refine ⟨_, _, hD8, ?_⟩
    clear hD8
    rw [if_pos (show (0 : Int) = 0 by first | omega | (simp [upS, hz]; done) | (simp [upS, hz]; omega))]
    all_goals rfl
  refine ⟨_, _, _, _, hA, hB, ?_, ?_, ?_, ?_, ?_⟩
  · (first | rfl | (simp [upS, SCR, hz]; done) | (simp [upS, SCR, hz]; omega))
  · first | (intro h9; omega) | (intro _; first | rfl | (simp [upS, SCR, hz]; done) | (simp [upS, SCR, hz]; omega))
  · intro i; first | rfl | (unfold upS SCR; (repeat' split) <;> first | rfl | omega)
  · first | rfl | (unfold upS SCR; (repeat' split) <;> first | rfl | omega)
  · first | rfl | (unfold upS SCR; (repeat' split) <;> first | rfl | omega)
theorem q43_0 {σ : Sg} {a1 : Int} {a2 : Int} {a3 : Int} (hz : ∀ a i, a < 1000 → σ a i = 0) (h0 : a1 < 0) : ∃ (kx b : Int) (s1 s2 : Sg), Dd 431 [(.inr (.inr (some 0))), (.inl a1), (.inl a2), (.inl a3), (.inr (.inr (some 726)))] σ (.inl (some (.inl kx)), s1) ∧ Dd 368 [(.inr (.inr (some 682))), (.inl a1), (.inl a2), (.inl a3)] s1 (.inl (some (.inl b)), s2) ∧ s2 682 0 = kx ∧ (kx = 0 → s2 726 0 = (if b = 0 then 0 else 1)) ∧ (∀ i, s1 SCR i = σ SCR i) ∧ s1 (SCR + 1) 0 = σ (SCR + 1) 0 ∧ s2 (SCR + 1) 0 = σ (SCR + 1) 0 := by
  have hA : Dd 431 [(.inr (.inr (some 0))), (.inl a1), (.inl a2), (.inl a3), (.inr (.inr (some 726)))] σ (.inl (some (.inl 1)), σ) := by
    refine b431 ?_
    have hD2 : Dd 215 [(.inr (.inr (some 0))), (.inl a1), (.inl a2), (.inl a3)] σ (.inr 0, σ) := by
      refine b215 ?_
      have hD1 : Dd 232 [(.inr (.inr (some 0))), (.inl a1), (.inl 3)] σ (.inr 0, σ) := by
        refine b232 ?_
        rw [if_neg (show ¬ ((0 : Int) ≤ a1) by first | omega | (simp [upS, hz]; done) | (simp [upS, hz]; omega))]
        refine b232_9 ?_
        all_goals rfl
      refine Or.inr ⟨_, _, hD1, ?_⟩
      all_goals rfl
    exact Or.inr (⟨_, hD2, rfl⟩)
  have hB : Dd 368 [(.inr (.inr (some 682))), (.inl a1), (.inl a2), (.inl a3)] σ (.inl (some (.inl 0)), (upS σ 682 0 1)) := by
    refine b368 ?_
    have hD3 : Dd 246 [(.inl a1), (.inl 3)] σ (.inl (some (.inl 0)), σ) := by
      refine b246 ?_
      try rw [if_neg (show ¬ ((0 : Int) ≤ a1) by first | omega | (simp [upS, hz]; done) | (simp [upS, hz]; omega))]
      all_goals rfl
    refine ⟨_, _, hD3, ?_⟩
    clear hD3
    rw [if_pos (show (0 : Int) = 0 by first | omega | (simp [upS, hz]; done) | (simp [upS, hz]; omega))]
    refine b368_33 ?_
    refine b368_34 ?_
    try rw [if_pos (show (0 : Int) = 0 by first | omega | (simp [upS, hz]; done) | (simp [upS, hz]; omega))]
    refine b368_47 ?_
    have hD4 : Dd 245 [(.inr (.inr (some 682))), (.inl 1)] σ (.inl (some (.inl 0)), (upS σ 682 0 1)) := by
      refine b245 ?_
      try rw [if_neg (show ¬ ((1 : Int) = 0) by first | omega | (simp [upS, hz]; done) | (simp [upS, hz]; omega))]
      all_goals rfl
    refine ⟨_, _, hD4, ?_⟩
    clear hD4
    rw [if_pos (show (0 : Int) = 0 by first | omega | (simp [upS, hz]; done) | (simp [upS, hz]; omega))]
    all_goals rfl
  refine ⟨_, _, _, _, hA, hB, ?_, ?_, ?_, ?_, ?_⟩
  · (first | rfl | (simp [upS, SCR, hz]; done) | (simp [upS, SCR, hz]; omega))
  · first | (intro h9; omega) | (intro _; first | rfl | (simp [upS, SCR, hz]; done) | (simp [upS, SCR, hz]; omega))
  · intro i; first | rfl | (unfold upS SCR; (repeat' split) <;> first | rfl | omega)
  · first | rfl | (unfold upS SCR; (repeat' split) <;> first | rfl | omega)
  · first | rfl | (unfold upS SCR; (repeat' split) <;> first | rfl | omega)
theorem q43_1 {σ : Sg} {a1 : Int} {a2 : Int} {a3 : Int} (hz : ∀ a i, a < 1000 → σ a i = 0) (h0 : 3 ≤ a1) : ∃ (kx b : Int) (s1 s2 : Sg), Dd 431 [(.inr (.inr (some 0))), (.inl a1), (.inl a2), (.inl a3), (.inr (.inr (some 726)))] σ (.inl (some (.inl kx)), s1) ∧ Dd 368 [(.inr (.inr (some 682))), (.inl a1), (.inl a2), (.inl a3)] s1 (.inl (some (.inl b)), s2) ∧ s2 682 0 = kx ∧ (kx = 0 → s2 726 0 = (if b = 0 then 0 else 1)) ∧ (∀ i, s1 SCR i = σ SCR i) ∧ s1 (SCR + 1) 0 = σ (SCR + 1) 0 ∧ s2 (SCR + 1) 0 = σ (SCR + 1) 0 := by
  have hA : Dd 431 [(.inr (.inr (some 0))), (.inl a1), (.inl a2), (.inl a3), (.inr (.inr (some 726)))] σ (.inl (some (.inl 1)), σ) := by
    refine b431 ?_
    have hD2 : Dd 215 [(.inr (.inr (some 0))), (.inl a1), (.inl a2), (.inl a3)] σ (.inr 0, σ) := by
      refine b215 ?_
      have hD1 : Dd 232 [(.inr (.inr (some 0))), (.inl a1), (.inl 3)] σ (.inr 0, σ) := by
        refine b232 ?_
        rw [if_pos (show (0 : Int) ≤ a1 by first | omega | (simp [upS, hz]; done) | (simp [upS, hz]; omega))]
        rw [if_pos (show (3 : Int) ≤ a1 by first | omega | (simp [upS, hz]; done) | (simp [upS, hz]; omega))]
        refine b232_9 ?_
        all_goals rfl
      refine Or.inr ⟨_, _, hD1, ?_⟩
      all_goals rfl
    exact Or.inr (⟨_, hD2, rfl⟩)
  have hB : Dd 368 [(.inr (.inr (some 682))), (.inl a1), (.inl a2), (.inl a3)] σ (.inl (some (.inl 0)), (upS σ 682 0 1)) := by
    refine b368 ?_
    have hD3 : Dd 246 [(.inl a1), (.inl 3)] σ (.inl (some (.inl 0)), σ) := by
      refine b246 ?_
      try rw [if_pos (show (0 : Int) ≤ a1 by first | omega | (simp [upS, hz]; done) | (simp [upS, hz]; omega))]
      try rw [if_neg (show ¬ (a1 < 3) by first | omega | (simp [upS, hz]; done) | (simp [upS, hz]; omega))]
      all_goals rfl
    refine ⟨_, _, hD3, ?_⟩
    clear hD3
    rw [if_pos (show (0 : Int) = 0 by first | omega | (simp [upS, hz]; done) | (simp [upS, hz]; omega))]
    refine b368_33 ?_
    refine b368_34 ?_
    try rw [if_pos (show (0 : Int) = 0 by first | omega | (simp [upS, hz]; done) | (simp [upS, hz]; omega))]
    refine b368_47 ?_
    have hD4 : Dd 245 [(.inr (.inr (some 682))), (.inl 1)] σ (.inl (some (.inl 0)), (upS σ 682 0 1)) := by
      refine b245 ?_
      try rw [if_neg (show ¬ ((1 : Int) = 0) by first | omega | (simp [upS, hz]; done) | (simp [upS, hz]; omega))]
      all_goals rfl
    refine ⟨_, _, hD4, ?_⟩
    clear hD4
    rw [if_pos (show (0 : Int) = 0 by first | omega | (simp [upS, hz]; done) | (simp [upS, hz]; omega))]
    all_goals rfl
  refine ⟨_, _, _, _, hA, hB, ?_, ?_, ?_, ?_, ?_⟩
  · (first | rfl | (simp [upS, SCR, hz]; done) | (simp [upS, SCR, hz]; omega))
  · first | (intro h9; omega) | (intro _; first | rfl | (simp [upS, SCR, hz]; done) | (simp [upS, SCR, hz]; omega))
  · intro i; first | rfl | (unfold upS SCR; (repeat' split) <;> first | rfl | omega)
  · first | rfl | (unfold upS SCR; (repeat' split) <;> first | rfl | omega)
  · first | rfl | (unfold upS SCR; (repeat' split) <;> first | rfl | omega)
theorem q43_2 {σ : Sg} {a1 : Int} {a2 : Int} {a3 : Int} (hz : ∀ a i, a < 1000 → σ a i = 0) (h0 : 0 ≤ a1 ∧ a1 < 3) (h1 : a2 < 0) : ∃ (kx b : Int) (s1 s2 : Sg), Dd 431 [(.inr (.inr (some 0))), (.inl a1), (.inl a2), (.inl a3), (.inr (.inr (some 726)))] σ (.inl (some (.inl kx)), s1) ∧ Dd 368 [(.inr (.inr (some 682))), (.inl a1), (.inl a2), (.inl a3)] s1 (.inl (some (.inl b)), s2) ∧ s2 682 0 = kx ∧ (kx = 0 → s2 726 0 = (if b = 0 then 0 else 1)) ∧ (∀ i, s1 SCR i = σ SCR i) ∧ s1 (SCR + 1) 0 = σ (SCR + 1) 0 ∧ s2 (SCR + 1) 0 = σ (SCR + 1) 0 := by
  have hA : Dd 431 [(.inr (.inr (some 0))), (.inl a1), (.inl a2), (.inl a3), (.inr (.inr (some 726)))] σ (.inl (some (.inl 1)), σ) := by
    refine b431 ?_
    have hD3 : Dd 215 [(.inr (.inr (some 0))), (.inl a1), (.inl a2), (.inl a3)] σ (.inr 0, σ) := by
      refine b215 ?_
      have hD1 : Dd 232 [(.inr (.inr (some 0))), (.inl a1), (.inl 3)] σ (.inl none, σ) := by
        refine b232 ?_
        rw [if_pos (show (0 : Int) ≤ a1 by first | omega | (simp [upS, hz]; done) | (simp [upS, hz]; omega))]
        rw [if_neg (show ¬ ((3 : Int) ≤ a1) by first | omega | (simp [upS, hz]; done) | (simp [upS, hz]; omega))]
        all_goals rfl
      refine Or.inl ⟨_, hD1, ?_⟩
      clear hD1
      have hD2 : Dd 232 [(.inr (.inr (some 0))), (.inl a2), (.inl 6)] σ (.inr 0, σ) := by
        refine b232 ?_
        rw [if_neg (show ¬ ((0 : Int) ≤ a2) by first | omega | (simp [upS, hz]; done) | (simp [upS, hz]; omega))]
        refine b232_9 ?_
        all_goals rfl
      refine Or.inr ⟨_, _, hD2, ?_⟩
      all_goals rfl
    exact Or.inr (⟨_, hD3, rfl⟩)
  have hB : Dd 368 [(.inr (.inr (some 682))), (.inl a1), (.inl a2), (.inl a3)] σ (.inl (some (.inl 0)), (upS σ 682 0 1)) := by
    refine b368 ?_
    have hD4 : Dd 246 [(.inl a1), (.inl 3)] σ (.inl (some (.inl 1)), σ) := by
      refine b246 ?_
      try rw [if_pos (show (0 : Int) ≤ a1 by first | omega | (simp [upS, hz]; done) | (simp [upS, hz]; omega))]
      try rw [if_pos (show a1 < 3 by first | omega | (simp [upS, hz]; done) | (simp [upS, hz]; omega))]
      all_goals rfl
    refine ⟨_, _, hD4, ?_⟩
    clear hD4
    rw [if_neg (show ¬ ((1 : Int) = 0) by first | omega | (simp [upS, hz]; done) | (simp [upS, hz]; omega))]
    have hD5 : Dd 246 [(.inl a2), (.inl 6)] σ (.inl (some (.inl 0)), σ) := by
      refine b246 ?_
      try rw [if_neg (show ¬ ((0 : Int) ≤ a2) by first | omega | (simp [upS, hz]; done) | (simp [upS, hz]; omega))]
      all_goals rfl
    refine ⟨_, _, hD5, ?_⟩
    clear hD5
    rw [if_pos (show (0 : Int) = 0 by first | omega | (simp [upS, hz]; done) | (simp [upS, hz]; omega))]
    refine b368_33 ?_
    refine b368_34 ?_
    try rw [if_pos (show (0 : Int) = 0 by first | omega | (simp [upS, hz]; done) | (simp [upS, hz]; omega))]
    refine b368_47 ?_
    have hD6 : Dd 245 [(.inr (.inr (some 682))), (.inl 1)] σ (.inl (some (.inl 0)), (upS σ 682 0 1)) := by
      refine b245 ?_
      try rw [if_neg (show ¬ ((1 : Int) = 0) by first | omega | (simp [upS, hz]; done) | (simp [upS, hz]; omega))]
      all_goals rfl
    refine ⟨_, _, hD6, ?_⟩
    clear hD6
    rw [if_pos (show (0 : Int) = 0 by first | omega | (simp [upS, hz]; done) | (simp [upS, hz]; omega))]
    all_goals rfl
  refine ⟨_, _, _, _, hA, hB, ?_, ?_, ?_, ?_, ?_⟩
  · (first | rfl | (simp [upS, SCR, hz]; done) | (simp [upS, SCR, hz]; omega))
  · first | (intro h9; omega) | (intro _; first | rfl | (simp [upS, SCR, hz]; done) | (simp [upS, SCR, hz]; omega))
  · intro i; first | rfl | (unfold upS SCR; (repeat' split) <;> first | rfl | omega)
  · first | rfl | (unfold upS SCR; (repeat' split) <;> first | rfl | omega)
  · first | rfl | (unfold upS SCR; (repeat' split) <;> first | rfl | omega)
theorem q43_3 {σ : Sg} {a1 : Int} {a2 : Int} {a3 : Int} (hz : ∀ a i, a < 1000 → σ a i = 0) (h0 : 0 ≤ a1 ∧ a1 < 3) (h1 : 6 ≤ a2) : ∃ (kx b : Int) (s1 s2 : Sg), Dd 431 [(.inr (.inr (some 0))), (.inl a1), (.inl a2), (.inl a3), (.inr (.inr (some 726)))] σ (.inl (some (.inl kx)), s1) ∧ Dd 368 [(.inr (.inr (some 682))), (.inl a1), (.inl a2), (.inl a3)] s1 (.inl (some (.inl b)), s2) ∧ s2 682 0 = kx ∧ (kx = 0 → s2 726 0 = (if b = 0 then 0 else 1)) ∧ (∀ i, s1 SCR i = σ SCR i) ∧ s1 (SCR + 1) 0 = σ (SCR + 1) 0 ∧ s2 (SCR + 1) 0 = σ (SCR + 1) 0 := by
  have hA : Dd 431 [(.inr (.inr (some 0))), (.inl a1), (.inl a2), (.inl a3), (.inr (.inr (some 726)))] σ (.inl (some (.inl 1)), σ) := by
    refine b431 ?_
    have hD3 : Dd 215 [(.inr (.inr (some 0))), (.inl a1), (.inl a2), (.inl a3)] σ (.inr 0, σ) := by
      refine b215 ?_
      have hD1 : Dd 232 [(.inr (.inr (some 0))), (.inl a1), (.inl 3)] σ (.inl none, σ) := by
        refine b232 ?_
        rw [if_pos (show (0 : Int) ≤ a1 by first | omega | (simp [upS, hz]; done) | (simp [upS, hz]; omega))]
        rw [if_neg (show ¬ ((3 : Int) ≤ a1) by first | omega | (simp [upS, hz]; done) | (simp [upS, hz]; omega))]
        all_goals rfl
      refine Or.inl ⟨_, hD1, ?_⟩
      clear hD1
      have hD2 : Dd 232 [(.inr (.inr (some 0))), (.inl a2), (.inl 6)] σ (.inr 0, σ) := by
        refine b232 ?_
        rw [if_pos (show (0 : Int) ≤ a2 by first | omega | (simp [upS, hz]; done) | (simp [upS, hz]; omega))]
        rw [if_pos (show (6 : Int) ≤ a2 by first | omega | (simp [upS, hz]; done) | (simp [upS, hz]; omega))]
        refine b232_9 ?_
        all_goals rfl
      refine Or.inr ⟨_, _, hD2, ?_⟩
      all_goals rfl
    exact Or.inr (⟨_, hD3, rfl⟩)
  have hB : Dd 368 [(.inr (.inr (some 682))), (.inl a1), (.inl a2), (.inl a3)] σ (.inl (some (.inl 0)), (upS σ 682 0 1)) := by
    refine b368 ?_
    have hD4 : Dd 246 [(.inl a1), (.inl 3)] σ (.inl (some (.inl 1)), σ) := by
      refine b246 ?_
      try rw [if_pos (show (0 : Int) ≤ a1 by first | omega | (simp [upS, hz]; done) | (simp [upS, hz]; omega))]
      try rw [if_pos (show a1 < 3 by first | omega | (simp [upS, hz]; done) | (simp [upS, hz]; omega))]
      all_goals rfl
    refine ⟨_, _, hD4, ?_⟩
    clear hD4
    rw [if_neg (show ¬ ((1 : Int) = 0) by first | omega | (simp [upS, hz]; done) | (simp [upS, hz]; omega))]
    have hD5 : Dd 246 [(.inl a2), (.inl 6)] σ (.inl (some (.inl 0)), σ) := by
      refine b246 ?_
      try rw [if_pos (show (0 : Int) ≤ a2 by first | omega | (simp [upS, hz]; done) | (simp [upS, hz]; omega))]
      try rw [if_neg (show ¬ (a2 < 6) by first | omega | (simp [upS, hz]; done) | (simp [upS, hz]; omega))]
      all_goals rfl
    refine ⟨_, _, hD5, ?_⟩
    clear hD5
    rw [if_pos (show (0 : Int) = 0 by first | omega | (simp [upS, hz]; done) | (simp [upS, hz]; omega))]
    refine b368_33 ?_
    refine b368_34 ?_
    try rw [if_pos (show (0 : Int) = 0 by first | omega | (simp [upS, hz]; done) | (simp [upS, hz]; omega))]
    refine b368_47 ?_
    have hD6 : Dd 245 [(.inr (.inr (some 682))), (.inl 1)] σ (.inl (some (.inl 0)), (upS σ 682 0 1)) := by
      refine b245 ?_
      try rw [if_neg (show ¬ ((1 : Int) = 0) by first | omega | (simp [upS, hz]; done) | (simp [upS, hz]; omega))]
      all_goals rfl
    refine ⟨_, _, hD6, ?_⟩
    clear hD6
    rw [if_pos (show (0 : Int) = 0 by first | omega | (simp [upS, hz]; done) | (simp [upS, hz]; omega))]
    all_goals rfl
  refine ⟨_, _, _, _, hA, hB, ?_, ?_, ?_, ?_, ?_⟩
  · (first | rfl | (simp [upS, SCR, hz]; done) | (simp [upS, SCR, hz]; omega))
  · first | (intro h9; omega) | (intro _; first | rfl | (simp [upS, SCR, hz]; done) | (simp [upS, SCR, hz]; omega))
  · intro i; first | rfl | (unfold upS SCR; (repeat' split) <;> first | rfl | omega)
  · first | rfl | (unfold upS SCR; (repeat' split) <;> first | rfl | omega)
  · first | rfl | (unfold upS SCR; (repeat' split) <;> first | rfl | omega)
theorem q43_4 {σ : Sg} {a1 : Int} {a2 : Int} {a3 : Int} (hz : ∀ a i, a < 1000 → σ a i = 0) (h0 : 0 ≤ a1 ∧ a1 < 3) (h1 : 0 ≤ a2 ∧ a2 < 6) (h2 : a3 < -1) : ∃ (kx b : Int) (s1 s2 : Sg), Dd 431 [(.inr (.inr (some 0))), (.inl a1), (.inl a2), (.inl a3), (.inr (.inr (some 726)))] σ (.inl (some (.inl kx)), s1) ∧ Dd 368 [(.inr (.inr (some 682))), (.inl a1), (.inl a2), (.inl a3)] s1 (.inl (some (.inl b)), s2) ∧ s2 682 0 = kx ∧ (kx = 0 → s2 726 0 = (if b = 0 then 0 else 1)) ∧ (∀ i, s1 SCR i = σ SCR i) ∧ s1 (SCR + 1) 0 = σ (SCR + 1) 0 ∧ s2 (SCR + 1) 0 = σ (SCR + 1) 0 := by
  have hA : Dd 431 [(.inr (.inr (some 0))), (.inl a1), (.inl a2), (.inl a3), (.inr (.inr (some 726)))] σ (.inl (some (.inl 1)), σ) := by
    refine b431 ?_
    have hD8 : Dd 215 [(.inr (.inr (some 0))), (.inl a1), (.inl a2), (.inl a3)] σ (.inr 0, σ) := by
      refine b215 ?_
      have hD1 : Dd 232 [(.inr (.inr (some 0))), (.inl a1), (.inl 3)] σ (.inl none, σ) := by
        refine b232 ?_
        rw [if_pos (show (0 : Int) ≤ a1 by first | omega | (simp [upS, hz]; done) | (simp [upS, hz]; omega))]
        rw [if_neg (show ¬ ((3 : Int) ≤ a1) by first | omega | (simp [upS, hz]; done) | (simp [upS, hz]; omega))]
        all_goals rfl
      refine Or.inl ⟨_, hD1, ?_⟩
      clear hD1
      have hD2 : Dd 232 [(.inr (.inr (some 0))), (.inl a2), (.inl 6)] σ (.inl none, σ) := by
        refine b232 ?_
        rw [if_pos (show (0 : Int) ≤ a2 by first | omega | (simp [upS, hz]; done) | (simp [upS, hz]; omega))]
        rw [if_neg (show ¬ ((6 : Int) ≤ a2) by first | omega | (simp [upS, hz]; done) | (simp [upS, hz]; omega))]
        all_goals rfl
      refine Or.inl ⟨_, hD2, ?_⟩
      clear hD2
      have hD4 : Dd 50 [(.inr (.inr (some 614))), (.inl a1), (.inl a2)] σ (.inl (some (.inl 0)), σ) := by
        refine b50 ?_
        have hD3 : Dd 51 [(.inl a1), (.inl a2)] σ (.inl (some (.inl ((a1 * 6) + a2))), σ) := by
          refine b51 ?_
          rw [if_pos (show (0 : Int) ≤ a1 by first | omega | (simp [upS, hz]; done) | (simp [upS, hz]; omega))]
          rw [if_pos (show a1 < 3 by first | omega | (simp [upS, hz]; done) | (simp [upS, hz]; omega))]
          rw [if_pos (show (0 : Int) ≤ a2 by first | omega | (simp [upS, hz]; done) | (simp [upS, hz]; omega))]
          rw [if_pos (show a2 < 6 by first | omega | (simp [upS, hz]; done) | (simp [upS, hz]; omega))]
          refine b51_24 ?_
          refine ⟨(show ¬ (1 = 0) → -2147483648 ≤ (a1 * 6) ∧ (a1 * 6) ≤ 2147483647 by (first | (intros; first | omega | (simp [upS, hz]; done) | (simp [upS, hz]; omega)) | (intros; simp_all [upS, hz]; done) | (intros; simp_all [upS, hz]; omega))), ?_⟩
          refine ⟨(show ¬ (1 = 0) → -2147483648 ≤ ((a1 * 6) + a2) ∧ ((a1 * 6) + a2) ≤ 2147483647 by (first | (intros; first | omega | (simp [upS, hz]; done) | (simp [upS, hz]; omega)) | (intros; simp_all [upS, hz]; done) | (intros; simp_all [upS, hz]; omega))), ?_⟩
          try rw [if_neg (show ¬ ((1 : Int) = 0) by first | omega | (simp [upS, hz]; done) | (simp [upS, hz]; omega))]
          all_goals rfl
        refine ⟨_, _, hD3, ?_⟩
        clear hD3
        refine ⟨(show (((a1 * 6) + a2) < 18) → 0 ≤ ((a1 * 6) + a2) ∧ ((a1 * 6) + a2) < 18 by (first | (intros; first | omega | (simp [upS, hz]; done) | (simp [upS, hz]; omega)) | (intros; simp_all [upS, hz]; done) | (intros; simp_all [upS, hz]; omega))), ?_⟩
        try rw [if_pos (show ((a1 * 6) + a2) < 18 by first | omega | (simp [upS, hz]; done) | (simp [upS, hz]; omega))]
        try rw [if_pos (show (σ 652 (((a1 * 6) + a2)).toNat) = 0 by first | omega | (simp [upS, hz]; done) | (simp [upS, hz]; omega))]
        all_goals rfl
      refine ⟨_, _, hD4, ?_⟩
      clear hD4
      rw [if_neg (show ¬ (a3 = (-1)) by first | omega | (simp [upS, hz]; done) | (simp [upS, hz]; omega))]
      have hD7 : Dd 227 [(.inr (.inr (some 0))), (.inl a3)] σ (.inr 0, σ) := by
        refine b227 ?_
        have hD5 : Dd 145 [(.inr (.inr (some 1))), (.inl a3)] σ (.inl (some (.inr (.inr none))), σ) := by
          refine b145 ?_
          rw [if_neg (show ¬ ((0 : Int) ≤ a3) by first | omega | (simp [upS, hz]; done) | (simp [upS, hz]; omega))]
          all_goals rfl
        refine ⟨_, _, hD5, ?_⟩
        clear hD5
        refine ⟨fun _ => ?_, fun _ hz6 => (by cases hz6)⟩
        all_goals rfl
      refine Or.inr ⟨_, _, hD7, ?_⟩
      all_goals rfl
    exact Or.inr (⟨_, hD8, rfl⟩)
  have hB : Dd 368 [(.inr (.inr (some 682))), (.inl a1), (.inl a2), (.inl a3)] σ (.inl (some (.inl 0)), (upS σ 682 0 1)) := by
    refine b368 ?_
    have hD9 : Dd 246 [(.inl a1), (.inl 3)] σ (.inl (some (.inl 1)), σ) := by
      refine b246 ?_
      try rw [if_pos (show (0 : Int) ≤ a1 by first | omega | (simp [upS, hz]; done) | (simp [upS, hz]; omega))]
      try rw [if_pos (show a1 < 3 by first | omega | (simp [upS, hz]; done) | (simp [upS, hz]; omega))]
      all_goals rfl
    refine ⟨_, _, hD9, ?_⟩
    clear hD9
    rw [if_neg (show ¬ ((1 : Int) = 0) by first | omega | (simp [upS, hz]; done) | (simp [upS, hz]; omega))]
    have hD10 : Dd 246 [(.inl a2), (.inl 6)] σ (.inl (some (.inl 1)), σ) := by
      refine b246 ?_
      try rw [if_pos (show (0 : Int) ≤ a2 by first | omega | (simp [upS, hz]; done) | (simp [upS, hz]; omega))]
      try rw [if_pos (show a2 < 6 by first | omega | (simp [upS, hz]; done) | (simp [upS, hz]; omega))]
      all_goals rfl
    refine ⟨_, _, hD10, ?_⟩
    clear hD10
    rw [if_neg (show ¬ ((1 : Int) = 0) by first | omega | (simp [upS, hz]; done) | (simp [upS, hz]; omega))]
    have hD12 : Dd 247 [(.inl a3)] σ (.inl (some (.inl 0)), σ) := by
      refine b247 ?_
      have hD11 : Dd 246 [(.inl a3), (.inl 4)] σ (.inl (some (.inl 0)), σ) := by
        refine b246 ?_
        try rw [if_neg (show ¬ ((0 : Int) ≤ a3) by first | omega | (simp [upS, hz]; done) | (simp [upS, hz]; omega))]
        all_goals rfl
      refine ⟨_, _, hD11, ?_⟩
      clear hD11
      refine ⟨(show 0 = 0 ∨ 0 = 1 by first | omega | (simp [upS, hz]; done) | (simp [upS, hz]; omega)), ?_⟩
      all_goals rfl
    refine ⟨_, _, hD12, ?_⟩
    clear hD12
    rw [if_pos (show (0 : Int) = 0 by first | omega | (simp [upS, hz]; done) | (simp [upS, hz]; omega))]
    rw [if_neg (show ¬ (a3 = (-1)) by first | omega | (simp [upS, hz]; done) | (simp [upS, hz]; omega))]
    refine b368_33 ?_
    refine b368_34 ?_
    try rw [if_pos (show (0 : Int) = 0 by first | omega | (simp [upS, hz]; done) | (simp [upS, hz]; omega))]
    refine b368_47 ?_
    have hD13 : Dd 245 [(.inr (.inr (some 682))), (.inl 1)] σ (.inl (some (.inl 0)), (upS σ 682 0 1)) := by
      refine b245 ?_
      try rw [if_neg (show ¬ ((1 : Int) = 0) by first | omega | (simp [upS, hz]; done) | (simp [upS, hz]; omega))]
      all_goals rfl
    refine ⟨_, _, hD13, ?_⟩
    clear hD13
    rw [if_pos (show (0 : Int) = 0 by first | omega | (simp [upS, hz]; done) | (simp [upS, hz]; omega))]
    all_goals rfl
  refine ⟨_, _, _, _, hA, hB, ?_, ?_, ?_, ?_, ?_⟩
  · (first | rfl | (simp [upS, SCR, hz]; done) | (simp [upS, SCR, hz]; omega))
  · first | (intro h9; omega) | (intro _; first | rfl | (simp [upS, SCR, hz]; done) | (simp [upS, SCR, hz]; omega))
  · intro i; first | rfl | (unfold upS SCR; (repeat' split) <;> first | rfl | omega)
  · first | rfl | (unfold upS SCR; (repeat' split) <;> first | rfl | omega)
  · first | rfl | (unfold upS SCR; (repeat' split) <;> first | rfl | omega)
theorem q43_5 {σ : Sg} {a1 : Int} {a2 : Int} {a3 : Int} (hz : ∀ a i, a < 1000 → σ a i = 0) (h0 : 0 ≤ a1 ∧ a1 < 3) (h1 : 0 ≤ a2 ∧ a2 < 6) (h2 : 4 ≤ a3) : ∃ (kx b : Int) (s1 s2 : Sg), Dd 431 [(.inr (.inr (some 0))), (.inl a1), (.inl a2), (.inl a3), (.inr (.inr (some 726)))] σ (.inl (some (.inl kx)), s1) ∧ Dd 368 [(.inr (.inr (some 682))), (.inl a1), (.inl a2), (.inl a3)] s1 (.inl (some (.inl b)), s2) ∧ s2 682 0 = kx ∧ (kx = 0 → s2 726 0 = (if b = 0 then 0 else 1)) ∧ (∀ i, s1 SCR i = σ SCR i) ∧ s1 (SCR + 1) 0 = σ (SCR + 1) 0 ∧ s2 (SCR + 1) 0 = σ (SCR + 1) 0 := by
  have hA : Dd 431 [(.inr (.inr (some 0))), (.inl a1), (.inl a2), (.inl a3), (.inr (.inr (some 726)))] σ (.inl (some (.inl 1)), σ) := by
    refine b431 ?_
    have hD8 : Dd 215 [(.inr (.inr (some 0))), (.inl a1), (.inl a2), (.inl a3)] σ (.inr 0, σ) := by
      refine b215 ?_
      have hD1 : Dd 232 [(.inr (.inr (some 0))), (.inl a1), (.inl 3)] σ (.inl none, σ) := by
        refine b232 ?_
        rw [if_pos (show (0 : Int) ≤ a1 by first | omega | (simp [upS, hz]; done) | (simp [upS, hz]; omega))]
        rw [if_neg (show ¬ ((3 : Int) ≤ a1) by first | omega | (simp [upS, hz]; done) | (simp [upS, hz]; omega))]
        all_goals rfl
      refine Or.inl ⟨_, hD1, ?_⟩
      clear hD1
      have hD2 : Dd 232 [(.inr (.inr (some 0))), (.inl a2), (.inl 6)] σ (.inl none, σ) := by
        refine b232 ?_
        rw [if_pos (show (0 : Int) ≤ a2 by first | omega | (simp [upS, hz]; done) | (simp [upS, hz]; omega))]
        rw [if_neg (show ¬ ((6 : Int) ≤ a2) by first | omega | (simp [upS, hz]; done) | (simp [upS, hz]; omega))]
        all_goals rfl
      refine Or.inl ⟨_, hD2, ?_⟩
      clear hD2
      have hD4 : Dd 50 [(.inr (.inr (some 614))), (.inl a1), (.inl a2)] σ (.inl (some (.inl 0)), σ) := by
        refine b50 ?_
        have hD3 : Dd 51 [(.inl a1), (.inl a2)] σ (.inl (some (.inl ((a1 * 6) + a2))), σ) := by
          refine b51 ?_
          rw [if_pos (show (0 : Int) ≤ a1 by first | omega | (simp [upS, hz]; done) | (simp [upS, hz]; omega))]
          rw [if_pos (show a1 < 3 by first | omega | (simp [upS, hz]; done) | (simp [upS, hz]; omega))]
          rw [if_pos (show (0 : Int) ≤ a2 by first | omega | (simp [upS, hz]; done) | (simp [upS, hz]; omega))]
          rw [if_pos (show a2 < 6 by first | omega | (simp [upS, hz]; done) | (simp [upS, hz]; omega))]
          refine b51_24 ?_
          refine ⟨(show ¬ (1 = 0) → -2147483648 ≤ (a1 * 6) ∧ (a1 * 6) ≤ 2147483647 by (first | (intros; first | omega | (simp [upS, hz]; done) | (simp [upS, hz]; omega)) | (intros; simp_all [upS, hz]; done) | (intros; simp_all [upS, hz]; omega))), ?_⟩
          refine ⟨(show ¬ (1 = 0) → -2147483648 ≤ ((a1 * 6) + a2) ∧ ((a1 * 6) + a2) ≤ 2147483647 by (first | (intros; first | omega | (simp [upS, hz]; done) | (simp [upS, hz]; omega)) | (intros; simp_all [upS, hz]; done) | (intros; simp_all [upS, hz]; omega))), ?_⟩
          try rw [if_neg (show ¬ ((1 : Int) = 0) by first | omega | (simp [upS, hz]; done) | (simp [upS, hz]; omega))]
          all_goals rfl
        refine ⟨_, _, hD3, ?_⟩
        clear hD3
        refine ⟨(show (((a1 * 6) + a2) < 18) → 0 ≤ ((a1 * 6) + a2) ∧ ((a1 * 6) + a2) < 18 by (first | (intros; first | omega | (simp [upS, hz]; done) | (simp [upS, hz]; omega)) | (intros; simp_all [upS, hz]; done) | (intros; simp_all [upS, hz]; omega))), ?_⟩
        try rw [if_pos (show ((a1 * 6) + a2) < 18 by first | omega | (simp [upS, hz]; done) | (simp [upS, hz]; omega))]
        try rw [if_pos (show (σ 652 (((a1 * 6) + a2)).toNat) = 0 by first | omega | (simp [upS, hz]; done) | (simp [upS, hz]; omega))]
        all_goals rfl
      refine ⟨_, _, hD4, ?_⟩
      clear hD4
      rw [if_neg (show ¬ (a3 = (-1)) by first | omega | (simp [upS, hz]; done) | (simp [upS, hz]; omega))]
      have hD7 : Dd 227 [(.inr (.inr (some 0))), (.inl a3)] σ (.inr 0, σ) := by
        refine b227 ?_
        have hD5 : Dd 145 [(.inr (.inr (some 1))), (.inl a3)] σ (.inl (some (.inr (.inr none))), σ) := by
          refine b145 ?_
          rw [if_pos (show (0 : Int) ≤ a3 by first | omega | (simp [upS, hz]; done) | (simp [upS, hz]; omega))]
          refine ⟨4, (by decide +kernel), (by decide), ?_⟩
          rw [if_neg (show ¬ (a3 < ((4 : Nat) : Int)) by first | omega | (simp [upS, hz]; done) | (simp [upS, hz]; omega))]
          all_goals rfl
        refine ⟨_, _, hD5, ?_⟩
        clear hD5
        refine ⟨fun _ => ?_, fun _ hz6 => (by cases hz6)⟩
        all_goals rfl
      refine Or.inr ⟨_, _, hD7, ?_⟩
      all_goals rfl
    exact Or.inr (⟨_, hD8, rfl⟩)
  have hB : Dd 368 [(.inr (.inr (some 682))), (.inl a1), (.inl a2), (.inl a3)] σ (.inl (some (.inl 0)), (upS σ 682 0 1)) := by
    refine b368 ?_
    have hD9 : Dd 246 [(.inl a1), (.inl 3)] σ (.inl (some (.inl 1)), σ) := by
      refine b246 ?_
      try rw [if_pos (show (0 : Int) ≤ a1 by first | omega | (simp [upS, hz]; done) | (simp [upS, hz]; omega))]
      try rw [if_pos (show a1 < 3 by first | omega | (simp [upS, hz]; done) | (simp [upS, hz]; omega))]
      all_goals rfl
    refine ⟨_, _, hD9, ?_⟩
    clear hD9
    rw [if_neg (show ¬ ((1 : Int) = 0) by first | omega | (simp [upS, hz]; done) | (simp [upS, hz]; omega))]
    have hD10 : Dd 246 [(.inl a2), (.inl 6)] σ (.inl (some (.inl 1)), σ) := by
      refine b246 ?_
      try rw [if_pos (show (0 : Int) ≤ a2 by first | omega | (simp [upS, hz]; done) | (simp [upS, hz]; omega))]
      try rw [if_pos (show a2 < 6 by first | omega | (simp [upS, hz]; done) | (simp [upS, hz]; omega))]
      all_goals rfl
    refine ⟨_, _, hD10, ?_⟩
    clear hD10
    rw [if_neg (show ¬ ((1 : Int) = 0) by first | omega | (simp [upS, hz]; done) | (simp [upS, hz]; omega))]
    have hD12 : Dd 247 [(.inl a3)] σ (.inl (some (.inl 0)), σ) := by
      refine b247 ?_
      have hD11 : Dd 246 [(.inl a3), (.inl 4)] σ (.inl (some (.inl 0)), σ) := by
        refine b246 ?_
        try rw [if_pos (show (0 : Int) ≤ a3 by first | omega | (simp [upS, hz]; done) | (simp [upS, hz]; omega))]
        try rw [if_neg (show ¬ (a3 < 4) by first | omega | (simp [upS, hz]; done) | (simp [upS, hz]; omega))]
        all_goals rfl
      refine ⟨_, _, hD11, ?_⟩
      clear hD11
      refine ⟨(show 0 = 0 ∨ 0 = 1 by first | omega | (simp [upS, hz]; done) | (simp [upS, hz]; omega)), ?_⟩
      all_goals rfl
    refine ⟨_, _, hD12, ?_⟩
    clear hD12
    rw [if_pos (show (0 : Int) = 0 by first | omega | (simp [upS, hz]; done) | (simp [upS, hz]; omega))]
    rw [if_neg (show ¬ (a3 = (-1)) by first | omega | (simp [upS, hz]; done) | (simp [upS, hz]; omega))]
    refine b368_33 ?_
    refine b368_34 ?_
    try rw [if_pos (show (0 : Int) = 0 by first | omega | (simp [upS, hz]; done) | (simp [upS, hz]; omega))]
    refine b368_47 ?_
    have hD13 : Dd 245 [(.inr (.inr (some 682))), (.inl 1)] σ (.inl (some (.inl 0)), (upS σ 682 0 1)) := by
      refine b245 ?_
      try rw [if_neg (show ¬ ((1 : Int) = 0) by first | omega | (simp [upS, hz]; done) | (simp [upS, hz]; omega))]
      all_goals rfl
    refine ⟨_, _, hD13, ?_⟩
    clear hD13
    rw [if_pos (show (0 : Int) = 0 by first | omega | (simp [upS, hz]; done) | (simp [upS, hz]; omega))]
    all_goals rfl
  refine ⟨_, _, _, _, hA, hB, ?_, ?_, ?_, ?_, ?_⟩
  · (first | rfl | (simp [upS, SCR, hz]; done) | (simp [upS, SCR, hz]; omega))
  · first | (intro h9; omega) | (intro _; first | rfl | (simp [upS, SCR, hz]; done) | (simp [upS, SCR, hz]; omega))
  · intro i; first | rfl | (unfold upS SCR; (repeat' split) <;> first | rfl | omega)
  · first | rfl | (unfold upS SCR; (repeat' split) <;> first | rfl | omega)
  · first | rfl | (unfold upS SCR; (repeat' split) <;> first | rfl | omega)
theorem q43_6 {σ : Sg} {a1 : Int} {a2 : Int} {a3 : Int} (hz : ∀ a i, a < 1000 → σ a i = 0) (h0 : 0 ≤ a1 ∧ a1 < 3) (h1 : 0 ≤ a2 ∧ a2 < 6) (h2 : a3 = -1) : ∃ (kx b : Int) (s1 s2 : Sg), Dd 431 [(.inr (.inr (some 0))), (.inl a1), (.inl a2), (.inl a3), (.inr (.inr (some 726)))] σ (.inl (some (.inl kx)), s1) ∧ Dd 368 [(.inr (.inr (some 682))), (.inl a1), (.inl a2), (.inl a3)] s1 (.inl (some (.inl b)), s2) ∧ s2 682 0 = kx ∧ (kx = 0 → s2 726 0 = (if b = 0 then 0 else 1)) ∧ (∀ i, s1 SCR i = σ SCR i) ∧ s1 (SCR + 1) 0 = σ (SCR + 1) 0 ∧ s2 (SCR + 1) 0 = σ (SCR + 1) 0 := by
  have hA : Dd 431 [(.inr (.inr (some 0))), (.inl a1), (.inl a2), (.inl a3), (.inr (.inr (some 726)))] σ (.inl (some (.inl 0)), (upS (upS σ 652 ((((a1 * 6) + a2)).toNat) 0) 726 0 0)) := by
    refine b431 ?_
    have hD7 : Dd 215 [(.inr (.inr (some 0))), (.inl a1), (.inl a2), (.inl a3)] σ (.inl (some (.inl 0)), (upS σ 652 ((((a1 * 6) + a2)).toNat) 0)) := by
      refine b215 ?_
      have hD1 : Dd 232 [(.inr (.inr (some 0))), (.inl a1), (.inl 3)] σ (.inl none, σ) := by
        refine b232 ?_
        rw [if_pos (show (0 : Int) ≤ a1 by first | omega | (simp [upS, hz]; done) | (simp [upS, hz]; omega))]
        rw [if_neg (show ¬ ((3 : Int) ≤ a1) by first | omega | (simp [upS, hz]; done) | (simp [upS, hz]; omega))]
        all_goals rfl
      refine Or.inl ⟨_, hD1, ?_⟩
      clear hD1
      have hD2 : Dd 232 [(.inr (.inr (some 0))), (.inl a2), (.inl 6)] σ (.inl none, σ) := by
        refine b232 ?_
        rw [if_pos (show (0 : Int) ≤ a2 by first | omega | (simp [upS, hz]; done) | (simp [upS, hz]; omega))]
        rw [if_neg (show ¬ ((6 : Int) ≤ a2) by first | omega | (simp [upS, hz]; done) | (simp [upS, hz]; omega))]
        all_goals rfl
      refine Or.inl ⟨_, hD2, ?_⟩
      clear hD2
      have hD4 : Dd 50 [(.inr (.inr (some 614))), (.inl a1), (.inl a2)] σ (.inl (some (.inl 0)), σ) := by
        refine b50 ?_
        have hD3 : Dd 51 [(.inl a1), (.inl a2)] σ (.inl (some (.inl ((a1 * 6) + a2))), σ) := by
          refine b51 ?_
          rw [if_pos (show (0 : Int) ≤ a1 by first | omega | (simp [upS, hz]; done) | (simp [upS, hz]; omega))]
          rw [if_pos (show a1 < 3 by first | omega | (simp [upS, hz]; done) | (simp [upS, hz]; omega))]
          rw [if_pos (show (0 : Int) ≤ a2 by first | omega | (simp [upS, hz]; done) | (simp [upS, hz]; omega))]
          rw [if_pos (show a2 < 6 by first | omega | (simp [upS, hz]; done) | (simp [upS, hz]; omega))]
          refine b51_24 ?_
          refine ⟨(show ¬ (1 = 0) → -2147483648 ≤ (a1 * 6) ∧ (a1 * 6) ≤ 2147483647 by (first | (intros; first | omega | (simp [upS, hz]; done) | (simp [upS, hz]; omega)) | (intros; simp_all [upS, hz]; done) | (intros; simp_all [upS, hz]; omega))), ?_⟩
          refine ⟨(show ¬ (1 = 0) → -2147483648 ≤ ((a1 * 6) + a2) ∧ ((a1 * 6) + a2) ≤ 2147483647 by (first | (intros; first | omega | (simp [upS, hz]; done) | (simp [upS, hz]; omega)) | (intros; simp_all [upS, hz]; done) | (intros; simp_all [upS, hz]; omega))), ?_⟩
          try rw [if_neg (show ¬ ((1 : Int) = 0) by first | omega | (simp [upS, hz]; done) | (simp [upS, hz]; omega))]
          all_goals rfl
        refine ⟨_, _, hD3, ?_⟩
        clear hD3
        refine ⟨(show (((a1 * 6) + a2) < 18) → 0 ≤ ((a1 * 6) + a2) ∧ ((a1 * 6) + a2) < 18 by (first | (intros; first | omega | (simp [upS, hz]; done) | (simp [upS, hz]; omega)) | (intros; simp_all [upS, hz]; done) | (intros; simp_all [upS, hz]; omega))), ?_⟩
        try rw [if_pos (show ((a1 * 6) + a2) < 18 by first | omega | (simp [upS, hz]; done) | (simp [upS, hz]; omega))]
        try rw [if_pos (show (σ 652 (((a1 * 6) + a2)).toNat) = 0 by first | omega | (simp [upS, hz]; done) | (simp [upS, hz]; omega))]
        all_goals rfl
      refine ⟨_, _, hD4, ?_⟩
      clear hD4
      rw [if_pos (show a3 = (-1) by first | omega | (simp [upS, hz]; done) | (simp [upS, hz]; omega))]
      have hD6 : Dd 52 [(.inr (.inr (some 614))), (.inl a1), (.inl a2)] σ (.inl none, (upS σ 652 ((((a1 * 6) + a2)).toNat) 0)) := by
        refine b52 ?_
        have hD5 : Dd 51 [(.inl a1), (.inl a2)] σ (.inl (some (.inl ((a1 * 6) + a2))), σ) := by
          refine b51 ?_
          rw [if_pos (show (0 : Int) ≤ a1 by first | omega | (simp [upS, hz]; done) | (simp [upS, hz]; omega))]
          rw [if_pos (show a1 < 3 by first | omega | (simp [upS, hz]; done) | (simp [upS, hz]; omega))]
          rw [if_pos (show (0 : Int) ≤ a2 by first | omega | (simp [upS, hz]; done) | (simp [upS, hz]; omega))]
          rw [if_pos (show a2 < 6 by first | omega | (simp [upS, hz]; done) | (simp [upS, hz]; omega))]
          refine b51_24 ?_
          refine ⟨(show ¬ (1 = 0) → -2147483648 ≤ (a1 * 6) ∧ (a1 * 6) ≤ 2147483647 by (first | (intros; first | omega | (simp [upS, hz]; done) | (simp [upS, hz]; omega)) | (intros; simp_all [upS, hz]; done) | (intros; simp_all [upS, hz]; omega))), ?_⟩
          refine ⟨(show ¬ (1 = 0) → -2147483648 ≤ ((a1 * 6) + a2) ∧ ((a1 * 6) + a2) ≤ 2147483647 by (first | (intros; first | omega | (simp [upS, hz]; done) | (simp [upS, hz]; omega)) | (intros; simp_all [upS, hz]; done) | (intros; simp_all [upS, hz]; omega))), ?_⟩
          try rw [if_neg (show ¬ ((1 : Int) = 0) by first | omega | (simp [upS, hz]; done) | (simp [upS, hz]; omega))]
          all_goals rfl
        refine ⟨_, _, hD5, ?_⟩
        clear hD5
        rw [if_pos (show ((a1 * 6) + a2) < 18 by first | omega | (simp [upS, hz]; done) | (simp [upS, hz]; omega))]
        refine ⟨(show 0 ≤ ((a1 * 6) + a2) ∧ ((a1 * 6) + a2) < 18 by first | omega | (simp [upS, hz]; done) | (simp [upS, hz]; omega)), ?_⟩
        all_goals rfl
      refine ⟨_, hD6, ?_⟩
      clear hD6
      refine ⟨(show 0 = 0 ∨ 0 = 1 by first | omega | (simp [upS, hz]; done) | (simp [upS, hz]; omega)), ?_⟩
      all_goals rfl
    refine Or.inl ⟨_, _, hD7, ?_⟩
    clear hD7
    try rw [if_pos (show (0 : Int) = 0 by first | omega | (simp [upS, hz]; done) | (simp [upS, hz]; omega))]
    refine b431_18 ?_
    refine ⟨(show (0 : Int) ≤ 0 ∧ (0 : Int) < 1 by first | omega | (simp [upS, hz]; done) | (simp [upS, hz]; omega)), ?_⟩
    rw [(show (upS (upS σ 652 ((((a1 * 6) + a2)).toNat) 0) 726 ((0 : Int).toNat) 0) = (upS (upS σ 652 ((((a1 * 6) + a2)).toNat) 0) 726 0 0) from by rw [show ((0 : Int).toNat) = 0 by (first | omega | (simp [upS, hz]; done) | (simp [upS, hz]; omega))])]
    all_goals rfl
  have hB : Dd 368 [(.inr (.inr (some 682))), (.inl a1), (.inl a2), (.inl a3)] (upS (upS σ 652 ((((a1 * 6) + a2)).toNat) 0) 726 0 0) (.inl (some (.inl 0)), (upS (upS (upS (upS (upS σ 652 ((((a1 * 6) + a2)).toNat) 0) 726 0 0) 682 0 0) 717 ((((6 * a1) + a2)).toNat) 0) 718 ((((6 * a1) + a2)).toNat) 0)) := by
    refine b368 ?_
    have hD8 : Dd 246 [(.inl a1), (.inl 3)] (upS (upS σ 652 ((((a1 * 6) + a2)).toNat) 0) 726 0 0) (.inl (some (.inl 1)), (upS (upS σ 652 ((((a1 * 6) + a2)).toNat) 0) 726 0 0)) := by
      refine b246 ?_
      try rw [if_pos (show (0 : Int) ≤ a1 by first | omega | (simp [upS, hz]; done) | (simp [upS, hz]; omega))]
      try rw [if_pos (show a1 < 3 by first | omega | (simp [upS, hz]; done) | (simp [upS, hz]; omega))]
      all_goals rfl
    refine ⟨_, _, hD8, ?_⟩
    clear hD8
    rw [if_neg (show ¬ ((1 : Int) = 0) by first | omega | (simp [upS, hz]; done) | (simp [upS, hz]; omega))]
    have hD9 : Dd 246 [(.inl a2), (.inl 6)] (upS (upS σ 652 ((((a1 * 6) + a2)).toNat) 0) 726 0 0) (.inl (some (.inl 1)), (upS (upS σ 652 ((((a1 * 6) + a2)).toNat) 0) 726 0 0)) := by
      refine b246 ?_
      try rw [if_pos (show (0 : Int) ≤ a2 by first | omega | (simp [upS, hz]; done) | (simp [upS, hz]; omega))]
      try rw [if_pos (show a2 < 6 by first | omega | (simp [upS, hz]; done) | (simp [upS, hz]; omega))]
      all_goals rfl
    refine ⟨_, _, hD9, ?_⟩
    clear hD9
    rw [if_neg (show ¬ ((1 : Int) = 0) by first | omega | (simp [upS, hz]; done) | (simp [upS, hz]; omega))]
    have hD11 : Dd 247 [(.inl a3)] (upS (upS σ 652 ((((a1 * 6) + a2)).toNat) 0) 726 0 0) (.inl (some (.inl 0)), (upS (upS σ 652 ((((a1 * 6) + a2)).toNat) 0) 726 0 0)) := by
      refine b247 ?_
      have hD10 : Dd 246 [(.inl a3), (.inl 4)] (upS (upS σ 652 ((((a1 * 6) + a2)).toNat) 0) 726 0 0) (.inl (some (.inl 0)), (upS (upS σ 652 ((((a1 * 6) + a2)).toNat) 0) 726 0 0)) := by
        refine b246 ?_
        try rw [if_neg (show ¬ ((0 : Int) ≤ a3) by first | omega | (simp [upS, hz]; done) | (simp [upS, hz]; omega))]
        all_goals rfl
      refine ⟨_, _, hD10, ?_⟩
      clear hD10
      refine ⟨(show 0 = 0 ∨ 0 = 1 by first | omega | (simp [upS, hz]; done) | (simp [upS, hz]; omega)), ?_⟩
      all_goals rfl
    refine ⟨_, _, hD11, ?_⟩
    clear hD11
    rw [if_pos (show (0 : Int) = 0 by first | omega | (simp [upS, hz]; done) | (simp [upS, hz]; omega))]
    rw [if_pos (show a3 = (-1) by first | omega | (simp [upS, hz]; done) | (simp [upS, hz]; omega))]
    refine b368_29 ?_
    refine b368_34 ?_
    try rw [if_neg (show ¬ ((1 : Int) = 0) by first | omega | (simp [upS, hz]; done) | (simp [upS, hz]; omega))]
    refine b368_47 ?_
    have hD12 : Dd 245 [(.inr (.inr (some 682))), (.inl 0)] (upS (upS σ 652 ((((a1 * 6) + a2)).toNat) 0) 726 0 0) (.inl (some (.inl 1)), (upS (upS (upS σ 652 ((((a1 * 6) + a2)).toNat) 0) 726 0 0) 682 0 0)) := by
      refine b245 ?_
      try rw [if_pos (show (0 : Int) = 0 by first | omega | (simp [upS, hz]; done) | (simp [upS, hz]; omega))]
      all_goals rfl
    refine ⟨_, _, hD12, ?_⟩
    clear hD12
    rw [if_neg (show ¬ ((1 : Int) = 0) by first | omega | (simp [upS, hz]; done) | (simp [upS, hz]; omega))]
    refine ⟨(show -2147483648 ≤ (6 * a1) ∧ (6 * a1) ≤ 2147483647 by first | omega | (simp [upS, hz]; done) | (simp [upS, hz]; omega)), ?_⟩
    refine ⟨(show -2147483648 ≤ ((6 * a1) + a2) ∧ ((6 * a1) + a2) ≤ 2147483647 by first | omega | (simp [upS, hz]; done) | (simp [upS, hz]; omega)), ?_⟩
    refine ⟨(show 0 ≤ ((6 * a1) + a2) ∧ ((6 * a1) + a2) < 18 by first | omega | (simp [upS, hz]; done) | (simp [upS, hz]; omega)), ?_⟩
    try rw [if_pos (show a3 = (-1) by first | omega | (simp [upS, hz]; done) | (simp [upS, hz]; omega))]
    rw [show ((upS (upS (upS σ 652 ((((a1 * 6) + a2)).toNat) 0) 726 0 0) 682 0 0) 717 (((6 * a1) + a2)).toNat) = 0 by (first | omega | (simp [upS, hz]; done) | (simp [upS, hz]; omega))]
    refine b368_88 ?_
    refine ⟨(show 0 ≤ ((6 * a1) + a2) ∧ ((6 * a1) + a2) < 18 by first | omega | (simp [upS, hz]; done) | (simp [upS, hz]; omega)), ?_⟩
    refine ⟨(show 0 = 0 ∨ 0 = 1 by first | omega | (simp [upS, hz]; done) | (simp [upS, hz]; omega)), ?_⟩
    refine ⟨(show ¬ (a3 = (-1)) → 0 ≤ a3 ∧ a3 < 4 by (first | (intros; first | omega | (simp [upS, hz]; done) | (simp [upS, hz]; omega)) | (intros; simp_all [upS, hz]; done) | (intros; simp_all [upS, hz]; omega))), ?_⟩
    try rw [if_pos (show a3 = (-1) by first | omega | (simp [upS, hz]; done) | (simp [upS, hz]; omega))]
    obtain ⟨S13, E13⟩ : ∃ s : Sg, s = (upS (upS (upS (upS σ 652 ((((a1 * 6) + a2)).toNat) 0) 726 0 0) 682 0 0) 717 ((((6 * a1) + a2)).toNat) 0) := ⟨_, rfl⟩
    rw [← E13]
    refine b368_110 ?_
    refine ⟨(show 0 ≤ ((6 * a1) + a2) ∧ ((6 * a1) + a2) < 18 by first | omega | (simp [upS, hz, E13]; done) | (simp [upS, hz, E13]; omega)), ?_⟩
    refine b368_114 ?_
    refine ⟨(show 0 ≤ ((6 * a1) + a2) ∧ ((6 * a1) + a2) < 18 by first | omega | (simp [upS, hz, E13]; done) | (simp [upS, hz, E13]; omega)), ?_⟩
    rw [if_neg (show ¬ ((0 : Int) < ((upS S13 718 ((((6 * a1) + a2)).toNat) 0) 718 (((6 * a1) + a2)).toNat)) by first | omega | (simp [upS, hz, E13]; done) | (simp [upS, hz, E13]; omega))]
    refine ⟨(show 0 = 0 ∨ 0 = 1 by first | omega | (simp [upS, hz, E13]; done) | (simp [upS, hz, E13]; omega)), ?_⟩
    all_goals (first | rfl | (simp only [E13]))
  refine ⟨_, _, _, _, hA, hB, ?_, ?_, ?_, ?_, ?_⟩
  · (first | rfl | (simp [upS, SCR, hz]; done) | (simp [upS, SCR, hz]; omega))
  · first | (intro h9; omega) | (intro _; first | rfl | (simp [upS, SCR, hz]; done) | (simp [upS, SCR, hz]; omega))
  · intro i; first | rfl | (unfold upS SCR; (repeat' split) <;> first | rfl | omega)
  · first | rfl | (unfold upS SCR; (repeat' split) <;> first | rfl | omega)
  · first | rfl | (unfold upS SCR; (repeat' split) <;> first | rfl | omega)
theorem q43_7 {σ : Sg} {a1 : Int} {a2 : Int} {a3 : Int} (hz : ∀ a i, a < 1000 → σ a i = 0) (h0 : 0 ≤ a1 ∧ a1 < 3) (h1 : 0 ≤ a2 ∧ a2 < 6) (h2 : 0 ≤ a3 ∧ a3 < 4) : ∃ (kx b : Int) (s1 s2 : Sg), Dd 431 [(.inr (.inr (some 0))), (.inl a1), (.inl a2), (.inl a3), (.inr (.inr (some 726)))] σ (.inl (some (.inl kx)), s1) ∧ Dd 368 [(.inr (.inr (some 682))), (.inl a1), (.inl a2), (.inl a3)] s1 (.inl (some (.inl b)), s2) ∧ s2 682 0 = kx ∧ (kx = 0 → s2 726 0 = (if b = 0 then 0 else 1)) ∧ (∀ i, s1 SCR i = σ SCR i) ∧ s1 (SCR + 1) 0 = σ (SCR + 1) 0 ∧ s2 (SCR + 1) 0 = σ (SCR + 1) 0 := by
  have za3 : ∀ i, σ (2 + 2 * ((a3)).toNat) i = 0 := fun i => hz _ i (by omega)
  have z1a3 : ∀ i, σ ((2 + 2 * ((a3)).toNat) + 1) i = 0 := fun i => hz _ i (by omega)
  have ca3 : (cap (2 + 2 * ((a3)).toNat) : Int) = 16 := cp_1 (by omega)
  have hA : Dd 431 [(.inr (.inr (some 0))), (.inl a1), (.inl a2), (.inl a3), (.inr (.inr (some 726)))] σ (.inl (some (.inl 0)), (upS (upS (upS σ 652 ((((a1 * 6) + a2)).toNat) 1) (616 + 2 * ((((a1 * 6) + a2))).toNat) 1 0) 726 0 0)) := by
    refine b431 ?_
    have hD11 : Dd 215 [(.inr (.inr (some 0))), (.inl a1), (.inl a2), (.inl a3)] σ (.inl (some (.inl 0)), (upS (upS σ 652 ((((a1 * 6) + a2)).toNat) 1) (616 + 2 * ((((a1 * 6) + a2))).toNat) 1 0)) := by
      refine b215 ?_
      have hD1 : Dd 232 [(.inr (.inr (some 0))), (.inl a1), (.inl 3)] σ (.inl none, σ) := by
        refine b232 ?_
        rw [if_pos (show (0 : Int) ≤ a1 by first | omega | (simp [upS, hz, za3, z1a3, ca3]; done) | (simp [upS, hz, za3, z1a3, ca3]; omega))]
        rw [if_neg (show ¬ ((3 : Int) ≤ a1) by first | omega | (simp [upS, hz, za3, z1a3, ca3]; done) | (simp [upS, hz, za3, z1a3, ca3]; omega))]
        all_goals rfl
      refine Or.inl ⟨_, hD1, ?_⟩
      clear hD1
      have hD2 : Dd 232 [(.inr (.inr (some 0))), (.inl a2), (.inl 6)] σ (.inl none, σ) := by
        refine b232 ?_
        rw [if_pos (show (0 : Int) ≤ a2 by first | omega | (simp [upS, hz, za3, z1a3, ca3]; done) | (simp [upS, hz, za3, z1a3, ca3]; omega))]
        rw [if_neg (show ¬ ((6 : Int) ≤ a2) by first | omega | (simp [upS, hz, za3, z1a3, ca3]; done) | (simp [upS, hz, za3, z1a3, ca3]; omega))]
        all_goals rfl
      refine Or.inl ⟨_, hD2, ?_⟩
      clear hD2
      have hD4 : Dd 50 [(.inr (.inr (some 614))), (.inl a1), (.inl a2)] σ (.inl (some (.inl 0)), σ) := by
        refine b50 ?_
        have hD3 : Dd 51 [(.inl a1), (.inl a2)] σ (.inl (some (.inl ((a1 * 6) + a2))), σ) := by
          refine b51 ?_
          rw [if_pos (show (0 : Int) ≤ a1 by first | omega | (simp [upS, hz, za3, z1a3, ca3]; done) | (simp [upS, hz, za3, z1a3, ca3]; omega))]
          rw [if_pos (show a1 < 3 by first | omega | (simp [upS, hz, za3, z1a3, ca3]; done) | (simp [upS, hz, za3, z1a3, ca3]; omega))]
          rw [if_pos (show (0 : Int) ≤ a2 by first | omega | (simp [upS, hz, za3, z1a3, ca3]; done) | (simp [upS, hz, za3, z1a3, ca3]; omega))]
          rw [if_pos (show a2 < 6 by first | omega | (simp [upS, hz, za3, z1a3, ca3]; done) | (simp [upS, hz, za3, z1a3, ca3]; omega))]
          refine b51_24 ?_
          refine ⟨(show ¬ (1 = 0) → -2147483648 ≤ (a1 * 6) ∧ (a1 * 6) ≤ 2147483647 by (first | (intros; first | omega | (simp [upS, hz, za3, z1a3, ca3]; done) | (simp [upS, hz, za3, z1a3, ca3]; omega)) | (intros; simp_all [upS, hz, za3, z1a3, ca3]; done) | (intros; simp_all [upS, hz, za3, z1a3, ca3]; omega))), ?_⟩
          refine ⟨(show ¬ (1 = 0) → -2147483648 ≤ ((a1 * 6) + a2) ∧ ((a1 * 6) + a2) ≤ 2147483647 by (first | (intros; first | omega | (simp [upS, hz, za3, z1a3, ca3]; done) | (simp [upS, hz, za3, z1a3, ca3]; omega)) | (intros; simp_all [upS, hz, za3, z1a3, ca3]; done) | (intros; simp_all [upS, hz, za3, z1a3, ca3]; omega))), ?_⟩
          try rw [if_neg (show ¬ ((1 : Int) = 0) by first | omega | (simp [upS, hz, za3, z1a3, ca3]; done) | (simp [upS, hz, za3, z1a3, ca3]; omega))]
          all_goals rfl
        refine ⟨_, _, hD3, ?_⟩
        clear hD3
        refine ⟨(show (((a1 * 6) + a2) < 18) → 0 ≤ ((a1 * 6) + a2) ∧ ((a1 * 6) + a2) < 18 by (first | (intros; first | omega | (simp [upS, hz, za3, z1a3, ca3]; done) | (simp [upS, hz, za3, z1a3, ca3]; omega)) | (intros; simp_all [upS, hz, za3, z1a3, ca3]; done) | (intros; simp_all [upS, hz, za3, z1a3, ca3]; omega))), ?_⟩
        try rw [if_pos (show ((a1 * 6) + a2) < 18 by first | omega | (simp [upS, hz, za3, z1a3, ca3]; done) | (simp [upS, hz, za3, z1a3, ca3]; omega))]
        try rw [if_pos (show (σ 652 (((a1 * 6) + a2)).toNat) = 0 by first | omega | (simp [upS, hz, za3, z1a3, ca3]; done) | (simp [upS, hz, za3, z1a3, ca3]; omega))]
        all_goals rfl
      refine ⟨_, _, hD4, ?_⟩
      clear hD4
      rw [if_neg (show ¬ (a3 = (-1)) by first | omega | (simp [upS, hz, za3, z1a3, ca3]; done) | (simp [upS, hz, za3, z1a3, ca3]; omega))]
      have hD7 : Dd 227 [(.inr (.inr (some 0))), (.inl a3)] σ (.inl (some (.inr (.inr (some (2 + 2 * ((a3)).toNat))))), σ) := by
        refine b227 ?_
        have hD5 : Dd 145 [(.inr (.inr (some 1))), (.inl a3)] σ (.inl (some (.inr (.inr (some (2 + 2 * ((a3)).toNat))))), σ) := by
          refine b145 ?_
          rw [if_pos (show (0 : Int) ≤ a3 by first | omega | (simp [upS, hz, za3, z1a3, ca3]; done) | (simp [upS, hz, za3, z1a3, ca3]; omega))]
          refine ⟨4, (by decide +kernel), (by decide), ?_⟩
          rw [if_pos (show a3 < ((4 : Nat) : Int) by first | omega | (simp [upS, hz, za3, z1a3, ca3]; done) | (simp [upS, hz, za3, z1a3, ca3]; omega))]
          refine ⟨(show 0 ≤ a3 by first | omega | (simp [upS, hz, za3, z1a3, ca3]; done) | (simp [upS, hz, za3, z1a3, ca3]; omega)), ?_⟩
          refine ⟨(2 + 2 * ((a3)).toNat), (el_1 (i := (a3)) (by first | omega | (simp [upS, hz, za3, z1a3, ca3]; done) | (simp [upS, hz, za3, z1a3, ca3]; omega))).1, (el_1 (i := (a3)) (by first | omega | (simp [upS, hz, za3, z1a3, ca3]; done) | (simp [upS, hz, za3, z1a3, ca3]; omega))).2, ?_⟩
          all_goals rfl
        refine ⟨_, _, hD5, ?_⟩
        clear hD5
        refine ⟨fun hz6 => (by cases hz6), fun _ hz6 => ?_⟩
        cases hz6
        refine ⟨(el_1 (i := (a3)) (by first | omega | (simp [upS, hz, za3, z1a3, ca3]; done) | (simp [upS, hz, za3, z1a3, ca3]; omega))).2, ?_⟩
        all_goals rfl
      refine Or.inl ⟨_, _, hD7, (el_1 (i := (a3)) (by first | omega | (simp [upS, hz, za3, z1a3, ca3]; done) | (simp [upS, hz, za3, z1a3, ca3]; omega))).2, ?_⟩
      clear hD7
      have hD10 : Dd 53 [(.inr (.inr (some 614))), (.inl a1), (.inl a2), (.inr (.inr (some (2 + 2 * ((a3)).toNat))))] σ (.inl none, (upS (upS σ 652 ((((a1 * 6) + a2)).toNat) 1) (616 + 2 * ((((a1 * 6) + a2))).toNat) 1 0)) := by
        refine b53 ?_
        have hD8 : Dd 51 [(.inl a1), (.inl a2)] σ (.inl (some (.inl ((a1 * 6) + a2))), σ) := by
          refine b51 ?_
          rw [if_pos (show (0 : Int) ≤ a1 by first | omega | (simp [upS, hz, za3, z1a3, ca3]; done) | (simp [upS, hz, za3, z1a3, ca3]; omega))]
          rw [if_pos (show a1 < 3 by first | omega | (simp [upS, hz, za3, z1a3, ca3]; done) | (simp [upS, hz, za3, z1a3, ca3]; omega))]
          rw [if_pos (show (0 : Int) ≤ a2 by first | omega | (simp [upS, hz, za3, z1a3, ca3]; done) | (simp [upS, hz, za3, z1a3, ca3]; omega))]
          rw [if_pos (show a2 < 6 by first | omega | (simp [upS, hz, za3, z1a3, ca3]; done) | (simp [upS, hz, za3, z1a3, ca3]; omega))]
          refine b51_24 ?_
          refine ⟨(show ¬ (1 = 0) → -2147483648 ≤ (a1 * 6) ∧ (a1 * 6) ≤ 2147483647 by (first | (intros; first | omega | (simp [upS, hz, za3, z1a3, ca3]; done) | (simp [upS, hz, za3, z1a3, ca3]; omega)) | (intros; simp_all [upS, hz, za3, z1a3, ca3]; done) | (intros; simp_all [upS, hz, za3, z1a3, ca3]; omega))), ?_⟩
          refine ⟨(show ¬ (1 = 0) → -2147483648 ≤ ((a1 * 6) + a2) ∧ ((a1 * 6) + a2) ≤ 2147483647 by (first | (intros; first | omega | (simp [upS, hz, za3, z1a3, ca3]; done) | (simp [upS, hz, za3, z1a3, ca3]; omega)) | (intros; simp_all [upS, hz, za3, z1a3, ca3]; done) | (intros; simp_all [upS, hz, za3, z1a3, ca3]; omega))), ?_⟩
          try rw [if_neg (show ¬ ((1 : Int) = 0) by first | omega | (simp [upS, hz, za3, z1a3, ca3]; done) | (simp [upS, hz, za3, z1a3, ca3]; omega))]
          all_goals rfl
        refine ⟨_, _, hD8, ?_⟩
        clear hD8
        rw [if_pos (show ((a1 * 6) + a2) < 18 by first | omega | (simp [upS, hz, za3, z1a3, ca3]; done) | (simp [upS, hz, za3, z1a3, ca3]; omega))]
        rw [if_pos (show ((a1 * 6) + a2) < 18 by first | omega | (simp [upS, hz, za3, z1a3, ca3]; done) | (simp [upS, hz, za3, z1a3, ca3]; omega))]
        refine ⟨(show 0 ≤ ((a1 * 6) + a2) ∧ ((a1 * 6) + a2) < 18 by first | omega | (simp [upS, hz, za3, z1a3, ca3]; done) | (simp [upS, hz, za3, z1a3, ca3]; omega)), ?_⟩
        refine ⟨(show 0 ≤ ((a1 * 6) + a2) by first | omega | (simp [upS, hz, za3, z1a3, ca3]; done) | (simp [upS, hz, za3, z1a3, ca3]; omega)), ?_⟩
        refine ⟨(616 + 2 * ((((a1 * 6) + a2))).toNat), (el_615 (i := (((a1 * 6) + a2))) (by first | omega | (simp [upS, hz, za3, z1a3, ca3]; done) | (simp [upS, hz, za3, z1a3, ca3]; omega))).1, (el_615 (i := (((a1 * 6) + a2))) (by first | omega | (simp [upS, hz, za3, z1a3, ca3]; done) | (simp [upS, hz, za3, z1a3, ca3]; omega))).2, ?_⟩
        have hD9 : Dd 155 [(.inr (.inr (some (616 + 2 * ((((a1 * 6) + a2))).toNat)))), (.inr (.inr (some (2 + 2 * ((a3)).toNat))))] (upS σ 652 ((((a1 * 6) + a2)).toNat) 1) (.inl none, (upS (upS σ 652 ((((a1 * 6) + a2)).toNat) 1) (616 + 2 * ((((a1 * 6) + a2))).toNat) 1 0)) := by
          refine b155 (el_1 (i := (a3)) (by first | omega | (simp [upS, hz, za3, z1a3, ca3]; done) | (simp [upS, hz, za3, z1a3, ca3]; omega))).2 (el_615 (i := (((a1 * 6) + a2))) (by first | omega | (simp [upS, hz, za3, z1a3, ca3]; done) | (simp [upS, hz, za3, z1a3, ca3]; omega))).2 ?_
          refine ⟨(show -2147483648 ≤ ((cap (616 + 2 * ((((a1 * 6) + a2))).toNat)) : Int) ∧ ((cap (616 + 2 * ((((a1 * 6) + a2))).toNat)) : Int) ≤ 2147483647 by have ec1 : (cap (616 + 2 * ((((a1 * 6) + a2))).toNat) : Int) = 16 := cp_615 (by omega); first | omega | (simp [upS, hz, za3, z1a3, ca3]; done) | (simp [upS, hz, za3, z1a3, ca3]; omega)), ?_⟩
          rw [(show (upS (upS σ 652 ((((a1 * 6) + a2)).toNat) 1) (616 + 2 * ((((a1 * 6) + a2))).toNat) 1 (if ((cap (616 + 2 * ((((a1 * 6) + a2))).toNat)) : Int) < ((upS σ 652 ((((a1 * 6) + a2)).toNat) 1) (2 + 2 * ((a3)).toNat) 1) then ((cap (616 + 2 * ((((a1 * 6) + a2))).toNat)) : Int) else ((upS σ 652 ((((a1 * 6) + a2)).toNat) 1) (2 + 2 * ((a3)).toNat) 1))) = (upS (upS σ 652 ((((a1 * 6) + a2)).toNat) 1) (616 + 2 * ((((a1 * 6) + a2))).toNat) 1 0) from by rw [show (if ((cap (616 + 2 * ((((a1 * 6) + a2))).toNat)) : Int) < ((upS σ 652 ((((a1 * 6) + a2)).toNat) 1) (2 + 2 * ((a3)).toNat) 1) then ((cap (616 + 2 * ((((a1 * 6) + a2))).toNat)) : Int) else ((upS σ 652 ((((a1 * 6) + a2)).toNat) 1) (2 + 2 * ((a3)).toNat) 1)) = 0 by (have ec1 : (cap (616 + 2 * ((((a1 * 6) + a2))).toNat) : Int) = 16 := cp_615 (by omega); first | omega | (simp [upS, hz, za3, z1a3, ca3]; done) | (simp [upS, hz, za3, z1a3, ca3]; omega))])]
          refine b155_18 (el_615 (i := (((a1 * 6) + a2))) (by first | omega | (simp [upS, hz, za3, z1a3, ca3]; done) | (simp [upS, hz, za3, z1a3, ca3]; omega))).2 (el_1 (i := (a3)) (by first | omega | (simp [upS, hz, za3, z1a3, ca3]; done) | (simp [upS, hz, za3, z1a3, ca3]; omega))).2 ?_
          rw [if_neg (show ¬ ((0 : Int) < ((upS (upS σ 652 ((((a1 * 6) + a2)).toNat) 1) (616 + 2 * ((((a1 * 6) + a2))).toNat) 1 0) (616 + 2 * ((((a1 * 6) + a2))).toNat) 1)) by first | omega | (simp [upS, hz, za3, z1a3, ca3]; done) | (simp [upS, hz, za3, z1a3, ca3]; omega))]
          all_goals rfl
        refine ⟨_, hD9, ?_⟩
        clear hD9
        all_goals rfl
      refine ⟨_, hD10, ?_⟩
      clear hD10
      refine ⟨(show 0 = 0 ∨ 0 = 1 by first | omega | (simp [upS, hz, za3, z1a3, ca3]; done) | (simp [upS, hz, za3, z1a3, ca3]; omega)), ?_⟩
      all_goals rfl
    refine Or.inl ⟨_, _, hD11, ?_⟩
    clear hD11
    try rw [if_pos (show (0 : Int) = 0 by first | omega | (simp [upS, hz, za3, z1a3, ca3]; done) | (simp [upS, hz, za3, z1a3, ca3]; omega))]
    refine b431_18 ?_
    refine ⟨(show (0 : Int) ≤ 0 ∧ (0 : Int) < 1 by first | omega | (simp [upS, hz, za3, z1a3, ca3]; done) | (simp [upS, hz, za3, z1a3, ca3]; omega)), ?_⟩
    rw [(show (upS (upS (upS σ 652 ((((a1 * 6) + a2)).toNat) 1) (616 + 2 * ((((a1 * 6) + a2))).toNat) 1 0) 726 ((0 : Int).toNat) 0) = (upS (upS (upS σ 652 ((((a1 * 6) + a2)).toNat) 1) (616 + 2 * ((((a1 * 6) + a2))).toNat) 1 0) 726 0 0) from by rw [show ((0 : Int).toNat) = 0 by (first | omega | (simp [upS, hz, za3, z1a3, ca3]; done) | (simp [upS, hz, za3, z1a3, ca3]; omega))])]
    all_goals rfl
  obtain ⟨S900, E900⟩ : ∃ s : Sg, s = (upS (upS (upS σ 652 ((((a1 * 6) + a2)).toNat) 1) (616 + 2 * ((((a1 * 6) + a2))).toNat) 1 0) 726 0 0) := ⟨_, rfl⟩
  rw [← E900] at hA
  have hB : Dd 368 [(.inr (.inr (some 682))), (.inl a1), (.inl a2), (.inl a3)] S900 (.inl (some (.inl 0)), (upS (upS (upS S900 682 0 0) 717 ((((6 * a1) + a2)).toNat) 1) 718 ((((6 * a1) + a2)).toNat) 0)) := by
    refine b368 ?_
    have hD12 : Dd 246 [(.inl a1), (.inl 3)] S900 (.inl (some (.inl 1)), S900) := by
      refine b246 ?_
      try rw [if_pos (show (0 : Int) ≤ a1 by first | omega | (simp [upS, hz, za3, z1a3, ca3, E900]; done) | (simp [upS, hz, za3, z1a3, ca3, E900]; omega))]
      try rw [if_pos (show a1 < 3 by first | omega | (simp [upS, hz, za3, z1a3, ca3, E900]; done) | (simp [upS, hz, za3, z1a3, ca3, E900]; omega))]
      all_goals rfl
    refine ⟨_, _, hD12, ?_⟩
    clear hD12
    rw [if_neg (show ¬ ((1 : Int) = 0) by first | omega | (simp [upS, hz, za3, z1a3, ca3, E900]; done) | (simp [upS, hz, za3, z1a3, ca3, E900]; omega))]
    have hD13 : Dd 246 [(.inl a2), (.inl 6)] S900 (.inl (some (.inl 1)), S900) := by
      refine b246 ?_
      try rw [if_pos (show (0 : Int) ≤ a2 by first | omega | (simp [upS, hz, za3, z1a3, ca3, E900]; done) | (simp [upS, hz, za3, z1a3, ca3, E900]; omega))]
      try rw [if_pos (show a2 < 6 by first | omega | (simp [upS, hz, za3, z1a3, ca3, E900]; done) | (simp [upS, hz, za3, z1a3, ca3, E900]; omega))]
      all_goals rfl
    refine ⟨_, _, hD13, ?_⟩
    clear hD13
    rw [if_neg (show ¬ ((1 : Int) = 0) by first | omega | (simp [upS, hz, za3, z1a3, ca3, E900]; done) | (simp [upS, hz, za3, z1a3, ca3, E900]; omega))]
    have hD15 : Dd 247 [(.inl a3)] S900 (.inl (some (.inl 1)), S900) := by
      refine b247 ?_
      have hD14 : Dd 246 [(.inl a3), (.inl 4)] S900 (.inl (some (.inl 1)), S900) := by
        refine b246 ?_
        try rw [if_pos (show (0 : Int) ≤ a3 by first | omega | (simp [upS, hz, za3, z1a3, ca3, E900]; done) | (simp [upS, hz, za3, z1a3, ca3, E900]; omega))]
        try rw [if_pos (show a3 < 4 by first | omega | (simp [upS, hz, za3, z1a3, ca3, E900]; done) | (simp [upS, hz, za3, z1a3, ca3, E900]; omega))]
        all_goals rfl
      refine ⟨_, _, hD14, ?_⟩
      clear hD14
      refine ⟨(show 1 = 0 ∨ 1 = 1 by first | omega | (simp [upS, hz, za3, z1a3, ca3, E900]; done) | (simp [upS, hz, za3, z1a3, ca3, E900]; omega)), ?_⟩
      all_goals rfl
    refine ⟨_, _, hD15, ?_⟩
    clear hD15
    rw [if_neg (show ¬ ((1 : Int) = 0) by first | omega | (simp [upS, hz, za3, z1a3, ca3, E900]; done) | (simp [upS, hz, za3, z1a3, ca3, E900]; omega))]
    refine b368_29 ?_
    refine b368_34 ?_
    try rw [if_neg (show ¬ ((1 : Int) = 0) by first | omega | (simp [upS, hz, za3, z1a3, ca3, E900]; done) | (simp [upS, hz, za3, z1a3, ca3, E900]; omega))]
    refine b368_47 ?_
    have hD16 : Dd 245 [(.inr (.inr (some 682))), (.inl 0)] S900 (.inl (some (.inl 1)), (upS S900 682 0 0)) := by
      refine b245 ?_
      try rw [if_pos (show (0 : Int) = 0 by first | omega | (simp [upS, hz, za3, z1a3, ca3, E900]; done) | (simp [upS, hz, za3, z1a3, ca3, E900]; omega))]
      all_goals rfl
    refine ⟨_, _, hD16, ?_⟩
    clear hD16
    rw [if_neg (show ¬ ((1 : Int) = 0) by first | omega | (simp [upS, hz, za3, z1a3, ca3, E900]; done) | (simp [upS, hz, za3, z1a3, ca3, E900]; omega))]
    refine ⟨(show -2147483648 ≤ (6 * a1) ∧ (6 * a1) ≤ 2147483647 by first | omega | (simp [upS, hz, za3, z1a3, ca3, E900]; done) | (simp [upS, hz, za3, z1a3, ca3, E900]; omega)), ?_⟩
    refine ⟨(show -2147483648 ≤ ((6 * a1) + a2) ∧ ((6 * a1) + a2) ≤ 2147483647 by first | omega | (simp [upS, hz, za3, z1a3, ca3, E900]; done) | (simp [upS, hz, za3, z1a3, ca3, E900]; omega)), ?_⟩
    refine ⟨(show 0 ≤ ((6 * a1) + a2) ∧ ((6 * a1) + a2) < 18 by first | omega | (simp [upS, hz, za3, z1a3, ca3, E900]; done) | (simp [upS, hz, za3, z1a3, ca3, E900]; omega)), ?_⟩
    try rw [if_neg (show ¬ (a3 = (-1)) by first | omega | (simp [upS, hz, za3, z1a3, ca3, E900]; done) | (simp [upS, hz, za3, z1a3, ca3, E900]; omega))]
    rw [show ((upS S900 682 0 0) 717 (((6 * a1) + a2)).toNat) = 0 by (first | omega | (simp [upS, hz, za3, z1a3, ca3, E900]; done) | (simp [upS, hz, za3, z1a3, ca3, E900]; omega))]
    refine b368_88 ?_
    refine ⟨(show 0 ≤ ((6 * a1) + a2) ∧ ((6 * a1) + a2) < 18 by first | omega | (simp [upS, hz, za3, z1a3, ca3, E900]; done) | (simp [upS, hz, za3, z1a3, ca3, E900]; omega)), ?_⟩
    refine ⟨(show 1 = 0 ∨ 1 = 1 by first | omega | (simp [upS, hz, za3, z1a3, ca3, E900]; done) | (simp [upS, hz, za3, z1a3, ca3, E900]; omega)), ?_⟩
    refine ⟨(show ¬ (a3 = (-1)) → 0 ≤ a3 ∧ a3 < 4 by (first | (intros; first | omega | (simp [upS, hz, za3, z1a3, ca3, E900]; done) | (simp [upS, hz, za3, z1a3, ca3, E900]; omega)) | (intros; simp_all [upS, hz, za3, z1a3, ca3, E900]; done) | (intros; simp_all [upS, hz, za3, z1a3, ca3, E900]; omega))), ?_⟩
    try rw [if_neg (show ¬ (a3 = (-1)) by first | omega | (simp [upS, hz, za3, z1a3, ca3, E900]; done) | (simp [upS, hz, za3, z1a3, ca3, E900]; omega))]
    rw [show ((upS (upS S900 682 0 0) 717 ((((6 * a1) + a2)).toNat) 1) 684 (a3).toNat) = 0 by (first | omega | (simp [upS, hz, za3, z1a3, ca3, E900]; done) | (simp [upS, hz, za3, z1a3, ca3, E900]; omega))]
    refine b368_110 ?_
    refine ⟨(show 0 ≤ ((6 * a1) + a2) ∧ ((6 * a1) + a2) < 18 by first | omega | (simp [upS, hz, za3, z1a3, ca3, E900]; done) | (simp [upS, hz, za3, z1a3, ca3, E900]; omega)), ?_⟩
    obtain ⟨S17, E17⟩ : ∃ s : Sg, s = (upS (upS (upS S900 682 0 0) 717 ((((6 * a1) + a2)).toNat) 1) 718 ((((6 * a1) + a2)).toNat) 0) := ⟨_, rfl⟩
    rw [← E17]
    refine b368_114 ?_
    refine ⟨(show 0 ≤ ((6 * a1) + a2) ∧ ((6 * a1) + a2) < 18 by first | omega | (simp [upS, hz, za3, z1a3, ca3, E900, E17]; done) | (simp [upS, hz, za3, z1a3, ca3, E900, E17]; omega)), ?_⟩
    rw [if_neg (show ¬ ((0 : Int) < (S17 718 (((6 * a1) + a2)).toNat)) by first | omega | (simp [upS, hz, za3, z1a3, ca3, E900, E17]; done) | (simp [upS, hz, za3, z1a3, ca3, E900, E17]; omega))]
    refine ⟨(show 0 = 0 ∨ 0 = 1 by first | omega | (simp [upS, hz, za3, z1a3, ca3, E900, E17]; done) | (simp [upS, hz, za3, z1a3, ca3, E900, E17]; omega)), ?_⟩
    all_goals (first | rfl | (simp only [E17]))
  refine ⟨_, _, _, _, hA, hB, ?_, ?_, ?_, ?_, ?_⟩
  all_goals subst E900
  · (first | rfl | (simp [upS, SCR, hz, za3, z1a3, ca3]; done) | (simp [upS, SCR, hz, za3, z1a3, ca3]; omega))
  · first | (intro h9; omega) | (intro _; first | rfl | (simp [upS, SCR, hz, za3, z1a3, ca3]; done) | (simp [upS, SCR, hz, za3, z1a3, ca3]; omega))
  · intro i; first | rfl | (unfold upS SCR; (repeat' split) <;> first | rfl | omega)
  · first | rfl | (unfold upS SCR; (repeat' split) <;> first | rfl | omega)
  · first | rfl | (unfold upS SCR; (repeat' split) <;> first | rfl | omega)
theorem q45_0 {σ : Sg} {a1 : Int} {a2 : Int} (hz : ∀ a i, a < 1000 → σ a i = 0) (h0 : a1 < 0) : ∃ (kx b : Int) (s1 s2 : Sg), Dd 433 [(.inr (.inr (some 0))), (.inl a1), (.inl a2), (.inr (.inr (some 726)))] σ (.inl (some (.inl kx)), s1) ∧ Dd 375 [(.inr (.inr (some 682))), (.inl a1), (.inl a2)] s1 (.inl (some (.inl b)), s2) ∧ s2 682 0 = kx ∧ (kx = 0 → s2 726 0 = b) ∧ (∀ i, s1 SCR i = σ SCR i) ∧ s1 (SCR + 1) 0 = σ (SCR + 1) 0 ∧ s2 (SCR + 1) 0 = σ (SCR + 1) 0 := by
  have hA : Dd 433 [(.inr (.inr (some 0))), (.inl a1), (.inl a2), (.inr (.inr (some 726)))] σ (.inl (some (.inl 1)), σ) := by
    refine b433 ?_
    have hD4 : Dd 217 [(.inr (.inr (some 0))), (.inl a1), (.inl a2)] σ (.inr 0, σ) := by
      refine b217 ?_
      have hD2 : Dd 54 [(.inr (.inr (some 614)))] σ (.inl (some (.inl 0)), σ) := by
        refine b54 ?_
        have hD1 : Dd 146 [(.inr (.inr (some 653)))] σ (.inl (some (.inl 0)), σ) := by
          refine b146 (by decide +kernel) ?_
          rw [show (σ 653 1) = 0 by (first | omega | (simp [upS, hz]; done) | (simp [upS, hz]; omega))]
          all_goals rfl
        refine ⟨_, _, hD1, ?_⟩
        clear hD1
        rw [show (Int.tdiv 0 6) = 0 by (first | omega | (simp [upS, hz]; done) | (simp [upS, hz]; omega))]
        all_goals rfl
      refine ⟨_, _, hD2, ?_⟩
      clear hD2
      have hD3 : Dd 232 [(.inr (.inr (some 0))), (.inl a1), (.inl 0)] σ (.inr 0, σ) := by
        refine b232 ?_
        rw [if_neg (show ¬ ((0 : Int) ≤ a1) by first | omega | (simp [upS, hz]; done) | (simp [upS, hz]; omega))]
        refine b232_9 ?_
        all_goals rfl
      refine Or.inr ⟨_, _, hD3, ?_⟩
      all_goals rfl
    exact Or.inr (Or.inl ⟨_, hD4, rfl⟩)
  have hB : Dd 375 [(.inr (.inr (some 682))), (.inl a1), (.inl a2)] σ (.inl (some (.inl 0)), (upS σ 682 0 1)) := by
    refine b375 ?_
    rw [show (σ 682 53) = 0 by (first | omega | (simp [upS, hz]; done) | (simp [upS, hz]; omega))]
    have hD5 : Dd 246 [(.inl a1), (.inl 0)] σ (.inl (some (.inl 0)), σ) := by
      refine b246 ?_
      try rw [if_neg (show ¬ ((0 : Int) ≤ a1) by first | omega | (simp [upS, hz]; done) | (simp [upS, hz]; omega))]
      all_goals rfl
    refine ⟨_, _, hD5, ?_⟩
    clear hD5
    rw [if_pos (show (0 : Int) = 0 by first | omega | (simp [upS, hz]; done) | (simp [upS, hz]; omega))]
    refine b375_26 ?_
    refine b375_27 ?_
    try rw [if_pos (show (0 : Int) = 0 by first | omega | (simp [upS, hz]; done) | (simp [upS, hz]; omega))]
    refine b375_51 ?_
    have hD6 : Dd 245 [(.inr (.inr (some 682))), (.inl 1)] σ (.inl (some (.inl 0)), (upS σ 682 0 1)) := by
      refine b245 ?_
      try rw [if_neg (show ¬ ((1 : Int) = 0) by first | omega | (simp [upS, hz]; done) | (simp [upS, hz]; omega))]
      all_goals rfl
    refine ⟨_, _, hD6, ?_⟩
    clear hD6
    rw [if_pos (show (0 : Int) = 0 by first | omega | (simp [upS, hz]; done) | (simp [upS, hz]; omega))]
    all_goals rfl
  refine ⟨_, _, _, _, hA, hB, ?_, ?_, ?_, ?_, ?_⟩
  · (first | rfl | (simp [upS, SCR, hz]; done) | (simp [upS, SCR, hz]; omega))
  · first | (intro h9; omega) | (intro _; first | rfl | (simp [upS, SCR, hz]; done) | (simp [upS, SCR, hz]; omega))
  · intro i; first | rfl | (unfold upS SCR; (repeat' split) <;> first | rfl | omega)
  · first | rfl | (unfold upS SCR; (repeat' split) <;> first | rfl | omega)
  · first | rfl | (unfold upS SCR; (repeat' split) <;> first | rfl | omega)
theorem q45_1 {σ : Sg} {a1 : Int} {a2 : Int} (hz : ∀ a i, a < 1000 → σ a i = 0) (h0 : 0 ≤ a1) : ∃ (kx b : Int) (s1 s2 : Sg), Dd 433 [(.inr (.inr (some 0))), (.inl a1), (.inl a2), (.inr (.inr (some 726)))] σ (.inl (some (.inl kx)), s1) ∧ Dd 375 [(.inr (.inr (some 682))), (.inl a1), (.inl a2)] s1 (.inl (some (.inl b)), s2) ∧ s2 682 0 = kx ∧ (kx = 0 → s2 726 0 = b) ∧ (∀ i, s1 SCR i = σ SCR i) ∧ s1 (SCR + 1) 0 = σ (SCR + 1) 0 ∧ s2 (SCR + 1) 0 = σ (SCR + 1) 0 := by
  have hA : Dd 433 [(.inr (.inr (some 0))), (.inl a1), (.inl a2), (.inr (.inr (some 726)))] σ (.inl (some (.inl 1)), σ) := by
    refine b433 ?_
    have hD4 : Dd 217 [(.inr (.inr (some 0))), (.inl a1), (.inl a2)] σ (.inr 0, σ) := by
      refine b217 ?_
      have hD2 : Dd 54 [(.inr (.inr (some 614)))] σ (.inl (some (.inl 0)), σ) := by
        refine b54 ?_
        have hD1 : Dd 146 [(.inr (.inr (some 653)))] σ (.inl (some (.inl 0)), σ) := by
          refine b146 (by decide +kernel) ?_
          rw [show (σ 653 1) = 0 by (first | omega | (simp [upS, hz]; done) | (simp [upS, hz]; omega))]
          all_goals rfl
        refine ⟨_, _, hD1, ?_⟩
        clear hD1
        rw [show (Int.tdiv 0 6) = 0 by (first | omega | (simp [upS, hz]; done) | (simp [upS, hz]; omega))]
        all_goals rfl
      refine ⟨_, _, hD2, ?_⟩
      clear hD2
      have hD3 : Dd 232 [(.inr (.inr (some 0))), (.inl a1), (.inl 0)] σ (.inr 0, σ) := by
        refine b232 ?_
        rw [if_pos (show (0 : Int) ≤ a1 by first | omega | (simp [upS, hz]; done) | (simp [upS, hz]; omega))]
        rw [if_pos (show (0 : Int) ≤ a1 by first | omega | (simp [upS, hz]; done) | (simp [upS, hz]; omega))]
        refine b232_9 ?_
        all_goals rfl
      refine Or.inr ⟨_, _, hD3, ?_⟩
      all_goals rfl
    exact Or.inr (Or.inl ⟨_, hD4, rfl⟩)
  have hB : Dd 375 [(.inr (.inr (some 682))), (.inl a1), (.inl a2)] σ (.inl (some (.inl 0)), (upS σ 682 0 1)) := by
    refine b375 ?_
    rw [show (σ 682 53) = 0 by (first | omega | (simp [upS, hz]; done) | (simp [upS, hz]; omega))]
    have hD5 : Dd 246 [(.inl a1), (.inl 0)] σ (.inl (some (.inl 0)), σ) := by
      refine b246 ?_
      try rw [if_pos (show (0 : Int) ≤ a1 by first | omega | (simp [upS, hz]; done) | (simp [upS, hz]; omega))]
      try rw [if_neg (show ¬ (a1 < 0) by first | omega | (simp [upS, hz]; done) | (simp [upS, hz]; omega))]
      all_goals rfl
    refine ⟨_, _, hD5, ?_⟩
    clear hD5
    rw [if_pos (show (0 : Int) = 0 by first | omega | (simp [upS, hz]; done) | (simp [upS, hz]; omega))]
    refine b375_26 ?_
    refine b375_27 ?_
    try rw [if_pos (show (0 : Int) = 0 by first | omega | (simp [upS, hz]; done) | (simp [upS, hz]; omega))]
    refine b375_51 ?_
    have hD6 : Dd 245 [(.inr (.inr (some 682))), (.inl 1)] σ (.inl (some (.inl 0)), (upS σ 682 0 1)) := by
      refine b245 ?_
      try rw [if_neg (show ¬ ((1 : Int) = 0) by first | omega | (simp [upS, hz]; done) | (simp [upS, hz]; omega))]
      all_goals rfl
    refine ⟨_, _, hD6, ?_⟩
    clear hD6
    rw [if_pos (show (0 : Int) = 0 by first | omega | (simp [upS, hz]; done) | (simp [upS, hz]; omega))]
    all_goals rfl
  refine ⟨_, _, _, _, hA, hB, ?_, ?_, ?_, ?_, ?_⟩
  · (first | rfl | (simp [upS, SCR, hz]; done) | (simp [upS, SCR, hz]; omega))
  · first | (intro h9; omega) | (intro _; first | rfl | (simp [upS, SCR, hz]; done) | (simp [upS, SCR, hz]; omega))
  · intro i; first | rfl | (unfold upS SCR; (repeat' split) <;> first | rfl | omega)
  · first | rfl | (unfold upS SCR; (repeat' split) <;> first | rfl | omega)
  · first | rfl | (unfold upS SCR; (repeat' split) <;> first | rfl | omega)
theorem q46_0 {σ : Sg} {a1 : Int} {a2 : Int} (hz : ∀ a i, a < 1000 → σ a i = 0) (h0 : a1 < 0) : ∃ (kx b : Int) (s1 s2 : Sg), Dd 434 [(.inr (.inr (some 0))), (.inl a1), (.inl a2), (.inr (.inr (some 726)))] σ (.inl (some (.inl kx)), s1) ∧ Dd 376 [(.inr (.inr (some 682))), (.inl a1), (.inl a2)] s1 (.inl (some (.inl b)), s2) ∧ s2 682 0 = kx ∧ (kx = 0 → s2 726 0 = b) ∧ (∀ i, s1 SCR i = σ SCR i) ∧ s1 (SCR + 1) 0 = σ (SCR + 1) 0 ∧ s2 (SCR + 1) 0 = σ (SCR + 1) 0 := by
  have hA : Dd 434 [(.inr (.inr (some 0))), (.inl a1), (.inl a2), (.inr (.inr (some 726)))] σ (.inl (some (.inl 1)), σ) := by
    refine b434 ?_
    have hD4 : Dd 218 [(.inr (.inr (some 0))), (.inl a1), (.inl a2)] σ (.inr 0, σ) := by
      refine b218 ?_
      have hD2 : Dd 54 [(.inr (.inr (some 614)))] σ (.inl (some (.inl 0)), σ) := by
        refine b54 ?_
        have hD1 : Dd 146 [(.inr (.inr (some 653)))] σ (.inl (some (.inl 0)), σ) := by
          refine b146 (by decide +kernel) ?_
          rw [show (σ 653 1) = 0 by (first | omega | (simp [upS, hz]; done) | (simp [upS, hz]; omega))]
          all_goals rfl
        refine ⟨_, _, hD1, ?_⟩
        clear hD1
        rw [show (Int.tdiv 0 6) = 0 by (first | omega | (simp [upS, hz]; done) | (simp [upS, hz]; omega))]
        all_goals rfl
      refine ⟨_, _, hD2, ?_⟩
      clear hD2
      have hD3 : Dd 232 [(.inr (.inr (some 0))), (.inl a1), (.inl 0)] σ (.inr 0, σ) := by
        refine b232 ?_
        rw [if_neg (show ¬ ((0 : Int) ≤ a1) by first | omega | (simp [upS, hz]; done) | (simp [upS, hz]; omega))]
        refine b232_9 ?_
        all_goals rfl
      refine Or.inr ⟨_, _, hD3, ?_⟩
      all_goals rfl
    exact Or.inr (⟨_, hD4, rfl⟩)
  have hB : Dd 376 [(.inr (.inr (some 682))), (.inl a1), (.inl a2)] σ (.inl (some (.inl 0)), (upS σ 682 0 1)) := by
    refine b376 ?_
    rw [show (σ 682 53) = 0 by (first | omega | (simp [upS, hz]; done) | (simp [upS, hz]; omega))]
    have hD5 : Dd 246 [(.inl a1), (.inl 0)] σ (.inl (some (.inl 0)), σ) := by
      refine b246 ?_
      try rw [if_neg (show ¬ ((0 : Int) ≤ a1) by first | omega | (simp [upS, hz]; done) | (simp [upS, hz]; omega))]
      all_goals rfl
    refine ⟨_, _, hD5, ?_⟩
    clear hD5
    rw [if_pos (show (0 : Int) = 0 by first | omega | (simp [upS, hz]; done) | (simp [upS, hz]; omega))]
    refine b376_25 ?_
    refine b376_26 ?_
    have hD6 : Dd 245 [(.inr (.inr (some 682))), (.inl 1)] σ (.inl (some (.inl 0)), (upS σ 682 0 1)) := by
      refine b245 ?_
      try rw [if_neg (show ¬ ((1 : Int) = 0) by first | omega | (simp [upS, hz]; done) | (simp [upS, hz]; omega))]
      all_goals rfl
    refine ⟨_, _, hD6, ?_⟩
    clear hD6
    refine ⟨(show ¬ (0 = 0) → -2147483648 ≤ (6 * a1) ∧ (6 * a1) ≤ 2147483647 by (first | (intros; first | omega | (simp [upS, hz]; done) | (simp [upS, hz]; omega)) | (intros; simp_all [upS, hz]; done) | (intros; simp_all [upS, hz]; omega))), ?_⟩
    refine ⟨(show ¬ (0 = 0) → -2147483648 ≤ ((6 * a1) + a2) ∧ ((6 * a1) + a2) ≤ 2147483647 by (first | (intros; first | omega | (simp [upS, hz]; done) | (simp [upS, hz]; omega)) | (intros; simp_all [upS, hz]; done) | (intros; simp_all [upS, hz]; omega))), ?_⟩
    refine ⟨(show ¬ (0 = 0) → 0 ≤ ((6 * a1) + a2) ∧ ((6 * a1) + a2) < 60 by (first | (intros; first | omega | (simp [upS, hz]; done) | (simp [upS, hz]; omega)) | (intros; simp_all [upS, hz]; done) | (intros; simp_all [upS, hz]; omega))), ?_⟩
    try rw [if_pos (show (0 : Int) = 0 by first | omega | (simp [upS, hz]; done) | (simp [upS, hz]; omega))]
    all_goals rfl
  refine ⟨_, _, _, _, hA, hB, ?_, ?_, ?_, ?_, ?_⟩
  · (first | rfl | (simp [upS, SCR, hz]; done) | (simp [upS, SCR, hz]; omega))
  · first | (intro h9; omega) | (intro _; first | rfl | (simp [upS, SCR, hz]; done) | (simp [upS, SCR, hz]; omega))
  · intro i; first | rfl | (unfold upS SCR; (repeat' split) <;> first | rfl | omega)
  · first | rfl | (unfold upS SCR; (repeat' split) <;> first | rfl | omega)
  · first | rfl | (unfold upS SCR; (repeat' split) <;> first | rfl | omega)
theorem q46_1 {σ : Sg} {a1 : Int} {a2 : Int} (hz : ∀ a i, a < 1000 → σ a i = 0) (h0 : 0 ≤ a1) : ∃ (kx b : Int) (s1 s2 : Sg), Dd 434 [(.inr (.inr (some 0))), (.inl a1), (.inl a2), (.inr (.inr (some 726)))] σ (.inl (some (.inl kx)), s1) ∧ Dd 376 [(.inr (.inr (some 682))), (.inl a1), (.inl a2)] s1 (.inl (some (.inl b)), s2) ∧ s2 682 0 = kx ∧ (kx = 0 → s2 726 0 = b) ∧ (∀ i, s1 SCR i = σ SCR i) ∧ s1 (SCR + 1) 0 = σ (SCR + 1) 0 ∧ s2 (SCR + 1) 0 = σ (SCR + 1) 0 := by
  have hA : Dd 434 [(.inr (.inr (some 0))), (.inl a1), (.inl a2), (.inr (.inr (some 726)))] σ (.inl (some (.inl 1)), σ) := by
    refine b434 ?_
    have hD4 : Dd 218 [(.inr (.inr (some 0))), (.inl a1), (.inl a2)] σ (.inr 0, σ) := by
      refine b218 ?_
      have hD2 : Dd 54 [(.inr (.inr (some 614)))] σ (.inl (some (.inl 0)), σ) := by
        refine b54 ?_
        have hD1 : Dd 146 [(.inr (.inr (some 653)))] σ (.inl (some (.inl 0)), σ) := by
          refine b146 (by decide +kernel) ?_
          rw [show (σ 653 1) = 0 by (first | omega | (simp [upS, hz]; done) | (simp [upS, hz]; omega))]
          all_goals rfl
        refine ⟨_, _, hD1, ?_⟩
        clear hD1
        rw [show (Int.tdiv 0 6) = 0 by (first | omega | (simp [upS, hz]; done) | (simp [upS, hz]; omega))]
        all_goals rfl
      refine ⟨_, _, hD2, ?_⟩
      clear hD2
      have hD3 : Dd 232 [(.inr (.inr (some 0))), (.inl a1), (.inl 0)] σ (.inr 0, σ) := by
        refine b232 ?_
        rw [if_pos (show (0 : Int) ≤ a1 by first | omega | (simp [upS, hz]; done) | (simp [upS, hz]; omega))]
        rw [if_pos (show (0 : Int) ≤ a1 by first | omega | (simp [upS, hz]; done) | (simp [upS, hz]; omega))]
        refine b232_9 ?_
        all_goals rfl
      refine Or.inr ⟨_, _, hD3, ?_⟩
      all_goals rfl
    exact Or.inr (⟨_, hD4, rfl⟩)
  have hB : Dd 376 [(.inr (.inr (some 682))), (.inl a1), (.inl a2)] σ (.inl (some (.inl 0)), (upS σ 682 0 1)) := by
    refine b376 ?_
    rw [show (σ 682 53) = 0 by (first | omega | (simp [upS, hz]; done) | (simp [upS, hz]; omega))]
    have hD5 : Dd 246 [(.inl a1), (.inl 0)] σ (.inl (some (.inl 0)), σ) := by
      refine b246 ?_
      try rw [if_pos (show (0 : Int) ≤ a1 by first | omega | (simp [upS, hz]; done) | (simp [upS, hz]; omega))]
      try rw [if_neg (show ¬ (a1 < 0) by first | omega | (simp [upS, hz]; done) | (simp [upS, hz]; omega))]
      all_goals rfl
    refine ⟨_, _, hD5, ?_⟩
    clear hD5
    rw [if_pos (show (0 : Int) = 0 by first | omega | (simp [upS, hz]; done) | (simp [upS, hz]; omega))]
    refine b376_25 ?_
    refine b376_26 ?_
    have hD6 : Dd 245 [(.inr (.inr (some 682))), (.inl 1)] σ (.inl (some (.inl 0)), (upS σ 682 0 1)) := by
      refine b245 ?_
      try rw [if_neg (show ¬ ((1 : Int) = 0) by first | omega | (simp [upS, hz]; done) | (simp [upS, hz]; omega))]
      all_goals rfl
    refine ⟨_, _, hD6, ?_⟩
    clear hD6
    refine ⟨(show ¬ (0 = 0) → -2147483648 ≤ (6 * a1) ∧ (6 * a1) ≤ 2147483647 by (first | (intros; first | omega | (simp [upS, hz]; done) | (simp [upS, hz]; omega)) | (intros; simp_all [upS, hz]; done) | (intros; simp_all [upS, hz]; omega))), ?_⟩
    refine ⟨(show ¬ (0 = 0) → -2147483648 ≤ ((6 * a1) + a2) ∧ ((6 * a1) + a2) ≤ 2147483647 by (first | (intros; first | omega | (simp [upS, hz]; done) | (simp [upS, hz]; omega)) | (intros; simp_all [upS, hz]; done) | (intros; simp_all [upS, hz]; omega))), ?_⟩
    refine ⟨(show ¬ (0 = 0) → 0 ≤ ((6 * a1) + a2) ∧ ((6 * a1) + a2) < 60 by (first | (intros; first | omega | (simp [upS, hz]; done) | (simp [upS, hz]; omega)) | (intros; simp_all [upS, hz]; done) | (intros; simp_all [upS, hz]; omega))), ?_⟩
    try rw [if_pos (show (0 : Int) = 0 by first | omega | (simp [upS, hz]; done) | (simp [upS, hz]; omega))]
    all_goals rfl
  refine ⟨_, _, _, _, hA, hB, ?_, ?_, ?_, ?_, ?_⟩
  · (first | rfl | (simp [upS, SCR, hz]; done) | (simp [upS, SCR, hz]; omega))
  · first | (intro h9; omega) | (intro _; first | rfl | (simp [upS, SCR, hz]; done) | (simp [upS, SCR, hz]; omega))
  · intro i; first | rfl | (unfold upS SCR; (repeat' split) <;> first | rfl | omega)
  · first | rfl | (unfold upS SCR; (repeat' split) <;> first | rfl | omega)
  · first | rfl | (unfold upS SCR; (repeat' split) <;> first | rfl | omega)
theorem q47_0 {σ : Sg} {a1 : Int} {a2 : Int} (hz : ∀ a i, a < 1000 → σ a i = 0) (h0 : a1 < 0) : ∃ (kx b : Int) (s1 s2 : Sg), Dd 435 [(.inr (.inr (some 0))), (.inl a1), (.inl a2), (.inr (.inr (some 726)))] σ (.inl (some (.inl kx)), s1) ∧ Dd 378 [(.inr (.inr (some 682))), (.inl a1), (.inl a2)] s1 (.inl (some (.inl b)), s2) ∧ s2 682 0 = kx ∧ (kx = 0 → s2 726 0 = b) ∧ (∀ i, s1 SCR i = σ SCR i) ∧ s1 (SCR + 1) 0 = σ (SCR + 1) 0 ∧ s2 (SCR + 1) 0 = σ (SCR + 1) 0 := by
  have hA : Dd 435 [(.inr (.inr (some 0))), (.inl a1), (.inl a2), (.inr (.inr (some 726)))] σ (.inl (some (.inl 1)), σ) := by
    refine b435 ?_
    have hD4 : Dd 219 [(.inr (.inr (some 0))), (.inl a1), (.inl a2)] σ (.inr 0, σ) := by
      refine b219 ?_
      have hD3 : Dd 228 [(.inr (.inr (some 0))), (.inl a1)] σ (.inr 0, σ) := by
        refine b228 ?_
        have hD1 : Dd 145 [(.inr (.inr (some 10))), (.inl a1)] σ (.inl (some (.inr (.inr none))), σ) := by
          refine b145 ?_
          rw [if_neg (show ¬ ((0 : Int) ≤ a1) by first | omega | (simp [upS, hz]; done) | (simp [upS, hz]; omega))]
          all_goals rfl
        refine ⟨_, _, hD1, ?_⟩
        clear hD1
        refine ⟨fun _ => ?_, fun _ hz2 => (by cases hz2)⟩
        all_goals rfl
      refine Or.inr ⟨_, _, hD3, ?_⟩
      all_goals rfl
    exact Or.inr (Or.inl ⟨_, hD4, rfl⟩)
  have hB : Dd 378 [(.inr (.inr (some 682))), (.inl a1), (.inl a2)] σ (.inl (some (.inl 0)), (upS σ 682 0 1)) := by
    refine b378 ?_
    have hD6 : Dd 377 [(.inl a1)] σ (.inl (some (.inl 0)), σ) := by
      refine b377 ?_
      have hD5 : Dd 246 [(.inl a1), (.inl 4)] σ (.inl (some (.inl 0)), σ) := by
        refine b246 ?_
        try rw [if_neg (show ¬ ((0 : Int) ≤ a1) by first | omega | (simp [upS, hz]; done) | (simp [upS, hz]; omega))]
        all_goals rfl
      refine ⟨_, _, hD5, ?_⟩
      clear hD5
      refine ⟨(show 0 = 0 ∨ 0 = 1 by first | omega | (simp [upS, hz]; done) | (simp [upS, hz]; omega)), ?_⟩
      all_goals rfl
    refine ⟨_, _, hD6, ?_⟩
    clear hD6
    rw [if_pos (show (0 : Int) = 0 by first | omega | (simp [upS, hz]; done) | (simp [upS, hz]; omega))]
    refine b378_44 ?_
    have hD7 : Dd 245 [(.inr (.inr (some 682))), (.inl 1)] σ (.inl (some (.inl 0)), (upS σ 682 0 1)) := by
      refine b245 ?_
      try rw [if_neg (show ¬ ((1 : Int) = 0) by first | omega | (simp [upS, hz]; done) | (simp [upS, hz]; omega))]
      all_goals rfl
    refine ⟨_, _, hD7, ?_⟩
    clear hD7
    rw [if_pos (show (0 : Int) = 0 by first | omega | (simp [upS, hz]; done) | (simp [upS, hz]; omega))]
    all_goals rfl
  refine ⟨_, _, _, _, hA, hB, ?_, ?_, ?_, ?_, ?_⟩
  · (first | rfl | (simp [upS, SCR, hz]; done) | (simp [upS, SCR, hz]; omega))
  · first | (intro h9; omega) | (intro _; first | rfl | (simp [upS, SCR, hz]; done) | (simp [upS, SCR, hz]; omega))
  · intro i; first | rfl | (unfold upS SCR; (repeat' split) <;> first | rfl | omega)
  · first | rfl | (unfold upS SCR; (repeat' split) <;> first | rfl | omega)
  · first | rfl | (unfold upS SCR; (repeat' split) <;> first | rfl | omega)
theorem q47_1 {σ : Sg} {a1 : Int} {a2 : Int} (hz : ∀ a i, a < 1000 → σ a i = 0) (h0 : 4 ≤ a1) : ∃ (kx b : Int) (s1 s2 : Sg), Dd 435 [(.inr (.inr (some 0))), (.inl a1), (.inl a2), (.inr (.inr (some 726)))] σ (.inl (some (.inl kx)), s1) ∧ Dd 378 [(.inr (.inr (some 682))), (.inl a1), (.inl a2)] s1 (.inl (some (.inl b)), s2) ∧ s2 682 0 = kx ∧ (kx = 0 → s2 726 0 = b) ∧ (∀ i, s1 SCR i = σ SCR i) ∧ s1 (SCR + 1) 0 = σ (SCR + 1) 0 ∧ s2 (SCR + 1) 0 = σ (SCR + 1) 0 := by
  have hA : Dd 435 [(.inr (.inr (some 0))), (.inl a1), (.inl a2), (.inr (.inr (some 726)))] σ (.inl (some (.inl 1)), σ) := by
    refine b435 ?_
    have hD4 : Dd 219 [(.inr (.inr (some 0))), (.inl a1), (.inl a2)] σ (.inr 0, σ) := by
      refine b219 ?_
      have hD3 : Dd 228 [(.inr (.inr (some 0))), (.inl a1)] σ (.inr 0, σ) := by
        refine b228 ?_
        have hD1 : Dd 145 [(.inr (.inr (some 10))), (.inl a1)] σ (.inl (some (.inr (.inr none))), σ) := by
          refine b145 ?_
          rw [if_pos (show (0 : Int) ≤ a1 by first | omega | (simp [upS, hz]; done) | (simp [upS, hz]; omega))]
          refine ⟨4, (by decide +kernel), (by decide), ?_⟩
          rw [if_neg (show ¬ (a1 < ((4 : Nat) : Int)) by first | omega | (simp [upS, hz]; done) | (simp [upS, hz]; omega))]
          all_goals rfl
        refine ⟨_, _, hD1, ?_⟩
        clear hD1
        refine ⟨fun _ => ?_, fun _ hz2 => (by cases hz2)⟩
        all_goals rfl
      refine Or.inr ⟨_, _, hD3, ?_⟩
      all_goals rfl
    exact Or.inr (Or.inl ⟨_, hD4, rfl⟩)
  have hB : Dd 378 [(.inr (.inr (some 682))), (.inl a1), (.inl a2)] σ (.inl (some (.inl 0)), (upS σ 682 0 1)) := by
    refine b378 ?_
    have hD6 : Dd 377 [(.inl a1)] σ (.inl (some (.inl 0)), σ) := by
      refine b377 ?_
      have hD5 : Dd 246 [(.inl a1), (.inl 4)] σ (.inl (some (.inl 0)), σ) := by
        refine b246 ?_
        try rw [if_pos (show (0 : Int) ≤ a1 by first | omega | (simp [upS, hz]; done) | (simp [upS, hz]; omega))]
        try rw [if_neg (show ¬ (a1 < 4) by first | omega | (simp [upS, hz]; done) | (simp [upS, hz]; omega))]
        all_goals rfl
      refine ⟨_, _, hD5, ?_⟩
      clear hD5
      refine ⟨(show 0 = 0 ∨ 0 = 1 by first | omega | (simp [upS, hz]; done) | (simp [upS, hz]; omega)), ?_⟩
      all_goals rfl
    refine ⟨_, _, hD6, ?_⟩
    clear hD6
    rw [if_pos (show (0 : Int) = 0 by first | omega | (simp [upS, hz]; done) | (simp [upS, hz]; omega))]
    refine b378_44 ?_
    have hD7 : Dd 245 [(.inr (.inr (some 682))), (.inl 1)] σ (.inl (some (.inl 0)), (upS σ 682 0 1)) := by
      refine b245 ?_
      try rw [if_neg (show ¬ ((1 : Int) = 0) by first | omega | (simp [upS, hz]; done) | (simp [upS, hz]; omega))]
      all_goals rfl
    refine ⟨_, _, hD7, ?_⟩
    clear hD7
    rw [if_pos (show (0 : Int) = 0 by first | omega | (simp [upS, hz]; done) | (simp [upS, hz]; omega))]
    all_goals rfl
  refine ⟨_, _, _, _, hA, hB, ?_, ?_, ?_, ?_, ?_⟩
  · (first | rfl | (simp [upS, SCR, hz]; done) | (simp [upS, SCR, hz]; omega))
  · first | (intro h9; omega) | (intro _; first | rfl | (simp [upS, SCR, hz]; done) | (simp [upS, SCR, hz]; omega))
  · intro i; first | rfl | (unfold upS SCR; (repeat' split) <;> first | rfl | omega)
  · first | rfl | (unfold upS SCR; (repeat' split) <;> first | rfl | omega)
  · first | rfl | (unfold upS SCR; (repeat' split) <;> first | rfl | omega)
theorem q47_2 {σ : Sg} {a1 : Int} {a2 : Int} (hz : ∀ a i, a < 1000 → σ a i = 0) (h0 : 0 ≤ a1 ∧ a1 < 4) (h1 : a2 < 0) : ∃ (kx b : Int) (s1 s2 : Sg), Dd 435 [(.inr (.inr (some 0))), (.inl a1), (.inl a2), (.inr (.inr (some 726)))] σ (.inl (some (.inl kx)), s1) ∧ Dd 378 [(.inr (.inr (some 682))), (.inl a1), (.inl a2)] s1 (.inl (some (.inl b)), s2) ∧ s2 682 0 = kx ∧ (kx = 0 → s2 726 0 = b) ∧ (∀ i, s1 SCR i = σ SCR i) ∧ s1 (SCR + 1) 0 = σ (SCR + 1) 0 ∧ s2 (SCR + 1) 0 = σ (SCR + 1) 0 := by
  have za1 : ∀ i, σ (11 + 2 * ((a1)).toNat) i = 0 := fun i => hz _ i (by omega)
  have z1a1 : ∀ i, σ ((11 + 2 * ((a1)).toNat) + 1) i = 0 := fun i => hz _ i (by omega)
  have ca1 : (cap (11 + 2 * ((a1)).toNat) : Int) = 40 := cp_10 (by omega)
  have hA : Dd 435 [(.inr (.inr (some 0))), (.inl a1), (.inl a2), (.inr (.inr (some 726)))] σ (.inl (some (.inl 2)), σ) := by
    refine b435 ?_
    have hD5 : Dd 219 [(.inr (.inr (some 0))), (.inl a1), (.inl a2)] σ (.inr 1, σ) := by
      refine b219 ?_
      have hD3 : Dd 228 [(.inr (.inr (some 0))), (.inl a1)] σ (.inl (some (.inr (.inr (some (11 + 2 * ((a1)).toNat))))), σ) := by
        refine b228 ?_
        have hD1 : Dd 145 [(.inr (.inr (some 10))), (.inl a1)] σ (.inl (some (.inr (.inr (some (11 + 2 * ((a1)).toNat))))), σ) := by
          refine b145 ?_
          rw [if_pos (show (0 : Int) ≤ a1 by first | omega | (simp [upS, hz, za1, z1a1, ca1]; done) | (simp [upS, hz, za1, z1a1, ca1]; omega))]
          refine ⟨4, (by decide +kernel), (by decide), ?_⟩
          rw [if_pos (show a1 < ((4 : Nat) : Int) by first | omega | (simp [upS, hz, za1, z1a1, ca1]; done) | (simp [upS, hz, za1, z1a1, ca1]; omega))]
          refine ⟨(show 0 ≤ a1 by first | omega | (simp [upS, hz, za1, z1a1, ca1]; done) | (simp [upS, hz, za1, z1a1, ca1]; omega)), ?_⟩
          refine ⟨(11 + 2 * ((a1)).toNat), (el_10 (i := (a1)) (by first | omega | (simp [upS, hz, za1, z1a1, ca1]; done) | (simp [upS, hz, za1, z1a1, ca1]; omega))).1, (el_10 (i := (a1)) (by first | omega | (simp [upS, hz, za1, z1a1, ca1]; done) | (simp [upS, hz, za1, z1a1, ca1]; omega))).2, ?_⟩
          all_goals rfl
        refine ⟨_, _, hD1, ?_⟩
        clear hD1
        refine ⟨fun hz2 => (by cases hz2), fun _ hz2 => ?_⟩
        cases hz2
        refine ⟨(el_10 (i := (a1)) (by first | omega | (simp [upS, hz, za1, z1a1, ca1]; done) | (simp [upS, hz, za1, z1a1, ca1]; omega))).2, ?_⟩
        all_goals rfl
      refine Or.inl ⟨_, _, hD3, (el_10 (i := (a1)) (by first | omega | (simp [upS, hz, za1, z1a1, ca1]; done) | (simp [upS, hz, za1, z1a1, ca1]; omega))).2, ?_⟩
      clear hD3
      have hD4 : Dd 234 [(.inr (.inr (some 0))), (.inl a2), (.inl 0), (.inl 255)] σ (.inr 1, σ) := by
        refine b234 ?_
        rw [if_neg (show ¬ ((0 : Int) ≤ a2) by first | omega | (simp [upS, hz, za1, z1a1, ca1]; done) | (simp [upS, hz, za1, z1a1, ca1]; omega))]
        refine b234_10 ?_
        all_goals rfl
      refine Or.inr ⟨_, _, hD4, ?_⟩
      all_goals rfl
    exact Or.inr (Or.inr (Or.inl ⟨_, hD5, rfl⟩))
  have hB : Dd 378 [(.inr (.inr (some 682))), (.inl a1), (.inl a2)] σ (.inl (some (.inl 0)), (upS σ 682 0 2)) := by
    refine b378 ?_
    have hD7 : Dd 377 [(.inl a1)] σ (.inl (some (.inl 1)), σ) := by
      refine b377 ?_
      have hD6 : Dd 246 [(.inl a1), (.inl 4)] σ (.inl (some (.inl 1)), σ) := by
        refine b246 ?_
        try rw [if_pos (show (0 : Int) ≤ a1 by first | omega | (simp [upS, hz, za1, z1a1, ca1]; done) | (simp [upS, hz, za1, z1a1, ca1]; omega))]
        try rw [if_pos (show a1 < 4 by first | omega | (simp [upS, hz, za1, z1a1, ca1]; done) | (simp [upS, hz, za1, z1a1, ca1]; omega))]
        all_goals rfl
      refine ⟨_, _, hD6, ?_⟩
      clear hD6
      refine ⟨(show 1 = 0 ∨ 1 = 1 by first | omega | (simp [upS, hz, za1, z1a1, ca1]; done) | (simp [upS, hz, za1, z1a1, ca1]; omega)), ?_⟩
      all_goals rfl
    refine ⟨_, _, hD7, ?_⟩
    clear hD7
    rw [if_neg (show ¬ ((1 : Int) = 0) by first | omega | (simp [upS, hz, za1, z1a1, ca1]; done) | (simp [upS, hz, za1, z1a1, ca1]; omega))]
    have hD8 : Dd 246 [(.inl a2), (.inl 256)] σ (.inl (some (.inl 0)), σ) := by
      refine b246 ?_
      try rw [if_neg (show ¬ ((0 : Int) ≤ a2) by first | omega | (simp [upS, hz, za1, z1a1, ca1]; done) | (simp [upS, hz, za1, z1a1, ca1]; omega))]
      all_goals rfl
    refine ⟨_, _, hD8, ?_⟩
    clear hD8
    refine ⟨(show ¬ (0 = 0) → 0 ≤ a1 ∧ a1 < 4 by (first | (intros; first | omega | (simp [upS, hz, za1, z1a1, ca1]; done) | (simp [upS, hz, za1, z1a1, ca1]; omega)) | (intros; simp_all [upS, hz, za1, z1a1, ca1]; done) | (intros; simp_all [upS, hz, za1, z1a1, ca1]; omega))), ?_⟩
    try rw [if_pos (show (0 : Int) = 0 by first | omega | (simp [upS, hz, za1, z1a1, ca1]; done) | (simp [upS, hz, za1, z1a1, ca1]; omega))]
    refine b378_44 ?_
    have hD9 : Dd 245 [(.inr (.inr (some 682))), (.inl 2)] σ (.inl (some (.inl 0)), (upS σ 682 0 2)) := by
      refine b245 ?_
      try rw [if_neg (show ¬ ((2 : Int) = 0) by first | omega | (simp [upS, hz, za1, z1a1, ca1]; done) | (simp [upS, hz, za1, z1a1, ca1]; omega))]
      all_goals rfl
    refine ⟨_, _, hD9, ?_⟩
    clear hD9
    rw [if_pos (show (0 : Int) = 0 by first | omega | (simp [upS, hz, za1, z1a1, ca1]; done) | (simp [upS, hz, za1, z1a1, ca1]; omega))]
    all_goals rfl
  refine ⟨_, _, _, _, hA, hB, ?_, ?_, ?_, ?_, ?_⟩
  · (first | rfl | (simp [upS, SCR, hz, za1, z1a1, ca1]; done) | (simp [upS, SCR, hz, za1, z1a1, ca1]; omega))
  · first | (intro h9; omega) | (intro _; first | rfl | (simp [upS, SCR, hz, za1, z1a1, ca1]; done) | (simp [upS, SCR, hz, za1, z1a1, ca1]; omega))
  · intro i; first | rfl | (unfold upS SCR; (repeat' split) <;> first | rfl | omega)
  · first | rfl | (unfold upS SCR; (repeat' split) <;> first | rfl | omega)
  · first | rfl | (unfold upS SCR; (repeat' split) <;> first | rfl | omega)
theorem q47_3 {σ : Sg} {a1 : Int} {a2 : Int} (hz : ∀ a i, a < 1000 → σ a i = 0) (h0 : 0 ≤ a1 ∧ a1 < 4) (h1 : 255 < a2) : ∃ (kx b : Int) (s1 s2 : Sg), Dd 435 [(.inr (.inr (some 0))), (.inl a1), (.inl a2), (.inr (.inr (some 726)))] σ (.inl (some (.inl kx)), s1) ∧ Dd 378 [(.inr (.inr (some 682))), (.inl a1), (.inl a2)] s1 (.inl (some (.inl b)), s2) ∧ s2 682 0 = kx ∧ (kx = 0 → s2 726 0 = b) ∧ (∀ i, s1 SCR i = σ SCR i) ∧ s1 (SCR + 1) 0 = σ (SCR + 1) 0 ∧ s2 (SCR + 1) 0 = σ (SCR + 1) 0 := by
  have za1 : ∀ i, σ (11 + 2 * ((a1)).toNat) i = 0 := fun i => hz _ i (by omega)
  have z1a1 : ∀ i, σ ((11 + 2 * ((a1)).toNat) + 1) i = 0 := fun i => hz _ i (by omega)
  have ca1 : (cap (11 + 2 * ((a1)).toNat) : Int) = 40 := cp_10 (by omega)
  have hA : Dd 435 [(.inr (.inr (some 0))), (.inl a1), (.inl a2), (.inr (.inr (some 726)))] σ (.inl (some (.inl 2)), σ) := by
    refine b435 ?_
    have hD5 : Dd 219 [(.inr (.inr (some 0))), (.inl a1), (.inl a2)] σ (.inr 1, σ) := by
      refine b219 ?_
      have hD3 : Dd 228 [(.inr (.inr (some 0))), (.inl a1)] σ (.inl (some (.inr (.inr (some (11 + 2 * ((a1)).toNat))))), σ) := by
        refine b228 ?_
        have hD1 : Dd 145 [(.inr (.inr (some 10))), (.inl a1)] σ (.inl (some (.inr (.inr (some (11 + 2 * ((a1)).toNat))))), σ) := by
          refine b145 ?_
          rw [if_pos (show (0 : Int) ≤ a1 by first | omega | (simp [upS, hz, za1, z1a1, ca1]; done) | (simp [upS, hz, za1, z1a1, ca1]; omega))]
          refine ⟨4, (by decide +kernel), (by decide), ?_⟩
          rw [if_pos (show a1 < ((4 : Nat) : Int) by first | omega | (simp [upS, hz, za1, z1a1, ca1]; done) | (simp [upS, hz, za1, z1a1, ca1]; omega))]
          refine ⟨(show 0 ≤ a1 by first | omega | (simp [upS, hz, za1, z1a1, ca1]; done) | (simp [upS, hz, za1, z1a1, ca1]; omega)), ?_⟩
          refine ⟨(11 + 2 * ((a1)).toNat), (el_10 (i := (a1)) (by first | omega | (simp [upS, hz, za1, z1a1, ca1]; done) | (simp [upS, hz, za1, z1a1, ca1]; omega))).1, (el_10 (i := (a1)) (by first | omega | (simp [upS, hz, za1, z1a1, ca1]; done) | (simp [upS, hz, za1, z1a1, ca1]; omega))).2, ?_⟩
          all_goals rfl
        refine ⟨_, _, hD1, ?_⟩
        clear hD1
        refine ⟨fun hz2 => (by cases hz2), fun _ hz2 => ?_⟩
        cases hz2
        refine ⟨(el_10 (i := (a1)) (by first | omega | (simp [upS, hz, za1, z1a1, ca1]; done) | (simp [upS, hz, za1, z1a1, ca1]; omega))).2, ?_⟩
        all_goals rfl
      refine Or.inl ⟨_, _, hD3, (el_10 (i := (a1)) (by first | omega | (simp [upS, hz, za1, z1a1, ca1]; done) | (simp [upS, hz, za1, z1a1, ca1]; omega))).2, ?_⟩
      clear hD3
      have hD4 : Dd 234 [(.inr (.inr (some 0))), (.inl a2), (.inl 0), (.inl 255)] σ (.inr 1, σ) := by
        refine b234 ?_
        rw [if_pos (show (0 : Int) ≤ a2 by first | omega | (simp [upS, hz, za1, z1a1, ca1]; done) | (simp [upS, hz, za1, z1a1, ca1]; omega))]
        rw [if_pos (show (255 : Int) < a2 by first | omega | (simp [upS, hz, za1, z1a1, ca1]; done) | (simp [upS, hz, za1, z1a1, ca1]; omega))]
        refine b234_10 ?_
        all_goals rfl
      refine Or.inr ⟨_, _, hD4, ?_⟩
      all_goals rfl
    exact Or.inr (Or.inr (Or.inl ⟨_, hD5, rfl⟩))
  have hB : Dd 378 [(.inr (.inr (some 682))), (.inl a1), (.inl a2)] σ (.inl (some (.inl 0)), (upS σ 682 0 2)) := by
    refine b378 ?_
    have hD7 : Dd 377 [(.inl a1)] σ (.inl (some (.inl 1)), σ) := by
      refine b377 ?_
      have hD6 : Dd 246 [(.inl a1), (.inl 4)] σ (.inl (some (.inl 1)), σ) := by
        refine b246 ?_
        try rw [if_pos (show (0 : Int) ≤ a1 by first | omega | (simp [upS, hz, za1, z1a1, ca1]; done) | (simp [upS, hz, za1, z1a1, ca1]; omega))]
        try rw [if_pos (show a1 < 4 by first | omega | (simp [upS, hz, za1, z1a1, ca1]; done) | (simp [upS, hz, za1, z1a1, ca1]; omega))]
        all_goals rfl
      refine ⟨_, _, hD6, ?_⟩
      clear hD6
      refine ⟨(show 1 = 0 ∨ 1 = 1 by first | omega | (simp [upS, hz, za1, z1a1, ca1]; done) | (simp [upS, hz, za1, z1a1, ca1]; omega)), ?_⟩
      all_goals rfl
    refine ⟨_, _, hD7, ?_⟩
    clear hD7
    rw [if_neg (show ¬ ((1 : Int) = 0) by first | omega | (simp [upS, hz, za1, z1a1, ca1]; done) | (simp [upS, hz, za1, z1a1, ca1]; omega))]
    have hD8 : Dd 246 [(.inl a2), (.inl 256)] σ (.inl (some (.inl 0)), σ) := by
      refine b246 ?_
      try rw [if_pos (show (0 : Int) ≤ a2 by first | omega | (simp [upS, hz, za1, z1a1, ca1]; done) | (simp [upS, hz, za1, z1a1, ca1]; omega))]
      try rw [if_neg (show ¬ (a2 < 256) by first | omega | (simp [upS, hz, za1, z1a1, ca1]; done) | (simp [upS, hz, za1, z1a1, ca1]; omega))]
      all_goals rfl
    refine ⟨_, _, hD8, ?_⟩
    clear hD8
    refine ⟨(show ¬ (0 = 0) → 0 ≤ a1 ∧ a1 < 4 by (first | (intros; first | omega | (simp [upS, hz, za1, z1a1, ca1]; done) | (simp [upS, hz, za1, z1a1, ca1]; omega)) | (intros; simp_all [upS, hz, za1, z1a1, ca1]; done) | (intros; simp_all [upS, hz, za1, z1a1, ca1]; omega))), ?_⟩
    try rw [if_pos (show (0 : Int) = 0 by first | omega | (simp [upS, hz, za1, z1a1, ca1]; done) | (simp [upS, hz, za1, z1a1, ca1]; omega))]
    refine b378_44 ?_
    have hD9 : Dd 245 [(.inr (.inr (some 682))), (.inl 2)] σ (.inl (some (.inl 0)), (upS σ 682 0 2)) := by
      refine b245 ?_
      try rw [if_neg (show ¬ ((2 : Int) = 0) by first | omega | (simp [upS, hz, za1, z1a1, ca1]; done) | (simp [upS, hz, za1, z1a1, ca1]; omega))]
      all_goals rfl
    refine ⟨_, _, hD9, ?_⟩
    clear hD9
    rw [if_pos (show (0 : Int) = 0 by first | omega | (simp [upS, hz, za1, z1a1, ca1]; done) | (simp [upS, hz, za1, z1a1, ca1]; omega))]
    all_goals rfl
  refine ⟨_, _, _, _, hA, hB, ?_, ?_, ?_, ?_, ?_⟩
  · (first | rfl | (simp [upS, SCR, hz, za1, z1a1, ca1]; done) | (simp [upS, SCR, hz, za1, z1a1, ca1]; omega))
  · first | (intro h9; omega) | (intro _; first | rfl | (simp [upS, SCR, hz, za1, z1a1, ca1]; done) | (simp [upS, SCR, hz, za1, z1a1, ca1]; omega))
  · intro i; first | rfl | (unfold upS SCR; (repeat' split) <;> first | rfl | omega)
  · first | rfl | (unfold upS SCR; (repeat' split) <;> first | rfl | omega)
  · first | rfl | (unfold upS SCR; (repeat' split) <;> first | rfl | omega)
theorem q47_4 {σ : Sg} {a1 : Int} {a2 : Int} (hz : ∀ a i, a < 1000 → σ a i = 0) (h0 : 0 ≤ a1 ∧ a1 < 4) (h1 : 0 ≤ a2 ∧ a2 ≤ 255) : ∃ (kx b : Int) (s1 s2 : Sg), Dd 435 [(.inr (.inr (some 0))), (.inl a1), (.inl a2), (.inr (.inr (some 726)))] σ (.inl (some (.inl kx)), s1) ∧ Dd 378 [(.inr (.inr (some 682))), (.inl a1), (.inl a2)] s1 (.inl (some (.inl b)), s2) ∧ s2 682 0 = kx ∧ (kx = 0 → s2 726 0 = b) ∧ (∀ i, s1 SCR i = σ SCR i) ∧ s1 (SCR + 1) 0 = σ (SCR + 1) 0 ∧ s2 (SCR + 1) 0 = σ (SCR + 1) 0 := by
  have za1 : ∀ i, σ (11 + 2 * ((a1)).toNat) i = 0 := fun i => hz _ i (by omega)
  have z1a1 : ∀ i, σ ((11 + 2 * ((a1)).toNat) + 1) i = 0 := fun i => hz _ i (by omega)
  have ca1 : (cap (11 + 2 * ((a1)).toNat) : Int) = 40 := cp_10 (by omega)
  have hA : Dd 435 [(.inr (.inr (some 0))), (.inl a1), (.inl a2), (.inr (.inr (some 726)))] σ (.inl (some (.inl 0)), (upS (upS (upS σ ((11 + 2 * ((a1)).toNat) + 1) 0 a2) (11 + 2 * ((a1)).toNat) 1 1) 726 0 1)) := by
    refine b435 ?_
    have hD8 : Dd 219 [(.inr (.inr (some 0))), (.inl a1), (.inl a2)] σ (.inl (some (.inl 1)), (upS (upS σ ((11 + 2 * ((a1)).toNat) + 1) 0 a2) (11 + 2 * ((a1)).toNat) 1 1)) := by
      refine b219 ?_
      have hD3 : Dd 228 [(.inr (.inr (some 0))), (.inl a1)] σ (.inl (some (.inr (.inr (some (11 + 2 * ((a1)).toNat))))), σ) := by
        refine b228 ?_
        have hD1 : Dd 145 [(.inr (.inr (some 10))), (.inl a1)] σ (.inl (some (.inr (.inr (some (11 + 2 * ((a1)).toNat))))), σ) := by
          refine b145 ?_
          rw [if_pos (show (0 : Int) ≤ a1 by first | omega | (simp [upS, hz, za1, z1a1, ca1]; done) | (simp [upS, hz, za1, z1a1, ca1]; omega))]
          refine ⟨4, (by decide +kernel), (by decide), ?_⟩
          rw [if_pos (show a1 < ((4 : Nat) : Int) by first | omega | (simp [upS, hz, za1, z1a1, ca1]; done) | (simp [upS, hz, za1, z1a1, ca1]; omega))]
          refine ⟨(show 0 ≤ a1 by first | omega | (simp [upS, hz, za1, z1a1, ca1]; done) | (simp [upS, hz, za1, z1a1, ca1]; omega)), ?_⟩
          refine ⟨(11 + 2 * ((a1)).toNat), (el_10 (i := (a1)) (by first | omega | (simp [upS, hz, za1, z1a1, ca1]; done) | (simp [upS, hz, za1, z1a1, ca1]; omega))).1, (el_10 (i := (a1)) (by first | omega | (simp [upS, hz, za1, z1a1, ca1]; done) | (simp [upS, hz, za1, z1a1, ca1]; omega))).2, ?_⟩
          all_goals rfl
        refine ⟨_, _, hD1, ?_⟩
        clear hD1
        refine ⟨fun hz2 => (by cases hz2), fun _ hz2 => ?_⟩
        cases hz2
        refine ⟨(el_10 (i := (a1)) (by first | omega | (simp [upS, hz, za1, z1a1, ca1]; done) | (simp [upS, hz, za1, z1a1, ca1]; omega))).2, ?_⟩
        all_goals rfl
      refine Or.inl ⟨_, _, hD3, (el_10 (i := (a1)) (by first | omega | (simp [upS, hz, za1, z1a1, ca1]; done) | (simp [upS, hz, za1, z1a1, ca1]; omega))).2, ?_⟩
      clear hD3
      have hD4 : Dd 234 [(.inr (.inr (some 0))), (.inl a2), (.inl 0), (.inl 255)] σ (.inl none, σ) := by
        refine b234 ?_
        rw [if_pos (show (0 : Int) ≤ a2 by first | omega | (simp [upS, hz, za1, z1a1, ca1]; done) | (simp [upS, hz, za1, z1a1, ca1]; omega))]
        rw [if_neg (show ¬ ((255 : Int) < a2) by first | omega | (simp [upS, hz, za1, z1a1, ca1]; done) | (simp [upS, hz, za1, z1a1, ca1]; omega))]
        all_goals rfl
      refine Or.inl ⟨_, hD4, ?_⟩
      clear hD4
      have hD5 : Dd 146 [(.inr (.inr (some (11 + 2 * ((a1)).toNat))))] σ (.inl (some (.inl 0)), σ) := by
        refine b146 (el_10 (i := (a1)) (by first | omega | (simp [upS, hz, za1, z1a1, ca1]; done) | (simp [upS, hz, za1, z1a1, ca1]; omega))).2 ?_
        rw [show (σ (11 + 2 * ((a1)).toNat) 1) = 0 by (first | omega | (simp [upS, hz, za1, z1a1, ca1]; done) | (simp [upS, hz, za1, z1a1, ca1]; omega))]
        all_goals rfl
      refine ⟨_, _, hD5, ?_⟩
      clear hD5
      rw [if_neg (show ¬ ((40 : Int) ≤ 0) by first | omega | (simp [upS, hz, za1, z1a1, ca1]; done) | (simp [upS, hz, za1, z1a1, ca1]; omega))]
      have hD6 : Dd 149 [(.inr (.inr (some (11 + 2 * ((a1)).toNat)))), (.inl a2)] σ (.inl none, (upS (upS σ ((11 + 2 * ((a1)).toNat) + 1) 0 a2) (11 + 2 * ((a1)).toNat) 1 1)) := by
        refine b149 (el_10 (i := (a1)) (by first | omega | (simp [upS, hz, za1, z1a1, ca1]; done) | (simp [upS, hz, za1, z1a1, ca1]; omega))).2 ?_
        refine ⟨(show -2147483648 ≤ ((cap (11 + 2 * ((a1)).toNat)) : Int) ∧ ((cap (11 + 2 * ((a1)).toNat)) : Int) ≤ 2147483647 by have ec1 : (cap (11 + 2 * ((a1)).toNat) : Int) = 40 := cp_10 (by omega); first | omega | (simp [upS, hz, za1, z1a1, ca1]; done) | (simp [upS, hz, za1, z1a1, ca1]; omega)), ?_⟩
        rw [if_pos (show (σ (11 + 2 * ((a1)).toNat) 1) < ((cap (11 + 2 * ((a1)).toNat)) : Int) by have ec1 : (cap (11 + 2 * ((a1)).toNat) : Int) = 40 := cp_10 (by omega); first | omega | (simp [upS, hz, za1, z1a1, ca1]; done) | (simp [upS, hz, za1, z1a1, ca1]; omega))]
        refine ⟨(show 0 ≤ (σ (11 + 2 * ((a1)).toNat) 1) ∧ (σ (11 + 2 * ((a1)).toNat) 1) < ((cap (11 + 2 * ((a1)).toNat)) : Int) by have ec1 : (cap (11 + 2 * ((a1)).toNat) : Int) = 40 := cp_10 (by omega); first | omega | (simp [upS, hz, za1, z1a1, ca1]; done) | (simp [upS, hz, za1, z1a1, ca1]; omega)), ?_⟩
        refine ⟨(show -2147483648 ≤ (((upS σ ((11 + 2 * ((a1)).toNat) + 1) (((σ (11 + 2 * ((a1)).toNat) 1)).toNat) a2) (11 + 2 * ((a1)).toNat) 1) + 1) ∧ (((upS σ ((11 + 2 * ((a1)).toNat) + 1) (((σ (11 + 2 * ((a1)).toNat) 1)).toNat) a2) (11 + 2 * ((a1)).toNat) 1) + 1) ≤ 2147483647 by first | omega | (simp [upS, hz, za1, z1a1, ca1]; done) | (simp [upS, hz, za1, z1a1, ca1]; omega)), ?_⟩
        rw [(show (upS (upS σ ((11 + 2 * ((a1)).toNat) + 1) (((σ (11 + 2 * ((a1)).toNat) 1)).toNat) a2) (11 + 2 * ((a1)).toNat) 1 (((upS σ ((11 + 2 * ((a1)).toNat) + 1) (((σ (11 + 2 * ((a1)).toNat) 1)).toNat) a2) (11 + 2 * ((a1)).toNat) 1) + 1)) = (upS (upS σ ((11 + 2 * ((a1)).toNat) + 1) 0 a2) (11 + 2 * ((a1)).toNat) 1 1) from by rw [show (((upS σ ((11 + 2 * ((a1)).toNat) + 1) (((σ (11 + 2 * ((a1)).toNat) 1)).toNat) a2) (11 + 2 * ((a1)).toNat) 1) + 1) = 1 by (first | omega | (simp [upS, hz, za1, z1a1, ca1]; done) | (simp [upS, hz, za1, z1a1, ca1]; omega)), show (((σ (11 + 2 * ((a1)).toNat) 1)).toNat) = 0 by (first | omega | (simp [upS, hz, za1, z1a1, ca1]; done) | (simp [upS, hz, za1, z1a1, ca1]; omega))])]
        all_goals rfl
      refine ⟨_, hD6, ?_⟩
      clear hD6
      have hD7 : Dd 146 [(.inr (.inr (some (11 + 2 * ((a1)).toNat))))] (upS (upS σ ((11 + 2 * ((a1)).toNat) + 1) 0 a2) (11 + 2 * ((a1)).toNat) 1 1) (.inl (some (.inl 1)), (upS (upS σ ((11 + 2 * ((a1)).toNat) + 1) 0 a2) (11 + 2 * ((a1)).toNat) 1 1)) := by
        refine b146 (el_10 (i := (a1)) (by first | omega | (simp [upS, hz, za1, z1a1, ca1]; done) | (simp [upS, hz, za1, z1a1, ca1]; omega))).2 ?_
        rw [show ((upS (upS σ ((11 + 2 * ((a1)).toNat) + 1) 0 a2) (11 + 2 * ((a1)).toNat) 1 1) (11 + 2 * ((a1)).toNat) 1) = 1 by (first | omega | (simp [upS, hz, za1, z1a1, ca1]; done) | (simp [upS, hz, za1, z1a1, ca1]; omega))]
        all_goals rfl
      refine ⟨_, _, hD7, ?_⟩
      clear hD7
      all_goals rfl
    refine Or.inl ⟨_, _, hD8, ?_⟩
    clear hD8
    rw [(show (upS (upS (upS σ ((11 + 2 * ((a1)).toNat) + 1) 0 a2) (11 + 2 * ((a1)).toNat) 1 1) 726 ((0 : Int).toNat) 1) = (upS (upS (upS σ ((11 + 2 * ((a1)).toNat) + 1) 0 a2) (11 + 2 * ((a1)).toNat) 1 1) 726 0 1) from by rw [show ((0 : Int).toNat) = 0 by (first | omega | (simp [upS, hz, za1, z1a1, ca1]; done) | (simp [upS, hz, za1, z1a1, ca1]; omega))])]
    all_goals rfl
  obtain ⟨S900, E900⟩ : ∃ s : Sg, s = (upS (upS (upS σ ((11 + 2 * ((a1)).toNat) + 1) 0 a2) (11 + 2 * ((a1)).toNat) 1 1) 726 0 1) := ⟨_, rfl⟩
  rw [← E900] at hA
  have hB : Dd 378 [(.inr (.inr (some 682))), (.inl a1), (.inl a2)] S900 (.inl (some (.inl 1)), (upS (upS (upS S900 682 0 0) 722 ((((40 * a1) + 0)).toNat) a2) 723 ((a1).toNat) 1)) := by
    refine b378 ?_
    have hD10 : Dd 377 [(.inl a1)] S900 (.inl (some (.inl 1)), S900) := by
      refine b377 ?_
      have hD9 : Dd 246 [(.inl a1), (.inl 4)] S900 (.inl (some (.inl 1)), S900) := by
        refine b246 ?_
        try rw [if_pos (show (0 : Int) ≤ a1 by first | omega | (simp [upS, hz, za1, z1a1, ca1, E900]; done) | (simp [upS, hz, za1, z1a1, ca1, E900]; omega))]
        try rw [if_pos (show a1 < 4 by first | omega | (simp [upS, hz, za1, z1a1, ca1, E900]; done) | (simp [upS, hz, za1, z1a1, ca1, E900]; omega))]
        all_goals rfl
      refine ⟨_, _, hD9, ?_⟩
      clear hD9
      refine ⟨(show 1 = 0 ∨ 1 = 1 by first | omega | (simp [upS, hz, za1, z1a1, ca1, E900]; done) | (simp [upS, hz, za1, z1a1, ca1, E900]; omega)), ?_⟩
      all_goals rfl
    refine ⟨_, _, hD10, ?_⟩
    clear hD10
    rw [if_neg (show ¬ ((1 : Int) = 0) by first | omega | (simp [upS, hz, za1, z1a1, ca1, E900]; done) | (simp [upS, hz, za1, z1a1, ca1, E900]; omega))]
    have hD11 : Dd 246 [(.inl a2), (.inl 256)] S900 (.inl (some (.inl 1)), S900) := by
      refine b246 ?_
      try rw [if_pos (show (0 : Int) ≤ a2 by first | omega | (simp [upS, hz, za1, z1a1, ca1, E900]; done) | (simp [upS, hz, za1, z1a1, ca1, E900]; omega))]
      try rw [if_pos (show a2 < 256 by first | omega | (simp [upS, hz, za1, z1a1, ca1, E900]; done) | (simp [upS, hz, za1, z1a1, ca1, E900]; omega))]
      all_goals rfl
    refine ⟨_, _, hD11, ?_⟩
    clear hD11
    refine ⟨(show ¬ (1 = 0) → 0 ≤ a1 ∧ a1 < 4 by (first | (intros; first | omega | (simp [upS, hz, za1, z1a1, ca1, E900]; done) | (simp [upS, hz, za1, z1a1, ca1, E900]; omega)) | (intros; simp_all [upS, hz, za1, z1a1, ca1, E900]; done) | (intros; simp_all [upS, hz, za1, z1a1, ca1, E900]; omega))), ?_⟩
    try rw [if_neg (show ¬ ((1 : Int) = 0) by first | omega | (simp [upS, hz, za1, z1a1, ca1, E900]; done) | (simp [upS, hz, za1, z1a1, ca1, E900]; omega))]
    try rw [if_neg (show ¬ ((S900 723 (a1).toNat) = 40) by first | omega | (simp [upS, hz, za1, z1a1, ca1, E900]; done) | (simp [upS, hz, za1, z1a1, ca1, E900]; omega))]
    refine b378_44 ?_
    have hD12 : Dd 245 [(.inr (.inr (some 682))), (.inl 0)] S900 (.inl (some (.inl 1)), (upS S900 682 0 0)) := by
      refine b245 ?_
      try rw [if_pos (show (0 : Int) = 0 by first | omega | (simp [upS, hz, za1, z1a1, ca1, E900]; done) | (simp [upS, hz, za1, z1a1, ca1, E900]; omega))]
      all_goals rfl
    refine ⟨_, _, hD12, ?_⟩
    clear hD12
    rw [if_neg (show ¬ ((1 : Int) = 0) by first | omega | (simp [upS, hz, za1, z1a1, ca1, E900]; done) | (simp [upS, hz, za1, z1a1, ca1, E900]; omega))]
    refine ⟨(show -2147483648 ≤ (40 * a1) ∧ (40 * a1) ≤ 2147483647 by first | omega | (simp [upS, hz, za1, z1a1, ca1, E900]; done) | (simp [upS, hz, za1, z1a1, ca1, E900]; omega)), ?_⟩
    refine ⟨(show 0 ≤ a1 ∧ a1 < 4 by first | omega | (simp [upS, hz, za1, z1a1, ca1, E900]; done) | (simp [upS, hz, za1, z1a1, ca1, E900]; omega)), ?_⟩
    refine ⟨(show -2147483648 ≤ ((40 * a1) + ((upS S900 682 0 0) 723 (a1).toNat)) ∧ ((40 * a1) + ((upS S900 682 0 0) 723 (a1).toNat)) ≤ 2147483647 by first | omega | (simp [upS, hz, za1, z1a1, ca1, E900]; done) | (simp [upS, hz, za1, z1a1, ca1, E900]; omega)), ?_⟩
    refine ⟨(show 0 ≤ ((40 * a1) + ((upS S900 682 0 0) 723 (a1).toNat)) ∧ ((40 * a1) + ((upS S900 682 0 0) 723 (a1).toNat)) < 160 by first | omega | (simp [upS, hz, za1, z1a1, ca1, E900]; done) | (simp [upS, hz, za1, z1a1, ca1, E900]; omega)), ?_⟩
    refine ⟨(show 0 ≤ a1 ∧ a1 < 4 by first | omega | (simp [upS, hz, za1, z1a1, ca1, E900]; done) | (simp [upS, hz, za1, z1a1, ca1, E900]; omega)), ?_⟩
    refine ⟨(show -2147483648 ≤ (((upS (upS S900 682 0 0) 722 ((((40 * a1) + ((upS S900 682 0 0) 723 (a1).toNat))).toNat) a2) 723 (a1).toNat) + 1) ∧ (((upS (upS S900 682 0 0) 722 ((((40 * a1) + ((upS S900 682 0 0) 723 (a1).toNat))).toNat) a2) 723 (a1).toNat) + 1) ≤ 2147483647 by first | omega | (simp [upS, hz, za1, z1a1, ca1, E900]; done) | (simp [upS, hz, za1, z1a1, ca1, E900]; omega)), ?_⟩
    refine ⟨(show 0 ≤ a1 ∧ a1 < 4 by first | omega | (simp [upS, hz, za1, z1a1, ca1, E900]; done) | (simp [upS, hz, za1, z1a1, ca1, E900]; omega)), ?_⟩
    refine ⟨(show 0 ≤ a1 ∧ a1 < 4 by first | omega | (simp [upS, hz, za1, z1a1, ca1, E900]; done) | (simp [upS, hz, za1, z1a1, ca1, E900]; omega)), ?_⟩
    rw [(show (upS (upS (upS S900 682 0 0) 722 ((((40 * a1) + ((upS S900 682 0 0) 723 (a1).toNat))).toNat) a2) 723 ((a1).toNat) (((upS (upS S900 682 0 0) 722 ((((40 * a1) + ((upS S900 682 0 0) 723 (a1).toNat))).toNat) a2) 723 (a1).toNat) + 1)) = (upS (upS (upS S900 682 0 0) 722 ((((40 * a1) + 0)).toNat) a2) 723 ((a1).toNat) 1) from by rw [show (((upS (upS S900 682 0 0) 722 ((((40 * a1) + ((upS S900 682 0 0) 723 (a1).toNat))).toNat) a2) 723 (a1).toNat) + 1) = 1 by (first | omega | (simp [upS, hz, za1, z1a1, ca1, E900]; done) | (simp [upS, hz, za1, z1a1, ca1, E900]; omega)), show ((((40 * a1) + ((upS S900 682 0 0) 723 (a1).toNat))).toNat) = ((((40 * a1) + 0)).toNat) by (first | omega | (simp [upS, hz, za1, z1a1, ca1, E900]; done) | (simp [upS, hz, za1, z1a1, ca1, E900]; omega))])]
    rw [show ((upS (upS (upS S900 682 0 0) 722 ((((40 * a1) + 0)).toNat) a2) 723 ((a1).toNat) 1) 723 (a1).toNat) = 1 by (first | omega | (simp [upS, hz, za1, z1a1, ca1, E900]; done) | (simp [upS, hz, za1, z1a1, ca1, E900]; omega))]
    all_goals rfl
  refine ⟨_, _, _, _, hA, hB, ?_, ?_, ?_, ?_, ?_⟩
  all_goals subst E900
  · (first | rfl | (simp [upS, SCR, hz, za1, z1a1, ca1]; done) | (simp [upS, SCR, hz, za1, z1a1, ca1]; omega))
  · first | (intro h9; omega) | (intro _; first | rfl | (simp [upS, SCR, hz, za1, z1a1, ca1]; done) | (simp [upS, SCR, hz, za1, z1a1, ca1]; omega))
  · intro i; first | rfl | (unfold upS SCR; (repeat' split) <;> first | rfl | omega)
  · first | rfl | (unfold upS SCR; (repeat' split) <;> first | rfl | omega)
  · first | rfl | (unfold upS SCR; (repeat' split) <;> first | rfl | omega)
theorem q48_0 {σ : Sg} {a1 : Int} (hz : ∀ a i, a < 1000 → σ a i = 0) (h0 : a1 < 0) : ∃ (kx b : Int) (s1 s2 : Sg), Dd 436 [(.inr (.inr (some 0))), (.inl a1), (.inr (.inr (some 726)))] σ (.inl (some (.inl kx)), s1) ∧ Dd 379 [(.inr (.inr (some 682))), (.inl a1)] s1 (.inl (some (.inl b)), s2) ∧ s2 682 0 = kx ∧ (kx = 0 → s2 726 0 = b) ∧ (∀ i, s1 SCR i = σ SCR i) ∧ s1 (SCR + 1) 0 = σ (SCR + 1) 0 ∧ s2 (SCR + 1) 0 = σ (SCR + 1) 0 := by
  have hA : Dd 436 [(.inr (.inr (some 0))), (.inl a1), (.inr (.inr (some 726)))] σ (.inl (some (.inl 1)), σ) := by
    refine b436 ?_
    have hD4 : Dd 220 [(.inr (.inr (some 0))), (.inl a1)] σ (.inr 0, σ) := by
      refine b220 ?_
      have hD3 : Dd 228 [(.inr (.inr (some 0))), (.inl a1)] σ (.inr 0, σ) := by
        refine b228 ?_
        have hD1 : Dd 145 [(.inr (.inr (some 10))), (.inl a1)] σ (.inl (some (.inr (.inr none))), σ) := by
          refine b145 ?_
          rw [if_neg (show ¬ ((0 : Int) ≤ a1) by first | omega | (simp [upS, hz]; done) | (simp [upS, hz]; omega))]
          all_goals rfl
        refine ⟨_, _, hD1, ?_⟩
        clear hD1
        refine ⟨fun _ => ?_, fun _ hz2 => (by cases hz2)⟩
        all_goals rfl
      refine Or.inr ⟨_, _, hD3, ?_⟩
      all_goals rfl
    exact Or.inr (⟨_, hD4, rfl⟩)
  have hB : Dd 379 [(.inr (.inr (some 682))), (.inl a1)] σ (.inl (some (.inl 0)), (upS σ 682 0 1)) := by
    refine b379 ?_
    have hD6 : Dd 377 [(.inl a1)] σ (.inl (some (.inl 0)), σ) := by
      refine b377 ?_
      have hD5 : Dd 246 [(.inl a1), (.inl 4)] σ (.inl (some (.inl 0)), σ) := by
        refine b246 ?_
        try rw [if_neg (show ¬ ((0 : Int) ≤ a1) by first | omega | (simp [upS, hz]; done) | (simp [upS, hz]; omega))]
        all_goals rfl
      refine ⟨_, _, hD5, ?_⟩
      clear hD5
      refine ⟨(show 0 = 0 ∨ 0 = 1 by first | omega | (simp [upS, hz]; done) | (simp [upS, hz]; omega)), ?_⟩
      all_goals rfl
    refine ⟨_, _, hD6, ?_⟩
    clear hD6
    try rw [if_pos (show (0 : Int) = 0 by first | omega | (simp [upS, hz]; done) | (simp [upS, hz]; omega))]
    refine b379_13 ?_
    have hD7 : Dd 245 [(.inr (.inr (some 682))), (.inl 1)] σ (.inl (some (.inl 0)), (upS σ 682 0 1)) := by
      refine b245 ?_
      try rw [if_neg (show ¬ ((1 : Int) = 0) by first | omega | (simp [upS, hz]; done) | (simp [upS, hz]; omega))]
      all_goals rfl
    refine ⟨_, _, hD7, ?_⟩
    clear hD7
    rw [if_pos (show (0 : Int) = 0 by first | omega | (simp [upS, hz]; done) | (simp [upS, hz]; omega))]
    all_goals rfl
  refine ⟨_, _, _, _, hA, hB, ?_, ?_, ?_, ?_, ?_⟩
  · (first | rfl | (simp [upS, SCR, hz]; done) | (simp [upS, SCR, hz]; omega))
  · first | (intro h9; omega) | (intro _; first | rfl | (simp [upS, SCR, hz]; done) | (simp [upS, SCR, hz]; omega))
  · intro i; first | rfl | (unfold upS SCR; (repeat' split) <;> first | rfl | omega)
  · first | rfl | (unfold upS SCR; (repeat' split) <;> first | rfl | omega)
  · first | rfl | (unfold upS SCR; (repeat' split) <;> first | rfl | omega)
theorem q48_1 {σ : Sg} {a1 : Int} (hz : ∀ a i, a < 1000 → σ a i = 0) (h0 : 4 ≤ a1) : ∃ (kx b : Int) (s1 s2 : Sg), Dd 436 [(.inr (.inr (some 0))), (.inl a1), (.inr (.inr (some 726)))] σ (.inl (some (.inl kx)), s1) ∧ Dd 379 [(.inr (.inr (some 682))), (.inl a1)] s1 (.inl (some (.inl b)), s2) ∧ s2 682 0 = kx ∧ (kx = 0 → s2 726 0 = b) ∧ (∀ i, s1 SCR i = σ SCR i) ∧ s1 (SCR + 1) 0 = σ (SCR + 1) 0 ∧ s2 (SCR + 1) 0 = σ (SCR + 1) 0 := by
  have hA : Dd 436 [(.inr (.inr (some 0))), (.inl a1), (.inr (.inr (some 726)))] σ (.inl (some (.inl 1)), σ) := by
    refine b436 ?_
    have hD4 : Dd 220 [(.inr (.inr (some 0))), (.inl a1)] σ (.inr 0, σ) := by
      refine b220 ?_
      have hD3 : Dd 228 [(.inr (.inr (some 0))), (.inl a1)] σ (.inr 0, σ) := by
        refine b228 ?_
        have hD1 : Dd 145 [(.inr (.inr (some 10))), (.inl a1)] σ (.inl (some (.inr (.inr none))), σ) := by
          refine b145 ?_
          rw [if_pos (show (0 : Int) ≤ a1 by first | omega | (simp [upS, hz]; done) | (simp [upS, hz]; omega))]
          refine ⟨4, (by decide +kernel), (by decide), ?_⟩
          rw [if_neg (show ¬ (a1 < ((4 : Nat) : Int)) by first | omega | (simp [upS, hz]; done) | (simp [upS, hz]; omega))]
          all_goals rfl
        refine ⟨_, _, hD1, ?_⟩
        clear hD1
        refine ⟨fun _ => ?_, fun _ hz2 => (by cases hz2)⟩
        all_goals rfl
      refine Or.inr ⟨_, _, hD3, ?_⟩
      all_goals rfl
    exact Or.inr (⟨_, hD4, rfl⟩)
  have hB : Dd 379 [(.inr (.inr (some 682))), (.inl a1)] σ (.inl (some (.inl 0)), (upS σ 682 0 1)) := by
    refine b379 ?_
    have hD6 : Dd 377 [(.inl a1)] σ (.inl (some (.inl 0)), σ) := by
      refine b377 ?_
      have hD5 : Dd 246 [(.inl a1), (.inl 4)] σ (.inl (some (.inl 0)), σ) := by
        refine b246 ?_
        try rw [if_pos (show (0 : Int) ≤ a1 by first | omega | (simp [upS, hz]; done) | (simp [upS, hz]; omega))]
        try rw [if_neg (show ¬ (a1 < 4) by first | omega | (simp [upS, hz]; done) | (simp [upS, hz]; omega))]
        all_goals rfl
      refine ⟨_, _, hD5, ?_⟩
      clear hD5
      refine ⟨(show 0 = 0 ∨ 0 = 1 by first | omega | (simp [upS, hz]; done) | (simp [upS, hz]; omega)), ?_⟩
      all_goals rfl
    refine ⟨_, _, hD6, ?_⟩
    clear hD6
    try rw [if_pos (show (0 : Int) = 0 by first | omega | (simp [upS, hz]; done) | (simp [upS, hz]; omega))]
    refine b379_13 ?_
    have hD7 : Dd 245 [(.inr (.inr (some 682))), (.inl 1)] σ (.inl (some (.inl 0)), (upS σ 682 0 1)) := by
      refine b245 ?_
      try rw [if_neg (show ¬ ((1 : Int) = 0) by first | omega | (simp [upS, hz]; done) | (simp [upS, hz]; omega))]
      all_goals rfl
    refine ⟨_, _, hD7, ?_⟩
    clear hD7
    rw [if_pos (show (0 : Int) = 0 by first | omega | (simp [upS, hz]; done) | (simp [upS, hz]; omega))]
    all_goals rfl
  refine ⟨_, _, _, _, hA, hB, ?_, ?_, ?_, ?_, ?_⟩
  · (first | rfl | (simp [upS, SCR, hz]; done) | (simp [upS, SCR, hz]; omega))
  · first | (intro h9; omega) | (intro _; first | rfl | (simp [upS, SCR, hz]; done) | (simp [upS, SCR, hz]; omega))
  · intro i; first | rfl | (unfold upS SCR; (repeat' split) <;> first | rfl | omega)
  · first | rfl | (unfold upS SCR; (repeat' split) <;> first | rfl | omega)
  · first | rfl | (unfold upS SCR; (repeat' split) <;> first | rfl | omega)
theorem q48_2 {σ : Sg} {a1 : Int} (hz : ∀ a i, a < 1000 → σ a i = 0) (h0 : 0 ≤ a1 ∧ a1 < 4) : ∃ (kx b : Int) (s1 s2 : Sg), Dd 436 [(.inr (.inr (some 0))), (.inl a1), (.inr (.inr (some 726)))] σ (.inl (some (.inl kx)), s1) ∧ Dd 379 [(.inr (.inr (some 682))), (.inl a1)] s1 (.inl (some (.inl b)), s2) ∧ s2 682 0 = kx ∧ (kx = 0 → s2 726 0 = b) ∧ (∀ i, s1 SCR i = σ SCR i) ∧ s1 (SCR + 1) 0 = σ (SCR + 1) 0 ∧ s2 (SCR + 1) 0 = σ (SCR + 1) 0 := by
  have za1 : ∀ i, σ (11 + 2 * ((a1)).toNat) i = 0 := fun i => hz _ i (by omega)
  have z1a1 : ∀ i, σ ((11 + 2 * ((a1)).toNat) + 1) i = 0 := fun i => hz _ i (by omega)
  have ca1 : (cap (11 + 2 * ((a1)).toNat) : Int) = 40 := cp_10 (by omega)
  have hA : Dd 436 [(.inr (.inr (some 0))), (.inl a1), (.inr (.inr (some 726)))] σ (.inl (some (.inl 0)), (upS (upS σ (11 + 2 * ((a1)).toNat) 1 0) 726 0 0)) := by
    refine b436 ?_
    have hD6 : Dd 220 [(.inr (.inr (some 0))), (.inl a1)] σ (.inl (some (.inl 0)), (upS σ (11 + 2 * ((a1)).toNat) 1 0)) := by
      refine b220 ?_
      have hD3 : Dd 228 [(.inr (.inr (some 0))), (.inl a1)] σ (.inl (some (.inr (.inr (some (11 + 2 * ((a1)).toNat))))), σ) := by
        refine b228 ?_
        have hD1 : Dd 145 [(.inr (.inr (some 10))), (.inl a1)] σ (.inl (some (.inr (.inr (some (11 + 2 * ((a1)).toNat))))), σ) := by
          refine b145 ?_
          rw [if_pos (show (0 : Int) ≤ a1 by first | omega | (simp [upS, hz, za1, z1a1, ca1]; done) | (simp [upS, hz, za1, z1a1, ca1]; omega))]
          refine ⟨4, (by decide +kernel), (by decide), ?_⟩
          rw [if_pos (show a1 < ((4 : Nat) : Int) by first | omega | (simp [upS, hz, za1, z1a1, ca1]; done) | (simp [upS, hz, za1, z1a1, ca1]; omega))]
          refine ⟨(show 0 ≤ a1 by first | omega | (simp [upS, hz, za1, z1a1, ca1]; done) | (simp [upS, hz, za1, z1a1, ca1]; omega)), ?_⟩
          refine ⟨(11 + 2 * ((a1)).toNat), (el_10 (i := (a1)) (by first | omega | (simp [upS, hz, za1, z1a1, ca1]; done) | (simp [upS, hz, za1, z1a1, ca1]; omega))).1, (el_10 (i := (a1)) (by first | omega | (simp [upS, hz, za1, z1a1, ca1]; done) | (simp [upS, hz, za1, z1a1, ca1]; omega))).2, ?_⟩
          all_goals rfl
        refine ⟨_, _, hD1, ?_⟩
        clear hD1
        refine ⟨fun hz2 => (by cases hz2), fun _ hz2 => ?_⟩
        cases hz2
        refine ⟨(el_10 (i := (a1)) (by first | omega | (simp [upS, hz, za1, z1a1, ca1]; done) | (simp [upS, hz, za1, z1a1, ca1]; omega))).2, ?_⟩
        all_goals rfl
      refine Or.inl ⟨_, _, hD3, (el_10 (i := (a1)) (by first | omega | (simp [upS, hz, za1, z1a1, ca1]; done) | (simp [upS, hz, za1, z1a1, ca1]; omega))).2, ?_⟩
      clear hD3
      have hD4 : Dd 146 [(.inr (.inr (some (11 + 2 * ((a1)).toNat))))] σ (.inl (some (.inl 0)), σ) := by
        refine b146 (el_10 (i := (a1)) (by first | omega | (simp [upS, hz, za1, z1a1, ca1]; done) | (simp [upS, hz, za1, z1a1, ca1]; omega))).2 ?_
        rw [show (σ (11 + 2 * ((a1)).toNat) 1) = 0 by (first | omega | (simp [upS, hz, za1, z1a1, ca1]; done) | (simp [upS, hz, za1, z1a1, ca1]; omega))]
        all_goals rfl
      refine ⟨_, _, hD4, ?_⟩
      clear hD4
      have hD5 : Dd 152 [(.inr (.inr (some (11 + 2 * ((a1)).toNat))))] σ (.inl none, (upS σ (11 + 2 * ((a1)).toNat) 1 0)) := by
        refine b152 (el_10 (i := (a1)) (by first | omega | (simp [upS, hz, za1, z1a1, ca1]; done) | (simp [upS, hz, za1, z1a1, ca1]; omega))).2 ?_
        all_goals rfl
      refine ⟨_, hD5, ?_⟩
      clear hD5
      all_goals rfl
    refine Or.inl ⟨_, _, hD6, ?_⟩
    clear hD6
    rw [(show (upS (upS σ (11 + 2 * ((a1)).toNat) 1 0) 726 ((0 : Int).toNat) 0) = (upS (upS σ (11 + 2 * ((a1)).toNat) 1 0) 726 0 0) from by rw [show ((0 : Int).toNat) = 0 by (first | omega | (simp [upS, hz, za1, z1a1, ca1]; done) | (simp [upS, hz, za1, z1a1, ca1]; omega))])]
    all_goals rfl
  have hB : Dd 379 [(.inr (.inr (some 682))), (.inl a1)] (upS (upS σ (11 + 2 * ((a1)).toNat) 1 0) 726 0 0) (.inl (some (.inl 0)), (upS (upS (upS (upS σ (11 + 2 * ((a1)).toNat) 1 0) 726 0 0) 682 0 0) 723 ((a1).toNat) 0)) := by
    refine b379 ?_
    have hD8 : Dd 377 [(.inl a1)] (upS (upS σ (11 + 2 * ((a1)).toNat) 1 0) 726 0 0) (.inl (some (.inl 1)), (upS (upS σ (11 + 2 * ((a1)).toNat) 1 0) 726 0 0)) := by
      refine b377 ?_
      have hD7 : Dd 246 [(.inl a1), (.inl 4)] (upS (upS σ (11 + 2 * ((a1)).toNat) 1 0) 726 0 0) (.inl (some (.inl 1)), (upS (upS σ (11 + 2 * ((a1)).toNat) 1 0) 726 0 0)) := by
        refine b246 ?_
        try rw [if_pos (show (0 : Int) ≤ a1 by first | omega | (simp [upS, hz, za1, z1a1, ca1]; done) | (simp [upS, hz, za1, z1a1, ca1]; omega))]
        try rw [if_pos (show a1 < 4 by first | omega | (simp [upS, hz, za1, z1a1, ca1]; done) | (simp [upS, hz, za1, z1a1, ca1]; omega))]
        all_goals rfl
      refine ⟨_, _, hD7, ?_⟩
      clear hD7
      refine ⟨(show 1 = 0 ∨ 1 = 1 by first | omega | (simp [upS, hz, za1, z1a1, ca1]; done) | (simp [upS, hz, za1, z1a1, ca1]; omega)), ?_⟩
      all_goals rfl
    refine ⟨_, _, hD8, ?_⟩
    clear hD8
    try rw [if_neg (show ¬ ((1 : Int) = 0) by first | omega | (simp [upS, hz, za1, z1a1, ca1]; done) | (simp [upS, hz, za1, z1a1, ca1]; omega))]
    refine b379_13 ?_
    have hD9 : Dd 245 [(.inr (.inr (some 682))), (.inl 0)] (upS (upS σ (11 + 2 * ((a1)).toNat) 1 0) 726 0 0) (.inl (some (.inl 1)), (upS (upS (upS σ (11 + 2 * ((a1)).toNat) 1 0) 726 0 0) 682 0 0)) := by
      refine b245 ?_
      try rw [if_pos (show (0 : Int) = 0 by first | omega | (simp [upS, hz, za1, z1a1, ca1]; done) | (simp [upS, hz, za1, z1a1, ca1]; omega))]
      all_goals rfl
    refine ⟨_, _, hD9, ?_⟩
    clear hD9
    rw [if_neg (show ¬ ((1 : Int) = 0) by first | omega | (simp [upS, hz, za1, z1a1, ca1]; done) | (simp [upS, hz, za1, z1a1, ca1]; omega))]
    refine ⟨(show 0 ≤ a1 ∧ a1 < 4 by first | omega | (simp [upS, hz, za1, z1a1, ca1]; done) | (simp [upS, hz, za1, z1a1, ca1]; omega)), ?_⟩
    refine ⟨(show 0 ≤ a1 ∧ a1 < 4 by first | omega | (simp [upS, hz, za1, z1a1, ca1]; done) | (simp [upS, hz, za1, z1a1, ca1]; omega)), ?_⟩
    rw [show ((upS (upS (upS σ (11 + 2 * ((a1)).toNat) 1 0) 726 0 0) 682 0 0) 723 (a1).toNat) = 0 by (first | omega | (simp [upS, hz, za1, z1a1, ca1]; done) | (simp [upS, hz, za1, z1a1, ca1]; omega))]
    all_goals rfl
  refine ⟨_, _, _, _, hA, hB, ?_, ?_, ?_, ?_, ?_⟩
  · (first | rfl | (simp [upS, SCR, hz, za1, z1a1, ca1]; done) | (simp [upS, SCR, hz, za1, z1a1, ca1]; omega))
  · first | (intro h9; omega) | (intro _; first | rfl | (simp [upS, SCR, hz, za1, z1a1, ca1]; done) | (simp [upS, SCR, hz, za1, z1a1, ca1]; omega))
  · intro i; first | rfl | (unfold upS SCR; (repeat' split) <;> first | rfl | omega)
  · first | rfl | (unfold upS SCR; (repeat' split) <;> first | rfl | omega)
  · first | rfl | (unfold upS SCR; (repeat' split) <;> first | rfl | omega)
theorem q49_0 {σ : Sg} {a1 : Int} {a2 : Int} (hz : ∀ a i, a < 1000 → σ a i = 0) (h0 : a1 < 0) : ∃ (kx b : Int) (s1 s2 : Sg), Dd 437 [(.inr (.inr (some 0))), (.inl a1), (.inl a2), (.inr (.inr (some 726)))] σ (.inl (some (.inl kx)), s1) ∧ Dd 380 [(.inr (.inr (some 682))), (.inl a1), (.inl a2)] s1 (.inl (some (.inl b)), s2) ∧ s2 682 0 = kx ∧ (kx = 0 → s2 726 0 = b) ∧ (∀ i, s1 SCR i = σ SCR i) ∧ s1 (SCR + 1) 0 = σ (SCR + 1) 0 ∧ s2 (SCR + 1) 0 = σ (SCR + 1) 0 := by
  have hA : Dd 437 [(.inr (.inr (some 0))), (.inl a1), (.inl a2), (.inr (.inr (some 726)))] σ (.inl (some (.inl 1)), σ) := by
    refine b437 ?_
    have hD4 : Dd 221 [(.inr (.inr (some 0))), (.inl a1), (.inl a2)] σ (.inr 0, σ) := by
      refine b221 ?_
      have hD3 : Dd 228 [(.inr (.inr (some 0))), (.inl a1)] σ (.inr 0, σ) := by
        refine b228 ?_
        have hD1 : Dd 145 [(.inr (.inr (some 10))), (.inl a1)] σ (.inl (some (.inr (.inr none))), σ) := by
          refine b145 ?_
          rw [if_neg (show ¬ ((0 : Int) ≤ a1) by first | omega | (simp [upS, hz]; done) | (simp [upS, hz]; omega))]
          all_goals rfl
        refine ⟨_, _, hD1, ?_⟩
        clear hD1
        refine ⟨fun _ => ?_, fun _ hz2 => (by cases hz2)⟩
        all_goals rfl
      refine Or.inr ⟨_, _, hD3, ?_⟩
      all_goals rfl
    exact Or.inr (⟨_, hD4, rfl⟩)
  have hB : Dd 380 [(.inr (.inr (some 682))), (.inl a1), (.inl a2)] σ (.inl (some (.inl 0)), (upS σ 682 0 1)) := by
    refine b380 ?_
    have hD6 : Dd 377 [(.inl a1)] σ (.inl (some (.inl 0)), σ) := by
      refine b377 ?_
      have hD5 : Dd 246 [(.inl a1), (.inl 4)] σ (.inl (some (.inl 0)), σ) := by
        refine b246 ?_
        try rw [if_neg (show ¬ ((0 : Int) ≤ a1) by first | omega | (simp [upS, hz]; done) | (simp [upS, hz]; omega))]
        all_goals rfl
      refine ⟨_, _, hD5, ?_⟩
      clear hD5
      refine ⟨(show 0 = 0 ∨ 0 = 1 by first | omega | (simp [upS, hz]; done) | (simp [upS, hz]; omega)), ?_⟩
      all_goals rfl
    refine ⟨_, _, hD6, ?_⟩
    clear hD6
    rw [if_pos (show (0 : Int) = 0 by first | omega | (simp [upS, hz]; done) | (simp [upS, hz]; omega))]
    refine b380_16 ?_
    refine b380_17 ?_
    have hD7 : Dd 245 [(.inr (.inr (some 682))), (.inl 1)] σ (.inl (some (.inl 0)), (upS σ 682 0 1)) := by
      refine b245 ?_
      try rw [if_neg (show ¬ ((1 : Int) = 0) by first | omega | (simp [upS, hz]; done) | (simp [upS, hz]; omega))]
      all_goals rfl
    refine ⟨_, _, hD7, ?_⟩
    clear hD7
    refine ⟨(show ¬ (0 = 0) → 0 ≤ a1 ∧ a1 < 4 by (first | (intros; first | omega | (simp [upS, hz]; done) | (simp [upS, hz]; omega)) | (intros; simp_all [upS, hz]; done) | (intros; simp_all [upS, hz]; omega))), ?_⟩
    refine ⟨(show ¬ (0 = 0) → (a2 < ((upS σ 682 0 1) 723 (a1).toNat)) → -2147483648 ≤ (40 * a1) ∧ (40 * a1) ≤ 2147483647 by (first | (intros; first | omega | (simp [upS, hz]; done) | (simp [upS, hz]; omega)) | (intros; simp_all [upS, hz]; done) | (intros; simp_all [upS, hz]; omega))), ?_⟩
    refine ⟨(show ¬ (0 = 0) → (a2 < ((upS σ 682 0 1) 723 (a1).toNat)) → -2147483648 ≤ ((40 * a1) + a2) ∧ ((40 * a1) + a2) ≤ 2147483647 by (first | (intros; first | omega | (simp [upS, hz]; done) | (simp [upS, hz]; omega)) | (intros; simp_all [upS, hz]; done) | (intros; simp_all [upS, hz]; omega))), ?_⟩
    refine ⟨(show ¬ (0 = 0) → (a2 < ((upS σ 682 0 1) 723 (a1).toNat)) → 0 ≤ ((40 * a1) + a2) ∧ ((40 * a1) + a2) < 160 by (first | (intros; first | omega | (simp [upS, hz]; done) | (simp [upS, hz]; omega)) | (intros; simp_all [upS, hz]; done) | (intros; simp_all [upS, hz]; omega))), ?_⟩
    try rw [if_pos (show (0 : Int) = 0 by first | omega | (simp [upS, hz]; done) | (simp [upS, hz]; omega))]
    all_goals rfl
  refine ⟨_, _, _, _, hA, hB, ?_, ?_, ?_, ?_, ?_⟩
  · (first | rfl | (simp [upS, SCR, hz]; done) | (simp [upS, SCR, hz]; omega))
  · first | (intro h9; omega) | (intro _; first | rfl | (simp [upS, SCR, hz]; done) | (simp [upS, SCR, hz]; omega))
  · intro i; first | rfl | (unfold upS SCR; (repeat' split) <;> first | rfl | omega)
  · first | rfl | (unfold upS SCR; (repeat' split) <;> first | rfl | omega)
  · first | rfl | (unfold upS SCR; (repeat' split) <;> first | rfl | omega)
theorem q49_1 {σ : Sg} {a1 : Int} {a2 : Int} (hz : ∀ a i, a < 1000 → σ a i = 0) (h0 : 4 ≤ a1) : ∃ (kx b : Int) (s1 s2 : Sg), Dd 437 [(.inr (.inr (some 0))), (.inl a1), (.inl a2), (.inr (.inr (some 726)))] σ (.inl (some (.inl kx)), s1) ∧ Dd 380 [(.inr (.inr (some 682))), (.inl a1), (.inl a2)] s1 (.inl (some (.inl b)), s2) ∧ s2 682 0 = kx ∧ (kx = 0 → s2 726 0 = b) ∧ (∀ i, s1 SCR i = σ SCR i) ∧ s1 (SCR + 1) 0 = σ (SCR + 1) 0 ∧ s2 (SCR + 1) 0 = σ (SCR + 1) 0 := by
  have hA : Dd 437 [(.inr (.inr (some 0))), (.inl a1), (.inl a2), (.inr (.inr (some 726)))] σ (.inl (some (.inl 1)), σ) := by
    refine b437 ?_
    have hD4 : Dd 221 [(.inr (.inr (some 0))), (.inl a1), (.inl a2)] σ (.inr 0, σ) := by
      refine b221 ?_
      have hD3 : Dd 228 [(.inr (.inr (some 0))), (.inl a1)] σ (.inr 0, σ) := by
        refine b228 ?_
        have hD1 : Dd 145 [(.inr (.inr (some 10))), (.inl a1)] σ (.inl (some (.inr (.inr none))), σ) := by
          refine b145 ?_
          rw [if_pos (show (0 : Int) ≤ a1 by first | omega | (simp [upS, hz]; done) | (simp [upS, hz]; omega))]
          refine ⟨4, (by decide +kernel), (by decide), ?_⟩
          rw [if_neg (show ¬ (a1 < ((4 : Nat) : Int)) by first | omega | (simp [upS, hz]; done) | (simp [upS, hz]; omega))]
          all_goals rfl
        refine ⟨_, _, hD1, ?_⟩
        clear hD1
        refine ⟨fun _ => ?_, fun _ hz2 => (by cases hz2)⟩
        all_goals rfl
      refine Or.inr ⟨_, _, hD3, ?_⟩
      all_goals rfl
    exact Or.inr (⟨_, hD4, rfl⟩)
  have hB : Dd 380 [(.inr (.inr (some 682))), (.inl a1), (.inl a2)] σ (.inl (some (.inl 0)), (upS σ 682 0 1)) := by
    refine b380 ?_
    have hD6 : Dd 377 [(.inl a1)] σ (.inl (some (.inl 0)), σ) := by
      refine b377 ?_
      have hD5 : Dd 246 [(.inl a1), (.inl 4)] σ (.inl (some (.inl 0)), σ) := by
        refine b246 ?_
        try rw [if_pos (show (0 : Int) ≤ a1 by first | omega | (simp [upS, hz]; done) | (simp [upS, hz]; omega))]
        try rw [if_neg (show ¬ (a1 < 4) by first | omega | (simp [upS, hz]; done) | (simp [upS, hz]; omega))]
        all_goals rfl
      refine ⟨_, _, hD5, ?_⟩
      clear hD5
      refine ⟨(show 0 = 0 ∨ 0 = 1 by first | omega | (simp [upS, hz]; done) | (simp [upS, hz]; omega)), ?_⟩
      all_goals rfl
    refine ⟨_, _, hD6, ?_⟩
    clear hD6
    rw [if_pos (show (0 : Int) = 0 by first | omega | (simp [upS, hz]; done) | (simp [upS, hz]; omega))]
    refine b380_16 ?_
    refine b380_17 ?_
    have hD7 : Dd 245 [(.inr (.inr (some 682))), (.inl 1)] σ (.inl (some (.inl 0)), (upS σ 682 0 1)) := by
      refine b245 ?_
      try rw [if_neg (show ¬ ((1 : Int) = 0) by first | omega | (simp [upS, hz]; done) | (simp [upS, hz]; omega))]
      all_goals rfl
    refine ⟨_, _, hD7, ?_⟩
    clear hD7
    refine ⟨(show ¬ (0 = 0) → 0 ≤ a1 ∧ a1 < 4 by (first | (intros; first | omega | (simp [upS, hz]; done) | (simp [upS, hz]; omega)) | (intros; simp_all [upS, hz]; done) | (intros; simp_all [upS, hz]; omega))), ?_⟩
    refine ⟨(show ¬ (0 = 0) → (a2 < ((upS σ 682 0 1) 723 (a1).toNat)) → -2147483648 ≤ (40 * a1) ∧ (40 * a1) ≤ 2147483647 by (first | (intros; first | omega | (simp [upS, hz]; done) | (simp [upS, hz]; omega)) | (intros; simp_all [upS, hz]; done) | (intros; simp_all [upS, hz]; omega))), ?_⟩
    refine ⟨(show ¬ (0 = 0) → (a2 < ((upS σ 682 0 1) 723 (a1).toNat)) → -2147483648 ≤ ((40 * a1) + a2) ∧ ((40 * a1) + a2) ≤ 2147483647 by (first | (intros; first | omega | (simp [upS, hz]; done) | (simp [upS, hz]; omega)) | (intros; simp_all [upS, hz]; done) | (intros; simp_all [upS, hz]; omega))), ?_⟩
    refine ⟨(show ¬ (0 = 0) → (a2 < ((upS σ 682 0 1) 723 (a1).toNat)) → 0 ≤ ((40 * a1) + a2) ∧ ((40 * a1) + a2) < 160 by (first | (intros; first | omega | (simp [upS, hz]; done) | (simp [upS, hz]; omega)) | (intros; simp_all [upS, hz]; done) | (intros; simp_all [upS, hz]; omega))), ?_⟩
    try rw [if_pos (show (0 : Int) = 0 by first | omega | (simp [upS, hz]; done) | (simp [upS, hz]; omega))]
    all_goals rfl
  refine ⟨_, _, _, _, hA, hB, ?_, ?_, ?_, ?_, ?_⟩
  · (first | rfl | (simp [upS, SCR, hz]; done) | (simp [upS, SCR, hz]; omega))
  · first | (intro h9; omega) | (intro _; first | rfl | (simp [upS, SCR, hz]; done) | (simp [upS, SCR, hz]; omega))
  · intro i; first | rfl | (unfold upS SCR; (repeat' split) <;> first | rfl | omega)
  · first | rfl | (unfold upS SCR; (repeat' split) <;> first | rfl | omega)
  · first | rfl | (unfold upS SCR; (repeat' split) <;> first | rfl | omega)
theorem q49_2 {σ : Sg} {a1 : Int} {a2 : Int} (hz : ∀ a i, a < 1000 → σ a i = 0) (h0 : 0 ≤ a1 ∧ a1 < 4) (h1 : a2 < 0) : ∃ (kx b : Int) (s1 s2 : Sg), Dd 437 [(.inr (.inr (some 0))), (.inl a1), (.inl a2), (.inr (.inr (some 726)))] σ (.inl (some (.inl kx)), s1) ∧ Dd 380 [(.inr (.inr (some 682))), (.inl a1), (.inl a2)] s1 (.inl (some (.inl b)), s2) ∧ s2 682 0 = kx ∧ (kx = 0 → s2 726 0 = b) ∧ (∀ i, s1 SCR i = σ SCR i) ∧ s1 (SCR + 1) 0 = σ (SCR + 1) 0 ∧ s2 (SCR + 1) 0 = σ (SCR + 1) 0 := by
  have za1 : ∀ i, σ (11 + 2 * ((a1)).toNat) i = 0 := fun i => hz _ i (by omega)
  have z1a1 : ∀ i, σ ((11 + 2 * ((a1)).toNat) + 1) i = 0 := fun i => hz _ i (by omega)
  have ca1 : (cap (11 + 2 * ((a1)).toNat) : Int) = 40 := cp_10 (by omega)
  have hA : Dd 437 [(.inr (.inr (some 0))), (.inl a1), (.inl a2), (.inr (.inr (some 726)))] σ (.inl (some (.inl 1)), σ) := by
    refine b437 ?_
    have hD5 : Dd 221 [(.inr (.inr (some 0))), (.inl a1), (.inl a2)] σ (.inr 0, σ) := by
      refine b221 ?_
      have hD3 : Dd 228 [(.inr (.inr (some 0))), (.inl a1)] σ (.inl (some (.inr (.inr (some (11 + 2 * ((a1)).toNat))))), σ) := by
        refine b228 ?_
        have hD1 : Dd 145 [(.inr (.inr (some 10))), (.inl a1)] σ (.inl (some (.inr (.inr (some (11 + 2 * ((a1)).toNat))))), σ) := by
          refine b145 ?_
          rw [if_pos (show (0 : Int) ≤ a1 by first | omega | (simp [upS, hz, za1, z1a1, ca1]; done) | (simp [upS, hz, za1, z1a1, ca1]; omega))]
          refine ⟨4, (by decide +kernel), (by decide), ?_⟩
          rw [if_pos (show a1 < ((4 : Nat) : Int) by first | omega | (simp [upS, hz, za1, z1a1, ca1]; done) | (simp [upS, hz, za1, z1a1, ca1]; omega))]
          refine ⟨(show 0 ≤ a1 by first | omega | (simp [upS, hz, za1, z1a1, ca1]; done) | (simp [upS, hz, za1, z1a1, ca1]; omega)), ?_⟩
          refine ⟨(11 + 2 * ((a1)).toNat), (el_10 (i := (a1)) (by first | omega | (simp [upS, hz, za1, z1a1, ca1]; done) | (simp [upS, hz, za1, z1a1, ca1]; omega))).1, (el_10 (i := (a1)) (by first | omega | (simp [upS, hz, za1, z1a1, ca1]; done) | (simp [upS, hz, za1, z1a1, ca1]; omega))).2, ?_⟩
          all_goals rfl
        refine ⟨_, _, hD1, ?_⟩
        clear hD1
        refine ⟨fun hz2 => (by cases hz2), fun _ hz2 => ?_⟩
        cases hz2
        refine ⟨(el_10 (i := (a1)) (by first | omega | (simp [upS, hz, za1, z1a1, ca1]; done) | (simp [upS, hz, za1, z1a1, ca1]; omega))).2, ?_⟩
        all_goals rfl
      refine Or.inl ⟨_, _, hD3, (el_10 (i := (a1)) (by first | omega | (simp [upS, hz, za1, z1a1, ca1]; done) | (simp [upS, hz, za1, z1a1, ca1]; omega))).2, ?_⟩
      clear hD3
      have hD4 : Dd 233 [(.inr (.inr (some 0))), (.inl a2)] σ (.inr 0, σ) := by
        refine b233 ?_
        rw [if_pos (show a2 < 0 by first | omega | (simp [upS, hz, za1, z1a1, ca1]; done) | (simp [upS, hz, za1, z1a1, ca1]; omega))]
        all_goals rfl
      refine Or.inr ⟨_, _, hD4, ?_⟩
      all_goals rfl
    exact Or.inr (⟨_, hD5, rfl⟩)
  have hB : Dd 380 [(.inr (.inr (some 682))), (.inl a1), (.inl a2)] σ (.inl (some (.inl 0)), (upS σ 682 0 1)) := by
    refine b380 ?_
    have hD7 : Dd 377 [(.inl a1)] σ (.inl (some (.inl 1)), σ) := by
      refine b377 ?_
      have hD6 : Dd 246 [(.inl a1), (.inl 4)] σ (.inl (some (.inl 1)), σ) := by
        refine b246 ?_
        try rw [if_pos (show (0 : Int) ≤ a1 by first | omega | (simp [upS, hz, za1, z1a1, ca1]; done) | (simp [upS, hz, za1, z1a1, ca1]; omega))]
        try rw [if_pos (show a1 < 4 by first | omega | (simp [upS, hz, za1, z1a1, ca1]; done) | (simp [upS, hz, za1, z1a1, ca1]; omega))]
        all_goals rfl
      refine ⟨_, _, hD6, ?_⟩
      clear hD6
      refine ⟨(show 1 = 0 ∨ 1 = 1 by first | omega | (simp [upS, hz, za1, z1a1, ca1]; done) | (simp [upS, hz, za1, z1a1, ca1]; omega)), ?_⟩
      all_goals rfl
    refine ⟨_, _, hD7, ?_⟩
    clear hD7
    rw [if_neg (show ¬ ((1 : Int) = 0) by first | omega | (simp [upS, hz, za1, z1a1, ca1]; done) | (simp [upS, hz, za1, z1a1, ca1]; omega))]
    rw [if_neg (show ¬ ((0 : Int) ≤ a2) by first | omega | (simp [upS, hz, za1, z1a1, ca1]; done) | (simp [upS, hz, za1, z1a1, ca1]; omega))]
    refine b380_16 ?_
    refine b380_17 ?_
    have hD8 : Dd 245 [(.inr (.inr (some 682))), (.inl 1)] σ (.inl (some (.inl 0)), (upS σ 682 0 1)) := by
      refine b245 ?_
      try rw [if_neg (show ¬ ((1 : Int) = 0) by first | omega | (simp [upS, hz, za1, z1a1, ca1]; done) | (simp [upS, hz, za1, z1a1, ca1]; omega))]
      all_goals rfl
    refine ⟨_, _, hD8, ?_⟩
    clear hD8
    refine ⟨(show ¬ (0 = 0) → 0 ≤ a1 ∧ a1 < 4 by (first | (intros; first | omega | (simp [upS, hz, za1, z1a1, ca1]; done) | (simp [upS, hz, za1, z1a1, ca1]; omega)) | (intros; simp_all [upS, hz, za1, z1a1, ca1]; done) | (intros; simp_all [upS, hz, za1, z1a1, ca1]; omega))), ?_⟩
    refine ⟨(show ¬ (0 = 0) → (a2 < ((upS σ 682 0 1) 723 (a1).toNat)) → -2147483648 ≤ (40 * a1) ∧ (40 * a1) ≤ 2147483647 by (first | (intros; first | omega | (simp [upS, hz, za1, z1a1, ca1]; done) | (simp [upS, hz, za1, z1a1, ca1]; omega)) | (intros; simp_all [upS, hz, za1, z1a1, ca1]; done) | (intros; simp_all [upS, hz, za1, z1a1, ca1]; omega))), ?_⟩
    refine ⟨(show ¬ (0 = 0) → (a2 < ((upS σ 682 0 1) 723 (a1).toNat)) → -2147483648 ≤ ((40 * a1) + a2) ∧ ((40 * a1) + a2) ≤ 2147483647 by (first | (intros; first | omega | (simp [upS, hz, za1, z1a1, ca1]; done) | (simp [upS, hz, za1, z1a1, ca1]; omega)) | (intros; simp_all [upS, hz, za1, z1a1, ca1]; done) | (intros; simp_all [upS, hz, za1, z1a1, ca1]; omega))), ?_⟩
    refine ⟨(show ¬ (0 = 0) → (a2 < ((upS σ 682 0 1) 723 (a1).toNat)) → 0 ≤ ((40 * a1) + a2) ∧ ((40 * a1) + a2) < 160 by (first | (intros; first | omega | (simp [upS, hz, za1, z1a1, ca1]; done) | (simp [upS, hz, za1, z1a1, ca1]; omega)) | (intros; simp_all [upS, hz, za1, z1a1, ca1]; done) | (intros; simp_all [upS, hz, za1, z1a1, ca1]; omega))), ?_⟩
    try rw [if_pos (show (0 : Int) = 0 by first | omega | (simp [upS, hz, za1, z1a1, ca1]; done) | (simp [upS, hz, za1, z1a1, ca1]; omega))]
    all_goals rfl
  refine ⟨_, _, _, _, hA, hB, ?_, ?_, ?_, ?_, ?_⟩
  · (first | rfl | (simp [upS, SCR, hz, za1, z1a1, ca1]; done) | (simp [upS, SCR, hz, za1, z1a1, ca1]; omega))
  · first | (intro h9; omega) | (intro _; first | rfl | (simp [upS, SCR, hz, za1, z1a1, ca1]; done) | (simp [upS, SCR, hz, za1, z1a1, ca1]; omega))
  · intro i; first | rfl | (unfold upS SCR; (repeat' split) <;> first | rfl | omega)
  · first | rfl | (unfold upS SCR; (repeat' split) <;> first | rfl | omega)
  · first | rfl | (unfold upS SCR; (repeat' split) <;> first | rfl | omega)
theorem q49_3 {σ : Sg} {a1 : Int} {a2 : Int} (hz : ∀ a i, a < 1000 → σ a i = 0) (h0 : 0 ≤ a1 ∧ a1 < 4) (h1 : 0 ≤ a2) : ∃ (kx b : Int) (s1 s2 : Sg), Dd 437 [(.inr (.inr (some 0))), (.inl a1), (.inl a2), (.inr (.inr (some 726)))] σ (.inl (some (.inl kx)), s1) ∧ Dd 380 [(.inr (.inr (some 682))), (.inl a1), (.inl a2)] s1 (.inl (some (.inl b)), s2) ∧ s2 682 0 = kx ∧ (kx = 0 → s2 726 0 = b) ∧ (∀ i, s1 SCR i = σ SCR i) ∧ s1 (SCR + 1) 0 = σ (SCR + 1) 0 ∧ s2 (SCR + 1) 0 = σ (SCR + 1) 0 := by
  have za1 : ∀ i, σ (11 + 2 * ((a1)).toNat) i = 0 := fun i => hz _ i (by omega)
  have z1a1 : ∀ i, σ ((11 + 2 * ((a1)).toNat) + 1) i = 0 := fun i => hz _ i (by omega)
  have ca1 : (cap (11 + 2 * ((a1)).toNat) : Int) = 40 := cp_10 (by omega)
  have hA : Dd 437 [(.inr (.inr (some 0))), (.inl a1), (.inl a2), (.inr (.inr (some 726)))] σ (.inl (some (.inl 0)), (upS σ 726 0 (-1))) := by
    refine b437 ?_
    have hD6 : Dd 221 [(.inr (.inr (some 0))), (.inl a1), (.inl a2)] σ (.inl (some (.inl (-1))), σ) := by
      refine b221 ?_
      have hD3 : Dd 228 [(.inr (.inr (some 0))), (.inl a1)] σ (.inl (some (.inr (.inr (some (11 + 2 * ((a1)).toNat))))), σ) := by
        refine b228 ?_
        have hD1 : Dd 145 [(.inr (.inr (some 10))), (.inl a1)] σ (.inl (some (.inr (.inr (some (11 + 2 * ((a1)).toNat))))), σ) := by
          refine b145 ?_
          rw [if_pos (show (0 : Int) ≤ a1 by first | omega | (simp [upS, hz, za1, z1a1, ca1]; done) | (simp [upS, hz, za1, z1a1, ca1]; omega))]
          refine ⟨4, (by decide +kernel), (by decide), ?_⟩
          rw [if_pos (show a1 < ((4 : Nat) : Int) by first | omega | (simp [upS, hz, za1, z1a1, ca1]; done) | (simp [upS, hz, za1, z1a1, ca1]; omega))]
          refine ⟨(show 0 ≤ a1 by first | omega | (simp [upS, hz, za1, z1a1, ca1]; done) | (simp [upS, hz, za1, z1a1, ca1]; omega)), ?_⟩
          refine ⟨(11 + 2 * ((a1)).toNat), (el_10 (i := (a1)) (by first | omega | (simp [upS, hz, za1, z1a1, ca1]; done) | (simp [upS, hz, za1, z1a1, ca1]; omega))).1, (el_10 (i := (a1)) (by first | omega | (simp [upS, hz, za1, z1a1, ca1]; done) | (simp [upS, hz, za1, z1a1, ca1]; omega))).2, ?_⟩
          all_goals rfl
        refine ⟨_, _, hD1, ?_⟩
        clear hD1
        refine ⟨fun hz2 => (by cases hz2), fun _ hz2 => ?_⟩
        cases hz2
        refine ⟨(el_10 (i := (a1)) (by first | omega | (simp [upS, hz, za1, z1a1, ca1]; done) | (simp [upS, hz, za1, z1a1, ca1]; omega))).2, ?_⟩
        all_goals rfl
      refine Or.inl ⟨_, _, hD3, (el_10 (i := (a1)) (by first | omega | (simp [upS, hz, za1, z1a1, ca1]; done) | (simp [upS, hz, za1, z1a1, ca1]; omega))).2, ?_⟩
      clear hD3
      have hD4 : Dd 233 [(.inr (.inr (some 0))), (.inl a2)] σ (.inl none, σ) := by
        refine b233 ?_
        rw [if_neg (show ¬ (a2 < 0) by first | omega | (simp [upS, hz, za1, z1a1, ca1]; done) | (simp [upS, hz, za1, z1a1, ca1]; omega))]
        all_goals rfl
      refine Or.inl ⟨_, hD4, ?_⟩
      clear hD4
      have hD5 : Dd 147 [(.inr (.inr (some (11 + 2 * ((a1)).toNat)))), (.inl a2)] σ (.inl (some (.inl (-1))), σ) := by
        refine b147 (el_10 (i := (a1)) (by first | omega | (simp [upS, hz, za1, z1a1, ca1]; done) | (simp [upS, hz, za1, z1a1, ca1]; omega))).2 ?_
        refine ⟨(show (0 ≤ a2) → (a2 < (σ (11 + 2 * ((a1)).toNat) 1)) → 0 ≤ a2 ∧ a2 < ((cap (11 + 2 * ((a1)).toNat)) : Int) by (first | (intros; have ec1 : (cap (11 + 2 * ((a1)).toNat) : Int) = 40 := cp_10 (by omega); first | omega | (simp [upS, hz, za1, z1a1, ca1]; done) | (simp [upS, hz, za1, z1a1, ca1]; omega)) | (intros; simp_all [upS, hz, za1, z1a1, ca1]; done) | (intros; simp_all [upS, hz, za1, z1a1, ca1]; omega))), ?_⟩
        try rw [if_pos (show (0 : Int) ≤ a2 by first | omega | (simp [upS, hz, za1, z1a1, ca1]; done) | (simp [upS, hz, za1, z1a1, ca1]; omega))]
        try rw [if_neg (show ¬ (a2 < (σ (11 + 2 * ((a1)).toNat) 1)) by first | omega | (simp [upS, hz, za1, z1a1, ca1]; done) | (simp [upS, hz, za1, z1a1, ca1]; omega))]
        all_goals rfl
      refine ⟨_, _, hD5, ?_⟩
      clear hD5
      all_goals rfl
    refine Or.inl ⟨_, _, hD6, ?_⟩
    clear hD6
    rw [(show (upS σ 726 ((0 : Int).toNat) (-1)) = (upS σ 726 0 (-1)) from by rw [show ((0 : Int).toNat) = 0 by (first | omega | (simp [upS, hz, za1, z1a1, ca1]; done) | (simp [upS, hz, za1, z1a1, ca1]; omega))])]
    all_goals rfl
  have hB : Dd 380 [(.inr (.inr (some 682))), (.inl a1), (.inl a2)] (upS σ 726 0 (-1)) (.inl (some (.inl (-1))), (upS (upS σ 726 0 (-1)) 682 0 0)) := by
    refine b380 ?_
    have hD8 : Dd 377 [(.inl a1)] (upS σ 726 0 (-1)) (.inl (some (.inl 1)), (upS σ 726 0 (-1))) := by
      refine b377 ?_
      have hD7 : Dd 246 [(.inl a1), (.inl 4)] (upS σ 726 0 (-1)) (.inl (some (.inl 1)), (upS σ 726 0 (-1))) := by
        refine b246 ?_
        try rw [if_pos (show (0 : Int) ≤ a1 by first | omega | (simp [upS, hz, za1, z1a1, ca1]; done) | (simp [upS, hz, za1, z1a1, ca1]; omega))]
        try rw [if_pos (show a1 < 4 by first | omega | (simp [upS, hz, za1, z1a1, ca1]; done) | (simp [upS, hz, za1, z1a1, ca1]; omega))]
        all_goals rfl
      refine ⟨_, _, hD7, ?_⟩
      clear hD7
      refine ⟨(show 1 = 0 ∨ 1 = 1 by first | omega | (simp [upS, hz, za1, z1a1, ca1]; done) | (simp [upS, hz, za1, z1a1, ca1]; omega)), ?_⟩
      all_goals rfl
    refine ⟨_, _, hD8, ?_⟩
    clear hD8
    rw [if_neg (show ¬ ((1 : Int) = 0) by first | omega | (simp [upS, hz, za1, z1a1, ca1]; done) | (simp [upS, hz, za1, z1a1, ca1]; omega))]
    rw [if_pos (show (0 : Int) ≤ a2 by first | omega | (simp [upS, hz, za1, z1a1, ca1]; done) | (simp [upS, hz, za1, z1a1, ca1]; omega))]
    refine b380_17 ?_
    have hD9 : Dd 245 [(.inr (.inr (some 682))), (.inl 0)] (upS σ 726 0 (-1)) (.inl (some (.inl 1)), (upS (upS σ 726 0 (-1)) 682 0 0)) := by
      refine b245 ?_
      try rw [if_pos (show (0 : Int) = 0 by first | omega | (simp [upS, hz, za1, z1a1, ca1]; done) | (simp [upS, hz, za1, z1a1, ca1]; omega))]
      all_goals rfl
    refine ⟨_, _, hD9, ?_⟩
    clear hD9
    refine ⟨(show ¬ (1 = 0) → 0 ≤ a1 ∧ a1 < 4 by (first | (intros; first | omega | (simp [upS, hz, za1, z1a1, ca1]; done) | (simp [upS, hz, za1, z1a1, ca1]; omega)) | (intros; simp_all [upS, hz, za1, z1a1, ca1]; done) | (intros; simp_all [upS, hz, za1, z1a1, ca1]; omega))), ?_⟩
    refine ⟨(show ¬ (1 = 0) → (a2 < ((upS (upS σ 726 0 (-1)) 682 0 0) 723 (a1).toNat)) → -2147483648 ≤ (40 * a1) ∧ (40 * a1) ≤ 2147483647 by (first | (intros; first | omega | (simp [upS, hz, za1, z1a1, ca1]; done) | (simp [upS, hz, za1, z1a1, ca1]; omega)) | (intros; simp_all [upS, hz, za1, z1a1, ca1]; done) | (intros; simp_all [upS, hz, za1, z1a1, ca1]; omega))), ?_⟩
    refine ⟨(show ¬ (1 = 0) → (a2 < ((upS (upS σ 726 0 (-1)) 682 0 0) 723 (a1).toNat)) → -2147483648 ≤ ((40 * a1) + a2) ∧ ((40 * a1) + a2) ≤ 2147483647 by (first | (intros; first | omega | (simp [upS, hz, za1, z1a1, ca1]; done) | (simp [upS, hz, za1, z1a1, ca1]; omega)) | (intros; simp_all [upS, hz, za1, z1a1, ca1]; done) | (intros; simp_all [upS, hz, za1, z1a1, ca1]; omega))), ?_⟩
    refine ⟨(show ¬ (1 = 0) → (a2 < ((upS (upS σ 726 0 (-1)) 682 0 0) 723 (a1).toNat)) → 0 ≤ ((40 * a1) + a2) ∧ ((40 * a1) + a2) < 160 by (first | (intros; first | omega | (simp [upS, hz, za1, z1a1, ca1]; done) | (simp [upS, hz, za1, z1a1, ca1]; omega)) | (intros; simp_all [upS, hz, za1, z1a1, ca1]; done) | (intros; simp_all [upS, hz, za1, z1a1, ca1]; omega))), ?_⟩
    try rw [if_neg (show ¬ ((1 : Int) = 0) by first | omega | (simp [upS, hz, za1, z1a1, ca1]; done) | (simp [upS, hz, za1, z1a1, ca1]; omega))]
    try rw [if_neg (show ¬ (a2 < ((upS (upS σ 726 0 (-1)) 682 0 0) 723 (a1).toNat)) by first | omega | (simp [upS, hz, za1, z1a1, ca1]; done) | (simp [upS, hz, za1, z1a1, ca1]; omega))]
    all_goals rfl
  refine ⟨_, _, _, _, hA, hB, ?_, ?_, ?_, ?_, ?_⟩
  · (first | rfl | (simp [upS, SCR, hz, za1, z1a1, ca1]; done) | (simp [upS, SCR, hz, za1, z1a1, ca1]; omega))
  · first | (intro h9; omega) | (intro _; first | rfl | (simp [upS, SCR, hz, za1, z1a1, ca1]; done) | (simp [upS, SCR, hz, za1, z1a1, ca1]; omega))
  · intro i; first | rfl | (unfold upS SCR; (repeat' split) <;> first | rfl | omega)
  · first | rfl | (unfold upS SCR; (repeat' split) <;> first | rfl | omega)
  · first | rfl | (unfold upS SCR; (repeat' split) <;> first | rfl | omega)
theorem q50_0 {σ : Sg} {a1 : Int} {a2 : Int} (hz : ∀ a i, a < 1000 → σ a i = 0) (h0 : a1 < 0) : ∃ (kx b : Int) (s1 s2 : Sg), Dd 438 [(.inr (.inr (some 0))), (.inl a1), (.inl a2), (.inr (.inr (some 726)))] σ (.inl (some (.inl kx)), s1) ∧ Dd 382 [(.inr (.inr (some 682))), (.inl a1), (.inl a2)] s1 (.inl (some (.inl b)), s2) ∧ s2 682 0 = kx ∧ (kx = 0 → s2 726 0 = b) ∧ (∀ i, s1 SCR i = σ SCR i) ∧ s1 (SCR + 1) 0 = σ (SCR + 1) 0 ∧ s2 (SCR + 1) 0 = σ (SCR + 1) 0 := by
  have hA : Dd 438 [(.inr (.inr (some 0))), (.inl a1), (.inl a2), (.inr (.inr (some 726)))] σ (.inl (some (.inl 1)), σ) := by
    refine b438 ?_
    have hD4 : Dd 222 [(.inr (.inr (some 0))), (.inl a1), (.inl a2)] σ (.inr 0, σ) := by
      refine b222 ?_
      have hD3 : Dd 228 [(.inr (.inr (some 0))), (.inl a1)] σ (.inr 0, σ) := by
        refine b228 ?_
        have hD1 : Dd 145 [(.inr (.inr (some 10))), (.inl a1)] σ (.inl (some (.inr (.inr none))), σ) := by
          refine b145 ?_
          rw [if_neg (show ¬ ((0 : Int) ≤ a1) by first | omega | (simp [upS, hz]; done) | (simp [upS, hz]; omega))]
          all_goals rfl
        refine ⟨_, _, hD1, ?_⟩
        clear hD1
        refine ⟨fun _ => ?_, fun _ hz2 => (by cases hz2)⟩
        all_goals rfl
      refine Or.inr ⟨_, _, hD3, ?_⟩
      all_goals rfl
    exact Or.inr (Or.inl ⟨_, hD4, rfl⟩)
  have hB : Dd 382 [(.inr (.inr (some 682))), (.inl a1), (.inl a2)] σ (.inl (some (.inl 0)), (upS σ 682 0 1)) := by
    refine b382 ?_
    have hD6 : Dd 377 [(.inl a1)] σ (.inl (some (.inl 0)), σ) := by
      refine b377 ?_
      have hD5 : Dd 246 [(.inl a1), (.inl 4)] σ (.inl (some (.inl 0)), σ) := by
        refine b246 ?_
        try rw [if_neg (show ¬ ((0 : Int) ≤ a1) by first | omega | (simp [upS, hz]; done) | (simp [upS, hz]; omega))]
        all_goals rfl
      refine ⟨_, _, hD5, ?_⟩
      clear hD5
      refine ⟨(show 0 = 0 ∨ 0 = 1 by first | omega | (simp [upS, hz]; done) | (simp [upS, hz]; omega)), ?_⟩
      all_goals rfl
    refine ⟨_, _, hD6, ?_⟩
    clear hD6
    rw [if_pos (show (0 : Int) = 0 by first | omega | (simp [upS, hz]; done) | (simp [upS, hz]; omega))]
    refine b382_15 ?_
    refine b382_33 ?_
    have hD7 : Dd 245 [(.inr (.inr (some 682))), (.inl 1)] σ (.inl (some (.inl 0)), (upS σ 682 0 1)) := by
      refine b245 ?_
      try rw [if_neg (show ¬ ((1 : Int) = 0) by first | omega | (simp [upS, hz]; done) | (simp [upS, hz]; omega))]
      all_goals rfl
    refine ⟨_, _, hD7, ?_⟩
    clear hD7
    rw [if_pos (show (0 : Int) = 0 by first | omega | (simp [upS, hz]; done) | (simp [upS, hz]; omega))]
    all_goals rfl
  refine ⟨_, _, _, _, hA, hB, ?_, ?_, ?_, ?_, ?_⟩
  · (first | rfl | (simp [upS, SCR, hz]; done) | (simp [upS, SCR, hz]; omega))
  · first | (intro h9; omega) | (intro _; first | rfl | (simp [upS, SCR, hz]; done) | (simp [upS, SCR, hz]; omega))
  · intro i; first | rfl | (unfold upS SCR; (repeat' split) <;> first | rfl | omega)
  · first | rfl | (unfold upS SCR; (repeat' split) <;> first | rfl | omega)
  · first | rfl | (unfold upS SCR; (repeat' split) <;> first | rfl | omega)
theorem q50_1 {σ : Sg} {a1 : Int} {a2 : Int} (hz : ∀ a i, a < 1000 → σ a i = 0) (h0 : 4 ≤ a1) : ∃ (kx b : Int) (s1 s2 : Sg), Dd 438 [(.inr (.inr (some 0))), (.inl a1), (.inl a2), (.inr (.inr (some 726)))] σ (.inl (some (.inl kx)), s1) ∧ Dd 382 [(.inr (.inr (some 682))), (.inl a1), (.inl a2)] s1 (.inl (some (.inl b)), s2) ∧ s2 682 0 = kx ∧ (kx = 0 → s2 726 0 = b) ∧ (∀ i, s1 SCR i = σ SCR i) ∧ s1 (SCR + 1) 0 = σ (SCR + 1) 0 ∧ s2 (SCR + 1) 0 = σ (SCR + 1) 0 := by
  have hA : Dd 438 [(.inr (.inr (some 0))), (.inl a1), (.inl a2), (.inr (.inr (some 726)))] σ (.inl (some (.inl 1)), σ) := by
    refine b438 ?_
    have hD4 : Dd 222 [(.inr (.inr (some 0))), (.inl a1), (.inl a2)] σ (.inr 0, σ) := by
      refine b222 ?_
      have hD3 : Dd 228 [(.inr (.inr (some 0))), (.inl a1)] σ (.inr 0, σ) := by
        refine b228 ?_
        have hD1 : Dd 145 [(.inr (.inr (some 10))), (.inl a1)] σ (.inl (some (.inr (.inr none))), σ) := by
          refine b145 ?_
          rw [if_pos (show (0 : Int) ≤ a1 by first | omega | (simp [upS, hz]; done) | (simp [upS, hz]; omega))]
          refine ⟨4, (by decide +kernel), (by decide), ?_⟩
          rw [if_neg (show ¬ (a1 < ((4 : Nat) : Int)) by first | omega | (simp [upS, hz]; done) | (simp [upS, hz]; omega))]
          all_goals rfl
        refine ⟨_, _, hD1, ?_⟩
        clear hD1
        refine ⟨fun _ => ?_, fun _ hz2 => (by cases hz2)⟩
        all_goals rfl
      refine Or.inr ⟨_, _, hD3, ?_⟩
      all_goals rfl
    exact Or.inr (Or.inl ⟨_, hD4, rfl⟩)
  have hB : Dd 382 [(.inr (.inr (some 682))), (.inl a1), (.inl a2)] σ (.inl (some (.inl 0)), (upS σ 682 0 1)) := by
    refine b382 ?_
    have hD6 : Dd 377 [(.inl a1)] σ (.inl (some (.inl 0)), σ) := by
      refine b377 ?_
      have hD5 : Dd 246 [(.inl a1), (.inl 4)] σ (.inl (some (.inl 0)), σ) := by
        refine b246 ?_
        try rw [if_pos (show (0 : Int) ≤ a1 by first | omega | (simp [upS, hz]; done) | (simp [upS, hz]; omega))]
        try rw [if_neg (show ¬ (a1 < 4) by first | omega | (simp [upS, hz]; done) | (simp [upS, hz]; omega))]
        all_goals rfl
      refine ⟨_, _, hD5, ?_⟩
      clear hD5
      refine ⟨(show 0 = 0 ∨ 0 = 1 by first | omega | (simp [upS, hz]; done) | (simp [upS, hz]; omega)), ?_⟩
      all_goals rfl
    refine ⟨_, _, hD6, ?_⟩
    clear hD6
    rw [if_pos (show (0 : Int) = 0 by first | omega | (simp [upS, hz]; done) | (simp [upS, hz]; omega))]
    refine b382_15 ?_
    refine b382_33 ?_
    have hD7 : Dd 245 [(.inr (.inr (some 682))), (.inl 1)] σ (.inl (some (.inl 0)), (upS σ 682 0 1)) := by
      refine b245 ?_
      try rw [if_neg (show ¬ ((1 : Int) = 0) by first | omega | (simp [upS, hz]; done) | (simp [upS, hz]; omega))]
      all_goals rfl
    refine ⟨_, _, hD7, ?_⟩
    clear hD7
    rw [if_pos (show (0 : Int) = 0 by first | omega | (simp [upS, hz]; done) | (simp [upS, hz]; omega))]
    all_goals rfl
  refine ⟨_, _, _, _, hA, hB, ?_, ?_, ?_, ?_, ?_⟩
  · (first | rfl | (simp [upS, SCR, hz]; done) | (simp [upS, SCR, hz]; omega))
  · first | (intro h9; omega) | (intro _; first | rfl | (simp [upS, SCR, hz]; done) | (simp [upS, SCR, hz]; omega))
  · intro i; first | rfl | (unfold upS SCR; (repeat' split) <;> first | rfl | omega)
  · first | rfl | (unfold upS SCR; (repeat' split) <;> first | rfl | omega)
  · first | rfl | (unfold upS SCR; (repeat' split) <;> first | rfl | omega)
theorem q50_2 {σ : Sg} {a1 : Int} {a2 : Int} (hz : ∀ a i, a < 1000 → σ a i = 0) (h0 : 0 ≤ a1 ∧ a1 < 4) (h1 : a2 < 0) : ∃ (kx b : Int) (s1 s2 : Sg), Dd 438 [(.inr (.inr (some 0))), (.inl a1), (.inl a2), (.inr (.inr (some 726)))] σ (.inl (some (.inl kx)), s1) ∧ Dd 382 [(.inr (.inr (some 682))), (.inl a1), (.inl a2)] s1 (.inl (some (.inl b)), s2) ∧ s2 682 0 = kx ∧ (kx = 0 → s2 726 0 = b) ∧ (∀ i, s1 SCR i = σ SCR i) ∧ s1 (SCR + 1) 0 = σ (SCR + 1) 0 ∧ s2 (SCR + 1) 0 = σ (SCR + 1) 0 := by
  have za1 : ∀ i, σ (11 + 2 * ((a1)).toNat) i = 0 := fun i => hz _ i (by omega)
  have z1a1 : ∀ i, σ ((11 + 2 * ((a1)).toNat) + 1) i = 0 := fun i => hz _ i (by omega)
  have ca1 : (cap (11 + 2 * ((a1)).toNat) : Int) = 40 := cp_10 (by omega)
  have hA : Dd 438 [(.inr (.inr (some 0))), (.inl a1), (.inl a2), (.inr (.inr (some 726)))] σ (.inl (some (.inl 1)), σ) := by
    refine b438 ?_
    have hD7 : Dd 222 [(.inr (.inr (some 0))), (.inl a1), (.inl a2)] σ (.inr 0, σ) := by
      refine b222 ?_
      have hD3 : Dd 228 [(.inr (.inr (some 0))), (.inl a1)] σ (.inl (some (.inr (.inr (some (11 + 2 * ((a1)).toNat))))), σ) := by
        refine b228 ?_
        have hD1 : Dd 145 [(.inr (.inr (some 10))), (.inl a1)] σ (.inl (some (.inr (.inr (some (11 + 2 * ((a1)).toNat))))), σ) := by
          refine b145 ?_
          rw [if_pos (show (0 : Int) ≤ a1 by first | omega | (simp [upS, hz, za1, z1a1, ca1]; done) | (simp [upS, hz, za1, z1a1, ca1]; omega))]
          refine ⟨4, (by decide +kernel), (by decide), ?_⟩
          rw [if_pos (show a1 < ((4 : Nat) : Int) by first | omega | (simp [upS, hz, za1, z1a1, ca1]; done) | (simp [upS, hz, za1, z1a1, ca1]; omega))]
          refine ⟨(show 0 ≤ a1 by first | omega | (simp [upS, hz, za1, z1a1, ca1]; done) | (simp [upS, hz, za1, z1a1, ca1]; omega)), ?_⟩
          refine ⟨(11 + 2 * ((a1)).toNat), (el_10 (i := (a1)) (by first | omega | (simp [upS, hz, za1, z1a1, ca1]; done) | (simp [upS, hz, za1, z1a1, ca1]; omega))).1, (el_10 (i := (a1)) (by first | omega | (simp [upS, hz, za1, z1a1, ca1]; done) | (simp [upS, hz, za1, z1a1, ca1]; omega))).2, ?_⟩
          all_goals rfl
        refine ⟨_, _, hD1, ?_⟩
        clear hD1
        refine ⟨fun hz2 => (by cases hz2), fun _ hz2 => ?_⟩
        cases hz2
        refine ⟨(el_10 (i := (a1)) (by first | omega | (simp [upS, hz, za1, z1a1, ca1]; done) | (simp [upS, hz, za1, z1a1, ca1]; omega))).2, ?_⟩
        all_goals rfl
      refine Or.inl ⟨_, _, hD3, (el_10 (i := (a1)) (by first | omega | (simp [upS, hz, za1, z1a1, ca1]; done) | (simp [upS, hz, za1, z1a1, ca1]; omega))).2, ?_⟩
      clear hD3
      have hD6 : Dd 228 [(.inr (.inr (some 0))), (.inl a2)] σ (.inr 0, σ) := by
        refine b228 ?_
        have hD4 : Dd 145 [(.inr (.inr (some 10))), (.inl a2)] σ (.inl (some (.inr (.inr none))), σ) := by
          refine b145 ?_
          rw [if_neg (show ¬ ((0 : Int) ≤ a2) by first | omega | (simp [upS, hz, za1, z1a1, ca1]; done) | (simp [upS, hz, za1, z1a1, ca1]; omega))]
          all_goals rfl
        refine ⟨_, _, hD4, ?_⟩
        clear hD4
        refine ⟨fun _ => ?_, fun _ hz5 => (by cases hz5)⟩
        all_goals rfl
      refine Or.inr ⟨_, _, hD6, ?_⟩
      all_goals rfl
    exact Or.inr (Or.inl ⟨_, hD7, rfl⟩)
  have hB : Dd 382 [(.inr (.inr (some 682))), (.inl a1), (.inl a2)] σ (.inl (some (.inl 0)), (upS σ 682 0 1)) := by
    refine b382 ?_
    have hD9 : Dd 377 [(.inl a1)] σ (.inl (some (.inl 1)), σ) := by
      refine b377 ?_
      have hD8 : Dd 246 [(.inl a1), (.inl 4)] σ (.inl (some (.inl 1)), σ) := by
        refine b246 ?_
        try rw [if_pos (show (0 : Int) ≤ a1 by first | omega | (simp [upS, hz, za1, z1a1, ca1]; done) | (simp [upS, hz, za1, z1a1, ca1]; omega))]
        try rw [if_pos (show a1 < 4 by first | omega | (simp [upS, hz, za1, z1a1, ca1]; done) | (simp [upS, hz, za1, z1a1, ca1]; omega))]
        all_goals rfl
      refine ⟨_, _, hD8, ?_⟩
      clear hD8
      refine ⟨(show 1 = 0 ∨ 1 = 1 by first | omega | (simp [upS, hz, za1, z1a1, ca1]; done) | (simp [upS, hz, za1, z1a1, ca1]; omega)), ?_⟩
      all_goals rfl
    refine ⟨_, _, hD9, ?_⟩
    clear hD9
    rw [if_neg (show ¬ ((1 : Int) = 0) by first | omega | (simp [upS, hz, za1, z1a1, ca1]; done) | (simp [upS, hz, za1, z1a1, ca1]; omega))]
    have hD11 : Dd 377 [(.inl a2)] σ (.inl (some (.inl 0)), σ) := by
      refine b377 ?_
      have hD10 : Dd 246 [(.inl a2), (.inl 4)] σ (.inl (some (.inl 0)), σ) := by
        refine b246 ?_
        try rw [if_neg (show ¬ ((0 : Int) ≤ a2) by first | omega | (simp [upS, hz, za1, z1a1, ca1]; done) | (simp [upS, hz, za1, z1a1, ca1]; omega))]
        all_goals rfl
      refine ⟨_, _, hD10, ?_⟩
      clear hD10
      refine ⟨(show 0 = 0 ∨ 0 = 1 by first | omega | (simp [upS, hz, za1, z1a1, ca1]; done) | (simp [upS, hz, za1, z1a1, ca1]; omega)), ?_⟩
      all_goals rfl
    refine ⟨_, _, hD11, ?_⟩
    clear hD11
    rw [if_pos (show (0 : Int) = 0 by first | omega | (simp [upS, hz, za1, z1a1, ca1]; done) | (simp [upS, hz, za1, z1a1, ca1]; omega))]
    refine b382_15 ?_
    refine b382_33 ?_
    have hD12 : Dd 245 [(.inr (.inr (some 682))), (.inl 1)] σ (.inl (some (.inl 0)), (upS σ 682 0 1)) := by
      refine b245 ?_
      try rw [if_neg (show ¬ ((1 : Int) = 0) by first | omega | (simp [upS, hz, za1, z1a1, ca1]; done) | (simp [upS, hz, za1, z1a1, ca1]; omega))]
      all_goals rfl
    refine ⟨_, _, hD12, ?_⟩
    clear hD12
    rw [if_pos (show (0 : Int) = 0 by first | omega | (simp [upS, hz, za1, z1a1, ca1]; done) | (simp [upS, hz, za1, z1a1, ca1]; omega))]
    all_goals rfl
  refine ⟨_, _, _, _, hA, hB, ?_, ?_, ?_, ?_, ?_⟩
  · (first | rfl | (simp [upS, SCR, hz, za1, z1a1, ca1]; done) | (simp [upS, SCR, hz, za1, z1a1, ca1]; omega))
  · first | (intro h9; omega) | (intro _; first | rfl | (simp [upS, SCR, hz, za1, z1a1, ca1]; done) | (simp [upS, SCR, hz, za1, z1a1, ca1]; omega))
  · intro i; first | rfl | (unfold upS SCR; (repeat' split) <;> first | rfl | omega)
  · first | rfl | (unfold upS SCR; (repeat' split) <;> first | rfl | omega)
  · first | rfl | (unfold upS SCR; (repeat' split) <;> first | rfl | omega)
theorem q50_3 {σ : Sg} {a1 : Int} {a2 : Int} (hz : ∀ a i, a < 1000 → σ a i = 0) (h0 : 0 ≤ a1 ∧ a1 < 4) (h1 : 4 ≤ a2) : ∃ (kx b : Int) (s1 s2 : Sg), Dd 438 [(.inr (.inr (some 0))), (.inl a1), (.inl a2), (.inr (.inr (some 726)))] σ (.inl (some (.inl kx)), s1) ∧ Dd 382 [(.inr (.inr (some 682))), (.inl a1), (.inl a2)] s1 (.inl (some (.inl b)), s2) ∧ s2 682 0 = kx ∧ (kx = 0 → s2 726 0 = b) ∧ (∀ i, s1 SCR i = σ SCR i) ∧ s1 (SCR + 1) 0 = σ (SCR + 1) 0 ∧ s2 (SCR + 1) 0 = σ (SCR + 1) 0 := by
  have za1 : ∀ i, σ (11 + 2 * ((a1)).toNat) i = 0 := fun i => hz _ i (by omega)
  have z1a1 : ∀ i, σ ((11 + 2 * ((a1)).toNat) + 1) i = 0 := fun i => hz _ i (by omega)
  have ca1 : (cap (11 + 2 * ((a1)).toNat) : Int) = 40 := cp_10 (by omega)
  have hA : Dd 438 [(.inr (.inr (some 0))), (.inl a1), (.inl a2), (.inr (.inr (some 726)))] σ (.inl (some (.inl 1)), σ) := by
    refine b438 ?_
    have hD7 : Dd 222 [(.inr (.inr (some 0))), (.inl a1), (.inl a2)] σ (.inr 0, σ) := by
      refine b222 ?_
      have hD3 : Dd 228 [(.inr (.inr (some 0))), (.inl a1)] σ (.inl (some (.inr (.inr (some (11 + 2 * ((a1)).toNat))))), σ) := by
        refine b228 ?_
        have hD1 : Dd 145 [(.inr (.inr (some 10))), (.inl a1)] σ (.inl (some (.inr (.inr (some (11 + 2 * ((a1)).toNat))))), σ) := by
          refine b145 ?_
          rw [if_pos (show (0 : Int) ≤ a1 by first | omega | (simp [upS, hz, za1, z1a1, ca1]; done) | (simp [upS, hz, za1, z1a1, ca1]; omega))]
          refine ⟨4, (by decide +kernel), (by decide), ?_⟩
          rw [if_pos (show a1 < ((4 : Nat) : Int) by first | omega | (simp [upS, hz, za1, z1a1, ca1]; done) | (simp [upS, hz, za1, z1a1, ca1]; omega))]
          refine ⟨(show 0 ≤ a1 by first | omega | (simp [upS, hz, za1, z1a1, ca1]; done) | (simp [upS, hz, za1, z1a1, ca1]; omega)), ?_⟩
          refine ⟨(11 + 2 * ((a1)).toNat), (el_10 (i := (a1)) (by first | omega | (simp [upS, hz, za1, z1a1, ca1]; done) | (simp [upS, hz, za1, z1a1, ca1]; omega))).1, (el_10 (i := (a1)) (by first | omega | (simp [upS, hz, za1, z1a1, ca1]; done) | (simp [upS, hz, za1, z1a1, ca1]; omega))).2, ?_⟩
          all_goals rfl
        refine ⟨_, _, hD1, ?_⟩
        clear hD1
        refine ⟨fun hz2 => (by cases hz2), fun _ hz2 => ?_⟩
        cases hz2
        refine ⟨(el_10 (i := (a1)) (by first | omega | (simp [upS, hz, za1, z1a1, ca1]; done) | (simp [upS, hz, za1, z1a1, ca1]; omega))).2, ?_⟩
        all_goals rfl
      refine Or.inl ⟨_, _, hD3, (el_10 (i := (a1)) (by first | omega | (simp [upS, hz, za1, z1a1, ca1]; done) | (simp [upS, hz, za1, z1a1, ca1]; omega))).2, ?_⟩
      clear hD3
      have hD6 : Dd 228 [(.inr (.inr (some 0))), (.inl a2)] σ (.inr 0, σ) := by
        refine b228 ?_
        have hD4 : Dd 145 [(.inr (.inr (some 10))), (.inl a2)] σ (.inl (some (.inr (.inr none))), σ) := by
          refine b145 ?_
          rw [if_pos (show (0 : Int) ≤ a2 by first | omega | (simp [upS, hz, za1, z1a1, ca1]; done) | (simp [upS, hz, za1, z1a1, ca1]; omega))]
          refine ⟨4, (by decide +kernel), (by decide), ?_⟩
          rw [if_neg (show ¬ (a2 < ((4 : Nat) : Int)) by first | omega | (simp [upS, hz, za1, z1a1, ca1]; done) | (simp [upS, hz, za1, z1a1, ca1]; omega))]
          all_goals rfl
        refine ⟨_, _, hD4, ?_⟩
        clear hD4
        refine ⟨fun _ => ?_, fun _ hz5 => (by cases hz5)⟩
        all_goals rfl
      refine Or.inr ⟨_, _, hD6, ?_⟩
      all_goals rfl
    exact Or.inr (Or.inl ⟨_, hD7, rfl⟩)
  have hB : Dd 382 [(.inr (.inr (some 682))), (.inl a1), (.inl a2)] σ (.inl (some (.inl 0)), (upS σ 682 0 1)) := by
    refine b382 ?_
    have hD9 : Dd 377 [(.inl a1)] σ (.inl (some (.inl 1)), σ) := by
      refine b377 ?_
      have hD8 : Dd 246 [(.inl a1), (.inl 4)] σ (.inl (some (.inl 1)), σ) := by
        refine b246 ?_
        try rw [if_pos (show (0 : Int) ≤ a1 by first | omega | (simp [upS, hz, za1, z1a1, ca1]; done) | (simp [upS, hz, za1, z1a1, ca1]; omega))]
        try rw [if_pos (show a1 < 4 by first | omega | (simp [upS, hz, za1, z1a1, ca1]; done) | (simp [upS, hz, za1, z1a1, ca1]; omega))]
        all_goals rfl
      refine ⟨_, _, hD8, ?_⟩
      clear hD8
      refine ⟨(show 1 = 0 ∨ 1 = 1 by first | omega | (simp [upS, hz, za1, z1a1, ca1]; done) | (simp [upS, hz, za1, z1a1, ca1]; omega)), ?_⟩
      all_goals rfl
    refine ⟨_, _, hD9, ?_⟩
    clear hD9
    rw [if_neg (show ¬ ((1 : Int) = 0) by first | omega | (simp [upS, hz, za1, z1a1, ca1]; done) | (simp [upS, hz, za1, z1a1, ca1]; omega))]
    have hD11 : Dd 377 [(.inl a2)] σ (.inl (some (.inl 0)), σ) := by
      refine b377 ?_
      have hD10 : Dd 246 [(.inl a2), (.inl 4)] σ (.inl (some (.inl 0)), σ) := by
        refine b246 ?_
        try rw [if_pos (show (0 : Int) ≤ a2 by first | omega | (simp [upS, hz, za1, z1a1, ca1]; done) | (simp [upS, hz, za1, z1a1, ca1]; omega))]
        try rw [if_neg (show ¬ (a2 < 4) by first | omega | (simp [upS, hz, za1, z1a1, ca1]; done) | (simp [upS, hz, za1, z1a1, ca1]; omega))]
        all_goals rfl
      refine ⟨_, _, hD10, ?_⟩
      clear hD10
      refine ⟨(show 0 = 0 ∨ 0 = 1 by first | omega | (simp [upS, hz, za1, z1a1, ca1]; done) | (simp [upS, hz, za1, z1a1, ca1]; omega)), ?_⟩
      all_goals rfl
    refine ⟨_, _, hD11, ?_⟩
    clear hD11
    rw [if_pos (show (0 : Int) = 0 by first | omega | (simp [upS, hz, za1, z1a1, ca1]; done) | (simp [upS, hz, za1, z1a1, ca1]; omega))]
    refine b382_15 ?_
    refine b382_33 ?_
    have hD12 : Dd 245 [(.inr (.inr (some 682))), (.inl 1)] σ (.inl (some (.inl 0)), (upS σ 682 0 1)) := by
      refine b245 ?_
      try rw [if_neg (show ¬ ((1 : Int) = 0) by first | omega | (simp [upS, hz, za1, z1a1, ca1]; done) | (simp [upS, hz, za1, z1a1, ca1]; omega))]
      all_goals rfl
    refine ⟨_, _, hD12, ?_⟩
    clear hD12
    rw [if_pos (show (0 : Int) = 0 by first | omega | (simp [upS, hz, za1, z1a1, ca1]; done) | (simp [upS, hz, za1, z1a1, ca1]; omega))]
    all_goals rfl
  refine ⟨_, _, _, _, hA, hB, ?_, ?_, ?_, ?_, ?_⟩
  · (first | rfl | (simp [upS, SCR, hz, za1, z1a1, ca1]; done) | (simp [upS, SCR, hz, za1, z1a1, ca1]; omega))
  · first | (intro h9; omega) | (intro _; first | rfl | (simp [upS, SCR, hz, za1, z1a1, ca1]; done) | (simp [upS, SCR, hz, za1, z1a1, ca1]; omega))
  · intro i; first | rfl | (unfold upS SCR; (repeat' split) <;> first | rfl | omega)
  · first | rfl | (unfold upS SCR; (repeat' split) <;> first | rfl | omega)
  · first | rfl | (unfold upS SCR; (repeat' split) <;> first | rfl | omega)
theorem q50_4 {σ : Sg} {a1 : Int} {a2 : Int} (hz : ∀ a i, a < 1000 → σ a i = 0) (h0 : 0 ≤ a1 ∧ a1 < 4) (h1 : 0 ≤ a2 ∧ a2 < 4) : ∃ (kx b : Int) (s1 s2 : Sg), Dd 438 [(.inr (.inr (some 0))), (.inl a1), (.inl a2), (.inr (.inr (some 726)))] σ (.inl (some (.inl kx)), s1) ∧ Dd 382 [(.inr (.inr (some 682))), (.inl a1), (.inl a2)] s1 (.inl (some (.inl b)), s2) ∧ s2 682 0 = kx ∧ (kx = 0 → s2 726 0 = b) ∧ (∀ i, s1 SCR i = σ SCR i) ∧ s1 (SCR + 1) 0 = σ (SCR + 1) 0 ∧ s2 (SCR + 1) 0 = σ (SCR + 1) 0 := by
  have za1 : ∀ i, σ (11 + 2 * ((a1)).toNat) i = 0 := fun i => hz _ i (by omega)
  have z1a1 : ∀ i, σ ((11 + 2 * ((a1)).toNat) + 1) i = 0 := fun i => hz _ i (by omega)
  have ca1 : (cap (11 + 2 * ((a1)).toNat) : Int) = 40 := cp_10 (by omega)
  have za2 : ∀ i, σ (11 + 2 * ((a2)).toNat) i = 0 := fun i => hz _ i (by omega)
  have z1a2 : ∀ i, σ ((11 + 2 * ((a2)).toNat) + 1) i = 0 := fun i => hz _ i (by omega)
  have ca2 : (cap (11 + 2 * ((a2)).toNat) : Int) = 40 := cp_10 (by omega)
  have hA : Dd 438 [(.inr (.inr (some 0))), (.inl a1), (.inl a2), (.inr (.inr (some 726)))] σ (.inl (some (.inl 0)), (upS (upS (upS (upS σ 680 1 0) 660 1 0) 658 1 1) 726 0 0)) := by
    refine b438 ?_
    have hD13 : Dd 222 [(.inr (.inr (some 0))), (.inl a1), (.inl a2)] σ (.inl (some (.inl 0)), (upS (upS (upS σ 680 1 0) 660 1 0) 658 1 1)) := by
      refine b222 ?_
      have hD3 : Dd 228 [(.inr (.inr (some 0))), (.inl a1)] σ (.inl (some (.inr (.inr (some (11 + 2 * ((a1)).toNat))))), σ) := by
        refine b228 ?_
        have hD1 : Dd 145 [(.inr (.inr (some 10))), (.inl a1)] σ (.inl (some (.inr (.inr (some (11 + 2 * ((a1)).toNat))))), σ) := by
          refine b145 ?_
          rw [if_pos (show (0 : Int) ≤ a1 by first | omega | (simp [upS, hz, za1, z1a1, ca1, za2, z1a2, ca2]; done) | (simp [upS, hz, za1, z1a1, ca1, za2, z1a2, ca2]; omega))]
          refine ⟨4, (by decide +kernel), (by decide), ?_⟩
          rw [if_pos (show a1 < ((4 : Nat) : Int) by first | omega | (simp [upS, hz, za1, z1a1, ca1, za2, z1a2, ca2]; done) | (simp [upS, hz, za1, z1a1, ca1, za2, z1a2, ca2]; omega))]
          refine ⟨(show 0 ≤ a1 by first | omega | (simp [upS, hz, za1, z1a1, ca1, za2, z1a2, ca2]; done) | (simp [upS, hz, za1, z1a1, ca1, za2, z1a2, ca2]; omega)), ?_⟩
          refine ⟨(11 + 2 * ((a1)).toNat), (el_10 (i := (a1)) (by first | omega | (simp [upS, hz, za1, z1a1, ca1, za2, z1a2, ca2]; done) | (simp [upS, hz, za1, z1a1, ca1, za2, z1a2, ca2]; omega))).1, (el_10 (i := (a1)) (by first | omega | (simp [upS, hz, za1, z1a1, ca1, za2, z1a2, ca2]; done) | (simp [upS, hz, za1, z1a1, ca1, za2, z1a2, ca2]; omega))).2, ?_⟩
          all_goals rfl
        refine ⟨_, _, hD1, ?_⟩
        clear hD1
        refine ⟨fun hz2 => (by cases hz2), fun _ hz2 => ?_⟩
        cases hz2
        refine ⟨(el_10 (i := (a1)) (by first | omega | (simp [upS, hz, za1, z1a1, ca1, za2, z1a2, ca2]; done) | (simp [upS, hz, za1, z1a1, ca1, za2, z1a2, ca2]; omega))).2, ?_⟩
        all_goals rfl
      refine Or.inl ⟨_, _, hD3, (el_10 (i := (a1)) (by first | omega | (simp [upS, hz, za1, z1a1, ca1, za2, z1a2, ca2]; done) | (simp [upS, hz, za1, z1a1, ca1, za2, z1a2, ca2]; omega))).2, ?_⟩
      clear hD3
      have hD6 : Dd 228 [(.inr (.inr (some 0))), (.inl a2)] σ (.inl (some (.inr (.inr (some (11 + 2 * ((a2)).toNat))))), σ) := by
        refine b228 ?_
        have hD4 : Dd 145 [(.inr (.inr (some 10))), (.inl a2)] σ (.inl (some (.inr (.inr (some (11 + 2 * ((a2)).toNat))))), σ) := by
          refine b145 ?_
          rw [if_pos (show (0 : Int) ≤ a2 by first | omega | (simp [upS, hz, za1, z1a1, ca1, za2, z1a2, ca2]; done) | (simp [upS, hz, za1, z1a1, ca1, za2, z1a2, ca2]; omega))]
          refine ⟨4, (by decide +kernel), (by decide), ?_⟩
          rw [if_pos (show a2 < ((4 : Nat) : Int) by first | omega | (simp [upS, hz, za1, z1a1, ca1, za2, z1a2, ca2]; done) | (simp [upS, hz, za1, z1a1, ca1, za2, z1a2, ca2]; omega))]
          refine ⟨(show 0 ≤ a2 by first | omega | (simp [upS, hz, za1, z1a1, ca1, za2, z1a2, ca2]; done) | (simp [upS, hz, za1, z1a1, ca1, za2, z1a2, ca2]; omega)), ?_⟩
          refine ⟨(11 + 2 * ((a2)).toNat), (el_10 (i := (a2)) (by first | omega | (simp [upS, hz, za1, z1a1, ca1, za2, z1a2, ca2]; done) | (simp [upS, hz, za1, z1a1, ca1, za2, z1a2, ca2]; omega))).1, (el_10 (i := (a2)) (by first | omega | (simp [upS, hz, za1, z1a1, ca1, za2, z1a2, ca2]; done) | (simp [upS, hz, za1, z1a1, ca1, za2, z1a2, ca2]; omega))).2, ?_⟩
          all_goals rfl
        refine ⟨_, _, hD4, ?_⟩
        clear hD4
        refine ⟨fun hz5 => (by cases hz5), fun _ hz5 => ?_⟩
        cases hz5
        refine ⟨(el_10 (i := (a2)) (by first | omega | (simp [upS, hz, za1, z1a1, ca1, za2, z1a2, ca2]; done) | (simp [upS, hz, za1, z1a1, ca1, za2, z1a2, ca2]; omega))).2, ?_⟩
        all_goals rfl
      refine Or.inl ⟨_, _, hD6, (el_10 (i := (a2)) (by first | omega | (simp [upS, hz, za1, z1a1, ca1, za2, z1a2, ca2]; done) | (simp [upS, hz, za1, z1a1, ca1, za2, z1a2, ca2]; omega))).2, ?_⟩
      clear hD6
      have hD7 : Dd 240 [(.inr (.inr (some 0)))] σ (.inl none, σ) := by
        refine b240 ?_
        rw [if_neg (show ¬ ((10 : Int) ≤ (σ 658 1)) by first | omega | (simp [upS, hz, za1, z1a1, ca1, za2, z1a2, ca2]; done) | (simp [upS, hz, za1, z1a1, ca1, za2, z1a2, ca2]; omega))]
        all_goals rfl
      refine Or.inl ⟨_, hD7, ?_⟩
      clear hD7
      have hD12 : Dd 36 [(.inr (.inr (some 658))), (.inr (.inr (some (11 + 2 * ((a1)).toNat)))), (.inr (.inr (some (11 + 2 * ((a2)).toNat))))] σ (.inl (some (.inl 0)), (upS (upS (upS σ 680 1 0) 660 1 0) 658 1 1)) := by
        refine b36 ?_
        have hD8 : Dd 152 [(.inr (.inr (some 680)))] σ (.inl none, (upS σ 680 1 0)) := by
          refine b152 (by decide +kernel) ?_
          all_goals rfl
        refine ⟨_, hD8, ?_⟩
        clear hD8
        refine b36_9 (el_10 (i := (a2)) (by first | omega | (simp [upS, hz, za1, z1a1, ca1, za2, z1a2, ca2]; done) | (simp [upS, hz, za1, z1a1, ca1, za2, z1a2, ca2]; omega))).2 ?_
        have hD9 : Dd 146 [(.inr (.inr (some (11 + 2 * ((a2)).toNat))))] (upS σ 680 1 0) (.inl (some (.inl 0)), (upS σ 680 1 0)) := by
          refine b146 (el_10 (i := (a2)) (by first | omega | (simp [upS, hz, za1, z1a1, ca1, za2, z1a2, ca2]; done) | (simp [upS, hz, za1, z1a1, ca1, za2, z1a2, ca2]; omega))).2 ?_
          rw [show ((upS σ 680 1 0) (11 + 2 * ((a2)).toNat) 1) = 0 by (first | omega | (simp [upS, hz, za1, z1a1, ca1, za2, z1a2, ca2]; done) | (simp [upS, hz, za1, z1a1, ca1, za2, z1a2, ca2]; omega))]
          all_goals rfl
        refine ⟨_, _, hD9, ?_⟩
        clear hD9
        rw [if_neg (show ¬ ((0 : Int) < 0) by first | omega | (simp [upS, hz, za1, z1a1, ca1, za2, z1a2, ca2]; done) | (simp [upS, hz, za1, z1a1, ca1, za2, z1a2, ca2]; omega))]
        have hD11 : Dd 37 [(.inr (.inr (some 658)))] (upS σ 680 1 0) (.inl (some (.inl 0)), (upS (upS (upS σ 680 1 0) 660 1 0) 658 1 1)) := by
          refine b37 ?_
          rw [if_pos (show ((upS σ 680 1 0) 658 1) < 10 by first | omega | (simp [upS, hz, za1, z1a1, ca1, za2, z1a2, ca2]; done) | (simp [upS, hz, za1, z1a1, ca1, za2, z1a2, ca2]; omega))]
          refine ⟨(show 0 ≤ ((upS σ 680 1 0) 658 1) by first | omega | (simp [upS, hz, za1, z1a1, ca1, za2, z1a2, ca2]; done) | (simp [upS, hz, za1, z1a1, ca1, za2, z1a2, ca2]; omega)), ?_⟩
          rw [show ((((upS σ 680 1 0) 658 1))).toNat = 0 by (first | omega | (simp [upS, hz, za1, z1a1, ca1, za2, z1a2, ca2]; done) | (simp [upS, hz, za1, z1a1, ca1, za2, z1a2, ca2]; omega))]
          refine ⟨660, (by decide +kernel), (by decide +kernel), ?_⟩
          have hD10 : Dd 155 [(.inr (.inr (some 660))), (.inr (.inr (some 680)))] (upS σ 680 1 0) (.inl none, (upS (upS σ 680 1 0) 660 1 0)) := by
            refine b155 (by decide +kernel) (by decide +kernel) ?_
            refine ⟨(show -2147483648 ≤ ((cap 660) : Int) ∧ ((cap 660) : Int) ≤ 2147483647 by have e660 : (cap 660 : Int) = 40 := (by decide +kernel); first | omega | (simp [upS, hz, za1, z1a1, ca1, za2, z1a2, ca2]; done) | (simp [upS, hz, za1, z1a1, ca1, za2, z1a2, ca2]; omega)), ?_⟩
            rw [(show (upS (upS σ 680 1 0) 660 1 (if ((cap 660) : Int) < ((upS σ 680 1 0) 680 1) then ((cap 660) : Int) else ((upS σ 680 1 0) 680 1))) = (upS (upS σ 680 1 0) 660 1 0) from by rw [show (if ((cap 660) : Int) < ((upS σ 680 1 0) 680 1) then ((cap 660) : Int) else ((upS σ 680 1 0) 680 1)) = 0 by (have e660 : (cap 660 : Int) = 40 := (by decide +kernel); first | omega | (simp [upS, hz, za1, z1a1, ca1, za2, z1a2, ca2]; done) | (simp [upS, hz, za1, z1a1, ca1, za2, z1a2, ca2]; omega))])]
            refine b155_18 (by decide +kernel) (by decide +kernel) ?_
            rw [if_neg (show ¬ ((0 : Int) < ((upS (upS σ 680 1 0) 660 1 0) 660 1)) by first | omega | (simp [upS, hz, za1, z1a1, ca1, za2, z1a2, ca2]; done) | (simp [upS, hz, za1, z1a1, ca1, za2, z1a2, ca2]; omega))]
            all_goals rfl
          refine ⟨_, hD10, ?_⟩
          clear hD10
          refine ⟨(show -2147483648 ≤ (((upS (upS σ 680 1 0) 660 1 0) 658 1) + 1) ∧ (((upS (upS σ 680 1 0) 660 1 0) 658 1) + 1) ≤ 2147483647 by first | omega | (simp [upS, hz, za1, z1a1, ca1, za2, z1a2, ca2]; done) | (simp [upS, hz, za1, z1a1, ca1, za2, z1a2, ca2]; omega)), ?_⟩
          rw [(show (upS (upS (upS σ 680 1 0) 660 1 0) 658 1 (((upS (upS σ 680 1 0) 660 1 0) 658 1) + 1)) = (upS (upS (upS σ 680 1 0) 660 1 0) 658 1 1) from by rw [show (((upS (upS σ 680 1 0) 660 1 0) 658 1) + 1) = 1 by (first | omega | (simp [upS, hz, za1, z1a1, ca1, za2, z1a2, ca2]; done) | (simp [upS, hz, za1, z1a1, ca1, za2, z1a2, ca2]; omega))])]
          refine b37_38 ?_
          refine ⟨(show -2147483648 ≤ (((upS (upS (upS σ 680 1 0) 660 1 0) 658 1 1) 658 1) - 1) ∧ (((upS (upS (upS σ 680 1 0) 660 1 0) 658 1 1) 658 1) - 1) ≤ 2147483647 by first | omega | (simp [upS, hz, za1, z1a1, ca1, za2, z1a2, ca2]; done) | (simp [upS, hz, za1, z1a1, ca1, za2, z1a2, ca2]; omega)), ?_⟩
          rw [show (((upS (upS (upS σ 680 1 0) 660 1 0) 658 1 1) 658 1) - 1) = 0 by (first | omega | (simp [upS, hz, za1, z1a1, ca1, za2, z1a2, ca2]; done) | (simp [upS, hz, za1, z1a1, ca1, za2, z1a2, ca2]; omega))]
          all_goals rfl
        refine ⟨_, _, hD11, ?_⟩
        clear hD11
        all_goals rfl
      refine ⟨_, _, hD12, ?_⟩
      clear hD12
      all_goals rfl
    refine Or.inl ⟨_, _, hD13, ?_⟩
    clear hD13
    rw [(show (upS (upS (upS (upS σ 680 1 0) 660 1 0) 658 1 1) 726 ((0 : Int).toNat) 0) = (upS (upS (upS (upS σ 680 1 0) 660 1 0) 658 1 1) 726 0 0) from by rw [show ((0 : Int).toNat) = 0 by (first | omega | (simp [upS, hz, za1, z1a1, ca1, za2, z1a2, ca2]; done) | (simp [upS, hz, za1, z1a1, ca1, za2, z1a2, ca2]; omega))])]
    all_goals rfl
  have hB : Dd 382 [(.inr (.inr (some 682))), (.inl a1), (.inl a2)] (upS (upS (upS (upS σ 680 1 0) 660 1 0) 658 1 1) 726 0 0) (.inl (some (.inl 0)), (upS (upS (upS (upS (upS (upS (upS σ 680 1 0) 660 1 0) 658 1 1) 726 0 0) 682 0 0) 724 0 0) 682 58 1)) := by
    refine b382 ?_
    have hD15 : Dd 377 [(.inl a1)] (upS (upS (upS (upS σ 680 1 0) 660 1 0) 658 1 1) 726 0 0) (.inl (some (.inl 1)), (upS (upS (upS (upS σ 680 1 0) 660 1 0) 658 1 1) 726 0 0)) := by
      refine b377 ?_
      have hD14 : Dd 246 [(.inl a1), (.inl 4)] (upS (upS (upS (upS σ 680 1 0) 660 1 0) 658 1 1) 726 0 0) (.inl (some (.inl 1)), (upS (upS (upS (upS σ 680 1 0) 660 1 0) 658 1 1) 726 0 0)) := by
        refine b246 ?_
        try rw [if_pos (show (0 : Int) ≤ a1 by first | omega | (simp [upS, hz, za1, z1a1, ca1, za2, z1a2, ca2]; done) | (simp [upS, hz, za1, z1a1, ca1, za2, z1a2, ca2]; omega))]
        try rw [if_pos (show a1 < 4 by first | omega | (simp [upS, hz, za1, z1a1, ca1, za2, z1a2, ca2]; done) | (simp [upS, hz, za1, z1a1, ca1, za2, z1a2, ca2]; omega))]
        all_goals rfl
      refine ⟨_, _, hD14, ?_⟩
      clear hD14
      refine ⟨(show 1 = 0 ∨ 1 = 1 by first | omega | (simp [upS, hz, za1, z1a1, ca1, za2, z1a2, ca2]; done) | (simp [upS, hz, za1, z1a1, ca1, za2, z1a2, ca2]; omega)), ?_⟩
      all_goals rfl
    refine ⟨_, _, hD15, ?_⟩
    clear hD15
    rw [if_neg (show ¬ ((1 : Int) = 0) by first | omega | (simp [upS, hz, za1, z1a1, ca1, za2, z1a2, ca2]; done) | (simp [upS, hz, za1, z1a1, ca1, za2, z1a2, ca2]; omega))]
    have hD17 : Dd 377 [(.inl a2)] (upS (upS (upS (upS σ 680 1 0) 660 1 0) 658 1 1) 726 0 0) (.inl (some (.inl 1)), (upS (upS (upS (upS σ 680 1 0) 660 1 0) 658 1 1) 726 0 0)) := by
      refine b377 ?_
      have hD16 : Dd 246 [(.inl a2), (.inl 4)] (upS (upS (upS (upS σ 680 1 0) 660 1 0) 658 1 1) 726 0 0) (.inl (some (.inl 1)), (upS (upS (upS (upS σ 680 1 0) 660 1 0) 658 1 1) 726 0 0)) := by
        refine b246 ?_
        try rw [if_pos (show (0 : Int) ≤ a2 by first | omega | (simp [upS, hz, za1, z1a1, ca1, za2, z1a2, ca2]; done) | (simp [upS, hz, za1, z1a1, ca1, za2, z1a2, ca2]; omega))]
        try rw [if_pos (show a2 < 4 by first | omega | (simp [upS, hz, za1, z1a1, ca1, za2, z1a2, ca2]; done) | (simp [upS, hz, za1, z1a1, ca1, za2, z1a2, ca2]; omega))]
        all_goals rfl
      refine ⟨_, _, hD16, ?_⟩
      clear hD16
      refine ⟨(show 1 = 0 ∨ 1 = 1 by first | omega | (simp [upS, hz, za1, z1a1, ca1, za2, z1a2, ca2]; done) | (simp [upS, hz, za1, z1a1, ca1, za2, z1a2, ca2]; omega)), ?_⟩
      all_goals rfl
    refine ⟨_, _, hD17, ?_⟩
    clear hD17
    rw [if_neg (show ¬ ((1 : Int) = 0) by first | omega | (simp [upS, hz, za1, z1a1, ca1, za2, z1a2, ca2]; done) | (simp [upS, hz, za1, z1a1, ca1, za2, z1a2, ca2]; omega))]
    try rw [if_neg (show ¬ (((upS (upS (upS (upS σ 680 1 0) 660 1 0) 658 1 1) 726 0 0) 682 58) = 10) by first | omega | (simp [upS, hz, za1, z1a1, ca1, za2, z1a2, ca2]; done) | (simp [upS, hz, za1, z1a1, ca1, za2, z1a2, ca2]; omega))]
    refine b382_33 ?_
    have hD18 : Dd 245 [(.inr (.inr (some 682))), (.inl 0)] (upS (upS (upS (upS σ 680 1 0) 660 1 0) 658 1 1) 726 0 0) (.inl (some (.inl 1)), (upS (upS (upS (upS (upS σ 680 1 0) 660 1 0) 658 1 1) 726 0 0) 682 0 0)) := by
      refine b245 ?_
      try rw [if_pos (show (0 : Int) = 0 by first | omega | (simp [upS, hz, za1, z1a1, ca1, za2, z1a2, ca2]; done) | (simp [upS, hz, za1, z1a1, ca1, za2, z1a2, ca2]; omega))]
      all_goals rfl
    refine ⟨_, _, hD18, ?_⟩
    clear hD18
    rw [if_neg (show ¬ ((1 : Int) = 0) by first | omega | (simp [upS, hz, za1, z1a1, ca1, za2, z1a2, ca2]; done) | (simp [upS, hz, za1, z1a1, ca1, za2, z1a2, ca2]; omega))]
    refine b382_43 ?_
    refine ⟨(show 0 ≤ a2 ∧ a2 < 4 by first | omega | (simp [upS, hz, za1, z1a1, ca1, za2, z1a2, ca2]; done) | (simp [upS, hz, za1, z1a1, ca1, za2, z1a2, ca2]; omega)), ?_⟩
    rw [if_neg (show ¬ ((0 : Int) < ((upS (upS (upS (upS (upS σ 680 1 0) 660 1 0) 658 1 1) 726 0 0) 682 0 0) 723 (a2).toNat)) by first | omega | (simp [upS, hz, za1, z1a1, ca1, za2, z1a2, ca2]; done) | (simp [upS, hz, za1, z1a1, ca1, za2, z1a2, ca2]; omega))]
    refine ⟨(show 0 ≤ a2 ∧ a2 < 4 by first | omega | (simp [upS, hz, za1, z1a1, ca1, za2, z1a2, ca2]; done) | (simp [upS, hz, za1, z1a1, ca1, za2, z1a2, ca2]; omega)), ?_⟩
    refine ⟨(show 0 ≤ ((upS (upS (upS (upS (upS σ 680 1 0) 660 1 0) 658 1 1) 726 0 0) 682 0 0) 682 58) ∧ ((upS (upS (upS (upS (upS σ 680 1 0) 660 1 0) 658 1 1) 726 0 0) 682 0 0) 682 58) < 10 by first | omega | (simp [upS, hz, za1, z1a1, ca1, za2, z1a2, ca2]; done) | (simp [upS, hz, za1, z1a1, ca1, za2, z1a2, ca2]; omega)), ?_⟩
    refine ⟨(show -2147483648 ≤ (((upS (upS (upS (upS (upS (upS σ 680 1 0) 660 1 0) 658 1 1) 726 0 0) 682 0 0) 724 ((((upS (upS (upS (upS (upS σ 680 1 0) 660 1 0) 658 1 1) 726 0 0) 682 0 0) 682 58)).toNat) ((upS (upS (upS (upS (upS σ 680 1 0) 660 1 0) 658 1 1) 726 0 0) 682 0 0) 723 (a2).toNat)) 682 58) + 1) ∧ (((upS (upS (upS (upS (upS (upS σ 680 1 0) 660 1 0) 658 1 1) 726 0 0) 682 0 0) 724 ((((upS (upS (upS (upS (upS σ 680 1 0) 660 1 0) 658 1 1) 726 0 0) 682 0 0) 682 58)).toNat) ((upS (upS (upS (upS (upS σ 680 1 0) 660 1 0) 658 1 1) 726 0 0) 682 0 0) 723 (a2).toNat)) 682 58) + 1) ≤ 2147483647 by first | omega | (simp [upS, hz, za1, z1a1, ca1, za2, z1a2, ca2]; done) | (simp [upS, hz, za1, z1a1, ca1, za2, z1a2, ca2]; omega)), ?_⟩
    refine ⟨(show -2147483648 ≤ (((upS (upS (upS (upS (upS (upS (upS σ 680 1 0) 660 1 0) 658 1 1) 726 0 0) 682 0 0) 724 ((((upS (upS (upS (upS (upS σ 680 1 0) 660 1 0) 658 1 1) 726 0 0) 682 0 0) 682 58)).toNat) ((upS (upS (upS (upS (upS σ 680 1 0) 660 1 0) 658 1 1) 726 0 0) 682 0 0) 723 (a2).toNat)) 682 58 (((upS (upS (upS (upS (upS (upS σ 680 1 0) 660 1 0) 658 1 1) 726 0 0) 682 0 0) 724 ((((upS (upS (upS (upS (upS σ 680 1 0) 660 1 0) 658 1 1) 726 0 0) 682 0 0) 682 58)).toNat) ((upS (upS (upS (upS (upS σ 680 1 0) 660 1 0) 658 1 1) 726 0 0) 682 0 0) 723 (a2).toNat)) 682 58) + 1)) 682 58) - 1) ∧ (((upS (upS (upS (upS (upS (upS (upS σ 680 1 0) 660 1 0) 658 1 1) 726 0 0) 682 0 0) 724 ((((upS (upS (upS (upS (upS σ 680 1 0) 660 1 0) 658 1 1) 726 0 0) 682 0 0) 682 58)).toNat) ((upS (upS (upS (upS (upS σ 680 1 0) 660 1 0) 658 1 1) 726 0 0) 682 0 0) 723 (a2).toNat)) 682 58 (((upS (upS (upS (upS (upS (upS σ 680 1 0) 660 1 0) 658 1 1) 726 0 0) 682 0 0) 724 ((((upS (upS (upS (upS (upS σ 680 1 0) 660 1 0) 658 1 1) 726 0 0) 682 0 0) 682 58)).toNat) ((upS (upS (upS (upS (upS σ 680 1 0) 660 1 0) 658 1 1) 726 0 0) 682 0 0) 723 (a2).toNat)) 682 58) + 1)) 682 58) - 1) ≤ 2147483647 by first | omega | (simp [upS, hz, za1, z1a1, ca1, za2, z1a2, ca2]; done) | (simp [upS, hz, za1, z1a1, ca1, za2, z1a2, ca2]; omega)), ?_⟩
    rw [(show (upS (upS (upS (upS (upS (upS (upS σ 680 1 0) 660 1 0) 658 1 1) 726 0 0) 682 0 0) 724 ((((upS (upS (upS (upS (upS σ 680 1 0) 660 1 0) 658 1 1) 726 0 0) 682 0 0) 682 58)).toNat) ((upS (upS (upS (upS (upS σ 680 1 0) 660 1 0) 658 1 1) 726 0 0) 682 0 0) 723 (a2).toNat)) 682 58 (((upS (upS (upS (upS (upS (upS σ 680 1 0) 660 1 0) 658 1 1) 726 0 0) 682 0 0) 724 ((((upS (upS (upS (upS (upS σ 680 1 0) 660 1 0) 658 1 1) 726 0 0) 682 0 0) 682 58)).toNat) ((upS (upS (upS (upS (upS σ 680 1 0) 660 1 0) 658 1 1) 726 0 0) 682 0 0) 723 (a2).toNat)) 682 58) + 1)) = (upS (upS (upS (upS (upS (upS (upS σ 680 1 0) 660 1 0) 658 1 1) 726 0 0) 682 0 0) 724 0 0) 682 58 1) from by rw [show (((upS (upS (upS (upS (upS (upS σ 680 1 0) 660 1 0) 658 1 1) 726 0 0) 682 0 0) 724 ((((upS (upS (upS (upS (upS σ 680 1 0) 660 1 0) 658 1 1) 726 0 0) 682 0 0) 682 58)).toNat) ((upS (upS (upS (upS (upS σ 680 1 0) 660 1 0) 658 1 1) 726 0 0) 682 0 0) 723 (a2).toNat)) 682 58) + 1) = 1 by (first | omega | (simp [upS, hz, za1, z1a1, ca1, za2, z1a2, ca2]; done) | (simp [upS, hz, za1, z1a1, ca1, za2, z1a2, ca2]; omega)), show ((((upS (upS (upS (upS (upS σ 680 1 0) 660 1 0) 658 1 1) 726 0 0) 682 0 0) 682 58)).toNat) = 0 by (first | omega | (simp [upS, hz, za1, z1a1, ca1, za2, z1a2, ca2]; done) | (simp [upS, hz, za1, z1a1, ca1, za2, z1a2, ca2]; omega)), show ((upS (upS (upS (upS (upS σ 680 1 0) 660 1 0) 658 1 1) 726 0 0) 682 0 0) 723 (a2).toNat) = 0 by (first | omega | (simp [upS, hz, za1, z1a1, ca1, za2, z1a2, ca2]; done) | (simp [upS, hz, za1, z1a1, ca1, za2, z1a2, ca2]; omega))])]
    rw [show (((upS (upS (upS (upS (upS (upS (upS σ 680 1 0) 660 1 0) 658 1 1) 726 0 0) 682 0 0) 724 0 0) 682 58 1) 682 58) - 1) = 0 by (first | omega | (simp [upS, hz, za1, z1a1, ca1, za2, z1a2, ca2]; done) | (simp [upS, hz, za1, z1a1, ca1, za2, z1a2, ca2]; omega))]
    all_goals rfl
  refine ⟨_, _, _, _, hA, hB, ?_, ?_, ?_, ?_, ?_⟩
  · (first | rfl | (simp [upS, SCR, hz, za1, z1a1, ca1, za2, z1a2, ca2]; done) | (simp [upS, SCR, hz, za1, z1a1, ca1, za2, z1a2, ca2]; omega))
  · first | (intro h9; omega) | (intro _; first | rfl | (simp [upS, SCR, hz, za1, z1a1, ca1, za2, z1a2, ca2]; done) | (simp [upS, SCR, hz, za1, z1a1, ca1, za2, z1a2, ca2]; omega))
  · intro i; first | rfl | (unfold upS SCR; (repeat' split) <;> first | rfl | omega)
  · first | rfl | (unfold upS SCR; (repeat' split) <;> first | rfl | omega)
  · first | rfl | (unfold upS SCR; (repeat' split) <;> first | rfl | omega)
theorem q51_0 {σ : Sg} {a1 : Int} {a2 : Int} (hz : ∀ a i, a < 1000 → σ a i = 0) (h0 : a1 < 0) : ∃ (kx b : Int) (s1 s2 : Sg), Dd 439 [(.inr (.inr (some 0))), (.inl a1), (.inl a2), (.inr (.inr (some 726)))] σ (.inl (some (.inl kx)), s1) ∧ Dd 385 [(.inr (.inr (some 682))), (.inl a1), (.inl a2)] s1 (.inl (some (.inl b)), s2) ∧ s2 682 0 = kx ∧ (kx = 0 → s2 726 0 = b) ∧ (∀ i, s1 SCR i = σ SCR i) ∧ s1 (SCR + 1) 0 = σ (SCR + 1) 0 ∧ s2 (SCR + 1) 0 = σ (SCR + 1) 0 := by
  have hA : Dd 439 [(.inr (.inr (some 0))), (.inl a1), (.inl a2), (.inr (.inr (some 726)))] σ (.inl (some (.inl 1)), σ) := by
    refine b439 ?_
    have hD5 : Dd 223 [(.inr (.inr (some 0))), (.inl a1), (.inl a2)] σ (.inr 0, σ) := by
      refine b223 ?_
      have hD4 : Dd 229 [(.inr (.inr (some 0))), (.inl a1)] σ (.inr 0, σ) := by
        refine b229 ?_
        have hD2 : Dd 35 [(.inr (.inr (some 658))), (.inl a1)] σ (.inl (some (.inr (.inr none))), σ) := by
          refine b35 ?_
          rw [if_pos (show a1 < (σ 658 1) by first | omega | (simp [upS, hz]; done) | (simp [upS, hz]; omega))]
          have hD1 : Dd 145 [(.inr (.inr (some 659))), (.inl a1)] σ (.inl (some (.inr (.inr none))), σ) := by
            refine b145 ?_
            rw [if_neg (show ¬ ((0 : Int) ≤ a1) by first | omega | (simp [upS, hz]; done) | (simp [upS, hz]; omega))]
            all_goals rfl
          refine ⟨_, _, hD1, ?_⟩
          clear hD1
          all_goals rfl
        refine ⟨_, _, hD2, ?_⟩
        clear hD2
        refine ⟨fun _ => ?_, fun _ hz3 => (by cases hz3)⟩
        all_goals rfl
      refine Or.inr ⟨_, _, hD4, ?_⟩
      all_goals rfl
    exact Or.inr (Or.inl ⟨_, hD5, rfl⟩)
  have hB : Dd 385 [(.inr (.inr (some 682))), (.inl a1), (.inl a2)] σ (.inl (some (.inl 0)), (upS σ 682 0 1)) := by
    refine b385 ?_
    have hD7 : Dd 383 [(.inr (.inr (some 682))), (.inl a1)] σ (.inl (some (.inl 0)), σ) := by
      refine b383 ?_
      rw [show (σ 682 58) = 0 by (first | omega | (simp [upS, hz]; done) | (simp [upS, hz]; omega))]
      have hD6 : Dd 246 [(.inl a1), (.inl 0)] σ (.inl (some (.inl 0)), σ) := by
        refine b246 ?_
        try rw [if_neg (show ¬ ((0 : Int) ≤ a1) by first | omega | (simp [upS, hz]; done) | (simp [upS, hz]; omega))]
        all_goals rfl
      refine ⟨_, _, hD6, ?_⟩
      clear hD6
      refine ⟨(show 0 = 0 ∨ 0 = 1 by first | omega | (simp [upS, hz]; done) | (simp [upS, hz]; omega)), ?_⟩
      all_goals rfl
    refine ⟨_, _, hD7, ?_⟩
    clear hD7
    rw [if_pos (show (0 : Int) = 0 by first | omega | (simp [upS, hz]; done) | (simp [upS, hz]; omega))]
    refine b385_20 ?_
    refine b385_21 ?_
    rw [if_pos (show (0 : Int) = 0 by first | omega | (simp [upS, hz]; done) | (simp [upS, hz]; omega))]
    refine b385_59 ?_
    have hD8 : Dd 245 [(.inr (.inr (some 682))), (.inl 1)] σ (.inl (some (.inl 0)), (upS σ 682 0 1)) := by
      refine b245 ?_
      try rw [if_neg (show ¬ ((1 : Int) = 0) by first | omega | (simp [upS, hz]; done) | (simp [upS, hz]; omega))]
      all_goals rfl
    refine ⟨_, _, hD8, ?_⟩
    clear hD8
    rw [if_pos (show (0 : Int) = 0 by first | omega | (simp [upS, hz]; done) | (simp [upS, hz]; omega))]
    all_goals rfl
  refine ⟨_, _, _, _, hA, hB, ?_, ?_, ?_, ?_, ?_⟩
  · (first | rfl | (simp [upS, SCR, hz]; done) | (simp [upS, SCR, hz]; omega))
  · first | (intro h9; omega) | (intro _; first | rfl | (simp [upS, SCR, hz]; done) | (simp [upS, SCR, hz]; omega))
  · intro i; first | rfl | (unfold upS SCR; (repeat' split) <;> first | rfl | omega)
  · first | rfl | (unfold upS SCR; (repeat' split) <;> first | rfl | omega)
  · first | rfl | (unfold upS SCR; (repeat' split) <;> first | rfl | omega)
theorem q51_1 {σ : Sg} {a1 : Int} {a2 : Int} (hz : ∀ a i, a < 1000 → σ a i = 0) (h0 : 0 ≤ a1) : ∃ (kx b : Int) (s1 s2 : Sg), Dd 439 [(.inr (.inr (some 0))), (.inl a1), (.inl a2), (.inr (.inr (some 726)))] σ (.inl (some (.inl kx)), s1) ∧ Dd 385 [(.inr (.inr (some 682))), (.inl a1), (.inl a2)] s1 (.inl (some (.inl b)), s2) ∧ s2 682 0 = kx ∧ (kx = 0 → s2 726 0 = b) ∧ (∀ i, s1 SCR i = σ SCR i) ∧ s1 (SCR + 1) 0 = σ (SCR + 1) 0 ∧ s2 (SCR + 1) 0 = σ (SCR + 1) 0 := by
  have hA : Dd 439 [(.inr (.inr (some 0))), (.inl a1), (.inl a2), (.inr (.inr (some 726)))] σ (.inl (some (.inl 1)), σ) := by
    refine b439 ?_
    have hD4 : Dd 223 [(.inr (.inr (some 0))), (.inl a1), (.inl a2)] σ (.inr 0, σ) := by
      refine b223 ?_
      have hD3 : Dd 229 [(.inr (.inr (some 0))), (.inl a1)] σ (.inr 0, σ) := by
        refine b229 ?_
        have hD1 : Dd 35 [(.inr (.inr (some 658))), (.inl a1)] σ (.inl (some (.inr (.inr none))), σ) := by
          refine b35 ?_
          rw [if_neg (show ¬ (a1 < (σ 658 1)) by first | omega | (simp [upS, hz]; done) | (simp [upS, hz]; omega))]
          all_goals rfl
        refine ⟨_, _, hD1, ?_⟩
        clear hD1
        refine ⟨fun _ => ?_, fun _ hz2 => (by cases hz2)⟩
        all_goals rfl
      refine Or.inr ⟨_, _, hD3, ?_⟩
      all_goals rfl
    exact Or.inr (Or.inl ⟨_, hD4, rfl⟩)
  have hB : Dd 385 [(.inr (.inr (some 682))), (.inl a1), (.inl a2)] σ (.inl (some (.inl 0)), (upS σ 682 0 1)) := by
    refine b385 ?_
    have hD6 : Dd 383 [(.inr (.inr (some 682))), (.inl a1)] σ (.inl (some (.inl 0)), σ) := by
      refine b383 ?_
      rw [show (σ 682 58) = 0 by (first | omega | (simp [upS, hz]; done) | (simp [upS, hz]; omega))]
      have hD5 : Dd 246 [(.inl a1), (.inl 0)] σ (.inl (some (.inl 0)), σ) := by
        refine b246 ?_
        try rw [if_pos (show (0 : Int) ≤ a1 by first | omega | (simp [upS, hz]; done) | (simp [upS, hz]; omega))]
        try rw [if_neg (show ¬ (a1 < 0) by first | omega | (simp [upS, hz]; done) | (simp [upS, hz]; omega))]
        all_goals rfl
      refine ⟨_, _, hD5, ?_⟩
      clear hD5
      refine ⟨(show 0 = 0 ∨ 0 = 1 by first | omega | (simp [upS, hz]; done) | (simp [upS, hz]; omega)), ?_⟩
      all_goals rfl
    refine ⟨_, _, hD6, ?_⟩
    clear hD6
    rw [if_pos (show (0 : Int) = 0 by first | omega | (simp [upS, hz]; done) | (simp [upS, hz]; omega))]
    refine b385_20 ?_
    refine b385_21 ?_
    rw [if_pos (show (0 : Int) = 0 by first | omega | (simp [upS, hz]; done) | (simp [upS, hz]; omega))]
    refine b385_59 ?_
    have hD7 : Dd 245 [(.inr (.inr (some 682))), (.inl 1)] σ (.inl (some (.inl 0)), (upS σ 682 0 1)) := by
      refine b245 ?_
      try rw [if_neg (show ¬ ((1 : Int) = 0) by first | omega | (simp [upS, hz]; done) | (simp [upS, hz]; omega))]
      all_goals rfl
    refine ⟨_, _, hD7, ?_⟩
    clear hD7
    rw [if_pos (show (0 : Int) = 0 by first | omega | (simp [upS, hz]; done) | (simp [upS, hz]; omega))]
    all_goals rfl
  refine ⟨_, _, _, _, hA, hB, ?_, ?_, ?_, ?_, ?_⟩
  · (first | rfl | (simp [upS, SCR, hz]; done) | (simp [upS, SCR, hz]; omega))
  · first | (intro h9; omega) | (intro _; first | rfl | (simp [upS, SCR, hz]; done) | (simp [upS, SCR, hz]; omega))
  · intro i; first | rfl | (unfold upS SCR; (repeat' split) <;> first | rfl | omega)
  · first | rfl | (unfold upS SCR; (repeat' split) <;> first | rfl | omega)
  · first | rfl | (unfold upS SCR; (repeat' split) <;> first | rfl | omega)
theorem q52_0 {σ : Sg} {a1 : Int} (hz : ∀ a i, a < 1000 → σ a i = 0) (h0 : a1 < 0) : ∃ (kx b : Int) (s1 s2 : Sg), Dd 440 [(.inr (.inr (some 0))), (.inl a1), (.inr (.inr (some 726)))] σ (.inl (some (.inl kx)), s1) ∧ Dd 387 [(.inr (.inr (some 682))), (.inl a1)] s1 (.inl (some (.inl b)), s2) ∧ s2 682 0 = kx ∧ (kx = 0 → s2 726 0 = b) ∧ (∀ i, s1 SCR i = σ SCR i) ∧ s1 (SCR + 1) 0 = σ (SCR + 1) 0 ∧ s2 (SCR + 1) 0 = σ (SCR + 1) 0 := by
  have hA : Dd 440 [(.inr (.inr (some 0))), (.inl a1), (.inr (.inr (some 726)))] σ (.inl (some (.inl 1)), σ) := by
    refine b440 ?_
    have hD5 : Dd 224 [(.inr (.inr (some 0))), (.inl a1)] σ (.inr 0, σ) := by
      refine b224 ?_
      have hD4 : Dd 229 [(.inr (.inr (some 0))), (.inl a1)] σ (.inr 0, σ) := by
        refine b229 ?_
        have hD2 : Dd 35 [(.inr (.inr (some 658))), (.inl a1)] σ (.inl (some (.inr (.inr none))), σ) := by
          refine b35 ?_
          rw [if_pos (show a1 < (σ 658 1) by first | omega | (simp [upS, hz]; done) | (simp [upS, hz]; omega))]
          have hD1 : Dd 145 [(.inr (.inr (some 659))), (.inl a1)] σ (.inl (some (.inr (.inr none))), σ) := by
            refine b145 ?_
            rw [if_neg (show ¬ ((0 : Int) ≤ a1) by first | omega | (simp [upS, hz]; done) | (simp [upS, hz]; omega))]
            all_goals rfl
          refine ⟨_, _, hD1, ?_⟩
          clear hD1
          all_goals rfl
        refine ⟨_, _, hD2, ?_⟩
        clear hD2
        refine ⟨fun _ => ?_, fun _ hz3 => (by cases hz3)⟩
        all_goals rfl
      refine Or.inr ⟨_, _, hD4, ?_⟩
      all_goals rfl
    exact Or.inr (⟨_, hD5, rfl⟩)
  have hB : Dd 387 [(.inr (.inr (some 682))), (.inl a1)] σ (.inl (some (.inl 0)), (upS σ 682 0 1)) := by
    refine b387 ?_
    have hD7 : Dd 383 [(.inr (.inr (some 682))), (.inl a1)] σ (.inl (some (.inl 0)), σ) := by
      refine b383 ?_
      rw [show (σ 682 58) = 0 by (first | omega | (simp [upS, hz]; done) | (simp [upS, hz]; omega))]
      have hD6 : Dd 246 [(.inl a1), (.inl 0)] σ (.inl (some (.inl 0)), σ) := by
        refine b246 ?_
        try rw [if_neg (show ¬ ((0 : Int) ≤ a1) by first | omega | (simp [upS, hz]; done) | (simp [upS, hz]; omega))]
        all_goals rfl
      refine ⟨_, _, hD6, ?_⟩
      clear hD6
      refine ⟨(show 0 = 0 ∨ 0 = 1 by first | omega | (simp [upS, hz]; done) | (simp [upS, hz]; omega)), ?_⟩
      all_goals rfl
    refine ⟨_, _, hD7, ?_⟩
    clear hD7
    try rw [if_pos (show (0 : Int) = 0 by first | omega | (simp [upS, hz]; done) | (simp [upS, hz]; omega))]
    refine b387_14 ?_
    have hD8 : Dd 245 [(.inr (.inr (some 682))), (.inl 1)] σ (.inl (some (.inl 0)), (upS σ 682 0 1)) := by
      refine b245 ?_
      try rw [if_neg (show ¬ ((1 : Int) = 0) by first | omega | (simp [upS, hz]; done) | (simp [upS, hz]; omega))]
      all_goals rfl
    refine ⟨_, _, hD8, ?_⟩
    clear hD8
    rw [if_pos (show (0 : Int) = 0 by first | omega | (simp [upS, hz]; done) | (simp [upS, hz]; omega))]
    all_goals rfl
  refine ⟨_, _, _, _, hA, hB, ?_, ?_, ?_, ?_, ?_⟩
  · (first | rfl | (simp [upS, SCR, hz]; done) | (simp [upS, SCR, hz]; omega))
  · first | (intro h9; omega) | (intro _; first | rfl | (simp [upS, SCR, hz]; done) | (simp [upS, SCR, hz]; omega))
  · intro i; first | rfl | (unfold upS SCR; (repeat' split) <;> first | rfl | omega)
  · first | rfl | (unfold upS SCR; (repeat' split) <;> first | rfl | omega)
  · first | rfl | (unfold upS SCR; (repeat' split) <;> first | rfl | omega)
theorem q52_1 {σ : Sg} {a1 : Int} (hz : ∀ a i, a < 1000 → σ a i = 0) (h0 : 0 ≤ a1) : ∃ (kx b : Int) (s1 s2 : Sg), Dd 440 [(.inr (.inr (some 0))), (.inl a1), (.inr (.inr (some 726)))] σ (.inl (some (.inl kx)), s1) ∧ Dd 387 [(.inr (.inr (some 682))), (.inl a1)] s1 (.inl (some (.inl b)), s2) ∧ s2 682 0 = kx ∧ (kx = 0 → s2 726 0 = b) ∧ (∀ i, s1 SCR i = σ SCR i) ∧ s1 (SCR + 1) 0 = σ (SCR + 1) 0 ∧ s2 (SCR + 1) 0 = σ (SCR + 1) 0 := by
  have hA : Dd 440 [(.inr (.inr (some 0))), (.inl a1), (.inr (.inr (some 726)))] σ (.inl (some (.inl 1)), σ) := by
    refine b440 ?_
    have hD4 : Dd 224 [(.inr (.inr (some 0))), (.inl a1)] σ (.inr 0, σ) := by
      refine b224 ?_
      have hD3 : Dd 229 [(.inr (.inr (some 0))), (.inl a1)] σ (.inr 0, σ) := by
        refine b229 ?_
        have hD1 : Dd 35 [(.inr (.inr (some 658))), (.inl a1)] σ (.inl (some (.inr (.inr none))), σ) := by
          refine b35 ?_
          rw [if_neg (show ¬ (a1 < (σ 658 1)) by first | omega | (simp [upS, hz]; done) | (simp [upS, hz]; omega))]
          all_goals rfl
        refine ⟨_, _, hD1, ?_⟩
        clear hD1
        refine ⟨fun _ => ?_, fun _ hz2 => (by cases hz2)⟩
        all_goals rfl
      refine Or.inr ⟨_, _, hD3, ?_⟩
      all_goals rfl
    exact Or.inr (⟨_, hD4, rfl⟩)
  have hB : Dd 387 [(.inr (.inr (some 682))), (.inl a1)] σ (.inl (some (.inl 0)), (upS σ 682 0 1)) := by
    refine b387 ?_
    have hD6 : Dd 383 [(.inr (.inr (some 682))), (.inl a1)] σ (.inl (some (.inl 0)), σ) := by
      refine b383 ?_
      rw [show (σ 682 58) = 0 by (first | omega | (simp [upS, hz]; done) | (simp [upS, hz]; omega))]
      have hD5 : Dd 246 [(.inl a1), (.inl 0)] σ (.inl (some (.inl 0)), σ) := by
        refine b246 ?_
        try rw [if_pos (show (0 : Int) ≤ a1 by first | omega | (simp [upS, hz]; done) | (simp [upS, hz]; omega))]
        try rw [if_neg (show ¬ (a1 < 0) by first | omega | (simp [upS, hz]; done) | (simp [upS, hz]; omega))]
        all_goals rfl
      refine ⟨_, _, hD5, ?_⟩
      clear hD5
      refine ⟨(show 0 = 0 ∨ 0 = 1 by first | omega | (simp [upS, hz]; done) | (simp [upS, hz]; omega)), ?_⟩
      all_goals rfl
    refine ⟨_, _, hD6, ?_⟩
    clear hD6
    try rw [if_pos (show (0 : Int) = 0 by first | omega | (simp [upS, hz]; done) | (simp [upS, hz]; omega))]
    refine b387_14 ?_
    have hD7 : Dd 245 [(.inr (.inr (some 682))), (.inl 1)] σ (.inl (some (.inl 0)), (upS σ 682 0 1)) := by
      refine b245 ?_
      try rw [if_neg (show ¬ ((1 : Int) = 0) by first | omega | (simp [upS, hz]; done) | (simp [upS, hz]; omega))]
      all_goals rfl
    refine ⟨_, _, hD7, ?_⟩
    clear hD7
    rw [if_pos (show (0 : Int) = 0 by first | omega | (simp [upS, hz]; done) | (simp [upS, hz]; omega))]
    all_goals rfl
  refine ⟨_, _, _, _, hA, hB, ?_, ?_, ?_, ?_, ?_⟩
  · (first | rfl | (simp [upS, SCR, hz]; done) | (simp [upS, SCR, hz]; omega))
  · first | (intro h9; omega) | (intro _; first | rfl | (simp [upS, SCR, hz]; done) | (simp [upS, SCR, hz]; omega))
  · intro i; first | rfl | (unfold upS SCR; (repeat' split) <;> first | rfl | omega)
  · first | rfl | (unfold upS SCR; (repeat' split) <;> first | rfl | omega)
  · first | rfl | (unfold upS SCR; (repeat' split) <;> first | rfl | omega)
theorem q53_0 {σ : Sg} {a1 : Int} {a2 : Int} (hz : ∀ a i, a < 1000 → σ a i = 0) (h0 : a1 < 0) : ∃ (kx b : Int) (s1 s2 : Sg), Dd 441 [(.inr (.inr (some 0))), (.inl a1), (.inl a2), (.inr (.inr (some 726)))] σ (.inl (some (.inl kx)), s1) ∧ Dd 388 [(.inr (.inr (some 682))), (.inl a1), (.inl a2)] s1 (.inl (some (.inl b)), s2) ∧ s2 682 0 = kx ∧ (kx = 0 → s2 726 0 = b) ∧ (∀ i, s1 SCR i = σ SCR i) ∧ s1 (SCR + 1) 0 = σ (SCR + 1) 0 ∧ s2 (SCR + 1) 0 = σ (SCR + 1) 0 := by
  have hA : Dd 441 [(.inr (.inr (some 0))), (.inl a1), (.inl a2), (.inr (.inr (some 726)))] σ (.inl (some (.inl 1)), σ) := by
    refine b441 ?_
    have hD5 : Dd 225 [(.inr (.inr (some 0))), (.inl a1), (.inl a2)] σ (.inr 0, σ) := by
      refine b225 ?_
      have hD4 : Dd 229 [(.inr (.inr (some 0))), (.inl a1)] σ (.inr 0, σ) := by
        refine b229 ?_
        have hD2 : Dd 35 [(.inr (.inr (some 658))), (.inl a1)] σ (.inl (some (.inr (.inr none))), σ) := by
          refine b35 ?_
          rw [if_pos (show a1 < (σ 658 1) by first | omega | (simp [upS, hz]; done) | (simp [upS, hz]; omega))]
          have hD1 : Dd 145 [(.inr (.inr (some 659))), (.inl a1)] σ (.inl (some (.inr (.inr none))), σ) := by
            refine b145 ?_
            rw [if_neg (show ¬ ((0 : Int) ≤ a1) by first | omega | (simp [upS, hz]; done) | (simp [upS, hz]; omega))]
            all_goals rfl
          refine ⟨_, _, hD1, ?_⟩
          clear hD1
          all_goals rfl
        refine ⟨_, _, hD2, ?_⟩
        clear hD2
        refine ⟨fun _ => ?_, fun _ hz3 => (by cases hz3)⟩
        all_goals rfl
      refine Or.inr ⟨_, _, hD4, ?_⟩
      all_goals rfl
    exact Or.inr (⟨_, hD5, rfl⟩)
  have hB : Dd 388 [(.inr (.inr (some 682))), (.inl a1), (.inl a2)] σ (.inl (some (.inl 0)), (upS σ 682 0 1)) := by
    refine b388 ?_
    have hD7 : Dd 383 [(.inr (.inr (some 682))), (.inl a1)] σ (.inl (some (.inl 0)), σ) := by
      refine b383 ?_
      rw [show (σ 682 58) = 0 by (first | omega | (simp [upS, hz]; done) | (simp [upS, hz]; omega))]
      have hD6 : Dd 246 [(.inl a1), (.inl 0)] σ (.inl (some (.inl 0)), σ) := by
        refine b246 ?_
        try rw [if_neg (show ¬ ((0 : Int) ≤ a1) by first | omega | (simp [upS, hz]; done) | (simp [upS, hz]; omega))]
        all_goals rfl
      refine ⟨_, _, hD6, ?_⟩
      clear hD6
      refine ⟨(show 0 = 0 ∨ 0 = 1 by first | omega | (simp [upS, hz]; done) | (simp [upS, hz]; omega)), ?_⟩
      all_goals rfl
    refine ⟨_, _, hD7, ?_⟩
    clear hD7
    rw [if_pos (show (0 : Int) = 0 by first | omega | (simp [upS, hz]; done) | (simp [upS, hz]; omega))]
    refine b388_17 ?_
    refine b388_18 ?_
    have hD8 : Dd 245 [(.inr (.inr (some 682))), (.inl 1)] σ (.inl (some (.inl 0)), (upS σ 682 0 1)) := by
      refine b245 ?_
      try rw [if_neg (show ¬ ((1 : Int) = 0) by first | omega | (simp [upS, hz]; done) | (simp [upS, hz]; omega))]
      all_goals rfl
    refine ⟨_, _, hD8, ?_⟩
    clear hD8
    rw [if_pos (show (0 : Int) = 0 by first | omega | (simp [upS, hz]; done) | (simp [upS, hz]; omega))]
    all_goals rfl
  refine ⟨_, _, _, _, hA, hB, ?_, ?_, ?_, ?_, ?_⟩
  · (first | rfl | (simp [upS, SCR, hz]; done) | (simp [upS, SCR, hz]; omega))
  · first | (intro h9; omega) | (intro _; first | rfl | (simp [upS, SCR, hz]; done) | (simp [upS, SCR, hz]; omega))
  · intro i; first | rfl | (unfold upS SCR; (repeat' split) <;> first | rfl | omega)
  · first | rfl | (unfold upS SCR; (repeat' split) <;> first | rfl | omega)
  · first | rfl | (unfold upS SCR; (repeat' split) <;> first | rfl | omega)
theorem q53_1 {σ : Sg} {a1 : Int} {a2 : Int} (hz : ∀ a i, a < 1000 → σ a i = 0) (h0 : 0 ≤ a1) : ∃ (kx b : Int) (s1 s2 : Sg), Dd 441 [(.inr (.inr (some 0))), (.inl a1), (.inl a2), (.inr (.inr (some 726)))] σ (.inl (some (.inl kx)), s1) ∧ Dd 388 [(.inr (.inr (some 682))), (.inl a1), (.inl a2)] s1 (.inl (some (.inl b)), s2) ∧ s2 682 0 = kx ∧ (kx = 0 → s2 726 0 = b) ∧ (∀ i, s1 SCR i = σ SCR i) ∧ s1 (SCR + 1) 0 = σ (SCR + 1) 0 ∧ s2 (SCR + 1) 0 = σ (SCR + 1) 0 := by
  have hA : Dd 441 [(.inr (.inr (some 0))), (.inl a1), (.inl a2), (.inr (.inr (some 726)))] σ (.inl (some (.inl 1)), σ) := by
    refine b441 ?_
    have hD4 : Dd 225 [(.inr (.inr (some 0))), (.inl a1), (.inl a2)] σ (.inr 0, σ) := by
      refine b225 ?_
      have hD3 : Dd 229 [(.inr (.inr (some 0))), (.inl a1)] σ (.inr 0, σ) := by
        refine b229 ?_
        have hD1 : Dd 35 [(.inr (.inr (some 658))), (.inl a1)] σ (.inl (some (.inr (.inr none))), σ) := by
          refine b35 ?_
          rw [if_neg (show ¬ (a1 < (σ 658 1)) by first | omega | (simp [upS, hz]; done) | (simp [upS, hz]; omega))]
          all_goals rfl
        refine ⟨_, _, hD1, ?_⟩
        clear hD1
        refine ⟨fun _ => ?_, fun _ hz2 => (by cases hz2)⟩
        all_goals rfl
      refine Or.inr ⟨_, _, hD3, ?_⟩
      all_goals rfl
    exact Or.inr (⟨_, hD4, rfl⟩)
  have hB : Dd 388 [(.inr (.inr (some 682))), (.inl a1), (.inl a2)] σ (.inl (some (.inl 0)), (upS σ 682 0 1)) := by
    refine b388 ?_
    have hD6 : Dd 383 [(.inr (.inr (some 682))), (.inl a1)] σ (.inl (some (.inl 0)), σ) := by
      refine b383 ?_
      rw [show (σ 682 58) = 0 by (first | omega | (simp [upS, hz]; done) | (simp [upS, hz]; omega))]
      have hD5 : Dd 246 [(.inl a1), (.inl 0)] σ (.inl (some (.inl 0)), σ) := by
        refine b246 ?_
        try rw [if_pos (show (0 : Int) ≤ a1 by first | omega | (simp [upS, hz]; done) | (simp [upS, hz]; omega))]
        try rw [if_neg (show ¬ (a1 < 0) by first | omega | (simp [upS, hz]; done) | (simp [upS, hz]; omega))]
        all_goals rfl
      refine ⟨_, _, hD5, ?_⟩
      clear hD5
      refine ⟨(show 0 = 0 ∨ 0 = 1 by first | omega | (simp [upS, hz]; done) | (simp [upS, hz]; omega)), ?_⟩
      all_goals rfl
    refine ⟨_, _, hD6, ?_⟩
    clear hD6
    rw [if_pos (show (0 : Int) = 0 by first | omega | (simp [upS, hz]; done) | (simp [upS, hz]; omega))]
    refine b388_17 ?_
    refine b388_18 ?_
    have hD7 : Dd 245 [(.inr (.inr (some 682))), (.inl 1)] σ (.inl (some (.inl 0)), (upS σ 682 0 1)) := by
      refine b245 ?_
      try rw [if_neg (show ¬ ((1 : Int) = 0) by first | omega | (simp [upS, hz]; done) | (simp [upS, hz]; omega))]
      all_goals rfl
    refine ⟨_, _, hD7, ?_⟩
    clear hD7
    rw [if_pos (show (0 : Int) = 0 by first | omega | (simp [upS, hz]; done) | (simp [upS, hz]; omega))]
    all_goals rfl
  refine ⟨_, _, _, _, hA, hB, ?_, ?_, ?_, ?_, ?_⟩
  · (first | rfl | (simp [upS, SCR, hz]; done) | (simp [upS, SCR, hz]; omega))
  · first | (intro h9; omega) | (intro _; first | rfl | (simp [upS, SCR, hz]; done) | (simp [upS, SCR, hz]; omega))
  · intro i; first | rfl | (unfold upS SCR; (repeat' split) <;> first | rfl | omega)
  · first | rfl | (unfold upS SCR; (repeat' split) <;> first | rfl | omega)
  · first | rfl | (unfold upS SCR; (repeat' split) <;> first | rfl | omega)
theorem q54_0 {σ : Sg} {a1 : Int} {a2 : Int} {a3 : Int} (hz : ∀ a i, a < 1000 → σ a i = 0) (h0 : a1 < 0) : ∃ (kx b : Int) (s1 s2 : Sg), Dd 442 [(.inr (.inr (some 0))), (.inl a1), (.inl a2), (.inl a3), (.inr (.inr (some 726)))] σ (.inl (some (.inl kx)), s1) ∧ Dd 389 [(.inr (.inr (some 682))), (.inl a1), (.inl a2), (.inl a3)] s1 (.inl (some (.inl b)), s2) ∧ s2 682 0 = kx ∧ (kx = 0 → s2 726 0 = b) ∧ (∀ i, s1 SCR i = σ SCR i) ∧ s1 (SCR + 1) 0 = σ (SCR + 1) 0 ∧ s2 (SCR + 1) 0 = σ (SCR + 1) 0 := by
  have hA : Dd 442 [(.inr (.inr (some 0))), (.inl a1), (.inl a2), (.inl a3), (.inr (.inr (some 726)))] σ (.inl (some (.inl 1)), σ) := by
    refine b442 ?_
    have hD5 : Dd 226 [(.inr (.inr (some 0))), (.inl a1), (.inl a2), (.inl a3)] σ (.inr 0, σ) := by
      refine b226 ?_
      have hD4 : Dd 229 [(.inr (.inr (some 0))), (.inl a1)] σ (.inr 0, σ) := by
        refine b229 ?_
        have hD2 : Dd 35 [(.inr (.inr (some 658))), (.inl a1)] σ (.inl (some (.inr (.inr none))), σ) := by
          refine b35 ?_
          rw [if_pos (show a1 < (σ 658 1) by first | omega | (simp [upS, hz]; done) | (simp [upS, hz]; omega))]
          have hD1 : Dd 145 [(.inr (.inr (some 659))), (.inl a1)] σ (.inl (some (.inr (.inr none))), σ) := by
            refine b145 ?_
            rw [if_neg (show ¬ ((0 : Int) ≤ a1) by first | omega | (simp [upS, hz]; done) | (simp [upS, hz]; omega))]
            all_goals rfl
          refine ⟨_, _, hD1, ?_⟩
          clear hD1
          all_goals rfl
        refine ⟨_, _, hD2, ?_⟩
        clear hD2
        refine ⟨fun _ => ?_, fun _ hz3 => (by cases hz3)⟩
        all_goals rfl
      refine Or.inr ⟨_, _, hD4, ?_⟩
      all_goals rfl
    exact Or.inr (Or.inl ⟨_, hD5, rfl⟩)
  have hB : Dd 389 [(.inr (.inr (some 682))), (.inl a1), (.inl a2), (.inl a3)] σ (.inl (some (.inl 0)), (upS σ 682 0 1)) := by
    refine b389 ?_
    have hD7 : Dd 383 [(.inr (.inr (some 682))), (.inl a1)] σ (.inl (some (.inl 0)), σ) := by
      refine b383 ?_
      rw [show (σ 682 58) = 0 by (first | omega | (simp [upS, hz]; done) | (simp [upS, hz]; omega))]
      have hD6 : Dd 246 [(.inl a1), (.inl 0)] σ (.inl (some (.inl 0)), σ) := by
        refine b246 ?_
        try rw [if_neg (show ¬ ((0 : Int) ≤ a1) by first | omega | (simp [upS, hz]; done) | (simp [upS, hz]; omega))]
        all_goals rfl
      refine ⟨_, _, hD6, ?_⟩
      clear hD6
      refine ⟨(show 0 = 0 ∨ 0 = 1 by first | omega | (simp [upS, hz]; done) | (simp [upS, hz]; omega)), ?_⟩
      all_goals rfl
    refine ⟨_, _, hD7, ?_⟩
    clear hD7
    rw [if_pos (show (0 : Int) = 0 by first | omega | (simp [upS, hz]; done) | (simp [upS, hz]; omega))]
    refine b389_26 ?_
    refine b389_27 ?_
    rw [if_pos (show (0 : Int) = 0 by first | omega | (simp [upS, hz]; done) | (simp [upS, hz]; omega))]
    refine b389_58 ?_
    have hD8 : Dd 245 [(.inr (.inr (some 682))), (.inl 1)] σ (.inl (some (.inl 0)), (upS σ 682 0 1)) := by
      refine b245 ?_
      try rw [if_neg (show ¬ ((1 : Int) = 0) by first | omega | (simp [upS, hz]; done) | (simp [upS, hz]; omega))]
      all_goals rfl
    refine ⟨_, _, hD8, ?_⟩
    clear hD8
    rw [if_pos (show (0 : Int) = 0 by first | omega | (simp [upS, hz]; done) | (simp [upS, hz]; omega))]
    all_goals rfl
  refine ⟨_, _, _, _, hA, hB, ?_, ?_, ?_, ?_, ?_⟩
  · (first | rfl | (simp [upS, SCR, hz]; done) | (simp [upS, SCR, hz]; omega))
  · first | (intro h9; omega) | (intro _; first | rfl | (simp [upS, SCR, hz]; done) | (simp [upS, SCR, hz]; omega))
  · intro i; first | rfl | (unfold upS SCR; (repeat' split) <;> first | rfl | omega)
  · first | rfl | (unfold upS SCR; (repeat' split) <;> first | rfl | omega)
  · first | rfl | (unfold upS SCR; (repeat' split) <;> first | rfl | omega)
theorem q54_1 {σ : Sg} {a1 : Int} {a2 : Int} {a3 : Int} (hz : ∀ a i, a < 1000 → σ a i = 0) (h0 : 0 ≤ a1) : ∃ (kx b : Int) (s1 s2 : Sg), Dd 442 [(.inr (.inr (some 0))), (.inl a1), (.inl a2), (.inl a3), (.inr (.inr (some 726)))] σ (.inl (some (.inl kx)), s1) ∧ Dd 389 [(.inr (.inr (some 682))), (.inl a1), (.inl a2), (.inl a3)] s1 (.inl (some (.inl b)), s2) ∧ s2 682 0 = kx ∧ (kx = 0 → s2 726 0 = b) ∧ (∀ i, s1 SCR i = σ SCR i) ∧ s1 (SCR + 1) 0 = σ (SCR + 1) 0 ∧ s2 (SCR + 1) 0 = σ (SCR + 1) 0 := by
  have hA : Dd 442 [(.inr (.inr (some 0))), (.inl a1), (.inl a2), (.inl a3), (.inr (.inr (some 726)))] σ (.inl (some (.inl 1)), σ) := by
    refine b442 ?_
    have hD4 : Dd 226 [(.inr (.inr (some 0))), (.inl a1), (.inl a2), (.inl a3)] σ (.inr 0, σ) := by
      refine b226 ?_
      have hD3 : Dd 229 [(.inr (.inr (some 0))), (.inl a1)] σ (.inr 0, σ) := by
        refine b229 ?_
        have hD1 : Dd 35 [(.inr (.inr (some 658))), (.inl a1)] σ (.inl (some (.inr (.inr none))), σ) := by
          refine b35 ?_
          rw [if_neg (show ¬ (a1 < (σ 658 1)) by first | omega | (simp [upS, hz]; done) | (simp [upS, hz]; omega))]
          all_goals rfl
        refine ⟨_, _, hD1, ?_⟩
        clear hD1
        refine ⟨fun _ => ?_, fun _ hz2 => (by cases hz2)⟩
        all_goals rfl
      refine Or.inr ⟨_, _, hD3, ?_⟩
      all_goals rfl
    exact Or.inr (Or.inl ⟨_, hD4, rfl⟩)
  have hB : Dd 389 [(.inr (.inr (some 682))), (.inl a1), (.inl a2), (.inl a3)] σ (.inl (some (.inl 0)), (upS σ 682 0 1)) := by
    refine b389 ?_
    have hD6 : Dd 383 [(.inr (.inr (some 682))), (.inl a1)] σ (.inl (some (.inl 0)), σ) := by
      refine b383 ?_
      rw [show (σ 682 58) = 0 by (first | omega | (simp [upS, hz]; done) | (simp [upS, hz]; omega))]
      have hD5 : Dd 246 [(.inl a1), (.inl 0)] σ (.inl (some (.inl 0)), σ) := by
        refine b246 ?_
        try rw [if_pos (show (0 : Int) ≤ a1 by first | omega | (simp [upS, hz]; done) | (simp [upS, hz]; omega))]
        try rw [if_neg (show ¬ (a1 < 0) by first | omega | (simp [upS, hz]; done) | (simp [upS, hz]; omega))]
        all_goals rfl
      refine ⟨_, _, hD5, ?_⟩
      clear hD5
      refine ⟨(show 0 = 0 ∨ 0 = 1 by first | omega | (simp [upS, hz]; done) | (simp [upS, hz]; omega)), ?_⟩
      all_goals rfl
    refine ⟨_, _, hD6, ?_⟩
    clear hD6
    rw [if_pos (show (0 : Int) = 0 by first | omega | (simp [upS, hz]; done) | (simp [upS, hz]; omega))]
    refine b389_26 ?_
    refine b389_27 ?_
    rw [if_pos (show (0 : Int) = 0 by first | omega | (simp [upS, hz]; done) | (simp [upS, hz]; omega))]
    refine b389_58 ?_
    have hD7 : Dd 245 [(.inr (.inr (some 682))), (.inl 1)] σ (.inl (some (.inl 0)), (upS σ 682 0 1)) := by
      refine b245 ?_
      try rw [if_neg (show ¬ ((1 : Int) = 0) by first | omega | (simp [upS, hz]; done) | (simp [upS, hz]; omega))]
      all_goals rfl
    refine ⟨_, _, hD7, ?_⟩
    clear hD7
    rw [if_pos (show (0 : Int) = 0 by first | omega | (simp [upS, hz]; done) | (simp [upS, hz]; omega))]
    all_goals rfl
  refine ⟨_, _, _, _, hA, hB, ?_, ?_, ?_, ?_, ?_⟩
  · (first | rfl | (simp [upS, SCR, hz]; done) | (simp [upS, SCR, hz]; omega))
  · first | (intro h9; omega) | (intro _; first | rfl | (simp [upS, SCR, hz]; done) | (simp [upS, SCR, hz]; omega))
  · intro i; first | rfl | (unfold upS SCR; (repeat' split) <;> first | rfl | omega)
  · first | rfl | (unfold upS SCR; (repeat' split) <;> first | rfl | omega)
  · first | rfl | (unfold upS SCR; (repeat' split) <;> first | rfl | omega)
end
