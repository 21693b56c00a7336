noncomputable section
theorem q3_0 {σ : Sg} {a1 : Int} (hz : ∀ a i, a < 1000 → σ a i = 0) (h0 : a1 < 0) : ∃ (kx b : Int) (s1 s2 : Sg), Dd 393 [(.inr (.inr (some 0))), (.inl a1), (.inr (.inr (some 726)))] σ (.inl (some (.inl kx)), s1) ∧ Dd 260 [(.inr (.inr (some 682))), (.inl a1)] s1 (.inl (some (.inl b)), s2) ∧ s2 682 0 = kx ∧ (kx = 0 → s2 726 0 = b) ∧ (∀ i, s1 SCR i = σ SCR i) ∧ s1 (SCR + 1) 0 = σ (SCR + 1) 0 ∧ s2 (SCR + 1) 0 = σ (SCR + 1) 0 := by
  have hA : Dd 393 [(.inr (.inr (some 0))), (.inl a1), (.inr (.inr (some 726)))] σ (.inl (some (.inl 1)), σ) := by
    refine b393 ?_
    have hD4 : Dd 175 [(.inr (.inr (some 0))), (.inl a1)] σ (.inr 0, σ) := by
      refine b175 ?_
      have hD3 : Dd 227 [(.inr (.inr (some 0))), (.inl a1)] σ (.inr 0, σ) := by
        refine b227 ?_
        have hD1 : Dd 145 [(.inr (.inr (some 1))), (.inl a1)] σ (.inl (some (.inr (.inr none))), σ) := by
          refine b145 ?_
          rw [if_neg (show ¬ ((0 : Int) ≤ a1) by first | omega | (simp [upS, hz]; done) | (simp [upS, hz]; omega))]
          all_goals rfl
        refine ⟨_, _, hD1, ?_⟩
        clear hD1
        refine ⟨fun _ => ?_, fun _ hz2 => (by cases hz2)⟩
        all_goals rfl
      refine Or.inr ⟨_, _, hD3, ?_⟩
      all_goals rfl
    exact Or.inr (⟨_, hD4, rfl⟩)
  have hB : Dd 260 [(.inr (.inr (some 682))), (.inl a1)] σ (.inl (some (.inl 0)), (upS σ 682 0 1)) := by
    refine b260 ?_
    have hD6 : Dd 247 [(.inl a1)] σ (.inl (some (.inl 0)), σ) := by
      refine b247 ?_
      have hD5 : Dd 246 [(.inl a1), (.inl 4)] σ (.inl (some (.inl 0)), σ) := by
        refine b246 ?_
        try rw [if_neg (show ¬ ((0 : Int) ≤ a1) by first | omega | (simp [upS, hz]; done) | (simp [upS, hz]; omega))]
        all_goals rfl
      refine ⟨_, _, hD5, ?_⟩
      clear hD5
      refine ⟨(show 0 = 0 ∨ 0 = 1 by first | omega | (simp [upS, hz]; done) | (simp [upS, hz]; omega)), ?_⟩
      all_goals rfl
    refine ⟨_, _, hD6, ?_⟩
    clear hD6
    try rw [if_pos (show (0 : Int) = 0 by first | omega | (simp [upS, hz]; done) | (simp [upS, hz]; omega))]
    refine b260_13 ?_
    have hD7 : Dd 245 [(.inr (.inr (some 682))), (.inl 1)] σ (.inl (some (.inl 0)), (upS σ 682 0 1)) := by
      refine b245 ?_
      try rw [if_neg (show ¬ ((1 : Int) = 0) by first | omega | (simp [upS, hz]; done) | (simp [upS, hz]; omega))]
      all_goals rfl
    refine ⟨_, _, hD7, ?_⟩
    clear hD7
    refine ⟨(show ¬ (0 = 0) → 0 ≤ a1 ∧ a1 < 4 by (first | (intros; first | omega | (simp [upS, hz]; done) | (simp [upS, hz]; omega)) | (intros; simp_all [upS, hz]; done) | (intros; simp_all [upS, hz]; omega))), ?_⟩
    try rw [if_pos (show (0 : Int) = 0 by first | omega | (simp [upS, hz]; done) | (simp [upS, hz]; omega))]
    all_goals rfl
  refine ⟨_, _, _, _, hA, hB, ?_, ?_, ?_, ?_, ?_⟩
  · (first | rfl | (simp [upS, SCR, hz]; done) | (simp [upS, SCR, hz]; omega))
  · first | (intro h9; omega) | (intro _; first | rfl | (simp [upS, SCR, hz]; done) | (simp [upS, SCR, hz]; omega))
  · intro i; first | rfl | (unfold upS SCR; (repeat' split) <;> first | rfl | omega)
  · first | rfl | (unfold upS SCR; (repeat' split) <;> first | rfl | omega)
  · first | rfl | (unfold upS SCR; (repeat' split) <;> first | rfl | omega)
theorem q3_1 {σ : Sg} {a1 : Int} (hz : ∀ a i, a < 1000 → σ a i = 0) (h0 : 4 ≤ a1) : ∃ (kx b : Int) (s1 s2 : Sg), Dd 393 [(.inr (.inr (some 0))), (.inl a1), (.inr (.inr (some 726)))] σ (.inl (some (.inl kx)), s1) ∧ Dd 260 [(.inr (.inr (some 682))), (.inl a1)] s1 (.inl (some (.inl b)), s2) ∧ s2 682 0 = kx ∧ (kx = 0 → s2 726 0 = b) ∧ (∀ i, s1 SCR i = σ SCR i) ∧ s1 (SCR + 1) 0 = σ (SCR + 1) 0 ∧ s2 (SCR + 1) 0 = σ (SCR + 1) 0 := by
  have hA : Dd 393 [(.inr (.inr (some 0))), (.inl a1), (.inr (.inr (some 726)))] σ (.inl (some (.inl 1)), σ) := by
    refine b393 ?_
    have hD4 : Dd 175 [(.inr (.inr (some 0))), (.inl a1)] σ (.inr 0, σ) := by
      refine b175 ?_
      have hD3 : Dd 227 [(.inr (.inr (some 0))), (.inl a1)] σ (.inr 0, σ) := by
        refine b227 ?_
        have hD1 : Dd 145 [(.inr (.inr (some 1))), (.inl a1)] σ (.inl (some (.inr (.inr none))), σ) := by
          refine b145 ?_
          rw [if_pos (show (0 : Int) ≤ a1 by first | omega | (simp [upS, hz]; done) | (simp [upS, hz]; omega))]
          refine ⟨4, (by decide +kernel), (by decide), ?_⟩
          rw [if_neg (show ¬ (a1 < ((4 : Nat) : Int)) by first | omega | (simp [upS, hz]; done) | (simp [upS, hz]; omega))]
          all_goals rfl
        refine ⟨_, _, hD1, ?_⟩
        clear hD1
        refine ⟨fun _ => ?_, fun _ hz2 => (by cases hz2)⟩
        all_goals rfl
      refine Or.inr ⟨_, _, hD3, ?_⟩
      all_goals rfl
    exact Or.inr (⟨_, hD4, rfl⟩)
  have hB : Dd 260 [(.inr (.inr (some 682))), (.inl a1)] σ (.inl (some (.inl 0)), (upS σ 682 0 1)) := by
    refine b260 ?_
    have hD6 : Dd 247 [(.inl a1)] σ (.inl (some (.inl 0)), σ) := by
      refine b247 ?_
      have hD5 : Dd 246 [(.inl a1), (.inl 4)] σ (.inl (some (.inl 0)), σ) := by
        refine b246 ?_
        try rw [if_pos (show (0 : Int) ≤ a1 by first | omega | (simp [upS, hz]; done) | (simp [upS, hz]; omega))]
        try rw [if_neg (show ¬ (a1 < 4) by first | omega | (simp [upS, hz]; done) | (simp [upS, hz]; omega))]
        all_goals rfl
      refine ⟨_, _, hD5, ?_⟩
      clear hD5
      refine ⟨(show 0 = 0 ∨ 0 = 1 by first | omega | (simp [upS, hz]; done) | (simp [upS, hz]; omega)), ?_⟩
      all_goals rfl
    refine ⟨_, _, hD6, ?_⟩
    clear hD6
    try rw [if_pos (show (0 : Int) = 0 by first | omega | (simp [upS, hz]; done) | (simp [upS, hz]; omega))]
    refine b260_13 ?_
    have hD7 : Dd 245 [(.inr (.inr (some 682))), (.inl 1)] σ (.inl (some (.inl 0)), (upS σ 682 0 1)) := by
      refine b245 ?_
      try rw [if_neg (show ¬ ((1 : Int) = 0) by first | omega | (simp [upS, hz]; done) | (simp [upS, hz]; omega))]
      all_goals rfl
    refine ⟨_, _, hD7, ?_⟩
    clear hD7
    refine ⟨(show ¬ (0 = 0) → 0 ≤ a1 ∧ a1 < 4 by (first | (intros; first | omega | (simp [upS, hz]; done) | (simp [upS, hz]; omega)) | (intros; simp_all [upS, hz]; done) | (intros; simp_all [upS, hz]; omega))), ?_⟩
    try rw [if_pos (show (0 : Int) = 0 by first | omega | (simp [upS, hz]; done) | (simp [upS, hz]; omega))]
    all_goals rfl
  refine ⟨_, _, _, _, hA, hB, ?_, ?_, ?_, ?_, ?_⟩
  · (first | rfl | (simp [upS, SCR, hz]; done) | (simp [upS, SCR, hz]; omega))
  · first | (intro h9; omega) | (intro _; first | rfl | (simp [upS, SCR, hz]; done) | (simp [upS, SCR, hz]; omega))
  · intro i; first | rfl | (unfold upS SCR; (repeat' split) <;> first | rfl | omega)
  · first | rfl | (unfold upS SCR; (repeat' split) <;> first | rfl | omega)
  · first | rfl | (unfold upS SCR; (repeat' split) <;> first | rfl | omega)
theorem q3_2 {σ : Sg} {a1 : Int} (hz : ∀ a i, a < 1000 → σ a i = 0) (h0 : 0 ≤ a1 ∧ a1 < 4) : ∃ (kx b : Int) (s1 s2 : Sg), Dd 393 [(.inr (.inr (some 0))), (.inl a1), (.inr (.inr (some 726)))] σ (.inl (some (.inl kx)), s1) ∧ Dd 260 [(.inr (.inr (some 682))), (.inl a1)] s1 (.inl (some (.inl b)), s2) ∧ s2 682 0 = kx ∧ (kx = 0 → s2 726 0 = b) ∧ (∀ i, s1 SCR i = σ SCR i) ∧ s1 (SCR + 1) 0 = σ (SCR + 1) 0 ∧ s2 (SCR + 1) 0 = σ (SCR + 1) 0 := by
  have za1 : ∀ i, σ (2 + 2 * ((a1)).toNat) i = 0 := fun i => hz _ i (by omega)
  have z1a1 : ∀ i, σ ((2 + 2 * ((a1)).toNat) + 1) i = 0 := fun i => hz _ i (by omega)
  have ca1 : (cap (2 + 2 * ((a1)).toNat) : Int) = 16 := cp_1 (by omega)
  have hA : Dd 393 [(.inr (.inr (some 0))), (.inl a1), (.inr (.inr (some 726)))] σ (.inl (some (.inl 0)), (upS σ 726 0 0)) := by
    refine b393 ?_
    have hD5 : Dd 175 [(.inr (.inr (some 0))), (.inl a1)] σ (.inl (some (.inl 0)), σ) := by
      refine b175 ?_
      have hD3 : Dd 227 [(.inr (.inr (some 0))), (.inl a1)] σ (.inl (some (.inr (.inr (some (2 + 2 * ((a1)).toNat))))), σ) := by
        refine b227 ?_
        have hD1 : Dd 145 [(.inr (.inr (some 1))), (.inl a1)] σ (.inl (some (.inr (.inr (some (2 + 2 * ((a1)).toNat))))), σ) := by
          refine b145 ?_
          rw [if_pos (show (0 : Int) ≤ a1 by first | omega | (simp [upS, hz, za1, z1a1, ca1]; done) | (simp [upS, hz, za1, z1a1, ca1]; omega))]
          refine ⟨4, (by decide +kernel), (by decide), ?_⟩
          rw [if_pos (show a1 < ((4 : Nat) : Int) by first | omega | (simp [upS, hz, za1, z1a1, ca1]; done) | (simp [upS, hz, za1, z1a1, ca1]; omega))]
          refine ⟨(show 0 ≤ a1 by first | omega | (simp [upS, hz, za1, z1a1, ca1]; done) | (simp [upS, hz, za1, z1a1, ca1]; omega)), ?_⟩
          refine ⟨(2 + 2 * ((a1)).toNat), (el_1 (i := (a1)) (by first | omega | (simp [upS, hz, za1, z1a1, ca1]; done) | (simp [upS, hz, za1, z1a1, ca1]; omega))).1, (el_1 (i := (a1)) (by first | omega | (simp [upS, hz, za1, z1a1, ca1]; done) | (simp [upS, hz, za1, z1a1, ca1]; omega))).2, ?_⟩
          all_goals rfl
        refine ⟨_, _, hD1, ?_⟩
        clear hD1
        refine ⟨fun hz2 => (by cases hz2), fun _ hz2 => ?_⟩
        cases hz2
        refine ⟨(el_1 (i := (a1)) (by first | omega | (simp [upS, hz, za1, z1a1, ca1]; done) | (simp [upS, hz, za1, z1a1, ca1]; omega))).2, ?_⟩
        all_goals rfl
      refine Or.inl ⟨_, _, hD3, (el_1 (i := (a1)) (by first | omega | (simp [upS, hz, za1, z1a1, ca1]; done) | (simp [upS, hz, za1, z1a1, ca1]; omega))).2, ?_⟩
      clear hD3
      have hD4 : Dd 146 [(.inr (.inr (some (2 + 2 * ((a1)).toNat))))] σ (.inl (some (.inl 0)), σ) := by
        refine b146 (el_1 (i := (a1)) (by first | omega | (simp [upS, hz, za1, z1a1, ca1]; done) | (simp [upS, hz, za1, z1a1, ca1]; omega))).2 ?_
        rw [show (σ (2 + 2 * ((a1)).toNat) 1) = 0 by (first | omega | (simp [upS, hz, za1, z1a1, ca1]; done) | (simp [upS, hz, za1, z1a1, ca1]; omega))]
        all_goals rfl
      refine ⟨_, _, hD4, ?_⟩
      clear hD4
      all_goals rfl
    refine Or.inl ⟨_, _, hD5, ?_⟩
    clear hD5
    rw [(show (upS σ 726 ((0 : Int).toNat) 0) = (upS σ 726 0 0) from by rw [show ((0 : Int).toNat) = 0 by (first | omega | (simp [upS, hz, za1, z1a1, ca1]; done) | (simp [upS, hz, za1, z1a1, ca1]; omega))])]
    all_goals rfl
  have hB : Dd 260 [(.inr (.inr (some 682))), (.inl a1)] (upS σ 726 0 0) (.inl (some (.inl 0)), (upS (upS σ 726 0 0) 682 0 0)) := by
    refine b260 ?_
    have hD7 : Dd 247 [(.inl a1)] (upS σ 726 0 0) (.inl (some (.inl 1)), (upS σ 726 0 0)) := by
      refine b247 ?_
      have hD6 : Dd 246 [(.inl a1), (.inl 4)] (upS σ 726 0 0) (.inl (some (.inl 1)), (upS σ 726 0 0)) := by
        refine b246 ?_
        try rw [if_pos (show (0 : Int) ≤ a1 by first | omega | (simp [upS, hz, za1, z1a1, ca1]; done) | (simp [upS, hz, za1, z1a1, ca1]; omega))]
        try rw [if_pos (show a1 < 4 by first | omega | (simp [upS, hz, za1, z1a1, ca1]; done) | (simp [upS, hz, za1, z1a1, ca1]; omega))]
        all_goals rfl
      refine ⟨_, _, hD6, ?_⟩
      clear hD6
      refine ⟨(show 1 = 0 ∨ 1 = 1 by first | omega | (simp [upS, hz, za1, z1a1, ca1]; done) | (simp [upS, hz, za1, z1a1, ca1]; omega)), ?_⟩
      all_goals rfl
    refine ⟨_, _, hD7, ?_⟩
    clear hD7
    try rw [if_neg (show ¬ ((1 : Int) = 0) by first | omega | (simp [upS, hz, za1, z1a1, ca1]; done) | (simp [upS, hz, za1, z1a1, ca1]; omega))]
    refine b260_13 ?_
    have hD8 : Dd 245 [(.inr (.inr (some 682))), (.inl 0)] (upS σ 726 0 0) (.inl (some (.inl 1)), (upS (upS σ 726 0 0) 682 0 0)) := by
      refine b245 ?_
      try rw [if_pos (show (0 : Int) = 0 by first | omega | (simp [upS, hz, za1, z1a1, ca1]; done) | (simp [upS, hz, za1, z1a1, ca1]; omega))]
      all_goals rfl
    refine ⟨_, _, hD8, ?_⟩
    clear hD8
    refine ⟨(show ¬ (1 = 0) → 0 ≤ a1 ∧ a1 < 4 by (first | (intros; first | omega | (simp [upS, hz, za1, z1a1, ca1]; done) | (simp [upS, hz, za1, z1a1, ca1]; omega)) | (intros; simp_all [upS, hz, za1, z1a1, ca1]; done) | (intros; simp_all [upS, hz, za1, z1a1, ca1]; omega))), ?_⟩
    try rw [if_neg (show ¬ ((1 : Int) = 0) by first | omega | (simp [upS, hz, za1, z1a1, ca1]; done) | (simp [upS, hz, za1, z1a1, ca1]; omega))]
    rw [show ((upS (upS σ 726 0 0) 682 0 0) 684 (a1).toNat) = 0 by (first | omega | (simp [upS, hz, za1, z1a1, ca1]; done) | (simp [upS, hz, za1, z1a1, ca1]; omega))]
    all_goals rfl
  refine ⟨_, _, _, _, hA, hB, ?_, ?_, ?_, ?_, ?_⟩
  · (first | rfl | (simp [upS, SCR, hz, za1, z1a1, ca1]; done) | (simp [upS, SCR, hz, za1, z1a1, ca1]; omega))
  · first | (intro h9; omega) | (intro _; first | rfl | (simp [upS, SCR, hz, za1, z1a1, ca1]; done) | (simp [upS, SCR, hz, za1, z1a1, ca1]; omega))
  · intro i; first | rfl | (unfold upS SCR; (repeat' split) <;> first | rfl | omega)
  · first | rfl | (unfold upS SCR; (repeat' split) <;> first | rfl | omega)
  · first | rfl | (unfold upS SCR; (repeat' split) <;> first | rfl | omega)
theorem q4_0 {σ : Sg} {a1 : Int} {a2 : Int} (hz : ∀ a i, a < 1000 → σ a i = 0) (h0 : a1 < 0) : ∃ (kx b : Int) (s1 s2 : Sg), Dd 394 [(.inr (.inr (some 0))), (.inl a1), (.inl a2), (.inr (.inr (some 726)))] σ (.inl (some (.inl kx)), s1) ∧ Dd 261 [(.inr (.inr (some 682))), (.inl a1), (.inl a2)] s1 (.inl (some (.inl b)), s2) ∧ s2 682 0 = kx ∧ (kx = 0 → s2 726 0 = b) ∧ (∀ i, s1 SCR i = σ SCR i) ∧ s1 (SCR + 1) 0 = σ (SCR + 1) 0 ∧ s2 (SCR + 1) 0 = σ (SCR + 1) 0 := by
  have hA : Dd 394 [(.inr (.inr (some 0))), (.inl a1), (.inl a2), (.inr (.inr (some 726)))] σ (.inl (some (.inl 1)), σ) := by
    refine b394 ?_
    have hD4 : Dd 176 [(.inr (.inr (some 0))), (.inl a1), (.inl a2)] σ (.inr 0, σ) := by
      refine b176 ?_
      have hD3 : Dd 227 [(.inr (.inr (some 0))), (.inl a1)] σ (.inr 0, σ) := by
        refine b227 ?_
        have hD1 : Dd 145 [(.inr (.inr (some 1))), (.inl a1)] σ (.inl (some (.inr (.inr none))), σ) := by
          refine b145 ?_
          rw [if_neg (show ¬ ((0 : Int) ≤ a1) by first | omega | (simp [upS, hz]; done) | (simp [upS, hz]; omega))]
          all_goals rfl
        refine ⟨_, _, hD1, ?_⟩
        clear hD1
        refine ⟨fun _ => ?_, fun _ hz2 => (by cases hz2)⟩
        all_goals rfl
      refine Or.inr ⟨_, _, hD3, ?_⟩
      all_goals rfl
    exact Or.inr (⟨_, hD4, rfl⟩)
  have hB : Dd 261 [(.inr (.inr (some 682))), (.inl a1), (.inl a2)] σ (.inl (some (.inl 0)), (upS σ 682 0 1)) := by
    refine b261 ?_
    have hD8 : Dd 257 [(.inr (.inr (some 682))), (.inl a1), (.inl a2)] σ (.inl (some (.inl 0)), (upS σ 682 0 1)) := by
      refine b257 ?_
      have hD6 : Dd 247 [(.inl a1)] σ (.inl (some (.inl 0)), σ) := by
        refine b247 ?_
        have hD5 : Dd 246 [(.inl a1), (.inl 4)] σ (.inl (some (.inl 0)), σ) := by
          refine b246 ?_
          try rw [if_neg (show ¬ ((0 : Int) ≤ a1) by first | omega | (simp [upS, hz]; done) | (simp [upS, hz]; omega))]
          all_goals rfl
        refine ⟨_, _, hD5, ?_⟩
        clear hD5
        refine ⟨(show 0 = 0 ∨ 0 = 1 by first | omega | (simp [upS, hz]; done) | (simp [upS, hz]; omega)), ?_⟩
        all_goals rfl
      refine ⟨_, _, hD6, ?_⟩
      clear hD6
      rw [if_pos (show (0 : Int) = 0 by first | omega | (simp [upS, hz]; done) | (simp [upS, hz]; omega))]
      refine b257_25 ?_
      refine b257_26 ?_
      have hD7 : Dd 245 [(.inr (.inr (some 682))), (.inl 1)] σ (.inl (some (.inl 0)), (upS σ 682 0 1)) := by
        refine b245 ?_
        try rw [if_neg (show ¬ ((1 : Int) = 0) by first | omega | (simp [upS, hz]; done) | (simp [upS, hz]; omega))]
        all_goals rfl
      refine ⟨_, _, hD7, ?_⟩
      clear hD7
      refine ⟨(show 0 = 0 ∨ 0 = 1 by first | omega | (simp [upS, hz]; done) | (simp [upS, hz]; omega)), ?_⟩
      all_goals rfl
    refine ⟨_, _, hD8, ?_⟩
    clear hD8
    refine ⟨(show ¬ (0 = 0) → -2147483648 ≤ (16 * a1) ∧ (16 * a1) ≤ 2147483647 by (first | (intros; first | omega | (simp [upS, hz]; done) | (simp [upS, hz]; omega)) | (intros; simp_all [upS, hz]; done) | (intros; simp_all [upS, hz]; omega))), ?_⟩
    refine ⟨(show ¬ (0 = 0) → -2147483648 ≤ ((16 * a1) + a2) ∧ ((16 * a1) + a2) ≤ 2147483647 by (first | (intros; first | omega | (simp [upS, hz]; done) | (simp [upS, hz]; omega)) | (intros; simp_all [upS, hz]; done) | (intros; simp_all [upS, hz]; omega))), ?_⟩
    refine ⟨(show ¬ (0 = 0) → 0 ≤ ((16 * a1) + a2) ∧ ((16 * a1) + a2) < 64 by (first | (intros; first | omega | (simp [upS, hz]; done) | (simp [upS, hz]; omega)) | (intros; simp_all [upS, hz]; done) | (intros; simp_all [upS, hz]; omega))), ?_⟩
    try rw [if_pos (show (0 : Int) = 0 by first | omega | (simp [upS, hz]; done) | (simp [upS, hz]; omega))]
    all_goals rfl
  refine ⟨_, _, _, _, hA, hB, ?_, ?_, ?_, ?_, ?_⟩
  · (first | rfl | (simp [upS, SCR, hz]; done) | (simp [upS, SCR, hz]; omega))
  · first | (intro h9; omega) | (intro _; first | rfl | (simp [upS, SCR, hz]; done) | (simp [upS, SCR, hz]; omega))
  · intro i; first | rfl | (unfold upS SCR; (repeat' split) <;> first | rfl | omega)
  · first | rfl | (unfold upS SCR; (repeat' split) <;> first | rfl | omega)
  · first | rfl | (unfold upS SCR; (repeat' split) <;> first | rfl | omega)
theorem q4_1 {σ : Sg} {a1 : Int} {a2 : Int} (hz : ∀ a i, a < 1000 → σ a i = 0) (h0 : 4 ≤ a1) : ∃ (kx b : Int) (s1 s2 : Sg), Dd 394 [(.inr (.inr (some 0))), (.inl a1), (.inl a2), (.inr (.inr (some 726)))] σ (.inl (some (.inl kx)), s1) ∧ Dd 261 [(.inr (.inr (some 682))), (.inl a1), (.inl a2)] s1 (.inl (some (.inl b)), s2) ∧ s2 682 0 = kx ∧ (kx = 0 → s2 726 0 = b) ∧ (∀ i, s1 SCR i = σ SCR i) ∧ s1 (SCR + 1) 0 = σ (SCR + 1) 0 ∧ s2 (SCR + 1) 0 = σ (SCR + 1) 0 := by
  have hA : Dd 394 [(.inr (.inr (some 0))), (.inl a1), (.inl a2), (.inr (.inr (some 726)))] σ (.inl (some (.inl 1)), σ) := by
    refine b394 ?_
    have hD4 : Dd 176 [(.inr (.inr (some 0))), (.inl a1), (.inl a2)] σ (.inr 0, σ) := by
      refine b176 ?_
      have hD3 : Dd 227 [(.inr (.inr (some 0))), (.inl a1)] σ (.inr 0, σ) := by
        refine b227 ?_
        have hD1 : Dd 145 [(.inr (.inr (some 1))), (.inl a1)] σ (.inl (some (.inr (.inr none))), σ) := by
          refine b145 ?_
          rw [if_pos (show (0 : Int) ≤ a1 by first | omega | (simp [upS, hz]; done) | (simp [upS, hz]; omega))]
          refine ⟨4, (by decide +kernel), (by decide), ?_⟩
          rw [if_neg (show ¬ (a1 < ((4 : Nat) : Int)) by first | omega | (simp [upS, hz]; done) | (simp [upS, hz]; omega))]
          all_goals rfl
        refine ⟨_, _, hD1, ?_⟩
        clear hD1
        refine ⟨fun _ => ?_, fun _ hz2 => (by cases hz2)⟩
        all_goals rfl
      refine Or.inr ⟨_, _, hD3, ?_⟩
      all_goals rfl
    exact Or.inr (⟨_, hD4, rfl⟩)
  have hB : Dd 261 [(.inr (.inr (some 682))), (.inl a1), (.inl a2)] σ (.inl (some (.inl 0)), (upS σ 682 0 1)) := by
    refine b261 ?_
    have hD8 : Dd 257 [(.inr (.inr (some 682))), (.inl a1), (.inl a2)] σ (.inl (some (.inl 0)), (upS σ 682 0 1)) := by
      refine b257 ?_
      have hD6 : Dd 247 [(.inl a1)] σ (.inl (some (.inl 0)), σ) := by
        refine b247 ?_
        have hD5 : Dd 246 [(.inl a1), (.inl 4)] σ (.inl (some (.inl 0)), σ) := by
          refine b246 ?_
          try rw [if_pos (show (0 : Int) ≤ a1 by first | omega | (simp [upS, hz]; done) | (simp [upS, hz]; omega))]
          try rw [if_neg (show ¬ (a1 < 4) by first | omega | (simp [upS, hz]; done) | (simp [upS, hz]; omega))]
          all_goals rfl
        refine ⟨_, _, hD5, ?_⟩
        clear hD5
        refine ⟨(show 0 = 0 ∨ 0 = 1 by first | omega | (simp [upS, hz]; done) | (simp [upS, hz]; omega)), ?_⟩
        all_goals rfl
      refine ⟨_, _, hD6, ?_⟩
      clear hD6
      rw [if_pos (show (0 : Int) = 0 by first | omega | (simp [upS, hz]; done) | (simp [upS, hz]; omega))]
      refine b257_25 ?_
      refine b257_26 ?_
      have hD7 : Dd 245 [(.inr (.inr (some 682))), (.inl 1)] σ (.inl (some (.inl 0)), (upS σ 682 0 1)) := by
        refine b245 ?_
        try rw [if_neg (show ¬ ((1 : Int) = 0) by first | omega | (simp [upS, hz]; done) | (simp [upS, hz]; omega))]
        all_goals rfl
      refine ⟨_, _, hD7, ?_⟩
      clear hD7
      refine ⟨(show 0 = 0 ∨ 0 = 1 by first | omega | (simp [upS, hz]; done) | (simp [upS, hz]; omega)), ?_⟩
      all_goals rfl
    refine ⟨_, _, hD8, ?_⟩
    clear hD8
    refine ⟨(show ¬ (0 = 0) → -2147483648 ≤ (16 * a1) ∧ (16 * a1) ≤ 2147483647 by (first | (intros; first | omega | (simp [upS, hz]; done) | (simp [upS, hz]; omega)) | (intros; simp_all [upS, hz]; done) | (intros; simp_all [upS, hz]; omega))), ?_⟩
    refine ⟨(show ¬ (0 = 0) → -2147483648 ≤ ((16 * a1) + a2) ∧ ((16 * a1) + a2) ≤ 2147483647 by (first | (intros; first | omega | (simp [upS, hz]; done) | (simp [upS, hz]; omega)) | (intros; simp_all [upS, hz]; done) | (intros; simp_all [upS, hz]; omega))), ?_⟩
    refine ⟨(show ¬ (0 = 0) → 0 ≤ ((16 * a1) + a2) ∧ ((16 * a1) + a2) < 64 by (first | (intros; first | omega | (simp [upS, hz]; done) | (simp [upS, hz]; omega)) | (intros; simp_all [upS, hz]; done) | (intros; simp_all [upS, hz]; omega))), ?_⟩
    try rw [if_pos (show (0 : Int) = 0 by first | omega | (simp [upS, hz]; done) | (simp [upS, hz]; omega))]
    all_goals rfl
  refine ⟨_, _, _, _, hA, hB, ?_, ?_, ?_, ?_, ?_⟩
  · (first | rfl | (simp [upS, SCR, hz]; done) | (simp [upS, SCR, hz]; omega))
  · first | (intro h9; omega) | (intro _; first | rfl | (simp [upS, SCR, hz]; done) | (simp [upS, SCR, hz]; omega))
  · intro i; first | rfl | (unfold upS SCR; (repeat' split) <;> first | rfl | omega)
  · first | rfl | (unfold upS SCR; (repeat' split) <;> first | rfl | omega)
  · first | rfl | (unfold upS SCR; (repeat' split) <;> first | rfl | omega)
theorem q4_2 {σ : Sg} {a1 : Int} {a2 : Int} (hz : ∀ a i, a < 1000 → σ a i = 0) (h0 : 0 ≤ a1 ∧ a1 < 4) (h1 : a2 < 0) : ∃ (kx b : Int) (s1 s2 : Sg), Dd 394 [(.inr (.inr (some 0))), (.inl a1), (.inl a2), (.inr (.inr (some 726)))] σ (.inl (some (.inl kx)), s1) ∧ Dd 261 [(.inr (.inr (some 682))), (.inl a1), (.inl a2)] s1 (.inl (some (.inl b)), s2) ∧ s2 682 0 = kx ∧ (kx = 0 → s2 726 0 = b) ∧ (∀ i, s1 SCR i = σ SCR i) ∧ s1 (SCR + 1) 0 = σ (SCR + 1) 0 ∧ s2 (SCR + 1) 0 = σ (SCR + 1) 0 := by
  have za1 : ∀ i, σ (2 + 2 * ((a1)).toNat) i = 0 := fun i => hz _ i (by omega)
  have z1a1 : ∀ i, σ ((2 + 2 * ((a1)).toNat) + 1) i = 0 := fun i => hz _ i (by omega)
  have ca1 : (cap (2 + 2 * ((a1)).toNat) : Int) = 16 := cp_1 (by omega)
  have hA : Dd 394 [(.inr (.inr (some 0))), (.inl a1), (.inl a2), (.inr (.inr (some 726)))] σ (.inl (some (.inl 1)), σ) := by
    refine b394 ?_
    have hD6 : Dd 176 [(.inr (.inr (some 0))), (.inl a1), (.inl a2)] σ (.inr 0, σ) := by
      refine b176 ?_
      have hD3 : Dd 227 [(.inr (.inr (some 0))), (.inl a1)] σ (.inl (some (.inr (.inr (some (2 + 2 * ((a1)).toNat))))), σ) := by
        refine b227 ?_
        have hD1 : Dd 145 [(.inr (.inr (some 1))), (.inl a1)] σ (.inl (some (.inr (.inr (some (2 + 2 * ((a1)).toNat))))), σ) := by
          refine b145 ?_
          rw [if_pos (show (0 : Int) ≤ a1 by first | omega | (simp [upS, hz, za1, z1a1, ca1]; done) | (simp [upS, hz, za1, z1a1, ca1]; omega))]
          refine ⟨4, (by decide +kernel), (by decide), ?_⟩
          rw [if_pos (show a1 < ((4 : Nat) : Int) by first | omega | (simp [upS, hz, za1, z1a1, ca1]; done) | (simp [upS, hz, za1, z1a1, ca1]; omega))]
          refine ⟨(show 0 ≤ a1 by first | omega | (simp [upS, hz, za1, z1a1, ca1]; done) | (simp [upS, hz, za1, z1a1, ca1]; omega)), ?_⟩
          refine ⟨(2 + 2 * ((a1)).toNat), (el_1 (i := (a1)) (by first | omega | (simp [upS, hz, za1, z1a1, ca1]; done) | (simp [upS, hz, za1, z1a1, ca1]; omega))).1, (el_1 (i := (a1)) (by first | omega | (simp [upS, hz, za1, z1a1, ca1]; done) | (simp [upS, hz, za1, z1a1, ca1]; omega))).2, ?_⟩
          all_goals rfl
        refine ⟨_, _, hD1, ?_⟩
        clear hD1
        refine ⟨fun hz2 => (by cases hz2), fun _ hz2 => ?_⟩
        cases hz2
        refine ⟨(el_1 (i := (a1)) (by first | omega | (simp [upS, hz, za1, z1a1, ca1]; done) | (simp [upS, hz, za1, z1a1, ca1]; omega))).2, ?_⟩
        all_goals rfl
      refine Or.inl ⟨_, _, hD3, (el_1 (i := (a1)) (by first | omega | (simp [upS, hz, za1, z1a1, ca1]; done) | (simp [upS, hz, za1, z1a1, ca1]; omega))).2, ?_⟩
      clear hD3
      have hD4 : Dd 146 [(.inr (.inr (some (2 + 2 * ((a1)).toNat))))] σ (.inl (some (.inl 0)), σ) := by
        refine b146 (el_1 (i := (a1)) (by first | omega | (simp [upS, hz, za1, z1a1, ca1]; done) | (simp [upS, hz, za1, z1a1, ca1]; omega))).2 ?_
        rw [show (σ (2 + 2 * ((a1)).toNat) 1) = 0 by (first | omega | (simp [upS, hz, za1, z1a1, ca1]; done) | (simp [upS, hz, za1, z1a1, ca1]; omega))]
        all_goals rfl
      refine ⟨_, _, hD4, ?_⟩
      clear hD4
      have hD5 : Dd 232 [(.inr (.inr (some 0))), (.inl a2), (.inl 0)] σ (.inr 0, σ) := by
        refine b232 ?_
        rw [if_neg (show ¬ ((0 : Int) ≤ a2) by first | omega | (simp [upS, hz, za1, z1a1, ca1]; done) | (simp [upS, hz, za1, z1a1, ca1]; omega))]
        refine b232_9 ?_
        all_goals rfl
      refine Or.inr ⟨_, _, hD5, ?_⟩
      all_goals rfl
    exact Or.inr (⟨_, hD6, rfl⟩)
  have hB : Dd 261 [(.inr (.inr (some 682))), (.inl a1), (.inl a2)] σ (.inl (some (.inl 0)), (upS σ 682 0 1)) := by
    refine b261 ?_
    have hD11 : Dd 257 [(.inr (.inr (some 682))), (.inl a1), (.inl a2)] σ (.inl (some (.inl 0)), (upS σ 682 0 1)) := by
      refine b257 ?_
      have hD8 : Dd 247 [(.inl a1)] σ (.inl (some (.inl 1)), σ) := by
        refine b247 ?_
        have hD7 : Dd 246 [(.inl a1), (.inl 4)] σ (.inl (some (.inl 1)), σ) := by
          refine b246 ?_
          try rw [if_pos (show (0 : Int) ≤ a1 by first | omega | (simp [upS, hz, za1, z1a1, ca1]; done) | (simp [upS, hz, za1, z1a1, ca1]; omega))]
          try rw [if_pos (show a1 < 4 by first | omega | (simp [upS, hz, za1, z1a1, ca1]; done) | (simp [upS, hz, za1, z1a1, ca1]; omega))]
          all_goals rfl
        refine ⟨_, _, hD7, ?_⟩
        clear hD7
        refine ⟨(show 1 = 0 ∨ 1 = 1 by first | omega | (simp [upS, hz, za1, z1a1, ca1]; done) | (simp [upS, hz, za1, z1a1, ca1]; omega)), ?_⟩
        all_goals rfl
      refine ⟨_, _, hD8, ?_⟩
      clear hD8
      rw [if_neg (show ¬ ((1 : Int) = 0) by first | omega | (simp [upS, hz, za1, z1a1, ca1]; done) | (simp [upS, hz, za1, z1a1, ca1]; omega))]
      refine ⟨(show 0 ≤ a1 ∧ a1 < 4 by first | omega | (simp [upS, hz, za1, z1a1, ca1]; done) | (simp [upS, hz, za1, z1a1, ca1]; omega)), ?_⟩
      rw [show (σ 684 (a1).toNat) = 0 by (first | omega | (simp [upS, hz, za1, z1a1, ca1]; done) | (simp [upS, hz, za1, z1a1, ca1]; omega))]
      have hD9 : Dd 246 [(.inl a2), (.inl 0)] σ (.inl (some (.inl 0)), σ) := by
        refine b246 ?_
        try rw [if_neg (show ¬ ((0 : Int) ≤ a2) by first | omega | (simp [upS, hz, za1, z1a1, ca1]; done) | (simp [upS, hz, za1, z1a1, ca1]; omega))]
        all_goals rfl
      refine ⟨_, _, hD9, ?_⟩
      clear hD9
      rw [if_pos (show (0 : Int) = 0 by first | omega | (simp [upS, hz, za1, z1a1, ca1]; done) | (simp [upS, hz, za1, z1a1, ca1]; omega))]
      refine b257_25 ?_
      refine b257_26 ?_
      have hD10 : Dd 245 [(.inr (.inr (some 682))), (.inl 1)] σ (.inl (some (.inl 0)), (upS σ 682 0 1)) := by
        refine b245 ?_
        try rw [if_neg (show ¬ ((1 : Int) = 0) by first | omega | (simp [upS, hz, za1, z1a1, ca1]; done) | (simp [upS, hz, za1, z1a1, ca1]; omega))]
        all_goals rfl
      refine ⟨_, _, hD10, ?_⟩
      clear hD10
      refine ⟨(show 0 = 0 ∨ 0 = 1 by first | omega | (simp [upS, hz, za1, z1a1, ca1]; done) | (simp [upS, hz, za1, z1a1, ca1]; omega)), ?_⟩
      all_goals rfl
    refine ⟨_, _, hD11, ?_⟩
    clear hD11
    refine ⟨(show ¬ (0 = 0) → -2147483648 ≤ (16 * a1) ∧ (16 * a1) ≤ 2147483647 by (first | (intros; first | omega | (simp [upS, hz, za1, z1a1, ca1]; done) | (simp [upS, hz, za1, z1a1, ca1]; omega)) | (intros; simp_all [upS, hz, za1, z1a1, ca1]; done) | (intros; simp_all [upS, hz, za1, z1a1, ca1]; omega))), ?_⟩
    refine ⟨(show ¬ (0 = 0) → -2147483648 ≤ ((16 * a1) + a2) ∧ ((16 * a1) + a2) ≤ 2147483647 by (first | (intros; first | omega | (simp [upS, hz, za1, z1a1, ca1]; done) | (simp [upS, hz, za1, z1a1, ca1]; omega)) | (intros; simp_all [upS, hz, za1, z1a1, ca1]; done) | (intros; simp_all [upS, hz, za1, z1a1, ca1]; omega))), ?_⟩
    refine ⟨(show ¬ (0 = 0) → 0 ≤ ((16 * a1) + a2) ∧ ((16 * a1) + a2) < 64 by (first | (intros; first | omega | (simp [upS, hz, za1, z1a1, ca1]; done) | (simp [upS, hz, za1, z1a1, ca1]; omega)) | (intros; simp_all [upS, hz, za1, z1a1, ca1]; done) | (intros; simp_all [upS, hz, za1, z1a1, ca1]; omega))), ?_⟩
    try rw [if_pos (show (0 : Int) = 0 by first | omega | (simp [upS, hz, za1, z1a1, ca1]; done) | (simp [upS, hz, za1, z1a1, ca1]; omega))]
    all_goals rfl
  refine ⟨_, _, _, _, hA, hB, ?_, ?_, ?_, ?_, ?_⟩
  · (first | rfl | (simp [upS, SCR, hz, za1, z1a1, ca1]; done) | (simp [upS, SCR, hz, za1, z1a1, ca1]; omega))
  · first | (intro h9; omega) | (intro _; first | rfl | (simp [upS, SCR, hz, za1, z1a1, ca1]; done) | (simp [upS, SCR, hz, za1, z1a1, ca1]; omega))
  · intro i; first | rfl | (unfold upS SCR; (repeat' split) <;> first | rfl | omega)
  · first | rfl | (unfold upS SCR; (repeat' split) <;> first | rfl | omega)
  · first | rfl | (unfold upS SCR; (repeat' split) <;> first | rfl | omega)
theorem q4_3 {σ : Sg} {a1 : Int} {a2 : Int} (hz : ∀ a i, a < 1000 → σ a i = 0) (h0 : 0 ≤ a1 ∧ a1 < 4) (h1 : 0 ≤ a2) : ∃ (kx b : Int) (s1 s2 : Sg), Dd 394 [(.inr (.inr (some 0))), (.inl a1), (.inl a2), (.inr (.inr (some 726)))] σ (.inl (some (.inl kx)), s1) ∧ Dd 261 [(.inr (.inr (some 682))), (.inl a1), (.inl a2)] s1 (.inl (some (.inl b)), s2) ∧ s2 682 0 = kx ∧ (kx = 0 → s2 726 0 = b) ∧ (∀ i, s1 SCR i = σ SCR i) ∧ s1 (SCR + 1) 0 = σ (SCR + 1) 0 ∧ s2 (SCR + 1) 0 = σ (SCR + 1) 0 := by
  have za1 : ∀ i, σ (2 + 2 * ((a1)).toNat) i = 0 := fun i => hz _ i (by omega)
  have z1a1 : ∀ i, σ ((2 + 2 * ((a1)).toNat) + 1) i = 0 := fun i => hz _ i (by omega)
  have ca1 : (cap (2 + 2 * ((a1)).toNat) : Int) = 16 := cp_1 (by omega)
  have hA : Dd 394 [(.inr (.inr (some 0))), (.inl a1), (.inl a2), (.inr (.inr (some 726)))] σ (.inl (some (.inl 1)), σ) := by
    refine b394 ?_
    have hD6 : Dd 176 [(.inr (.inr (some 0))), (.inl a1), (.inl a2)] σ (.inr 0, σ) := by
      refine b176 ?_
      have hD3 : Dd 227 [(.inr (.inr (some 0))), (.inl a1)] σ (.inl (some (.inr (.inr (some (2 + 2 * ((a1)).toNat))))), σ) := by
        refine b227 ?_
        have hD1 : Dd 145 [(.inr (.inr (some 1))), (.inl a1)] σ (.inl (some (.inr (.inr (some (2 + 2 * ((a1)).toNat))))), σ) := by
          refine b145 ?_
          rw [if_pos (show (0 : Int) ≤ a1 by first | omega | (simp [upS, hz, za1, z1a1, ca1]; done) | (simp [upS, hz, za1, z1a1, ca1]; omega))]
          refine ⟨4, (by decide +kernel), (by decide), ?_⟩
          rw [if_pos (show a1 < ((4 : Nat) : Int) by first | omega | (simp [upS, hz, za1, z1a1, ca1]; done) | (simp [upS, hz, za1, z1a1, ca1]; omega))]
          refine ⟨(show 0 ≤ a1 by first | omega | (simp [upS, hz, za1, z1a1, ca1]; done) | (simp [upS, hz, za1, z1a1, ca1]; omega)), ?_⟩
          refine ⟨(2 + 2 * ((a1)).toNat), (el_1 (i := (a1)) (by first | omega | (simp [upS, hz, za1, z1a1, ca1]; done) | (simp [upS, hz, za1, z1a1, ca1]; omega))).1, (el_1 (i := (a1)) (by first | omega | (simp [upS, hz, za1, z1a1, ca1]; done) | (simp [upS, hz, za1, z1a1, ca1]; omega))).2, ?_⟩
          all_goals rfl
        refine ⟨_, _, hD1, ?_⟩
        clear hD1
        refine ⟨fun hz2 => (by cases hz2), fun _ hz2 => ?_⟩
        cases hz2
        refine ⟨(el_1 (i := (a1)) (by first | omega | (simp [upS, hz, za1, z1a1, ca1]; done) | (simp [upS, hz, za1, z1a1, ca1]; omega))).2, ?_⟩
        all_goals rfl
      refine Or.inl ⟨_, _, hD3, (el_1 (i := (a1)) (by first | omega | (simp [upS, hz, za1, z1a1, ca1]; done) | (simp [upS, hz, za1, z1a1, ca1]; omega))).2, ?_⟩
      clear hD3
      have hD4 : Dd 146 [(.inr (.inr (some (2 + 2 * ((a1)).toNat))))] σ (.inl (some (.inl 0)), σ) := by
        refine b146 (el_1 (i := (a1)) (by first | omega | (simp [upS, hz, za1, z1a1, ca1]; done) | (simp [upS, hz, za1, z1a1, ca1]; omega))).2 ?_
        rw [show (σ (2 + 2 * ((a1)).toNat) 1) = 0 by (first | omega | (simp [upS, hz, za1, z1a1, ca1]; done) | (simp [upS, hz, za1, z1a1, ca1]; omega))]
        all_goals rfl
      refine ⟨_, _, hD4, ?_⟩
      clear hD4
      have hD5 : Dd 232 [(.inr (.inr (some 0))), (.inl a2), (.inl 0)] σ (.inr 0, σ) := by
        refine b232 ?_
        rw [if_pos (show (0 : Int) ≤ a2 by first | omega | (simp [upS, hz, za1, z1a1, ca1]; done) | (simp [upS, hz, za1, z1a1, ca1]; omega))]
        rw [if_pos (show (0 : Int) ≤ a2 by first | omega | (simp [upS, hz, za1, z1a1, ca1]; done) | (simp [upS, hz, za1, z1a1, ca1]; omega))]
        refine b232_9 ?_
        all_goals rfl
      refine Or.inr ⟨_, _, hD5, ?_⟩
      all_goals rfl
    exact Or.inr (⟨_, hD6, rfl⟩)
  have hB : Dd 261 [(.inr (.inr (some 682))), (.inl a1), (.inl a2)] σ (.inl (some (.inl 0)), (upS σ 682 0 1)) := by
    refine b261 ?_
    have hD11 : Dd 257 [(.inr (.inr (some 682))), (.inl a1), (.inl a2)] σ (.inl (some (.inl 0)), (upS σ 682 0 1)) := by
      refine b257 ?_
      have hD8 : Dd 247 [(.inl a1)] σ (.inl (some (.inl 1)), σ) := by
        refine b247 ?_
        have hD7 : Dd 246 [(.inl a1), (.inl 4)] σ (.inl (some (.inl 1)), σ) := by
          refine b246 ?_
          try rw [if_pos (show (0 : Int) ≤ a1 by first | omega | (simp [upS, hz, za1, z1a1, ca1]; done) | (simp [upS, hz, za1, z1a1, ca1]; omega))]
          try rw [if_pos (show a1 < 4 by first | omega | (simp [upS, hz, za1, z1a1, ca1]; done) | (simp [upS, hz, za1, z1a1, ca1]; omega))]
          all_goals rfl
        refine ⟨_, _, hD7, ?_⟩
        clear hD7
        refine ⟨(show 1 = 0 ∨ 1 = 1 by first | omega | (simp [upS, hz, za1, z1a1, ca1]; done) | (simp [upS, hz, za1, z1a1, ca1]; omega)), ?_⟩
        all_goals rfl
      refine ⟨_, _, hD8, ?_⟩
      clear hD8
      rw [if_neg (show ¬ ((1 : Int) = 0) by first | omega | (simp [upS, hz, za1, z1a1, ca1]; done) | (simp [upS, hz, za1, z1a1, ca1]; omega))]
      refine ⟨(show 0 ≤ a1 ∧ a1 < 4 by first | omega | (simp [upS, hz, za1, z1a1, ca1]; done) | (simp [upS, hz, za1, z1a1, ca1]; omega)), ?_⟩
      rw [show (σ 684 (a1).toNat) = 0 by (first | omega | (simp [upS, hz, za1, z1a1, ca1]; done) | (simp [upS, hz, za1, z1a1, ca1]; omega))]
      have hD9 : Dd 246 [(.inl a2), (.inl 0)] σ (.inl (some (.inl 0)), σ) := by
        refine b246 ?_
        try rw [if_pos (show (0 : Int) ≤ a2 by first | omega | (simp [upS, hz, za1, z1a1, ca1]; done) | (simp [upS, hz, za1, z1a1, ca1]; omega))]
        try rw [if_neg (show ¬ (a2 < 0) by first | omega | (simp [upS, hz, za1, z1a1, ca1]; done) | (simp [upS, hz, za1, z1a1, ca1]; omega))]
        all_goals rfl
      refine ⟨_, _, hD9, ?_⟩
      clear hD9
      rw [if_pos (show (0 : Int) = 0 by first | omega | (simp [upS, hz, za1, z1a1, ca1]; done) | (simp [upS, hz, za1, z1a1, ca1]; omega))]
      refine b257_25 ?_
      refine b257_26 ?_
      have hD10 : Dd 245 [(.inr (.inr (some 682))), (.inl 1)] σ (.inl (some (.inl 0)), (upS σ 682 0 1)) := by
        refine b245 ?_
        try rw [if_neg (show ¬ ((1 : Int) = 0) by first | omega | (simp [upS, hz, za1, z1a1, ca1]; done) | (simp [upS, hz, za1, z1a1, ca1]; omega))]
        all_goals rfl
      refine ⟨_, _, hD10, ?_⟩
      clear hD10
      refine ⟨(show 0 = 0 ∨ 0 = 1 by first | omega | (simp [upS, hz, za1, z1a1, ca1]; done) | (simp [upS, hz, za1, z1a1, ca1]; omega)), ?_⟩
      all_goals rfl
    refine ⟨_, _, hD11, ?_⟩
    clear hD11
    refine ⟨(show ¬ (0 = 0) → -2147483648 ≤ (16 * a1) ∧ (16 * a1) ≤ 2147483647 by (first | (intros; first | omega | (simp [upS, hz, za1, z1a1, ca1]; done) | (simp [upS, hz, za1, z1a1, ca1]; omega)) | (intros; simp_all [upS, hz, za1, z1a1, ca1]; done) | (intros; simp_all [upS, hz, za1, z1a1, ca1]; omega))), ?_⟩
    refine ⟨(show ¬ (0 = 0) → -2147483648 ≤ ((16 * a1) + a2) ∧ ((16 * a1) + a2) ≤ 2147483647 by (first | (intros; first | omega | (simp [upS, hz, za1, z1a1, ca1]; done) | (simp [upS, hz, za1, z1a1, ca1]; omega)) | (intros; simp_all [upS, hz, za1, z1a1, ca1]; done) | (intros; simp_all [upS, hz, za1, z1a1, ca1]; omega))), ?_⟩
    refine ⟨(show ¬ (0 = 0) → 0 ≤ ((16 * a1) + a2) ∧ ((16 * a1) + a2) < 64 by (first | (intros; first | omega | (simp [upS, hz, za1, z1a1, ca1]; done) | (simp [upS, hz, za1, z1a1, ca1]; omega)) | (intros; simp_all [upS, hz, za1, z1a1, ca1]; done) | (intros; simp_all [upS, hz, za1, z1a1, ca1]; omega))), ?_⟩
    try rw [if_pos (show (0 : Int) = 0 by first | omega | (simp [upS, hz, za1, z1a1, ca1]; done) | (simp [upS, hz, za1, z1a1, ca1]; omega))]
    all_goals rfl
  refine ⟨_, _, _, _, hA, hB, ?_, ?_, ?_, ?_, ?_⟩
  · (first | rfl | (simp [upS, SCR, hz, za1, z1a1, ca1]; done) | (simp [upS, SCR, hz, za1, z1a1, ca1]; omega))
  · first | (intro h9; omega) | (intro _; first | rfl | (simp [upS, SCR, hz, za1, z1a1, ca1]; done) | (simp [upS, SCR, hz, za1, z1a1, ca1]; omega))
  · intro i; first | rfl | (unfold upS SCR; (repeat' split) <;> first | rfl | omega)
  · first | rfl | (unfold upS SCR; (repeat' split) <;> first | rfl | omega)
  · first | rfl | (unfold upS SCR; (repeat' split) <;> first | rfl | omega)
theorem q6_0 {σ : Sg} {a1 : Int} {a2 : Int} {a3 : Int} {a4 : Int} (hz : ∀ a i, a < 1000 → σ a i = 0) (h0 : a1 < 0) : ∃ (kx b : Int) (s1 s2 : Sg), Dd 396 [(.inr (.inr (some 0))), (.inl a1), (.inl a2), (.inl a3), (.inl a4), (.inr (.inr (some 726)))] σ (.inl (some (.inl kx)), s1) ∧ Dd 277 [(.inr (.inr (some 682))), (.inl a1), (.inl a2), (.inl a3), (.inl a4)] s1 (.inl (some (.inl b)), s2) ∧ s2 682 0 = kx ∧ (kx = 0 → s2 726 0 = b) ∧ (∀ i, s1 SCR i = σ SCR i) ∧ s1 (SCR + 1) 0 = σ (SCR + 1) 0 ∧ s2 (SCR + 1) 0 = σ (SCR + 1) 0 := by
  have hA : Dd 396 [(.inr (.inr (some 0))), (.inl a1), (.inl a2), (.inl a3), (.inl a4), (.inr (.inr (some 726)))] σ (.inl (some (.inl 1)), σ) := by
    refine b396 ?_
    have hD4 : Dd 178 [(.inr (.inr (some 0))), (.inl a1), (.inl a2), (.inl a3), (.inl a4)] σ (.inr 0, σ) := by
      refine b178 ?_
      have hD3 : Dd 227 [(.inr (.inr (some 0))), (.inl a1)] σ (.inr 0, σ) := by
        refine b227 ?_
        have hD1 : Dd 145 [(.inr (.inr (some 1))), (.inl a1)] σ (.inl (some (.inr (.inr none))), σ) := by
          refine b145 ?_
          rw [if_neg (show ¬ ((0 : Int) ≤ a1) by first | omega | (simp [upS, hz]; done) | (simp [upS, hz]; omega))]
          all_goals rfl
        refine ⟨_, _, hD1, ?_⟩
        clear hD1
        refine ⟨fun _ => ?_, fun _ hz2 => (by cases hz2)⟩
        all_goals rfl
      refine Or.inr ⟨_, _, hD3, ?_⟩
      all_goals rfl
    exact Or.inr (Or.inl ⟨_, hD4, rfl⟩)
  have hB : Dd 277 [(.inr (.inr (some 682))), (.inl a1), (.inl a2), (.inl a3), (.inl a4)] σ (.inl (some (.inl 0)), (upS σ 682 0 1)) := by
    refine b277 ?_
    have hD6 : Dd 247 [(.inl a1)] σ (.inl (some (.inl 0)), σ) := by
      refine b247 ?_
      have hD5 : Dd 246 [(.inl a1), (.inl 4)] σ (.inl (some (.inl 0)), σ) := by
        refine b246 ?_
        try rw [if_neg (show ¬ ((0 : Int) ≤ a1) by first | omega | (simp [upS, hz]; done) | (simp [upS, hz]; omega))]
        all_goals rfl
      refine ⟨_, _, hD5, ?_⟩
      clear hD5
      refine ⟨(show 0 = 0 ∨ 0 = 1 by first | omega | (simp [upS, hz]; done) | (simp [upS, hz]; omega)), ?_⟩
      all_goals rfl
    refine ⟨_, _, hD6, ?_⟩
    clear hD6
    rw [if_pos (show (0 : Int) = 0 by first | omega | (simp [upS, hz]; done) | (simp [upS, hz]; omega))]
    refine b277_32 ?_
    refine b277_33 ?_
    rw [if_pos (show (0 : Int) = 0 by first | omega | (simp [upS, hz]; done) | (simp [upS, hz]; omega))]
    refine b277_57 ?_
    have hD7 : Dd 245 [(.inr (.inr (some 682))), (.inl 1)] σ (.inl (some (.inl 0)), (upS σ 682 0 1)) := by
      refine b245 ?_
      try rw [if_neg (show ¬ ((1 : Int) = 0) by first | omega | (simp [upS, hz]; done) | (simp [upS, hz]; omega))]
      all_goals rfl
    refine ⟨_, _, hD7, ?_⟩
    clear hD7
    rw [if_pos (show (0 : Int) = 0 by first | omega | (simp [upS, hz]; done) | (simp [upS, hz]; omega))]
    all_goals rfl
  refine ⟨_, _, _, _, hA, hB, ?_, ?_, ?_, ?_, ?_⟩
  · (first | rfl | (simp [upS, SCR, hz]; done) | (simp [upS, SCR, hz]; omega))
  · first | (intro h9; omega) | (intro _; first | rfl | (simp [upS, SCR, hz]; done) | (simp [upS, SCR, hz]; omega))
  · intro i; first | rfl | (unfold upS SCR; (repeat' split) <;> first | rfl | omega)
  · first | rfl | (unfold upS SCR; (repeat' split) <;> first | rfl | omega)
  · first | rfl | (unfold upS SCR; (repeat' split) <;> first | rfl | omega)
theorem q6_1 {σ : Sg} {a1 : Int} {a2 : Int} {a3 : Int} {a4 : Int} (hz : ∀ a i, a < 1000 → σ a i = 0) (h0 : 4 ≤ a1) : ∃ (kx b : Int) (s1 s2 : Sg), Dd 396 [(.inr (.inr (some 0))), (.inl a1), (.inl a2), (.inl a3), (.inl a4), (.inr (.inr (some 726)))] σ (.inl (some (.inl kx)), s1) ∧ Dd 277 [(.inr (.inr (some 682))), (.inl a1), (.inl a2), (.inl a3), (.inl a4)] s1 (.inl (some (.inl b)), s2) ∧ s2 682 0 = kx ∧ (kx = 0 → s2 726 0 = b) ∧ (∀ i, s1 SCR i = σ SCR i) ∧ s1 (SCR + 1) 0 = σ (SCR + 1) 0 ∧ s2 (SCR + 1) 0 = σ (SCR + 1) 0 := by
  have hA : Dd 396 [(.inr (.inr (some 0))), (.inl a1), (.inl a2), (.inl a3), (.inl a4), (.inr (.inr (some 726)))] σ (.inl (some (.inl 1)), σ) := by
    refine b396 ?_
    have hD4 : Dd 178 [(.inr (.inr (some 0))), (.inl a1), (.inl a2), (.inl a3), (.inl a4)] σ (.inr 0, σ) := by
      refine b178 ?_
      have hD3 : Dd 227 [(.inr (.inr (some 0))), (.inl a1)] σ (.inr 0, σ) := by
        refine b227 ?_
        have hD1 : Dd 145 [(.inr (.inr (some 1))), (.inl a1)] σ (.inl (some (.inr (.inr none))), σ) := by
          refine b145 ?_
          rw [if_pos (show (0 : Int) ≤ a1 by first | omega | (simp [upS, hz]; done) | (simp [upS, hz]; omega))]
          refine ⟨4, (by decide +kernel), (by decide), ?_⟩
          rw [if_neg (show ¬ (a1 < ((4 : Nat) : Int)) by first | omega | (simp [upS, hz]; done) | (simp [upS, hz]; omega))]
          all_goals rfl
        refine ⟨_, _, hD1, ?_⟩
        clear hD1
        refine ⟨fun _ => ?_, fun _ hz2 => (by cases hz2)⟩
        all_goals rfl
      refine Or.inr ⟨_, _, hD3, ?_⟩
      all_goals rfl
    exact Or.inr (Or.inl ⟨_, hD4, rfl⟩)
  have hB : Dd 277 [(.inr (.inr (some 682))), (.inl a1), (.inl a2), (.inl a3), (.inl a4)] σ (.inl (some (.inl 0)), (upS σ 682 0 1)) := by
    refine b277 ?_
    have hD6 : Dd 247 [(.inl a1)] σ (.inl (some (.inl 0)), σ) := by
      refine b247 ?_
      have hD5 : Dd 246 [(.inl a1), (.inl 4)] σ (.inl (some (.inl 0)), σ) := by
        refine b246 ?_
        try rw [if_pos (show (0 : Int) ≤ a1 by first | omega | (simp [upS, hz]; done) | (simp [upS, hz]; omega))]
        try rw [if_neg (show ¬ (a1 < 4) by first | omega | (simp [upS, hz]; done) | (simp [upS, hz]; omega))]
        all_goals rfl
      refine ⟨_, _, hD5, ?_⟩
      clear hD5
      refine ⟨(show 0 = 0 ∨ 0 = 1 by first | omega | (simp [upS, hz]; done) | (simp [upS, hz]; omega)), ?_⟩
      all_goals rfl
    refine ⟨_, _, hD6, ?_⟩
    clear hD6
    rw [if_pos (show (0 : Int) = 0 by first | omega | (simp [upS, hz]; done) | (simp [upS, hz]; omega))]
    refine b277_32 ?_
    refine b277_33 ?_
    rw [if_pos (show (0 : Int) = 0 by first | omega | (simp [upS, hz]; done) | (simp [upS, hz]; omega))]
    refine b277_57 ?_
    have hD7 : Dd 245 [(.inr (.inr (some 682))), (.inl 1)] σ (.inl (some (.inl 0)), (upS σ 682 0 1)) := by
      refine b245 ?_
      try rw [if_neg (show ¬ ((1 : Int) = 0) by first | omega | (simp [upS, hz]; done) | (simp [upS, hz]; omega))]
      all_goals rfl
    refine ⟨_, _, hD7, ?_⟩
    clear hD7
    rw [if_pos (show (0 : Int) = 0 by first | omega | (simp [upS, hz]; done) | (simp [upS, hz]; omega))]
    all_goals rfl
  refine ⟨_, _, _, _, hA, hB, ?_, ?_, ?_, ?_, ?_⟩
  · (first | rfl | (simp [upS, SCR, hz]; done) | (simp [upS, SCR, hz]; omega))
  · first | (intro h9; omega) | (intro _; first | rfl | (simp [upS, SCR, hz]; done) | (simp [upS, SCR, hz]; omega))
  · intro i; first | rfl | (unfold upS SCR; (repeat' split) <;> first | rfl | omega)
  · first | rfl | (unfold upS SCR; (repeat' split) <;> first | rfl | omega)
  · first | rfl | (unfold upS SCR; (repeat' split) <;> first | rfl | omega)
theorem q6_2 {σ : Sg} {a1 : Int} {a2 : Int} {a3 : Int} {a4 : Int} (hz : ∀ a i, a < 1000 → σ a i = 0) (h0 : 0 ≤ a1 ∧ a1 < 4) (h1 : a2 < 0) : ∃ (kx b : Int) (s1 s2 : Sg), Dd 396 [(.inr (.inr (some 0))), (.inl a1), (.inl a2), (.inl a3), (.inl a4), (.inr (.inr (some 726)))] σ (.inl (some (.inl kx)), s1) ∧ Dd 277 [(.inr (.inr (some 682))), (.inl a1), (.inl a2), (.inl a3), (.inl a4)] s1 (.inl (some (.inl b)), s2) ∧ s2 682 0 = kx ∧ (kx = 0 → s2 726 0 = b) ∧ (∀ i, s1 SCR i = σ SCR i) ∧ s1 (SCR + 1) 0 = σ (SCR + 1) 0 ∧ s2 (SCR + 1) 0 = σ (SCR + 1) 0 := by
  have za1 : ∀ i, σ (2 + 2 * ((a1)).toNat) i = 0 := fun i => hz _ i (by omega)
  have z1a1 : ∀ i, σ ((2 + 2 * ((a1)).toNat) + 1) i = 0 := fun i => hz _ i (by omega)
  have ca1 : (cap (2 + 2 * ((a1)).toNat) : Int) = 16 := cp_1 (by omega)
  have hA : Dd 396 [(.inr (.inr (some 0))), (.inl a1), (.inl a2), (.inl a3), (.inl a4), (.inr (.inr (some 726)))] σ (.inl (some (.inl 1)), σ) := by
    refine b396 ?_
    have hD7 : Dd 178 [(.inr (.inr (some 0))), (.inl a1), (.inl a2), (.inl a3), (.inl a4)] σ (.inr 0, σ) := by
      refine b178 ?_
      have hD3 : Dd 227 [(.inr (.inr (some 0))), (.inl a1)] σ (.inl (some (.inr (.inr (some (2 + 2 * ((a1)).toNat))))), σ) := by
        refine b227 ?_
        have hD1 : Dd 145 [(.inr (.inr (some 1))), (.inl a1)] σ (.inl (some (.inr (.inr (some (2 + 2 * ((a1)).toNat))))), σ) := by
          refine b145 ?_
          rw [if_pos (show (0 : Int) ≤ a1 by first | omega | (simp [upS, hz, za1, z1a1, ca1]; done) | (simp [upS, hz, za1, z1a1, ca1]; omega))]
          refine ⟨4, (by decide +kernel), (by decide), ?_⟩
          rw [if_pos (show a1 < ((4 : Nat) : Int) by first | omega | (simp [upS, hz, za1, z1a1, ca1]; done) | (simp [upS, hz, za1, z1a1, ca1]; omega))]
          refine ⟨(show 0 ≤ a1 by first | omega | (simp [upS, hz, za1, z1a1, ca1]; done) | (simp [upS, hz, za1, z1a1, ca1]; omega)), ?_⟩
          refine ⟨(2 + 2 * ((a1)).toNat), (el_1 (i := (a1)) (by first | omega | (simp [upS, hz, za1, z1a1, ca1]; done) | (simp [upS, hz, za1, z1a1, ca1]; omega))).1, (el_1 (i := (a1)) (by first | omega | (simp [upS, hz, za1, z1a1, ca1]; done) | (simp [upS, hz, za1, z1a1, ca1]; omega))).2, ?_⟩
          all_goals rfl
        refine ⟨_, _, hD1, ?_⟩
        clear hD1
        refine ⟨fun hz2 => (by cases hz2), fun _ hz2 => ?_⟩
        cases hz2
        refine ⟨(el_1 (i := (a1)) (by first | omega | (simp [upS, hz, za1, z1a1, ca1]; done) | (simp [upS, hz, za1, z1a1, ca1]; omega))).2, ?_⟩
        all_goals rfl
      refine Or.inl ⟨_, _, hD3, (el_1 (i := (a1)) (by first | omega | (simp [upS, hz, za1, z1a1, ca1]; done) | (simp [upS, hz, za1, z1a1, ca1]; omega))).2, ?_⟩
      clear hD3
      have hD6 : Dd 227 [(.inr (.inr (some 0))), (.inl a2)] σ (.inr 0, σ) := by
        refine b227 ?_
        have hD4 : Dd 145 [(.inr (.inr (some 1))), (.inl a2)] σ (.inl (some (.inr (.inr none))), σ) := by
          refine b145 ?_
          rw [if_neg (show ¬ ((0 : Int) ≤ a2) by first | omega | (simp [upS, hz, za1, z1a1, ca1]; done) | (simp [upS, hz, za1, z1a1, ca1]; omega))]
          all_goals rfl
        refine ⟨_, _, hD4, ?_⟩
        clear hD4
        refine ⟨fun _ => ?_, fun _ hz5 => (by cases hz5)⟩
        all_goals rfl
      refine Or.inr ⟨_, _, hD6, ?_⟩
      all_goals rfl
    exact Or.inr (Or.inl ⟨_, hD7, rfl⟩)
  have hB : Dd 277 [(.inr (.inr (some 682))), (.inl a1), (.inl a2), (.inl a3), (.inl a4)] σ (.inl (some (.inl 0)), (upS σ 682 0 1)) := by
    refine b277 ?_
    have hD9 : Dd 247 [(.inl a1)] σ (.inl (some (.inl 1)), σ) := by
      refine b247 ?_
      have hD8 : Dd 246 [(.inl a1), (.inl 4)] σ (.inl (some (.inl 1)), σ) := by
        refine b246 ?_
        try rw [if_pos (show (0 : Int) ≤ a1 by first | omega | (simp [upS, hz, za1, z1a1, ca1]; done) | (simp [upS, hz, za1, z1a1, ca1]; omega))]
        try rw [if_pos (show a1 < 4 by first | omega | (simp [upS, hz, za1, z1a1, ca1]; done) | (simp [upS, hz, za1, z1a1, ca1]; omega))]
        all_goals rfl
      refine ⟨_, _, hD8, ?_⟩
      clear hD8
      refine ⟨(show 1 = 0 ∨ 1 = 1 by first | omega | (simp [upS, hz, za1, z1a1, ca1]; done) | (simp [upS, hz, za1, z1a1, ca1]; omega)), ?_⟩
      all_goals rfl
    refine ⟨_, _, hD9, ?_⟩
    clear hD9
    rw [if_neg (show ¬ ((1 : Int) = 0) by first | omega | (simp [upS, hz, za1, z1a1, ca1]; done) | (simp [upS, hz, za1, z1a1, ca1]; omega))]
    have hD11 : Dd 247 [(.inl a2)] σ (.inl (some (.inl 0)), σ) := by
      refine b247 ?_
      have hD10 : Dd 246 [(.inl a2), (.inl 4)] σ (.inl (some (.inl 0)), σ) := by
        refine b246 ?_
        try rw [if_neg (show ¬ ((0 : Int) ≤ a2) by first | omega | (simp [upS, hz, za1, z1a1, ca1]; done) | (simp [upS, hz, za1, z1a1, ca1]; omega))]
        all_goals rfl
      refine ⟨_, _, hD10, ?_⟩
      clear hD10
      refine ⟨(show 0 = 0 ∨ 0 = 1 by first | omega | (simp [upS, hz, za1, z1a1, ca1]; done) | (simp [upS, hz, za1, z1a1, ca1]; omega)), ?_⟩
      all_goals rfl
    refine ⟨_, _, hD11, ?_⟩
    clear hD11
    rw [if_pos (show (0 : Int) = 0 by first | omega | (simp [upS, hz, za1, z1a1, ca1]; done) | (simp [upS, hz, za1, z1a1, ca1]; omega))]
    refine b277_32 ?_
    refine b277_33 ?_
    rw [if_pos (show (0 : Int) = 0 by first | omega | (simp [upS, hz, za1, z1a1, ca1]; done) | (simp [upS, hz, za1, z1a1, ca1]; omega))]
    refine b277_57 ?_
    have hD12 : Dd 245 [(.inr (.inr (some 682))), (.inl 1)] σ (.inl (some (.inl 0)), (upS σ 682 0 1)) := by
      refine b245 ?_
      try rw [if_neg (show ¬ ((1 : Int) = 0) by first | omega | (simp [upS, hz, za1, z1a1, ca1]; done) | (simp [upS, hz, za1, z1a1, ca1]; omega))]
      all_goals rfl
    refine ⟨_, _, hD12, ?_⟩
    clear hD12
    rw [if_pos (show (0 : Int) = 0 by first | omega | (simp [upS, hz, za1, z1a1, ca1]; done) | (simp [upS, hz, za1, z1a1, ca1]; omega))]
    all_goals rfl
  refine ⟨_, _, _, _, hA, hB, ?_, ?_, ?_, ?_, ?_⟩
  · (first | rfl | (simp [upS, SCR, hz, za1, z1a1, ca1]; done) | (simp [upS, SCR, hz, za1, z1a1, ca1]; omega))
  · first | (intro h9; omega) | (intro _; first | rfl | (simp [upS, SCR, hz, za1, z1a1, ca1]; done) | (simp [upS, SCR, hz, za1, z1a1, ca1]; omega))
  · intro i; first | rfl | (unfold upS SCR; (repeat' split) <;> first | rfl | omega)
  · first | rfl | (unfold upS SCR; (repeat' split) <;> first | rfl | omega)
  · first | rfl | (unfold upS SCR; (repeat' split) <;> first | rfl | omega)
theorem q6_3 {σ : Sg} {a1 : Int} {a2 : Int} {a3 : Int} {a4 : Int} (hz : ∀ a i, a < 1000 → σ a i = 0) (h0 : 0 ≤ a1 ∧ a1 < 4) (h1 : 4 ≤ a2) : ∃ (kx b : Int) (s1 s2 : Sg), Dd 396 [(.inr (.inr (some 0))), (.inl a1), (.inl a2), (.inl a3), (.inl a4), (.inr (.inr (some 726)))] σ (.inl (some (.inl kx)), s1) ∧ Dd 277 [(.inr (.inr (some 682))), (.inl a1), (.inl a2), (.inl a3), (.inl a4)] s1 (.inl (some (.inl b)), s2) ∧ s2 682 0 = kx ∧ (kx = 0 → s2 726 0 = b) ∧ (∀ i, s1 SCR i = σ SCR i) ∧ s1 (SCR + 1) 0 = σ (SCR + 1) 0 ∧ s2 (SCR + 1) 0 = σ (SCR + 1) 0 := by
  have za1 : ∀ i, σ (2 + 2 * ((a1)).toNat) i = 0 := fun i => hz _ i (by omega)
  have z1a1 : ∀ i, σ ((2 + 2 * ((a1)).toNat) + 1) i = 0 := fun i => hz _ i (by omega)
  have ca1 : (cap (2 + 2 * ((a1)).toNat) : Int) = 16 := cp_1 (by omega)
  have hA : Dd 396 [(.inr (.inr (some 0))), (.inl a1), (.inl a2), (.inl a3), (.inl a4), (.inr (.inr (some 726)))] σ (.inl (some (.inl 1)), σ) := by
    refine b396 ?_
    have hD7 : Dd 178 [(.inr (.inr (some 0))), (.inl a1), (.inl a2), (.inl a3), (.inl a4)] σ (.inr 0, σ) := by
      refine b178 ?_
      have hD3 : Dd 227 [(.inr (.inr (some 0))), (.inl a1)] σ (.inl (some (.inr (.inr (some (2 + 2 * ((a1)).toNat))))), σ) := by
        refine b227 ?_
        have hD1 : Dd 145 [(.inr (.inr (some 1))), (.inl a1)] σ (.inl (some (.inr (.inr (some (2 + 2 * ((a1)).toNat))))), σ) := by
          refine b145 ?_
          rw [if_pos (show (0 : Int) ≤ a1 by first | omega | (simp [upS, hz, za1, z1a1, ca1]; done) | (simp [upS, hz, za1, z1a1, ca1]; omega))]
          refine ⟨4, (by decide +kernel), (by decide), ?_⟩
          rw [if_pos (show a1 < ((4 : Nat) : Int) by first | omega | (simp [upS, hz, za1, z1a1, ca1]; done) | (simp [upS, hz, za1, z1a1, ca1]; omega))]
          refine ⟨(show 0 ≤ a1 by first | omega | (simp [upS, hz, za1, z1a1, ca1]; done) | (simp [upS, hz, za1, z1a1, ca1]; omega)), ?_⟩
          refine ⟨(2 + 2 * ((a1)).toNat), (el_1 (i := (a1)) (by first | omega | (simp [upS, hz, za1, z1a1, ca1]; done) | (simp [upS, hz, za1, z1a1, ca1]; omega))).1, (el_1 (i := (a1)) (by first | omega | (simp [upS, hz, za1, z1a1, ca1]; done) | (simp [upS, hz, za1, z1a1, ca1]; omega))).2, ?_⟩
          all_goals rfl
        refine ⟨_, _, hD1, ?_⟩
        clear hD1
        refine ⟨fun hz2 => (by cases hz2), fun _ hz2 => ?_⟩
        cases hz2
        refine ⟨(el_1 (i := (a1)) (by first | omega | (simp [upS, hz, za1, z1a1, ca1]; done) | (simp [upS, hz, za1, z1a1, ca1]; omega))).2, ?_⟩
        all_goals rfl
      refine Or.inl ⟨_, _, hD3, (el_1 (i := (a1)) (by first | omega | (simp [upS, hz, za1, z1a1, ca1]; done) | (simp [upS, hz, za1, z1a1, ca1]; omega))).2, ?_⟩
      clear hD3
      have hD6 : Dd 227 [(.inr (.inr (some 0))), (.inl a2)] σ (.inr 0, σ) := by
        refine b227 ?_
        have hD4 : Dd 145 [(.inr (.inr (some 1))), (.inl a2)] σ (.inl (some (.inr (.inr none))), σ) := by
          refine b145 ?_
          rw [if_pos (show (0 : Int) ≤ a2 by first | omega | (simp [upS, hz, za1, z1a1, ca1]; done) | (simp [upS, hz, za1, z1a1, ca1]; omega))]
          refine ⟨4, (by decide +kernel), (by decide), ?_⟩
          rw [if_neg (show ¬ (a2 < ((4 : Nat) : Int)) by first | omega | (simp [upS, hz, za1, z1a1, ca1]; done) | (simp [upS, hz, za1, z1a1, ca1]; omega))]
          all_goals rfl
        refine ⟨_, _, hD4, ?_⟩
        clear hD4
        refine ⟨fun _ => ?_, fun _ hz5 => (by cases hz5)⟩
        all_goals rfl
      refine Or.inr ⟨_, _, hD6, ?_⟩
      all_goals rfl
    exact Or.inr (Or.inl ⟨_, hD7, rfl⟩)
  have hB : Dd 277 [(.inr (.inr (some 682))), (.inl a1), (.inl a2), (.inl a3), (.inl a4)] σ (.inl (some (.inl 0)), (upS σ 682 0 1)) := by
    refine b277 ?_
    have hD9 : Dd 247 [(.inl a1)] σ (.inl (some (.inl 1)), σ) := by
      refine b247 ?_
      have hD8 : Dd 246 [(.inl a1), (.inl 4)] σ (.inl (some (.inl 1)), σ) := by
        refine b246 ?_
        try rw [if_pos (show (0 : Int) ≤ a1 by first | omega | (simp [upS, hz, za1, z1a1, ca1]; done) | (simp [upS, hz, za1, z1a1, ca1]; omega))]
        try rw [if_pos (show a1 < 4 by first | omega | (simp [upS, hz, za1, z1a1, ca1]; done) | (simp [upS, hz, za1, z1a1, ca1]; omega))]
        all_goals rfl
      refine ⟨_, _, hD8, ?_⟩
      clear hD8
      refine ⟨(show 1 = 0 ∨ 1 = 1 by first | omega | (simp [upS, hz, za1, z1a1, ca1]; done) | (simp [upS, hz, za1, z1a1, ca1]; omega)), ?_⟩
      all_goals rfl
    refine ⟨_, _, hD9, ?_⟩
    clear hD9
    rw [if_neg (show ¬ ((1 : Int) = 0) by first | omega | (simp [upS, hz, za1, z1a1, ca1]; done) | (simp [upS, hz, za1, z1a1, ca1]; omega))]
    have hD11 : Dd 247 [(.inl a2)] σ (.inl (some (.inl 0)), σ) := by
      refine b247 ?_
      have hD10 : Dd 246 [(.inl a2), (.inl 4)] σ (.inl (some (.inl 0)), σ) := by
        refine b246 ?_
        try rw [if_pos (show (0 : Int) ≤ a2 by first | omega | (simp [upS, hz, za1, z1a1, ca1]; done) | (simp [upS, hz, za1, z1a1, ca1]; omega))]
        try rw [if_neg (show ¬ (a2 < 4) by first | omega | (simp [upS, hz, za1, z1a1, ca1]; done) | (simp [upS, hz, za1, z1a1, ca1]; omega))]
        all_goals rfl
      refine ⟨_, _, hD10, ?_⟩
      clear hD10
      refine ⟨(show 0 = 0 ∨ 0 = 1 by first | omega | (simp [upS, hz, za1, z1a1, ca1]; done) | (simp [upS, hz, za1, z1a1, ca1]; omega)), ?_⟩
      all_goals rfl
    refine ⟨_, _, hD11, ?_⟩
    clear hD11
    rw [if_pos (show (0 : Int) = 0 by first | omega | (simp [upS, hz, za1, z1a1, ca1]; done) | (simp [upS, hz, za1, z1a1, ca1]; omega))]
    refine b277_32 ?_
    refine b277_33 ?_
    rw [if_pos (show (0 : Int) = 0 by first | omega | (simp [upS, hz, za1, z1a1, ca1]; done) | (simp [upS, hz, za1, z1a1, ca1]; omega))]
    refine b277_57 ?_
    have hD12 : Dd 245 [(.inr (.inr (some 682))), (.inl 1)] σ (.inl (some (.inl 0)), (upS σ 682 0 1)) := by
      refine b245 ?_
      try rw [if_neg (show ¬ ((1 : Int) = 0) by first | omega | (simp [upS, hz, za1, z1a1, ca1]; done) | (simp [upS, hz, za1, z1a1, ca1]; omega))]
      all_goals rfl
    refine ⟨_, _, hD12, ?_⟩
    clear hD12
    rw [if_pos (show (0 : Int) = 0 by first | omega | (simp [upS, hz, za1, z1a1, ca1]; done) | (simp [upS, hz, za1, z1a1, ca1]; omega))]
    all_goals rfl
  refine ⟨_, _, _, _, hA, hB, ?_, ?_, ?_, ?_, ?_⟩
  · (first | rfl | (simp [upS, SCR, hz, za1, z1a1, ca1]; done) | (simp [upS, SCR, hz, za1, z1a1, ca1]; omega))
  · first | (intro h9; omega) | (intro _; first | rfl | (simp [upS, SCR, hz, za1, z1a1, ca1]; done) | (simp [upS, SCR, hz, za1, z1a1, ca1]; omega))
  · intro i; first | rfl | (unfold upS SCR; (repeat' split) <;> first | rfl | omega)
  · first | rfl | (unfold upS SCR; (repeat' split) <;> first | rfl | omega)
  · first | rfl | (unfold upS SCR; (repeat' split) <;> first | rfl | omega)
theorem q6_4 {σ : Sg} {a1 : Int} {a2 : Int} {a3 : Int} {a4 : Int} (hz : ∀ a i, a < 1000 → σ a i = 0) (h0 : 0 ≤ a1 ∧ a1 < 4) (h1 : 0 ≤ a2 ∧ a2 < 4) (h2 : a4 < 0) : ∃ (kx b : Int) (s1 s2 : Sg), Dd 396 [(.inr (.inr (some 0))), (.inl a1), (.inl a2), (.inl a3), (.inl a4), (.inr (.inr (some 726)))] σ (.inl (some (.inl kx)), s1) ∧ Dd 277 [(.inr (.inr (some 682))), (.inl a1), (.inl a2), (.inl a3), (.inl a4)] s1 (.inl (some (.inl b)), s2) ∧ s2 682 0 = kx ∧ (kx = 0 → s2 726 0 = b) ∧ (∀ i, s1 SCR i = σ SCR i) ∧ s1 (SCR + 1) 0 = σ (SCR + 1) 0 ∧ s2 (SCR + 1) 0 = σ (SCR + 1) 0 := by
  have za1 : ∀ i, σ (2 + 2 * ((a1)).toNat) i = 0 := fun i => hz _ i (by omega)
  have z1a1 : ∀ i, σ ((2 + 2 * ((a1)).toNat) + 1) i = 0 := fun i => hz _ i (by omega)
  have ca1 : (cap (2 + 2 * ((a1)).toNat) : Int) = 16 := cp_1 (by omega)
  have za2 : ∀ i, σ (2 + 2 * ((a2)).toNat) i = 0 := fun i => hz _ i (by omega)
  have z1a2 : ∀ i, σ ((2 + 2 * ((a2)).toNat) + 1) i = 0 := fun i => hz _ i (by omega)
  have ca2 : (cap (2 + 2 * ((a2)).toNat) : Int) = 16 := cp_1 (by omega)
  have hA : Dd 396 [(.inr (.inr (some 0))), (.inl a1), (.inl a2), (.inl a3), (.inl a4), (.inr (.inr (some 726)))] σ (.inl (some (.inl 1)), σ) := by
    refine b396 ?_
    have hD9 : Dd 178 [(.inr (.inr (some 0))), (.inl a1), (.inl a2), (.inl a3), (.inl a4)] σ (.inr 0, σ) := by
      refine b178 ?_
      have hD3 : Dd 227 [(.inr (.inr (some 0))), (.inl a1)] σ (.inl (some (.inr (.inr (some (2 + 2 * ((a1)).toNat))))), σ) := by
        refine b227 ?_
        have hD1 : Dd 145 [(.inr (.inr (some 1))), (.inl a1)] σ (.inl (some (.inr (.inr (some (2 + 2 * ((a1)).toNat))))), σ) := by
          refine b145 ?_
          rw [if_pos (show (0 : Int) ≤ a1 by first | omega | (simp [upS, hz, za1, z1a1, ca1, za2, z1a2, ca2]; done) | (simp [upS, hz, za1, z1a1, ca1, za2, z1a2, ca2]; omega))]
          refine ⟨4, (by decide +kernel), (by decide), ?_⟩
          rw [if_pos (show a1 < ((4 : Nat) : Int) by first | omega | (simp [upS, hz, za1, z1a1, ca1, za2, z1a2, ca2]; done) | (simp [upS, hz, za1, z1a1, ca1, za2, z1a2, ca2]; omega))]
          refine ⟨(show 0 ≤ a1 by first | omega | (simp [upS, hz, za1, z1a1, ca1, za2, z1a2, ca2]; done) | (simp [upS, hz, za1, z1a1, ca1, za2, z1a2, ca2]; omega)), ?_⟩
          refine ⟨(2 + 2 * ((a1)).toNat), (el_1 (i := (a1)) (by first | omega | (simp [upS, hz, za1, z1a1, ca1, za2, z1a2, ca2]; done) | (simp [upS, hz, za1, z1a1, ca1, za2, z1a2, ca2]; omega))).1, (el_1 (i := (a1)) (by first | omega | (simp [upS, hz, za1, z1a1, ca1, za2, z1a2, ca2]; done) | (simp [upS, hz, za1, z1a1, ca1, za2, z1a2, ca2]; omega))).2, ?_⟩
          all_goals rfl
        refine ⟨_, _, hD1, ?_⟩
        clear hD1
        refine ⟨fun hz2 => (by cases hz2), fun _ hz2 => ?_⟩
        cases hz2
        refine ⟨(el_1 (i := (a1)) (by first | omega | (simp [upS, hz, za1, z1a1, ca1, za2, z1a2, ca2]; done) | (simp [upS, hz, za1, z1a1, ca1, za2, z1a2, ca2]; omega))).2, ?_⟩
        all_goals rfl
      refine Or.inl ⟨_, _, hD3, (el_1 (i := (a1)) (by first | omega | (simp [upS, hz, za1, z1a1, ca1, za2, z1a2, ca2]; done) | (simp [upS, hz, za1, z1a1, ca1, za2, z1a2, ca2]; omega))).2, ?_⟩
      clear hD3
      have hD6 : Dd 227 [(.inr (.inr (some 0))), (.inl a2)] σ (.inl (some (.inr (.inr (some (2 + 2 * ((a2)).toNat))))), σ) := by
        refine b227 ?_
        have hD4 : Dd 145 [(.inr (.inr (some 1))), (.inl a2)] σ (.inl (some (.inr (.inr (some (2 + 2 * ((a2)).toNat))))), σ) := by
          refine b145 ?_
          rw [if_pos (show (0 : Int) ≤ a2 by first | omega | (simp [upS, hz, za1, z1a1, ca1, za2, z1a2, ca2]; done) | (simp [upS, hz, za1, z1a1, ca1, za2, z1a2, ca2]; omega))]
          refine ⟨4, (by decide +kernel), (by decide), ?_⟩
          rw [if_pos (show a2 < ((4 : Nat) : Int) by first | omega | (simp [upS, hz, za1, z1a1, ca1, za2, z1a2, ca2]; done) | (simp [upS, hz, za1, z1a1, ca1, za2, z1a2, ca2]; omega))]
          refine ⟨(show 0 ≤ a2 by first | omega | (simp [upS, hz, za1, z1a1, ca1, za2, z1a2, ca2]; done) | (simp [upS, hz, za1, z1a1, ca1, za2, z1a2, ca2]; omega)), ?_⟩
          refine ⟨(2 + 2 * ((a2)).toNat), (el_1 (i := (a2)) (by first | omega | (simp [upS, hz, za1, z1a1, ca1, za2, z1a2, ca2]; done) | (simp [upS, hz, za1, z1a1, ca1, za2, z1a2, ca2]; omega))).1, (el_1 (i := (a2)) (by first | omega | (simp [upS, hz, za1, z1a1, ca1, za2, z1a2, ca2]; done) | (simp [upS, hz, za1, z1a1, ca1, za2, z1a2, ca2]; omega))).2, ?_⟩
          all_goals rfl
        refine ⟨_, _, hD4, ?_⟩
        clear hD4
        refine ⟨fun hz5 => (by cases hz5), fun _ hz5 => ?_⟩
        cases hz5
        refine ⟨(el_1 (i := (a2)) (by first | omega | (simp [upS, hz, za1, z1a1, ca1, za2, z1a2, ca2]; done) | (simp [upS, hz, za1, z1a1, ca1, za2, z1a2, ca2]; omega))).2, ?_⟩
        all_goals rfl
      refine Or.inl ⟨_, _, hD6, (el_1 (i := (a2)) (by first | omega | (simp [upS, hz, za1, z1a1, ca1, za2, z1a2, ca2]; done) | (simp [upS, hz, za1, z1a1, ca1, za2, z1a2, ca2]; omega))).2, ?_⟩
      clear hD6
      have hD7 : Dd 146 [(.inr (.inr (some (2 + 2 * ((a1)).toNat))))] σ (.inl (some (.inl 0)), σ) := by
        refine b146 (el_1 (i := (a1)) (by first | omega | (simp [upS, hz, za1, z1a1, ca1, za2, z1a2, ca2]; done) | (simp [upS, hz, za1, z1a1, ca1, za2, z1a2, ca2]; omega))).2 ?_
        rw [show (σ (2 + 2 * ((a1)).toNat) 1) = 0 by (first | omega | (simp [upS, hz, za1, z1a1, ca1, za2, z1a2, ca2]; done) | (simp [upS, hz, za1, z1a1, ca1, za2, z1a2, ca2]; omega))]
        all_goals rfl
      refine ⟨_, _, hD7, ?_⟩
      clear hD7
      have hD8 : Dd 232 [(.inr (.inr (some 0))), (.inl a4), (.inl 0)] σ (.inr 0, σ) := by
        refine b232 ?_
        rw [if_neg (show ¬ ((0 : Int) ≤ a4) by first | omega | (simp [upS, hz, za1, z1a1, ca1, za2, z1a2, ca2]; done) | (simp [upS, hz, za1, z1a1, ca1, za2, z1a2, ca2]; omega))]
        refine b232_9 ?_
        all_goals rfl
      refine Or.inr ⟨_, _, hD8, ?_⟩
      all_goals rfl
    exact Or.inr (Or.inl ⟨_, hD9, rfl⟩)
  have hB : Dd 277 [(.inr (.inr (some 682))), (.inl a1), (.inl a2), (.inl a3), (.inl a4)] σ (.inl (some (.inl 0)), (upS σ 682 0 1)) := by
    refine b277 ?_
    have hD11 : Dd 247 [(.inl a1)] σ (.inl (some (.inl 1)), σ) := by
      refine b247 ?_
      have hD10 : Dd 246 [(.inl a1), (.inl 4)] σ (.inl (some (.inl 1)), σ) := by
        refine b246 ?_
        try rw [if_pos (show (0 : Int) ≤ a1 by first | omega | (simp [upS, hz, za1, z1a1, ca1, za2, z1a2, ca2]; done) | (simp [upS, hz, za1, z1a1, ca1, za2, z1a2, ca2]; omega))]
        try rw [if_pos (show a1 < 4 by first | omega | (simp [upS, hz, za1, z1a1, ca1, za2, z1a2, ca2]; done) | (simp [upS, hz, za1, z1a1, ca1, za2, z1a2, ca2]; omega))]
        all_goals rfl
      refine ⟨_, _, hD10, ?_⟩
      clear hD10
      refine ⟨(show 1 = 0 ∨ 1 = 1 by first | omega | (simp [upS, hz, za1, z1a1, ca1, za2, z1a2, ca2]; done) | (simp [upS, hz, za1, z1a1, ca1, za2, z1a2, ca2]; omega)), ?_⟩
      all_goals rfl
    refine ⟨_, _, hD11, ?_⟩
    clear hD11
    rw [if_neg (show ¬ ((1 : Int) = 0) by first | omega | (simp [upS, hz, za1, z1a1, ca1, za2, z1a2, ca2]; done) | (simp [upS, hz, za1, z1a1, ca1, za2, z1a2, ca2]; omega))]
    have hD13 : Dd 247 [(.inl a2)] σ (.inl (some (.inl 1)), σ) := by
      refine b247 ?_
      have hD12 : Dd 246 [(.inl a2), (.inl 4)] σ (.inl (some (.inl 1)), σ) := by
        refine b246 ?_
        try rw [if_pos (show (0 : Int) ≤ a2 by first | omega | (simp [upS, hz, za1, z1a1, ca1, za2, z1a2, ca2]; done) | (simp [upS, hz, za1, z1a1, ca1, za2, z1a2, ca2]; omega))]
        try rw [if_pos (show a2 < 4 by first | omega | (simp [upS, hz, za1, z1a1, ca1, za2, z1a2, ca2]; done) | (simp [upS, hz, za1, z1a1, ca1, za2, z1a2, ca2]; omega))]
        all_goals rfl
      refine ⟨_, _, hD12, ?_⟩
      clear hD12
      refine ⟨(show 1 = 0 ∨ 1 = 1 by first | omega | (simp [upS, hz, za1, z1a1, ca1, za2, z1a2, ca2]; done) | (simp [upS, hz, za1, z1a1, ca1, za2, z1a2, ca2]; omega)), ?_⟩
      all_goals rfl
    refine ⟨_, _, hD13, ?_⟩
    clear hD13
    rw [if_neg (show ¬ ((1 : Int) = 0) by first | omega | (simp [upS, hz, za1, z1a1, ca1, za2, z1a2, ca2]; done) | (simp [upS, hz, za1, z1a1, ca1, za2, z1a2, ca2]; omega))]
    refine ⟨(show 0 ≤ a1 ∧ a1 < 4 by first | omega | (simp [upS, hz, za1, z1a1, ca1, za2, z1a2, ca2]; done) | (simp [upS, hz, za1, z1a1, ca1, za2, z1a2, ca2]; omega)), ?_⟩
    rw [show (σ 684 (a1).toNat) = 0 by (first | omega | (simp [upS, hz, za1, z1a1, ca1, za2, z1a2, ca2]; done) | (simp [upS, hz, za1, z1a1, ca1, za2, z1a2, ca2]; omega))]
    have hD14 : Dd 246 [(.inl a4), (.inl 0)] σ (.inl (some (.inl 0)), σ) := by
      refine b246 ?_
      try rw [if_neg (show ¬ ((0 : Int) ≤ a4) by first | omega | (simp [upS, hz, za1, z1a1, ca1, za2, z1a2, ca2]; done) | (simp [upS, hz, za1, z1a1, ca1, za2, z1a2, ca2]; omega))]
      all_goals rfl
    refine ⟨_, _, hD14, ?_⟩
    clear hD14
    rw [if_pos (show (0 : Int) = 0 by first | omega | (simp [upS, hz, za1, z1a1, ca1, za2, z1a2, ca2]; done) | (simp [upS, hz, za1, z1a1, ca1, za2, z1a2, ca2]; omega))]
    refine b277_32 ?_
    refine b277_33 ?_
    rw [if_pos (show (0 : Int) = 0 by first | omega | (simp [upS, hz, za1, z1a1, ca1, za2, z1a2, ca2]; done) | (simp [upS, hz, za1, z1a1, ca1, za2, z1a2, ca2]; omega))]
    refine b277_57 ?_
    have hD15 : Dd 245 [(.inr (.inr (some 682))), (.inl 1)] σ (.inl (some (.inl 0)), (upS σ 682 0 1)) := by
      refine b245 ?_
      try rw [if_neg (show ¬ ((1 : Int) = 0) by first | omega | (simp [upS, hz, za1, z1a1, ca1, za2, z1a2, ca2]; done) | (simp [upS, hz, za1, z1a1, ca1, za2, z1a2, ca2]; omega))]
      all_goals rfl
    refine ⟨_, _, hD15, ?_⟩
    clear hD15
    rw [if_pos (show (0 : Int) = 0 by first | omega | (simp [upS, hz, za1, z1a1, ca1, za2, z1a2, ca2]; done) | (simp [upS, hz, za1, z1a1, ca1, za2, z1a2, ca2]; omega))]
    all_goals rfl
  refine ⟨_, _, _, _, hA, hB, ?_, ?_, ?_, ?_, ?_⟩
  · (first | rfl | (simp [upS, SCR, hz, za1, z1a1, ca1, za2, z1a2, ca2]; done) | (simp [upS, SCR, hz, za1, z1a1, ca1, za2, z1a2, ca2]; omega))
  · first | (intro h9; omega) | (intro _; first | rfl | (simp [upS, SCR, hz, za1, z1a1, ca1, za2, z1a2, ca2]; done) | (simp [upS, SCR, hz, za1, z1a1, ca1, za2, z1a2, ca2]; omega))
  · intro i; first | rfl | (unfold upS SCR; (repeat' split) <;> first | rfl | omega)
  · first | rfl | (unfold upS SCR; (repeat' split) <;> first | rfl | omega)
  · first | rfl | (unfold upS SCR; (repeat' split) <;> first | rfl | omega)
theorem q6_5 {σ : Sg} {a1 : Int} {a2 : Int} {a3 : Int} {a4 : Int} (hz : ∀ a i, a < 1000 → σ a i = 0) (h0 : 0 ≤ a1 ∧ a1 < 4) (h1 : 0 ≤ a2 ∧ a2 < 4) (h2 : 0 ≤ a4) : ∃ (kx b : Int) (s1 s2 : Sg), Dd 396 [(.inr (.inr (some 0))), (.inl a1), (.inl a2), (.inl a3), (.inl a4), (.inr (.inr (some 726)))] σ (.inl (some (.inl kx)), s1) ∧ Dd 277 [(.inr (.inr (some 682))), (.inl a1), (.inl a2), (.inl a3), (.inl a4)] s1 (.inl (some (.inl b)), s2) ∧ s2 682 0 = kx ∧ (kx = 0 → s2 726 0 = b) ∧ (∀ i, s1 SCR i = σ SCR i) ∧ s1 (SCR + 1) 0 = σ (SCR + 1) 0 ∧ s2 (SCR + 1) 0 = σ (SCR + 1) 0 := by
  have za1 : ∀ i, σ (2 + 2 * ((a1)).toNat) i = 0 := fun i => hz _ i (by omega)
  have z1a1 : ∀ i, σ ((2 + 2 * ((a1)).toNat) + 1) i = 0 := fun i => hz _ i (by omega)
  have ca1 : (cap (2 + 2 * ((a1)).toNat) : Int) = 16 := cp_1 (by omega)
  have za2 : ∀ i, σ (2 + 2 * ((a2)).toNat) i = 0 := fun i => hz _ i (by omega)
  have z1a2 : ∀ i, σ ((2 + 2 * ((a2)).toNat) + 1) i = 0 := fun i => hz _ i (by omega)
  have ca2 : (cap (2 + 2 * ((a2)).toNat) : Int) = 16 := cp_1 (by omega)
  have hA : Dd 396 [(.inr (.inr (some 0))), (.inl a1), (.inl a2), (.inl a3), (.inl a4), (.inr (.inr (some 726)))] σ (.inl (some (.inl 1)), σ) := by
    refine b396 ?_
    have hD9 : Dd 178 [(.inr (.inr (some 0))), (.inl a1), (.inl a2), (.inl a3), (.inl a4)] σ (.inr 0, σ) := by
      refine b178 ?_
      have hD3 : Dd 227 [(.inr (.inr (some 0))), (.inl a1)] σ (.inl (some (.inr (.inr (some (2 + 2 * ((a1)).toNat))))), σ) := by
        refine b227 ?_
        have hD1 : Dd 145 [(.inr (.inr (some 1))), (.inl a1)] σ (.inl (some (.inr (.inr (some (2 + 2 * ((a1)).toNat))))), σ) := by
          refine b145 ?_
          rw [if_pos (show (0 : Int) ≤ a1 by first | omega | (simp [upS, hz, za1, z1a1, ca1, za2, z1a2, ca2]; done) | (simp [upS, hz, za1, z1a1, ca1, za2, z1a2, ca2]; omega))]
          refine ⟨4, (by decide +kernel), (by decide), ?_⟩
          rw [if_pos (show a1 < ((4 : Nat) : Int) by first | omega | (simp [upS, hz, za1, z1a1, ca1, za2, z1a2, ca2]; done) | (simp [upS, hz, za1, z1a1, ca1, za2, z1a2, ca2]; omega))]
          refine ⟨(show 0 ≤ a1 by first | omega | (simp [upS, hz, za1, z1a1, ca1, za2, z1a2, ca2]; done) | (simp [upS, hz, za1, z1a1, ca1, za2, z1a2, ca2]; omega)), ?_⟩
          refine ⟨(2 + 2 * ((a1)).toNat), (el_1 (i := (a1)) (by first | omega | (simp [upS, hz, za1, z1a1, ca1, za2, z1a2, ca2]; done) | (simp [upS, hz, za1, z1a1, ca1, za2, z1a2, ca2]; omega))).1, (el_1 (i := (a1)) (by first | omega | (simp [upS, hz, za1, z1a1, ca1, za2, z1a2, ca2]; done) | (simp [upS, hz, za1, z1a1, ca1, za2, z1a2, ca2]; omega))).2, ?_⟩
          all_goals rfl
        refine ⟨_, _, hD1, ?_⟩
        clear hD1
        refine ⟨fun hz2 => (by cases hz2), fun _ hz2 => ?_⟩
        cases hz2
        refine ⟨(el_1 (i := (a1)) (by first | omega | (simp [upS, hz, za1, z1a1, ca1, za2, z1a2, ca2]; done) | (simp [upS, hz, za1, z1a1, ca1, za2, z1a2, ca2]; omega))).2, ?_⟩
        all_goals rfl
      refine Or.inl ⟨_, _, hD3, (el_1 (i := (a1)) (by first | omega | (simp [upS, hz, za1, z1a1, ca1, za2, z1a2, ca2]; done) | (simp [upS, hz, za1, z1a1, ca1, za2, z1a2, ca2]; omega))).2, ?_⟩
      clear hD3
      have hD6 : Dd 227 [(.inr (.inr (some 0))), (.inl a2)] σ (.inl (some (.inr (.inr (some (2 + 2 * ((a2)).toNat))))), σ) := by
        refine b227 ?_
        have hD4 : Dd 145 [(.inr (.inr (some 1))), (.inl a2)] σ (.inl (some (.inr (.inr (some (2 + 2 * ((a2)).toNat))))), σ) := by
          refine b145 ?_
          rw [if_pos (show (0 : Int) ≤ a2 by first | omega | (simp [upS, hz, za1, z1a1, ca1, za2, z1a2, ca2]; done) | (simp [upS, hz, za1, z1a1, ca1, za2, z1a2, ca2]; omega))]
          refine ⟨4, (by decide +kernel), (by decide), ?_⟩
          rw [if_pos (show a2 < ((4 : Nat) : Int) by first | omega | (simp [upS, hz, za1, z1a1, ca1, za2, z1a2, ca2]; done) | (simp [upS, hz, za1, z1a1, ca1, za2, z1a2, ca2]; omega))]
          refine ⟨(show 0 ≤ a2 by first | omega | (simp [upS, hz, za1, z1a1, ca1, za2, z1a2, ca2]; done) | (simp [upS, hz, za1, z1a1, ca1, za2, z1a2, ca2]; omega)), ?_⟩
          refine ⟨(2 + 2 * ((a2)).toNat), (el_1 (i := (a2)) (by first | omega | (simp [upS, hz, za1, z1a1, ca1, za2, z1a2, ca2]; done) | (simp [upS, hz, za1, z1a1, ca1, za2, z1a2, ca2]; omega))).1, (el_1 (i := (a2)) (by first | omega | (simp [upS, hz, za1, z1a1, ca1, za2, z1a2, ca2]; done) | (simp [upS, hz, za1, z1a1, ca1, za2, z1a2, ca2]; omega))).2, ?_⟩
          all_goals rfl
        refine ⟨_, _, hD4, ?_⟩
        clear hD4
        refine ⟨fun hz5 => (by cases hz5), fun _ hz5 => ?_⟩
        cases hz5
        refine ⟨(el_1 (i := (a2)) (by first | omega | (simp [upS, hz, za1, z1a1, ca1, za2, z1a2, ca2]; done) | (simp [upS, hz, za1, z1a1, ca1, za2, z1a2, ca2]; omega))).2, ?_⟩
        all_goals rfl
      refine Or.inl ⟨_, _, hD6, (el_1 (i := (a2)) (by first | omega | (simp [upS, hz, za1, z1a1, ca1, za2, z1a2, ca2]; done) | (simp [upS, hz, za1, z1a1, ca1, za2, z1a2, ca2]; omega))).2, ?_⟩
      clear hD6
      have hD7 : Dd 146 [(.inr (.inr (some (2 + 2 * ((a1)).toNat))))] σ (.inl (some (.inl 0)), σ) := by
        refine b146 (el_1 (i := (a1)) (by first | omega | (simp [upS, hz, za1, z1a1, ca1, za2, z1a2, ca2]; done) | (simp [upS, hz, za1, z1a1, ca1, za2, z1a2, ca2]; omega))).2 ?_
        rw [show (σ (2 + 2 * ((a1)).toNat) 1) = 0 by (first | omega | (simp [upS, hz, za1, z1a1, ca1, za2, z1a2, ca2]; done) | (simp [upS, hz, za1, z1a1, ca1, za2, z1a2, ca2]; omega))]
        all_goals rfl
      refine ⟨_, _, hD7, ?_⟩
      clear hD7
      have hD8 : Dd 232 [(.inr (.inr (some 0))), (.inl a4), (.inl 0)] σ (.inr 0, σ) := by
        refine b232 ?_
        rw [if_pos (show (0 : Int) ≤ a4 by first | omega | (simp [upS, hz, za1, z1a1, ca1, za2, z1a2, ca2]; done) | (simp [upS, hz, za1, z1a1, ca1, za2, z1a2, ca2]; omega))]
        rw [if_pos (show (0 : Int) ≤ a4 by first | omega | (simp [upS, hz, za1, z1a1, ca1, za2, z1a2, ca2]; done) | (simp [upS, hz, za1, z1a1, ca1, za2, z1a2, ca2]; omega))]
        refine b232_9 ?_
        all_goals rfl
      refine Or.inr ⟨_, _, hD8, ?_⟩
      all_goals rfl
    exact Or.inr (Or.inl ⟨_, hD9, rfl⟩)
  have hB : Dd 277 [(.inr (.inr (some 682))), (.inl a1), (.inl a2), (.inl a3), (.inl a4)] σ (.inl (some (.inl 0)), (upS σ 682 0 1)) := by
    refine b277 ?_
    have hD11 : Dd 247 [(.inl a1)] σ (.inl (some (.inl 1)), σ) := by
      refine b247 ?_
      have hD10 : Dd 246 [(.inl a1), (.inl 4)] σ (.inl (some (.inl 1)), σ) := by
        refine b246 ?_
        try rw [if_pos (show (0 : Int) ≤ a1 by first | omega | (simp [upS, hz, za1, z1a1, ca1, za2, z1a2, ca2]; done) | (simp [upS, hz, za1, z1a1, ca1, za2, z1a2, ca2]; omega))]
        try rw [if_pos (show a1 < 4 by first | omega | (simp [upS, hz, za1, z1a1, ca1, za2, z1a2, ca2]; done) | (simp [upS, hz, za1, z1a1, ca1, za2, z1a2, ca2]; omega))]
        all_goals rfl
      refine ⟨_, _, hD10, ?_⟩
      clear hD10
      refine ⟨(show 1 = 0 ∨ 1 = 1 by first | omega | (simp [upS, hz, za1, z1a1, ca1, za2, z1a2, ca2]; done) | (simp [upS, hz, za1, z1a1, ca1, za2, z1a2, ca2]; omega)), ?_⟩
      all_goals rfl
    refine ⟨_, _, hD11, ?_⟩
    clear hD11
    rw [if_neg (show ¬ ((1 : Int) = 0) by first | omega | (simp [upS, hz, za1, z1a1, ca1, za2, z1a2, ca2]; done) | (simp [upS, hz, za1, z1a1, ca1, za2, z1a2, ca2]; omega))]
    have hD13 : Dd 247 [(.inl a2)] σ (.inl (some (.inl 1)), σ) := by
      refine b247 ?_
      have hD12 : Dd 246 [(.inl a2), (.inl 4)] σ (.inl (some (.inl 1)), σ) := by
        refine b246 ?_
        try rw [if_pos (show (0 : Int) ≤ a2 by first | omega | (simp [upS, hz, za1, z1a1, ca1, za2, z1a2, ca2]; done) | (simp [upS, hz, za1, z1a1, ca1, za2, z1a2, ca2]; omega))]
        try rw [if_pos (show a2 < 4 by first | omega | (simp [upS, hz, za1, z1a1, ca1, za2, z1a2, ca2]; done) | (simp [upS, hz, za1, z1a1, ca1, za2, z1a2, ca2]; omega))]
        all_goals rfl
      refine ⟨_, _, hD12, ?_⟩
      clear hD12
      refine ⟨(show 1 = 0 ∨ 1 = 1 by first | omega | (simp [upS, hz, za1, z1a1, ca1, za2, z1a2, ca2]; done) | (simp [upS, hz, za1, z1a1, ca1, za2, z1a2, ca2]; omega)), ?_⟩
      all_goals rfl
    refine ⟨_, _, hD13, ?_⟩
    clear hD13
    rw [if_neg (show ¬ ((1 : Int) = 0) by first | omega | (simp [upS, hz, za1, z1a1, ca1, za2, z1a2, ca2]; done) | (simp [upS, hz, za1, z1a1, ca1, za2, z1a2, ca2]; omega))]
    refine ⟨(show 0 ≤ a1 ∧ a1 < 4 by first | omega | (simp [upS, hz, za1, z1a1, ca1, za2, z1a2, ca2]; done) | (simp [upS, hz, za1, z1a1, ca1, za2, z1a2, ca2]; omega)), ?_⟩
    rw [show (σ 684 (a1).toNat) = 0 by (first | omega | (simp [upS, hz, za1, z1a1, ca1, za2, z1a2, ca2]; done) | (simp [upS, hz, za1, z1a1, ca1, za2, z1a2, ca2]; omega))]
    have hD14 : Dd 246 [(.inl a4), (.inl 0)] σ (.inl (some (.inl 0)), σ) := by
      refine b246 ?_
      try rw [if_pos (show (0 : Int) ≤ a4 by first | omega | (simp [upS, hz, za1, z1a1, ca1, za2, z1a2, ca2]; done) | (simp [upS, hz, za1, z1a1, ca1, za2, z1a2, ca2]; omega))]
      try rw [if_neg (show ¬ (a4 < 0) by first | omega | (simp [upS, hz, za1, z1a1, ca1, za2, z1a2, ca2]; done) | (simp [upS, hz, za1, z1a1, ca1, za2, z1a2, ca2]; omega))]
      all_goals rfl
    refine ⟨_, _, hD14, ?_⟩
    clear hD14
    rw [if_pos (show (0 : Int) = 0 by first | omega | (simp [upS, hz, za1, z1a1, ca1, za2, z1a2, ca2]; done) | (simp [upS, hz, za1, z1a1, ca1, za2, z1a2, ca2]; omega))]
    refine b277_32 ?_
    refine b277_33 ?_
    rw [if_pos (show (0 : Int) = 0 by first | omega | (simp [upS, hz, za1, z1a1, ca1, za2, z1a2, ca2]; done) | (simp [upS, hz, za1, z1a1, ca1, za2, z1a2, ca2]; omega))]
    refine b277_57 ?_
    have hD15 : Dd 245 [(.inr (.inr (some 682))), (.inl 1)] σ (.inl (some (.inl 0)), (upS σ 682 0 1)) := by
      refine b245 ?_
      try rw [if_neg (show ¬ ((1 : Int) = 0) by first | omega | (simp [upS, hz, za1, z1a1, ca1, za2, z1a2, ca2]; done) | (simp [upS, hz, za1, z1a1, ca1, za2, z1a2, ca2]; omega))]
      all_goals rfl
    refine ⟨_, _, hD15, ?_⟩
    clear hD15
    rw [if_pos (show (0 : Int) = 0 by first | omega | (simp [upS, hz, za1, z1a1, ca1, za2, z1a2, ca2]; done) | (simp [upS, hz, za1, z1a1, ca1, za2, z1a2, ca2]; omega))]
    all_goals rfl
  refine ⟨_, _, _, _, hA, hB, ?_, ?_, ?_, ?_, ?_⟩
  · (first | rfl | (simp [upS, SCR, hz, za1, z1a1, ca1, za2, z1a2, ca2]; done) | (simp [upS, SCR, hz, za1, z1a1, ca1, za2, z1a2, ca2]; omega))
  · first | (intro h9; omega) | (intro _; first | rfl | (simp [upS, SCR, hz, za1, z1a1, ca1, za2, z1a2, ca2]; done) | (simp [upS, SCR, hz, za1, z1a1, ca1, za2, z1a2, ca2]; omega))
  · intro i; first | rfl | (unfold upS SCR; (repeat' split) <;> first | rfl | omega)
  · first | rfl | (unfold upS SCR; (repeat' split) <;> first | rfl | omega)
  · first | rfl | (unfold upS SCR; (repeat' split) <;> first | rfl | omega)
theorem q8_0 {σ : Sg} {a1 : Int} {a2 : Int} (hz : ∀ a i, a < 1000 → σ a i = 0) (h0 : a1 < 0) : ∃ (kx b : Int) (s1 s2 : Sg), Dd 398 [(.inr (.inr (some 0))), (.inl a1), (.inl a2), (.inr (.inr (some 726)))] σ (.inl (some (.inl kx)), s1) ∧ Dd 279 [(.inr (.inr (some 682))), (.inl a1), (.inl a2)] s1 (.inl (some (.inl b)), s2) ∧ s2 682 0 = kx ∧ (kx = 0 → s2 726 0 = b) ∧ (∀ i, s1 SCR i = σ SCR i) ∧ s1 (SCR + 1) 0 = σ (SCR + 1) 0 ∧ s2 (SCR + 1) 0 = σ (SCR + 1) 0 := by
  have hA : Dd 398 [(.inr (.inr (some 0))), (.inl a1), (.inl a2), (.inr (.inr (some 726)))] σ (.inl (some (.inl 1)), σ) := by
    refine b398 ?_
    have hD4 : Dd 180 [(.inr (.inr (some 0))), (.inl a1), (.inl a2)] σ (.inr 0, σ) := by
      refine b180 ?_
      have hD3 : Dd 227 [(.inr (.inr (some 0))), (.inl a1)] σ (.inr 0, σ) := by
        refine b227 ?_
        have hD1 : Dd 145 [(.inr (.inr (some 1))), (.inl a1)] σ (.inl (some (.inr (.inr none))), σ) := by
          refine b145 ?_
          rw [if_neg (show ¬ ((0 : Int) ≤ a1) by first | omega | (simp [upS, hz]; done) | (simp [upS, hz]; omega))]
          all_goals rfl
        refine ⟨_, _, hD1, ?_⟩
        clear hD1
        refine ⟨fun _ => ?_, fun _ hz2 => (by cases hz2)⟩
        all_goals rfl
      refine Or.inr ⟨_, _, hD3, ?_⟩
      all_goals rfl
    exact Or.inr (⟨_, hD4, rfl⟩)
  have hB : Dd 279 [(.inr (.inr (some 682))), (.inl a1), (.inl a2)] σ (.inl (some (.inl 0)), (upS σ 682 0 1)) := by
    refine b279 ?_
    have hD6 : Dd 247 [(.inl a1)] σ (.inl (some (.inl 0)), σ) := by
      refine b247 ?_
      have hD5 : Dd 246 [(.inl a1), (.inl 4)] σ (.inl (some (.inl 0)), σ) := by
        refine b246 ?_
        try rw [if_neg (show ¬ ((0 : Int) ≤ a1) by first | omega | (simp [upS, hz]; done) | (simp [upS, hz]; omega))]
        all_goals rfl
      refine ⟨_, _, hD5, ?_⟩
      clear hD5
      refine ⟨(show 0 = 0 ∨ 0 = 1 by first | omega | (simp [upS, hz]; done) | (simp [upS, hz]; omega)), ?_⟩
      all_goals rfl
    refine ⟨_, _, hD6, ?_⟩
    clear hD6
    rw [if_pos (show (0 : Int) = 0 by first | omega | (simp [upS, hz]; done) | (simp [upS, hz]; omega))]
    refine b279_19 ?_
    refine b279_20 ?_
    have hD7 : Dd 245 [(.inr (.inr (some 682))), (.inl 1)] σ (.inl (some (.inl 0)), (upS σ 682 0 1)) := by
      refine b245 ?_
      try rw [if_neg (show ¬ ((1 : Int) = 0) by first | omega | (simp [upS, hz]; done) | (simp [upS, hz]; omega))]
      all_goals rfl
    refine ⟨_, _, hD7, ?_⟩
    clear hD7
    rw [if_pos (show (0 : Int) = 0 by first | omega | (simp [upS, hz]; done) | (simp [upS, hz]; omega))]
    all_goals rfl
  refine ⟨_, _, _, _, hA, hB, ?_, ?_, ?_, ?_, ?_⟩
  · (first | rfl | (simp [upS, SCR, hz]; done) | (simp [upS, SCR, hz]; omega))
  · first | (intro h9; omega) | (intro _; first | rfl | (simp [upS, SCR, hz]; done) | (simp [upS, SCR, hz]; omega))
  · intro i; first | rfl | (unfold upS SCR; (repeat' split) <;> first | rfl | omega)
  · first | rfl | (unfold upS SCR; (repeat' split) <;> first | rfl | omega)
  · first | rfl | (unfold upS SCR; (repeat' split) <;> first | rfl | omega)
theorem q8_1 {σ : Sg} {a1 : Int} {a2 : Int} (hz : ∀ a i, a < 1000 → σ a i = 0) (h0 : 4 ≤ a1) : ∃ (kx b : Int) (s1 s2 : Sg), Dd 398 [(.inr (.inr (some 0))), (.inl a1), (.inl a2), (.inr (.inr (some 726)))] σ (.inl (some (.inl kx)), s1) ∧ Dd 279 [(.inr (.inr (some 682))), (.inl a1), (.inl a2)] s1 (.inl (some (.inl b)), s2) ∧ s2 682 0 = kx ∧ (kx = 0 → s2 726 0 = b) ∧ (∀ i, s1 SCR i = σ SCR i) ∧ s1 (SCR + 1) 0 = σ (SCR + 1) 0 ∧ s2 (SCR + 1) 0 = σ (SCR + 1) 0 := by
  have hA : Dd 398 [(.inr (.inr (some 0))), (.inl a1), (.inl a2), (.inr (.inr (some 726)))] σ (.inl (some (.inl 1)), σ) := by
    refine b398 ?_
    have hD4 : Dd 180 [(.inr (.inr (some 0))), (.inl a1), (.inl a2)] σ (.inr 0, σ) := by
      refine b180 ?_
      have hD3 : Dd 227 [(.inr (.inr (some 0))), (.inl a1)] σ (.inr 0, σ) := by
        refine b227 ?_
        have hD1 : Dd 145 [(.inr (.inr (some 1))), (.inl a1)] σ (.inl (some (.inr (.inr none))), σ) := by
          refine b145 ?_
          rw [if_pos (show (0 : Int) ≤ a1 by first | omega | (simp [upS, hz]; done) | (simp [upS, hz]; omega))]
          refine ⟨4, (by decide +kernel), (by decide), ?_⟩
          rw [if_neg (show ¬ (a1 < ((4 : Nat) : Int)) by first | omega | (simp [upS, hz]; done) | (simp [upS, hz]; omega))]
          all_goals rfl
        refine ⟨_, _, hD1, ?_⟩
        clear hD1
        refine ⟨fun _ => ?_, fun _ hz2 => (by cases hz2)⟩
        all_goals rfl
      refine Or.inr ⟨_, _, hD3, ?_⟩
      all_goals rfl
    exact Or.inr (⟨_, hD4, rfl⟩)
  have hB : Dd 279 [(.inr (.inr (some 682))), (.inl a1), (.inl a2)] σ (.inl (some (.inl 0)), (upS σ 682 0 1)) := by
    refine b279 ?_
    have hD6 : Dd 247 [(.inl a1)] σ (.inl (some (.inl 0)), σ) := by
      refine b247 ?_
      have hD5 : Dd 246 [(.inl a1), (.inl 4)] σ (.inl (some (.inl 0)), σ) := by
        refine b246 ?_
        try rw [if_pos (show (0 : Int) ≤ a1 by first | omega | (simp [upS, hz]; done) | (simp [upS, hz]; omega))]
        try rw [if_neg (show ¬ (a1 < 4) by first | omega | (simp [upS, hz]; done) | (simp [upS, hz]; omega))]
        all_goals rfl
      refine ⟨_, _, hD5, ?_⟩
      clear hD5
      refine ⟨(show 0 = 0 ∨ 0 = 1 by first | omega | (simp [upS, hz]; done) | (simp [upS, hz]; omega)), ?_⟩
      all_goals rfl
    refine ⟨_, _, hD6, ?_⟩
    clear hD6
    rw [if_pos (show (0 : Int) = 0 by first | omega | (simp [upS, hz]; done) | (simp [upS, hz]; omega))]
    refine b279_19 ?_
    refine b279_20 ?_
    have hD7 : Dd 245 [(.inr (.inr (some 682))), (.inl 1)] σ (.inl (some (.inl 0)), (upS σ 682 0 1)) := by
      refine b245 ?_
      try rw [if_neg (show ¬ ((1 : Int) = 0) by first | omega | (simp [upS, hz]; done) | (simp [upS, hz]; omega))]
      all_goals rfl
    refine ⟨_, _, hD7, ?_⟩
    clear hD7
    rw [if_pos (show (0 : Int) = 0 by first | omega | (simp [upS, hz]; done) | (simp [upS, hz]; omega))]
    all_goals rfl
  refine ⟨_, _, _, _, hA, hB, ?_, ?_, ?_, ?_, ?_⟩
  · (first | rfl | (simp [upS, SCR, hz]; done) | (simp [upS, SCR, hz]; omega))
  · first | (intro h9; omega) | (intro _; first | rfl | (simp [upS, SCR, hz]; done) | (simp [upS, SCR, hz]; omega))
  · intro i; first | rfl | (unfold upS SCR; (repeat' split) <;> first | rfl | omega)
  · first | rfl | (unfold upS SCR; (repeat' split) <;> first | rfl | omega)
  · first | rfl | (unfold upS SCR; (repeat' split) <;> first | rfl | omega)
theorem q8_2 {σ : Sg} {a1 : Int} {a2 : Int} (hz : ∀ a i, a < 1000 → σ a i = 0) (h0 : 0 ≤ a1 ∧ a1 < 4) (h1 : a2 < 0) : ∃ (kx b : Int) (s1 s2 : Sg), Dd 398 [(.inr (.inr (some 0))), (.inl a1), (.inl a2), (.inr (.inr (some 726)))] σ (.inl (some (.inl kx)), s1) ∧ Dd 279 [(.inr (.inr (some 682))), (.inl a1), (.inl a2)] s1 (.inl (some (.inl b)), s2) ∧ s2 682 0 = kx ∧ (kx = 0 → s2 726 0 = b) ∧ (∀ i, s1 SCR i = σ SCR i) ∧ s1 (SCR + 1) 0 = σ (SCR + 1) 0 ∧ s2 (SCR + 1) 0 = σ (SCR + 1) 0 := by
  have za1 : ∀ i, σ (2 + 2 * ((a1)).toNat) i = 0 := fun i => hz _ i (by omega)
  have z1a1 : ∀ i, σ ((2 + 2 * ((a1)).toNat) + 1) i = 0 := fun i => hz _ i (by omega)
  have ca1 : (cap (2 + 2 * ((a1)).toNat) : Int) = 16 := cp_1 (by omega)
  have hA : Dd 398 [(.inr (.inr (some 0))), (.inl a1), (.inl a2), (.inr (.inr (some 726)))] σ (.inl (some (.inl 1)), σ) := by
    refine b398 ?_
    have hD7 : Dd 180 [(.inr (.inr (some 0))), (.inl a1), (.inl a2)] σ (.inr 0, σ) := by
      refine b180 ?_
      have hD3 : Dd 227 [(.inr (.inr (some 0))), (.inl a1)] σ (.inl (some (.inr (.inr (some (2 + 2 * ((a1)).toNat))))), σ) := by
        refine b227 ?_
        have hD1 : Dd 145 [(.inr (.inr (some 1))), (.inl a1)] σ (.inl (some (.inr (.inr (some (2 + 2 * ((a1)).toNat))))), σ) := by
          refine b145 ?_
          rw [if_pos (show (0 : Int) ≤ a1 by first | omega | (simp [upS, hz, za1, z1a1, ca1]; done) | (simp [upS, hz, za1, z1a1, ca1]; omega))]
          refine ⟨4, (by decide +kernel), (by decide), ?_⟩
          rw [if_pos (show a1 < ((4 : Nat) : Int) by first | omega | (simp [upS, hz, za1, z1a1, ca1]; done) | (simp [upS, hz, za1, z1a1, ca1]; omega))]
          refine ⟨(show 0 ≤ a1 by first | omega | (simp [upS, hz, za1, z1a1, ca1]; done) | (simp [upS, hz, za1, z1a1, ca1]; omega)), ?_⟩
          refine ⟨(2 + 2 * ((a1)).toNat), (el_1 (i := (a1)) (by first | omega | (simp [upS, hz, za1, z1a1, ca1]; done) | (simp [upS, hz, za1, z1a1, ca1]; omega))).1, (el_1 (i := (a1)) (by first | omega | (simp [upS, hz, za1, z1a1, ca1]; done) | (simp [upS, hz, za1, z1a1, ca1]; omega))).2, ?_⟩
          all_goals rfl
        refine ⟨_, _, hD1, ?_⟩
        clear hD1
        refine ⟨fun hz2 => (by cases hz2), fun _ hz2 => ?_⟩
        cases hz2
        refine ⟨(el_1 (i := (a1)) (by first | omega | (simp [upS, hz, za1, z1a1, ca1]; done) | (simp [upS, hz, za1, z1a1, ca1]; omega))).2, ?_⟩
        all_goals rfl
      refine Or.inl ⟨_, _, hD3, (el_1 (i := (a1)) (by first | omega | (simp [upS, hz, za1, z1a1, ca1]; done) | (simp [upS, hz, za1, z1a1, ca1]; omega))).2, ?_⟩
      clear hD3
      have hD6 : Dd 227 [(.inr (.inr (some 0))), (.inl a2)] σ (.inr 0, σ) := by
        refine b227 ?_
        have hD4 : Dd 145 [(.inr (.inr (some 1))), (.inl a2)] σ (.inl (some (.inr (.inr none))), σ) := by
          refine b145 ?_
          rw [if_neg (show ¬ ((0 : Int) ≤ a2) by first | omega | (simp [upS, hz, za1, z1a1, ca1]; done) | (simp [upS, hz, za1, z1a1, ca1]; omega))]
          all_goals rfl
        refine ⟨_, _, hD4, ?_⟩
        clear hD4
        refine ⟨fun _ => ?_, fun _ hz5 => (by cases hz5)⟩
        all_goals rfl
      refine Or.inr ⟨_, _, hD6, ?_⟩
      all_goals rfl
    exact Or.inr (⟨_, hD7, rfl⟩)
  have hB : Dd 279 [(.inr (.inr (some 682))), (.inl a1), (.inl a2)] σ (.inl (some (.inl 0)), (upS σ 682 0 1)) := by
    refine b279 ?_
    have hD9 : Dd 247 [(.inl a1)] σ (.inl (some (.inl 1)), σ) := by
      refine b247 ?_
      have hD8 : Dd 246 [(.inl a1), (.inl 4)] σ (.inl (some (.inl 1)), σ) := by
        refine b246 ?_
        try rw [if_pos (show (0 : Int) ≤ a1 by first | omega | (simp [upS, hz, za1, z1a1, ca1]; done) | (simp [upS, hz, za1, z1a1, ca1]; omega))]
        try rw [if_pos (show a1 < 4 by first | omega | (simp [upS, hz, za1, z1a1, ca1]; done) | (simp [upS, hz, za1, z1a1, ca1]; omega))]
        all_goals rfl
      refine ⟨_, _, hD8, ?_⟩
      clear hD8
      refine ⟨(show 1 = 0 ∨ 1 = 1 by first | omega | (simp [upS, hz, za1, z1a1, ca1]; done) | (simp [upS, hz, za1, z1a1, ca1]; omega)), ?_⟩
      all_goals rfl
    refine ⟨_, _, hD9, ?_⟩
    clear hD9
    rw [if_neg (show ¬ ((1 : Int) = 0) by first | omega | (simp [upS, hz, za1, z1a1, ca1]; done) | (simp [upS, hz, za1, z1a1, ca1]; omega))]
    have hD11 : Dd 247 [(.inl a2)] σ (.inl (some (.inl 0)), σ) := by
      refine b247 ?_
      have hD10 : Dd 246 [(.inl a2), (.inl 4)] σ (.inl (some (.inl 0)), σ) := by
        refine b246 ?_
        try rw [if_neg (show ¬ ((0 : Int) ≤ a2) by first | omega | (simp [upS, hz, za1, z1a1, ca1]; done) | (simp [upS, hz, za1, z1a1, ca1]; omega))]
        all_goals rfl
      refine ⟨_, _, hD10, ?_⟩
      clear hD10
      refine ⟨(show 0 = 0 ∨ 0 = 1 by first | omega | (simp [upS, hz, za1, z1a1, ca1]; done) | (simp [upS, hz, za1, z1a1, ca1]; omega)), ?_⟩
      all_goals rfl
    refine ⟨_, _, hD11, ?_⟩
    clear hD11
    rw [if_pos (show (0 : Int) = 0 by first | omega | (simp [upS, hz, za1, z1a1, ca1]; done) | (simp [upS, hz, za1, z1a1, ca1]; omega))]
    refine b279_19 ?_
    refine b279_20 ?_
    have hD12 : Dd 245 [(.inr (.inr (some 682))), (.inl 1)] σ (.inl (some (.inl 0)), (upS σ 682 0 1)) := by
      refine b245 ?_
      try rw [if_neg (show ¬ ((1 : Int) = 0) by first | omega | (simp [upS, hz, za1, z1a1, ca1]; done) | (simp [upS, hz, za1, z1a1, ca1]; omega))]
      all_goals rfl
    refine ⟨_, _, hD12, ?_⟩
    clear hD12
    rw [if_pos (show (0 : Int) = 0 by first | omega | (simp [upS, hz, za1, z1a1, ca1]; done) | (simp [upS, hz, za1, z1a1, ca1]; omega))]
    all_goals rfl
  refine ⟨_, _, _, _, hA, hB, ?_, ?_, ?_, ?_, ?_⟩
  · (first | rfl | (simp [upS, SCR, hz, za1, z1a1, ca1]; done) | (simp [upS, SCR, hz, za1, z1a1, ca1]; omega))
  · first | (intro h9; omega) | (intro _; first | rfl | (simp [upS, SCR, hz, za1, z1a1, ca1]; done) | (simp [upS, SCR, hz, za1, z1a1, ca1]; omega))
  · intro i; first | rfl | (unfold upS SCR; (repeat' split) <;> first | rfl | omega)
  · first | rfl | (unfold upS SCR; (repeat' split) <;> first | rfl | omega)
  · first | rfl | (unfold upS SCR; (repeat' split) <;> first | rfl | omega)
theorem q8_3 {σ : Sg} {a1 : Int} {a2 : Int} (hz : ∀ a i, a < 1000 → σ a i = 0) (h0 : 0 ≤ a1 ∧ a1 < 4) (h1 : 4 ≤ a2) : ∃ (kx b : Int) (s1 s2 : Sg), Dd 398 [(.inr (.inr (some 0))), (.inl a1), (.inl a2), (.inr (.inr (some 726)))] σ (.inl (some (.inl kx)), s1) ∧ Dd 279 [(.inr (.inr (some 682))), (.inl a1), (.inl a2)] s1 (.inl (some (.inl b)), s2) ∧ s2 682 0 = kx ∧ (kx = 0 → s2 726 0 = b) ∧ (∀ i, s1 SCR i = σ SCR i) ∧ s1 (SCR + 1) 0 = σ (SCR + 1) 0 ∧ s2 (SCR + 1) 0 = σ (SCR + 1) 0 := by
  have za1 : ∀ i, σ (2 + 2 * ((a1)).toNat) i = 0 := fun i => hz _ i (by omega)
  have z1a1 : ∀ i, σ ((2 + 2 * ((a1)).toNat) + 1) i = 0 := fun i => hz _ i (by omega)
  have ca1 : (cap (2 + 2 * ((a1)).toNat) : Int) = 16 := cp_1 (by omega)
  have hA : Dd 398 [(.inr (.inr (some 0))), (.inl a1), (.inl a2), (.inr (.inr (some 726)))] σ (.inl (some (.inl 1)), σ) := by
    refine b398 ?_
    have hD7 : Dd 180 [(.inr (.inr (some 0))), (.inl a1), (.inl a2)] σ (.inr 0, σ) := by
      refine b180 ?_
      have hD3 : Dd 227 [(.inr (.inr (some 0))), (.inl a1)] σ (.inl (some (.inr (.inr (some (2 + 2 * ((a1)).toNat))))), σ) := by
        refine b227 ?_
        have hD1 : Dd 145 [(.inr (.inr (some 1))), (.inl a1)] σ (.inl (some (.inr (.inr (some (2 + 2 * ((a1)).toNat))))), σ) := by
          refine b145 ?_
          rw [if_pos (show (0 : Int) ≤ a1 by first | omega | (simp [upS, hz, za1, z1a1, ca1]; done) | (simp [upS, hz, za1, z1a1, ca1]; omega))]
          refine ⟨4, (by decide +kernel), (by decide), ?_⟩
          rw [if_pos (show a1 < ((4 : Nat) : Int) by first | omega | (simp [upS, hz, za1, z1a1, ca1]; done) | (simp [upS, hz, za1, z1a1, ca1]; omega))]
          refine ⟨(show 0 ≤ a1 by first | omega | (simp [upS, hz, za1, z1a1, ca1]; done) | (simp [upS, hz, za1, z1a1, ca1]; omega)), ?_⟩
          refine ⟨(2 + 2 * ((a1)).toNat), (el_1 (i := (a1)) (by first | omega | (simp [upS, hz, za1, z1a1, ca1]; done) | (simp [upS, hz, za1, z1a1, ca1]; omega))).1, (el_1 (i := (a1)) (by first | omega | (simp [upS, hz, za1, z1a1, ca1]; done) | (simp [upS, hz, za1, z1a1, ca1]; omega))).2, ?_⟩
          all_goals rfl
        refine ⟨_, _, hD1, ?_⟩
        clear hD1
        refine ⟨fun hz2 => (by cases hz2), fun _ hz2 => ?_⟩
        cases hz2
        refine ⟨(el_1 (i := (a1)) (by first | omega | (simp [upS, hz, za1, z1a1, ca1]; done) | (simp [upS, hz, za1, z1a1, ca1]; omega))).2, ?_⟩
        all_goals rfl
      refine Or.inl ⟨_, _, hD3, (el_1 (i := (a1)) (by first | omega | (simp [upS, hz, za1, z1a1, ca1]; done) | (simp [upS, hz, za1, z1a1, ca1]; omega))).2, ?_⟩
      clear hD3
      have hD6 : Dd 227 [(.inr (.inr (some 0))), (.inl a2)] σ (.inr 0, σ) := by
        refine b227 ?_
        have hD4 : Dd 145 [(.inr (.inr (some 1))), (.inl a2)] σ (.inl (some (.inr (.inr none))), σ) := by
          refine b145 ?_
          rw [if_pos (show (0 : Int) ≤ a2 by first | omega | (simp [upS, hz, za1, z1a1, ca1]; done) | (simp [upS, hz, za1, z1a1, ca1]; omega))]
          refine ⟨4, (by decide +kernel), (by decide), ?_⟩
          rw [if_neg (show ¬ (a2 < ((4 : Nat) : Int)) by first | omega | (simp [upS, hz, za1, z1a1, ca1]; done) | (simp [upS, hz, za1, z1a1, ca1]; omega))]
          all_goals rfl
        refine ⟨_, _, hD4, ?_⟩
        clear hD4
        refine ⟨fun _ => ?_, fun _ hz5 => (by cases hz5)⟩
        all_goals rfl
      refine Or.inr ⟨_, _, hD6, ?_⟩
      all_goals rfl
    exact Or.inr (⟨_, hD7, rfl⟩)
  have hB : Dd 279 [(.inr (.inr (some 682))), (.inl a1), (.inl a2)] σ (.inl (some (.inl 0)), (upS σ 682 0 1)) := by
    refine b279 ?_
    have hD9 : Dd 247 [(.inl a1)] σ (.inl (some (.inl 1)), σ) := by
      refine b247 ?_
      have hD8 : Dd 246 [(.inl a1), (.inl 4)] σ (.inl (some (.inl 1)), σ) := by
        refine b246 ?_
        try rw [if_pos (show (0 : Int) ≤ a1 by first | omega | (simp [upS, hz, za1, z1a1, ca1]; done) | (simp [upS, hz, za1, z1a1, ca1]; omega))]
        try rw [if_pos (show a1 < 4 by first | omega | (simp [upS, hz, za1, z1a1, ca1]; done) | (simp [upS, hz, za1, z1a1, ca1]; omega))]
        all_goals rfl
      refine ⟨_, _, hD8, ?_⟩
      clear hD8
      refine ⟨(show 1 = 0 ∨ 1 = 1 by first | omega | (simp [upS, hz, za1, z1a1, ca1]; done) | (simp [upS, hz, za1, z1a1, ca1]; omega)), ?_⟩
      all_goals rfl
    refine ⟨_, _, hD9, ?_⟩
    clear hD9
    rw [if_neg (show ¬ ((1 : Int) = 0) by first | omega | (simp [upS, hz, za1, z1a1, ca1]; done) | (simp [upS, hz, za1, z1a1, ca1]; omega))]
    have hD11 : Dd 247 [(.inl a2)] σ (.inl (some (.inl 0)), σ) := by
      refine b247 ?_
      have hD10 : Dd 246 [(.inl a2), (.inl 4)] σ (.inl (some (.inl 0)), σ) := by
        refine b246 ?_
        try rw [if_pos (show (0 : Int) ≤ a2 by first | omega | (simp [upS, hz, za1, z1a1, ca1]; done) | (simp [upS, hz, za1, z1a1, ca1]; omega))]
        try rw [if_neg (show ¬ (a2 < 4) by first | omega | (simp [upS, hz, za1, z1a1, ca1]; done) | (simp [upS, hz, za1, z1a1, ca1]; omega))]
        all_goals rfl
      refine ⟨_, _, hD10, ?_⟩
      clear hD10
      refine ⟨(show 0 = 0 ∨ 0 = 1 by first | omega | (simp [upS, hz, za1, z1a1, ca1]; done) | (simp [upS, hz, za1, z1a1, ca1]; omega)), ?_⟩
      all_goals rfl
    refine ⟨_, _, hD11, ?_⟩
    clear hD11
    rw [if_pos (show (0 : Int) = 0 by first | omega | (simp [upS, hz, za1, z1a1, ca1]; done) | (simp [upS, hz, za1, z1a1, ca1]; omega))]
    refine b279_19 ?_
    refine b279_20 ?_
    have hD12 : Dd 245 [(.inr (.inr (some 682))), (.inl 1)] σ (.inl (some (.inl 0)), (upS σ 682 0 1)) := by
      refine b245 ?_
      try rw [if_neg (show ¬ ((1 : Int) = 0) by first | omega | (simp [upS, hz, za1, z1a1, ca1]; done) | (simp [upS, hz, za1, z1a1, ca1]; omega))]
      all_goals rfl
    refine ⟨_, _, hD12, ?_⟩
    clear hD12
    rw [if_pos (show (0 : Int) = 0 by first | omega | (simp [upS, hz, za1, z1a1, ca1]; done) | (simp [upS, hz, za1, z1a1, ca1]; omega))]
    all_goals rfl
  refine ⟨_, _, _, _, hA, hB, ?_, ?_, ?_, ?_, ?_⟩
  · (first | rfl | (simp [upS, SCR, hz, za1, z1a1, ca1]; done) | (simp [upS, SCR, hz, za1, z1a1, ca1]; omega))
  · first | (intro h9; omega) | (intro _; first | rfl | (simp [upS, SCR, hz, za1, z1a1, ca1]; done) | (simp [upS, SCR, hz, za1, z1a1, ca1]; omega))
  · intro i; first | rfl | (unfold upS SCR; (repeat' split) <;> first | rfl | omega)
  · first | rfl | (unfold upS SCR; (repeat' split) <;> first | rfl | omega)
  · first | rfl | (unfold upS SCR; (repeat' split) <;> first | rfl | omega)
theorem q8_4 {σ : Sg} {a1 : Int} {a2 : Int} (hz : ∀ a i, a < 1000 → σ a i = 0) (h0 : 0 ≤ a1 ∧ a1 < 4) (h1 : 0 ≤ a2 ∧ a2 < 4) : ∃ (kx b : Int) (s1 s2 : Sg), Dd 398 [(.inr (.inr (some 0))), (.inl a1), (.inl a2), (.inr (.inr (some 726)))] σ (.inl (some (.inl kx)), s1) ∧ Dd 279 [(.inr (.inr (some 682))), (.inl a1), (.inl a2)] s1 (.inl (some (.inl b)), s2) ∧ s2 682 0 = kx ∧ (kx = 0 → s2 726 0 = b) ∧ (∀ i, s1 SCR i = σ SCR i) ∧ s1 (SCR + 1) 0 = σ (SCR + 1) 0 ∧ s2 (SCR + 1) 0 = σ (SCR + 1) 0 := by
  have za1 : ∀ i, σ (2 + 2 * ((a1)).toNat) i = 0 := fun i => hz _ i (by omega)
  have z1a1 : ∀ i, σ ((2 + 2 * ((a1)).toNat) + 1) i = 0 := fun i => hz _ i (by omega)
  have ca1 : (cap (2 + 2 * ((a1)).toNat) : Int) = 16 := cp_1 (by omega)
  have za2 : ∀ i, σ (2 + 2 * ((a2)).toNat) i = 0 := fun i => hz _ i (by omega)
  have z1a2 : ∀ i, σ ((2 + 2 * ((a2)).toNat) + 1) i = 0 := fun i => hz _ i (by omega)
  have ca2 : (cap (2 + 2 * ((a2)).toNat) : Int) = 16 := cp_1 (by omega)
  have hA : Dd 398 [(.inr (.inr (some 0))), (.inl a1), (.inl a2), (.inr (.inr (some 726)))] σ (.inl (some (.inl 0)), (upS (upS (upS (upS (upS (upS σ 333 1 0) 335 1 0) 337 1 0) 343 1 0) 349 0 0) 726 0 0)) := by
    refine b398 ?_
    have hD19 : Dd 180 [(.inr (.inr (some 0))), (.inl a1), (.inl a2)] σ (.inl (some (.inl 0)), (upS (upS (upS (upS (upS σ 333 1 0) 335 1 0) 337 1 0) 343 1 0) 349 0 0)) := by
      refine b180 ?_
      have hD3 : Dd 227 [(.inr (.inr (some 0))), (.inl a1)] σ (.inl (some (.inr (.inr (some (2 + 2 * ((a1)).toNat))))), σ) := by
        refine b227 ?_
        have hD1 : Dd 145 [(.inr (.inr (some 1))), (.inl a1)] σ (.inl (some (.inr (.inr (some (2 + 2 * ((a1)).toNat))))), σ) := by
          refine b145 ?_
          rw [if_pos (show (0 : Int) ≤ a1 by first | omega | (simp [upS, hz, za1, z1a1, ca1, za2, z1a2, ca2]; done) | (simp [upS, hz, za1, z1a1, ca1, za2, z1a2, ca2]; omega))]
          refine ⟨4, (by decide +kernel), (by decide), ?_⟩
          rw [if_pos (show a1 < ((4 : Nat) : Int) by first | omega | (simp [upS, hz, za1, z1a1, ca1, za2, z1a2, ca2]; done) | (simp [upS, hz, za1, z1a1, ca1, za2, z1a2, ca2]; omega))]
          refine ⟨(show 0 ≤ a1 by first | omega | (simp [upS, hz, za1, z1a1, ca1, za2, z1a2, ca2]; done) | (simp [upS, hz, za1, z1a1, ca1, za2, z1a2, ca2]; omega)), ?_⟩
          refine ⟨(2 + 2 * ((a1)).toNat), (el_1 (i := (a1)) (by first | omega | (simp [upS, hz, za1, z1a1, ca1, za2, z1a2, ca2]; done) | (simp [upS, hz, za1, z1a1, ca1, za2, z1a2, ca2]; omega))).1, (el_1 (i := (a1)) (by first | omega | (simp [upS, hz, za1, z1a1, ca1, za2, z1a2, ca2]; done) | (simp [upS, hz, za1, z1a1, ca1, za2, z1a2, ca2]; omega))).2, ?_⟩
          all_goals rfl
        refine ⟨_, _, hD1, ?_⟩
        clear hD1
        refine ⟨fun hz2 => (by cases hz2), fun _ hz2 => ?_⟩
        cases hz2
        refine ⟨(el_1 (i := (a1)) (by first | omega | (simp [upS, hz, za1, z1a1, ca1, za2, z1a2, ca2]; done) | (simp [upS, hz, za1, z1a1, ca1, za2, z1a2, ca2]; omega))).2, ?_⟩
        all_goals rfl
      refine Or.inl ⟨_, _, hD3, (el_1 (i := (a1)) (by first | omega | (simp [upS, hz, za1, z1a1, ca1, za2, z1a2, ca2]; done) | (simp [upS, hz, za1, z1a1, ca1, za2, z1a2, ca2]; omega))).2, ?_⟩
      clear hD3
      have hD6 : Dd 227 [(.inr (.inr (some 0))), (.inl a2)] σ (.inl (some (.inr (.inr (some (2 + 2 * ((a2)).toNat))))), σ) := by
        refine b227 ?_
        have hD4 : Dd 145 [(.inr (.inr (some 1))), (.inl a2)] σ (.inl (some (.inr (.inr (some (2 + 2 * ((a2)).toNat))))), σ) := by
          refine b145 ?_
          rw [if_pos (show (0 : Int) ≤ a2 by first | omega | (simp [upS, hz, za1, z1a1, ca1, za2, z1a2, ca2]; done) | (simp [upS, hz, za1, z1a1, ca1, za2, z1a2, ca2]; omega))]
          refine ⟨4, (by decide +kernel), (by decide), ?_⟩
          rw [if_pos (show a2 < ((4 : Nat) : Int) by first | omega | (simp [upS, hz, za1, z1a1, ca1, za2, z1a2, ca2]; done) | (simp [upS, hz, za1, z1a1, ca1, za2, z1a2, ca2]; omega))]
          refine ⟨(show 0 ≤ a2 by first | omega | (simp [upS, hz, za1, z1a1, ca1, za2, z1a2, ca2]; done) | (simp [upS, hz, za1, z1a1, ca1, za2, z1a2, ca2]; omega)), ?_⟩
          refine ⟨(2 + 2 * ((a2)).toNat), (el_1 (i := (a2)) (by first | omega | (simp [upS, hz, za1, z1a1, ca1, za2, z1a2, ca2]; done) | (simp [upS, hz, za1, z1a1, ca1, za2, z1a2, ca2]; omega))).1, (el_1 (i := (a2)) (by first | omega | (simp [upS, hz, za1, z1a1, ca1, za2, z1a2, ca2]; done) | (simp [upS, hz, za1, z1a1, ca1, za2, z1a2, ca2]; omega))).2, ?_⟩
          all_goals rfl
        refine ⟨_, _, hD4, ?_⟩
        clear hD4
        refine ⟨fun hz5 => (by cases hz5), fun _ hz5 => ?_⟩
        cases hz5
        refine ⟨(el_1 (i := (a2)) (by first | omega | (simp [upS, hz, za1, z1a1, ca1, za2, z1a2, ca2]; done) | (simp [upS, hz, za1, z1a1, ca1, za2, z1a2, ca2]; omega))).2, ?_⟩
        all_goals rfl
      refine Or.inl ⟨_, _, hD6, (el_1 (i := (a2)) (by first | omega | (simp [upS, hz, za1, z1a1, ca1, za2, z1a2, ca2]; done) | (simp [upS, hz, za1, z1a1, ca1, za2, z1a2, ca2]; omega))).2, ?_⟩
      clear hD6
      have hD18 : Dd 16 [(.inr (.inr (some 332))), (.inr (.inr (some (2 + 2 * ((a1)).toNat)))), (.inr (.inr (some (2 + 2 * ((a2)).toNat))))] σ (.inl (some (.inl 0)), (upS (upS (upS (upS (upS σ 333 1 0) 335 1 0) 337 1 0) 343 1 0) 349 0 0)) := by
        refine b16 ?_
        have hD12 : Dd 19 [(.inr (.inr (some 332))), (.inr (.inr (some (2 + 2 * ((a1)).toNat)))), (.inr (.inr (some (2 + 2 * ((a2)).toNat))))] σ (.inl none, (upS (upS (upS (upS σ 333 1 0) 335 1 0) 337 1 0) 343 1 0)) := by
          refine b19 ?_
          have hD7 : Dd 155 [(.inr (.inr (some 333))), (.inr (.inr (some (2 + 2 * ((a1)).toNat))))] σ (.inl none, (upS σ 333 1 0)) := by
            refine b155 (el_1 (i := (a1)) (by first | omega | (simp [upS, hz, za1, z1a1, ca1, za2, z1a2, ca2]; done) | (simp [upS, hz, za1, z1a1, ca1, za2, z1a2, ca2]; omega))).2 (by decide +kernel) ?_
            refine ⟨(show -2147483648 ≤ ((cap 333) : Int) ∧ ((cap 333) : Int) ≤ 2147483647 by have e333 : (cap 333 : Int) = 40 := (by decide +kernel); first | omega | (simp [upS, hz, za1, z1a1, ca1, za2, z1a2, ca2]; done) | (simp [upS, hz, za1, z1a1, ca1, za2, z1a2, ca2]; omega)), ?_⟩
            rw [(show (upS σ 333 1 (if ((cap 333) : Int) < (σ (2 + 2 * ((a1)).toNat) 1) then ((cap 333) : Int) else (σ (2 + 2 * ((a1)).toNat) 1))) = (upS σ 333 1 0) from by rw [show (if ((cap 333) : Int) < (σ (2 + 2 * ((a1)).toNat) 1) then ((cap 333) : Int) else (σ (2 + 2 * ((a1)).toNat) 1)) = 0 by (have e333 : (cap 333 : Int) = 40 := (by decide +kernel); first | omega | (simp [upS, hz, za1, z1a1, ca1, za2, z1a2, ca2]; done) | (simp [upS, hz, za1, z1a1, ca1, za2, z1a2, ca2]; omega))])]
            refine b155_18 (by decide +kernel) (el_1 (i := (a1)) (by first | omega | (simp [upS, hz, za1, z1a1, ca1, za2, z1a2, ca2]; done) | (simp [upS, hz, za1, z1a1, ca1, za2, z1a2, ca2]; omega))).2 ?_
            rw [if_neg (show ¬ ((0 : Int) < ((upS σ 333 1 0) 333 1)) by first | omega | (simp [upS, hz, za1, z1a1, ca1, za2, z1a2, ca2]; done) | (simp [upS, hz, za1, z1a1, ca1, za2, z1a2, ca2]; omega))]
            all_goals rfl
          refine ⟨_, hD7, ?_⟩
          clear hD7
          have hD8 : Dd 155 [(.inr (.inr (some 335))), (.inr (.inr (some (2 + 2 * ((a2)).toNat))))] (upS σ 333 1 0) (.inl none, (upS (upS σ 333 1 0) 335 1 0)) := by
            refine b155 (el_1 (i := (a2)) (by first | omega | (simp [upS, hz, za1, z1a1, ca1, za2, z1a2, ca2]; done) | (simp [upS, hz, za1, z1a1, ca1, za2, z1a2, ca2]; omega))).2 (by decide +kernel) ?_
            refine ⟨(show -2147483648 ≤ ((cap 335) : Int) ∧ ((cap 335) : Int) ≤ 2147483647 by have e335 : (cap 335 : Int) = 40 := (by decide +kernel); first | omega | (simp [upS, hz, za1, z1a1, ca1, za2, z1a2, ca2]; done) | (simp [upS, hz, za1, z1a1, ca1, za2, z1a2, ca2]; omega)), ?_⟩
            rw [(show (upS (upS σ 333 1 0) 335 1 (if ((cap 335) : Int) < ((upS σ 333 1 0) (2 + 2 * ((a2)).toNat) 1) then ((cap 335) : Int) else ((upS σ 333 1 0) (2 + 2 * ((a2)).toNat) 1))) = (upS (upS σ 333 1 0) 335 1 0) from by rw [show (if ((cap 335) : Int) < ((upS σ 333 1 0) (2 + 2 * ((a2)).toNat) 1) then ((cap 335) : Int) else ((upS σ 333 1 0) (2 + 2 * ((a2)).toNat) 1)) = 0 by (have e335 : (cap 335 : Int) = 40 := (by decide +kernel); first | omega | (simp [upS, hz, za1, z1a1, ca1, za2, z1a2, ca2]; done) | (simp [upS, hz, za1, z1a1, ca1, za2, z1a2, ca2]; omega))])]
            refine b155_18 (by decide +kernel) (el_1 (i := (a2)) (by first | omega | (simp [upS, hz, za1, z1a1, ca1, za2, z1a2, ca2]; done) | (simp [upS, hz, za1, z1a1, ca1, za2, z1a2, ca2]; omega))).2 ?_
            rw [if_neg (show ¬ ((0 : Int) < ((upS (upS σ 333 1 0) 335 1 0) 335 1)) by first | omega | (simp [upS, hz, za1, z1a1, ca1, za2, z1a2, ca2]; done) | (simp [upS, hz, za1, z1a1, ca1, za2, z1a2, ca2]; omega))]
            all_goals rfl
          refine ⟨_, hD8, ?_⟩
          clear hD8
          have hD9 : Dd 146 [(.inr (.inr (some 333)))] (upS (upS σ 333 1 0) 335 1 0) (.inl (some (.inl 0)), (upS (upS σ 333 1 0) 335 1 0)) := by
            refine b146 (by decide +kernel) ?_
            rw [show ((upS (upS σ 333 1 0) 335 1 0) 333 1) = 0 by (first | omega | (simp [upS, hz, za1, z1a1, ca1, za2, z1a2, ca2]; done) | (simp [upS, hz, za1, z1a1, ca1, za2, z1a2, ca2]; omega))]
            all_goals rfl
          refine ⟨_, _, hD9, ?_⟩
          clear hD9
          have hD10 : Dd 153 [(.inr (.inr (some 337))), (.inl 0), (.inl (-1))] (upS (upS σ 333 1 0) 335 1 0) (.inl none, (upS (upS (upS σ 333 1 0) 335 1 0) 337 1 0)) := by
            refine b153 (by decide +kernel) ?_
            refine ⟨(show -2147483648 ≤ ((cap 337) : Int) ∧ ((cap 337) : Int) ≤ 2147483647 by have e337 : (cap 337 : Int) = 40 := (by decide +kernel); first | omega | (simp [upS, hz, za1, z1a1, ca1, za2, z1a2, ca2]; done) | (simp [upS, hz, za1, z1a1, ca1, za2, z1a2, ca2]; omega)), ?_⟩
            rw [(show (upS (upS (upS σ 333 1 0) 335 1 0) 337 1 (if 0 < (if ((cap 337) : Int) < 0 then ((cap 337) : Int) else 0) then (if ((cap 337) : Int) < 0 then ((cap 337) : Int) else 0) else 0)) = (upS (upS (upS σ 333 1 0) 335 1 0) 337 1 0) from by rw [show (if (0 : Int) < (if ((cap 337) : Int) < 0 then ((cap 337) : Int) else 0) then (if ((cap 337) : Int) < 0 then ((cap 337) : Int) else 0) else 0) = 0 by (have e337 : (cap 337 : Int) = 40 := (by decide +kernel); first | omega | (simp [upS, hz, za1, z1a1, ca1, za2, z1a2, ca2]; done) | (simp [upS, hz, za1, z1a1, ca1, za2, z1a2, ca2]; omega))])]
            refine b153_19 (by decide +kernel) ?_
            rw [if_neg (show ¬ ((0 : Int) < ((upS (upS (upS σ 333 1 0) 335 1 0) 337 1 0) 337 1)) by first | omega | (simp [upS, hz, za1, z1a1, ca1, za2, z1a2, ca2]; done) | (simp [upS, hz, za1, z1a1, ca1, za2, z1a2, ca2]; omega))]
            all_goals rfl
          refine ⟨_, hD10, ?_⟩
          clear hD10
          have hD11 : Dd 152 [(.inr (.inr (some 343)))] (upS (upS (upS σ 333 1 0) 335 1 0) 337 1 0) (.inl none, (upS (upS (upS (upS σ 333 1 0) 335 1 0) 337 1 0) 343 1 0)) := by
            refine b152 (by decide +kernel) ?_
            all_goals rfl
          refine ⟨_, hD11, ?_⟩
          clear hD11
          all_goals rfl
        refine ⟨_, hD12, ?_⟩
        clear hD12
        have hD13 : Dd 146 [(.inr (.inr (some 333)))] (upS (upS (upS (upS σ 333 1 0) 335 1 0) 337 1 0) 343 1 0) (.inl (some (.inl 0)), (upS (upS (upS (upS σ 333 1 0) 335 1 0) 337 1 0) 343 1 0)) := by
          refine b146 (by decide +kernel) ?_
          rw [show ((upS (upS (upS (upS σ 333 1 0) 335 1 0) 337 1 0) 343 1 0) 333 1) = 0 by (first | omega | (simp [upS, hz, za1, z1a1, ca1, za2, z1a2, ca2]; done) | (simp [upS, hz, za1, z1a1, ca1, za2, z1a2, ca2]; omega))]
          all_goals rfl
        refine ⟨_, _, hD13, ?_⟩
        clear hD13
        have hD14 : Dd 146 [(.inr (.inr (some 335)))] (upS (upS (upS (upS σ 333 1 0) 335 1 0) 337 1 0) 343 1 0) (.inl (some (.inl 0)), (upS (upS (upS (upS σ 333 1 0) 335 1 0) 337 1 0) 343 1 0)) := by
          refine b146 (by decide +kernel) ?_
          rw [show ((upS (upS (upS (upS σ 333 1 0) 335 1 0) 337 1 0) 343 1 0) 335 1) = 0 by (first | omega | (simp [upS, hz, za1, z1a1, ca1, za2, z1a2, ca2]; done) | (simp [upS, hz, za1, z1a1, ca1, za2, z1a2, ca2]; omega))]
          all_goals rfl
        refine ⟨_, _, hD14, ?_⟩
        clear hD14
        have hD16 : Dd 21 [(.inr (.inr (some 332))), (.inl 0), (.inl 0), (.inl 0), (.inl 0)] (upS (upS (upS (upS σ 333 1 0) 335 1 0) 337 1 0) 343 1 0) (.inl none, (upS (upS (upS (upS (upS σ 333 1 0) 335 1 0) 337 1 0) 343 1 0) 349 0 0)) := by
          refine b21 ?_
          refine b21_3 ?_
          rw [if_pos (show (0 : Int) ≤ 0 by first | omega | (simp [upS, hz, za1, z1a1, ca1, za2, z1a2, ca2]; done) | (simp [upS, hz, za1, z1a1, ca1, za2, z1a2, ca2]; omega))]
          refine b21_13 ?_
          rw [if_pos (show (0 : Int) ≤ 0 by first | omega | (simp [upS, hz, za1, z1a1, ca1, za2, z1a2, ca2]; done) | (simp [upS, hz, za1, z1a1, ca1, za2, z1a2, ca2]; omega))]
          rw [if_neg (show ¬ ((0 : Int) < 0) by first | omega | (simp [upS, hz, za1, z1a1, ca1, za2, z1a2, ca2]; done) | (simp [upS, hz, za1, z1a1, ca1, za2, z1a2, ca2]; omega))]
          refine b21_98 ?_
          have hD15 : Dd 23 [(.inr (.inr (some 332))), (.inl 0), (.inl 0), (.inl 0)] (upS (upS (upS (upS σ 333 1 0) 335 1 0) 337 1 0) 343 1 0) (.inl none, (upS (upS (upS (upS (upS σ 333 1 0) 335 1 0) 337 1 0) 343 1 0) 349 0 0)) := by
            refine b23 ?_
            refine ⟨(show (-2147483648 : Int) ≤ (41 * 0) ∧ ((41 * 0) : Int) ≤ 2147483647 by first | omega | (simp [upS, hz, za1, z1a1, ca1, za2, z1a2, ca2]; done) | (simp [upS, hz, za1, z1a1, ca1, za2, z1a2, ca2]; omega)), ?_⟩
            refine ⟨(show (-2147483648 : Int) ≤ ((41 * 0) + 0) ∧ (((41 * 0) + 0) : Int) ≤ 2147483647 by first | omega | (simp [upS, hz, za1, z1a1, ca1, za2, z1a2, ca2]; done) | (simp [upS, hz, za1, z1a1, ca1, za2, z1a2, ca2]; omega)), ?_⟩
            rw [if_pos (show (0 : Int) ≤ ((41 * 0) + 0) by first | omega | (simp [upS, hz, za1, z1a1, ca1, za2, z1a2, ca2]; done) | (simp [upS, hz, za1, z1a1, ca1, za2, z1a2, ca2]; omega))]
            rw [if_pos (show (((41 * 0) + 0) : Int) < 1681 by first | omega | (simp [upS, hz, za1, z1a1, ca1, za2, z1a2, ca2]; done) | (simp [upS, hz, za1, z1a1, ca1, za2, z1a2, ca2]; omega))]
            refine ⟨(show (0 : Int) ≤ ((41 * 0) + 0) ∧ (((41 * 0) + 0) : Int) < 1681 by first | omega | (simp [upS, hz, za1, z1a1, ca1, za2, z1a2, ca2]; done) | (simp [upS, hz, za1, z1a1, ca1, za2, z1a2, ca2]; omega)), ?_⟩
            rw [(show (upS (upS (upS (upS (upS σ 333 1 0) 335 1 0) 337 1 0) 343 1 0) 349 ((((41 * 0) + 0) : Int).toNat) 0) = (upS (upS (upS (upS (upS σ 333 1 0) 335 1 0) 337 1 0) 343 1 0) 349 0 0) from by rw [show ((((41 * 0) + 0) : Int).toNat) = 0 by (first | omega | (simp [upS, hz, za1, z1a1, ca1, za2, z1a2, ca2]; done) | (simp [upS, hz, za1, z1a1, ca1, za2, z1a2, ca2]; omega))])]
            all_goals rfl
          refine ⟨_, hD15, ?_⟩
          clear hD15
          refine ⟨(show (-2147483648 : Int) ≤ (0 + (-1)) ∧ ((0 + (-1)) : Int) ≤ 2147483647 by first | omega | (simp [upS, hz, za1, z1a1, ca1, za2, z1a2, ca2]; done) | (simp [upS, hz, za1, z1a1, ca1, za2, z1a2, ca2]; omega)), ?_⟩
          rw [show ((0 + (-1)) : Int) = (-1) by (first | omega | (simp [upS, hz, za1, z1a1, ca1, za2, z1a2, ca2]; done) | (simp [upS, hz, za1, z1a1, ca1, za2, z1a2, ca2]; omega))]
          refine b21_13 ?_
          rw [if_neg (show ¬ ((0 : Int) ≤ (-1)) by first | omega | (simp [upS, hz, za1, z1a1, ca1, za2, z1a2, ca2]; done) | (simp [upS, hz, za1, z1a1, ca1, za2, z1a2, ca2]; omega))]
          refine ⟨(show (-2147483648 : Int) ≤ (0 + (-1)) ∧ ((0 + (-1)) : Int) ≤ 2147483647 by first | omega | (simp [upS, hz, za1, z1a1, ca1, za2, z1a2, ca2]; done) | (simp [upS, hz, za1, z1a1, ca1, za2, z1a2, ca2]; omega)), ?_⟩
          rw [show ((0 + (-1)) : Int) = (-1) by (first | omega | (simp [upS, hz, za1, z1a1, ca1, za2, z1a2, ca2]; done) | (simp [upS, hz, za1, z1a1, ca1, za2, z1a2, ca2]; omega))]
          refine b21_3 ?_
          rw [if_neg (show ¬ ((0 : Int) ≤ (-1)) by first | omega | (simp [upS, hz, za1, z1a1, ca1, za2, z1a2, ca2]; done) | (simp [upS, hz, za1, z1a1, ca1, za2, z1a2, ca2]; omega))]
          all_goals rfl
        refine ⟨_, hD16, ?_⟩
        clear hD16
        have hD17 : Dd 22 [(.inr (.inr (some 332))), (.inl 0), (.inl 0)] (upS (upS (upS (upS (upS σ 333 1 0) 335 1 0) 337 1 0) 343 1 0) 349 0 0) (.inl (some (.inl 0)), (upS (upS (upS (upS (upS σ 333 1 0) 335 1 0) 337 1 0) 343 1 0) 349 0 0)) := by
          refine b22 ?_
          refine ⟨(show (-2147483648 : Int) ≤ (41 * 0) ∧ ((41 * 0) : Int) ≤ 2147483647 by first | omega | (simp [upS, hz, za1, z1a1, ca1, za2, z1a2, ca2]; done) | (simp [upS, hz, za1, z1a1, ca1, za2, z1a2, ca2]; omega)), ?_⟩
          refine ⟨(show (-2147483648 : Int) ≤ ((41 * 0) + 0) ∧ (((41 * 0) + 0) : Int) ≤ 2147483647 by first | omega | (simp [upS, hz, za1, z1a1, ca1, za2, z1a2, ca2]; done) | (simp [upS, hz, za1, z1a1, ca1, za2, z1a2, ca2]; omega)), ?_⟩
          refine ⟨(show (0 ≤ ((41 * 0) + 0)) → (((41 * 0) + 0) < 1681) → 0 ≤ ((41 * 0) + 0) ∧ ((41 * 0) + 0) < 1681 by (first | (intros; first | omega | (simp [upS, hz, za1, z1a1, ca1, za2, z1a2, ca2]; done) | (simp [upS, hz, za1, z1a1, ca1, za2, z1a2, ca2]; omega)) | (intros; simp_all [upS, hz, za1, z1a1, ca1, za2, z1a2, ca2]; done) | (intros; simp_all [upS, hz, za1, z1a1, ca1, za2, z1a2, ca2]; omega))), ?_⟩
          try rw [if_pos (show (0 : Int) ≤ ((41 * 0) + 0) by first | omega | (simp [upS, hz, za1, z1a1, ca1, za2, z1a2, ca2]; done) | (simp [upS, hz, za1, z1a1, ca1, za2, z1a2, ca2]; omega))]
          try rw [if_pos (show (((41 * 0) + 0) : Int) < 1681 by first | omega | (simp [upS, hz, za1, z1a1, ca1, za2, z1a2, ca2]; done) | (simp [upS, hz, za1, z1a1, ca1, za2, z1a2, ca2]; omega))]
          rw [show ((upS (upS (upS (upS (upS σ 333 1 0) 335 1 0) 337 1 0) 343 1 0) 349 0 0) 349 (((41 * 0) + 0) : Int).toNat) = 0 by (first | omega | (simp [upS, hz, za1, z1a1, ca1, za2, z1a2, ca2]; done) | (simp [upS, hz, za1, z1a1, ca1, za2, z1a2, ca2]; omega))]
          all_goals rfl
        refine ⟨_, _, hD17, ?_⟩
        clear hD17
        all_goals rfl
      refine ⟨_, _, hD18, ?_⟩
      clear hD18
      all_goals rfl
    refine Or.inl ⟨_, _, hD19, ?_⟩
    clear hD19
    rw [(show (upS (upS (upS (upS (upS (upS σ 333 1 0) 335 1 0) 337 1 0) 343 1 0) 349 0 0) 726 ((0 : Int).toNat) 0) = (upS (upS (upS (upS (upS (upS σ 333 1 0) 335 1 0) 337 1 0) 343 1 0) 349 0 0) 726 0 0) from by rw [show ((0 : Int).toNat) = 0 by (first | omega | (simp [upS, hz, za1, z1a1, ca1, za2, z1a2, ca2]; done) | (simp [upS, hz, za1, z1a1, ca1, za2, z1a2, ca2]; omega))])]
    all_goals rfl
  obtain ⟨S900, E900⟩ : ∃ s : Sg, s = (upS (upS (upS (upS (upS (upS σ 333 1 0) 335 1 0) 337 1 0) 343 1 0) 349 0 0) 726 0 0) := ⟨_, rfl⟩
  rw [← E900] at hA
  have hB : Dd 279 [(.inr (.inr (some 682))), (.inl a1), (.inl a2)] S900 (.inl (some (.inl 0)), (upS (upS (upS (upS S900 682 0 0) 682 12 0) 682 13 0) 694 0 0)) := by
    refine b279 ?_
    have hD21 : Dd 247 [(.inl a1)] S900 (.inl (some (.inl 1)), S900) := by
      refine b247 ?_
      have hD20 : Dd 246 [(.inl a1), (.inl 4)] S900 (.inl (some (.inl 1)), S900) := by
        refine b246 ?_
        try rw [if_pos (show (0 : Int) ≤ a1 by first | omega | (simp [upS, hz, za1, z1a1, ca1, za2, z1a2, ca2, E900]; done) | (simp [upS, hz, za1, z1a1, ca1, za2, z1a2, ca2, E900]; omega))]
        try rw [if_pos (show a1 < 4 by first | omega | (simp [upS, hz, za1, z1a1, ca1, za2, z1a2, ca2, E900]; done) | (simp [upS, hz, za1, z1a1, ca1, za2, z1a2, ca2, E900]; omega))]
        all_goals rfl
      refine ⟨_, _, hD20, ?_⟩
      clear hD20
      refine ⟨(show 1 = 0 ∨ 1 = 1 by first | omega | (simp [upS, hz, za1, z1a1, ca1, za2, z1a2, ca2, E900]; done) | (simp [upS, hz, za1, z1a1, ca1, za2, z1a2, ca2, E900]; omega)), ?_⟩
      all_goals rfl
    refine ⟨_, _, hD21, ?_⟩
    clear hD21
    rw [if_neg (show ¬ ((1 : Int) = 0) by first | omega | (simp [upS, hz, za1, z1a1, ca1, za2, z1a2, ca2, E900]; done) | (simp [upS, hz, za1, z1a1, ca1, za2, z1a2, ca2, E900]; omega))]
    have hD23 : Dd 247 [(.inl a2)] S900 (.inl (some (.inl 1)), S900) := by
      refine b247 ?_
      have hD22 : Dd 246 [(.inl a2), (.inl 4)] S900 (.inl (some (.inl 1)), S900) := by
        refine b246 ?_
        try rw [if_pos (show (0 : Int) ≤ a2 by first | omega | (simp [upS, hz, za1, z1a1, ca1, za2, z1a2, ca2, E900]; done) | (simp [upS, hz, za1, z1a1, ca1, za2, z1a2, ca2, E900]; omega))]
        try rw [if_pos (show a2 < 4 by first | omega | (simp [upS, hz, za1, z1a1, ca1, za2, z1a2, ca2, E900]; done) | (simp [upS, hz, za1, z1a1, ca1, za2, z1a2, ca2, E900]; omega))]
        all_goals rfl
      refine ⟨_, _, hD22, ?_⟩
      clear hD22
      refine ⟨(show 1 = 0 ∨ 1 = 1 by first | omega | (simp [upS, hz, za1, z1a1, ca1, za2, z1a2, ca2, E900]; done) | (simp [upS, hz, za1, z1a1, ca1, za2, z1a2, ca2, E900]; omega)), ?_⟩
      all_goals rfl
    refine ⟨_, _, hD23, ?_⟩
    clear hD23
    rw [if_neg (show ¬ ((1 : Int) = 0) by first | omega | (simp [upS, hz, za1, z1a1, ca1, za2, z1a2, ca2, E900]; done) | (simp [upS, hz, za1, z1a1, ca1, za2, z1a2, ca2, E900]; omega))]
    refine b279_20 ?_
    have hD24 : Dd 245 [(.inr (.inr (some 682))), (.inl 0)] S900 (.inl (some (.inl 1)), (upS S900 682 0 0)) := by
      refine b245 ?_
      try rw [if_pos (show (0 : Int) = 0 by first | omega | (simp [upS, hz, za1, z1a1, ca1, za2, z1a2, ca2, E900]; done) | (simp [upS, hz, za1, z1a1, ca1, za2, z1a2, ca2, E900]; omega))]
      all_goals rfl
    refine ⟨_, _, hD24, ?_⟩
    clear hD24
    rw [if_neg (show ¬ ((1 : Int) = 0) by first | omega | (simp [upS, hz, za1, z1a1, ca1, za2, z1a2, ca2, E900]; done) | (simp [upS, hz, za1, z1a1, ca1, za2, z1a2, ca2, E900]; omega))]
    have hD27 : Dd 276 [(.inr (.inr (some 682))), (.inl a1), (.inl a2)] (upS S900 682 0 0) (.inl none, (upS (upS (upS S900 682 0 0) 682 12 0) 682 13 0)) := by
      refine b276 ?_
      refine ⟨(show -2147483648 ≤ (16 * a1) ∧ (16 * a1) ≤ 2147483647 by first | omega | (simp [upS, hz, za1, z1a1, ca1, za2, z1a2, ca2, E900]; done) | (simp [upS, hz, za1, z1a1, ca1, za2, z1a2, ca2, E900]; omega)), ?_⟩
      refine ⟨(show 0 ≤ a1 ∧ a1 < 4 by first | omega | (simp [upS, hz, za1, z1a1, ca1, za2, z1a2, ca2, E900]; done) | (simp [upS, hz, za1, z1a1, ca1, za2, z1a2, ca2, E900]; omega)), ?_⟩
      rw [show ((upS S900 682 0 0) 684 (a1).toNat) = 0 by (first | omega | (simp [upS, hz, za1, z1a1, ca1, za2, z1a2, ca2, E900]; done) | (simp [upS, hz, za1, z1a1, ca1, za2, z1a2, ca2, E900]; omega))]
      have hD25 : Dd 263 [(.inr (.inr (some 682))), (.inr (.inr (some 683))), (.inl (16 * a1)), (.inl 0)] (upS S900 682 0 0) (.inl none, (upS (upS S900 682 0 0) 682 12 0)) := by
        refine b263 ?_
        refine b263_8 (show qA 683 0 64 = true by decide +kernel) ?_
        rw [if_neg (show ¬ ((0 : Int) < 0) by first | omega | (simp [upS, hz, za1, z1a1, ca1, za2, z1a2, ca2, E900]; done) | (simp [upS, hz, za1, z1a1, ca1, za2, z1a2, ca2, E900]; omega))]
        all_goals rfl
      refine ⟨_, hD25, ?_⟩
      clear hD25
      refine ⟨(show -2147483648 ≤ (16 * a2) ∧ (16 * a2) ≤ 2147483647 by first | omega | (simp [upS, hz, za1, z1a1, ca1, za2, z1a2, ca2, E900]; done) | (simp [upS, hz, za1, z1a1, ca1, za2, z1a2, ca2, E900]; omega)), ?_⟩
      refine ⟨(show 0 ≤ a2 ∧ a2 < 4 by first | omega | (simp [upS, hz, za1, z1a1, ca1, za2, z1a2, ca2, E900]; done) | (simp [upS, hz, za1, z1a1, ca1, za2, z1a2, ca2, E900]; omega)), ?_⟩
      rw [show ((upS (upS S900 682 0 0) 682 12 0) 684 (a2).toNat) = 0 by (first | omega | (simp [upS, hz, za1, z1a1, ca1, za2, z1a2, ca2, E900]; done) | (simp [upS, hz, za1, z1a1, ca1, za2, z1a2, ca2, E900]; omega))]
      have hD26 : Dd 264 [(.inr (.inr (some 682))), (.inr (.inr (some 683))), (.inl (16 * a2)), (.inl 0)] (upS (upS S900 682 0 0) 682 12 0) (.inl none, (upS (upS (upS S900 682 0 0) 682 12 0) 682 13 0)) := by
        refine b264 ?_
        refine b264_8 (show qA 683 0 64 = true by decide +kernel) ?_
        rw [if_neg (show ¬ ((0 : Int) < 0) by first | omega | (simp [upS, hz, za1, z1a1, ca1, za2, z1a2, ca2, E900]; done) | (simp [upS, hz, za1, z1a1, ca1, za2, z1a2, ca2, E900]; omega))]
        all_goals rfl
      refine ⟨_, hD26, ?_⟩
      clear hD26
      all_goals rfl
    refine ⟨_, hD27, ?_⟩
    clear hD27
    rw [show ((upS (upS (upS S900 682 0 0) 682 12 0) 682 13 0) 682 12) = 0 by (first | omega | (simp [upS, hz, za1, z1a1, ca1, za2, z1a2, ca2, E900]; done) | (simp [upS, hz, za1, z1a1, ca1, za2, z1a2, ca2, E900]; omega))]
    rw [show ((upS (upS (upS S900 682 0 0) 682 12 0) 682 13 0) 682 13) = 0 by (first | omega | (simp [upS, hz, za1, z1a1, ca1, za2, z1a2, ca2, E900]; done) | (simp [upS, hz, za1, z1a1, ca1, za2, z1a2, ca2, E900]; omega))]
    have hD28 : Dd 265 [(.inr (.inr (some 682))), (.inl 0), (.inl 0), (.inl 0), (.inl 0)] (upS (upS (upS S900 682 0 0) 682 12 0) 682 13 0) (.inl none, (upS (upS (upS (upS S900 682 0 0) 682 12 0) 682 13 0) 694 0 0)) := by
      refine b265 ?_
      refine b265_3 ?_
      rw [if_pos (show (0 : Int) ≤ 0 by first | omega | (simp [upS, hz, za1, z1a1, ca1, za2, z1a2, ca2, E900]; done) | (simp [upS, hz, za1, z1a1, ca1, za2, z1a2, ca2, E900]; omega))]
      refine b265_13 ?_
      rw [if_pos (show (0 : Int) ≤ 0 by first | omega | (simp [upS, hz, za1, z1a1, ca1, za2, z1a2, ca2, E900]; done) | (simp [upS, hz, za1, z1a1, ca1, za2, z1a2, ca2, E900]; omega))]
      rw [if_neg (show ¬ ((0 : Int) < 0) by first | omega | (simp [upS, hz, za1, z1a1, ca1, za2, z1a2, ca2, E900]; done) | (simp [upS, hz, za1, z1a1, ca1, za2, z1a2, ca2, E900]; omega))]
      refine b265_124 ?_
      refine ⟨(show (-2147483648 : Int) ≤ (65 * 0) ∧ ((65 * 0) : Int) ≤ 2147483647 by first | omega | (simp [upS, hz, za1, z1a1, ca1, za2, z1a2, ca2, E900]; done) | (simp [upS, hz, za1, z1a1, ca1, za2, z1a2, ca2, E900]; omega)), ?_⟩
      refine ⟨(show (-2147483648 : Int) ≤ ((65 * 0) + 0) ∧ (((65 * 0) + 0) : Int) ≤ 2147483647 by first | omega | (simp [upS, hz, za1, z1a1, ca1, za2, z1a2, ca2, E900]; done) | (simp [upS, hz, za1, z1a1, ca1, za2, z1a2, ca2, E900]; omega)), ?_⟩
      refine ⟨(show (0 : Int) ≤ ((65 * 0) + 0) ∧ (((65 * 0) + 0) : Int) < 4225 by first | omega | (simp [upS, hz, za1, z1a1, ca1, za2, z1a2, ca2, E900]; done) | (simp [upS, hz, za1, z1a1, ca1, za2, z1a2, ca2, E900]; omega)), ?_⟩
      refine ⟨(show (-2147483648 : Int) ≤ (0 + (-1)) ∧ ((0 + (-1)) : Int) ≤ 2147483647 by first | omega | (simp [upS, hz, za1, z1a1, ca1, za2, z1a2, ca2, E900]; done) | (simp [upS, hz, za1, z1a1, ca1, za2, z1a2, ca2, E900]; omega)), ?_⟩
      rw [(show (upS (upS (upS (upS S900 682 0 0) 682 12 0) 682 13 0) 694 ((((65 * 0) + 0) : Int).toNat) 0) = (upS (upS (upS (upS S900 682 0 0) 682 12 0) 682 13 0) 694 0 0) from by rw [show ((((65 * 0) + 0) : Int).toNat) = 0 by (first | omega | (simp [upS, hz, za1, z1a1, ca1, za2, z1a2, ca2, E900]; done) | (simp [upS, hz, za1, z1a1, ca1, za2, z1a2, ca2, E900]; omega))])]
      rw [show ((0 + (-1)) : Int) = (-1) by (first | omega | (simp [upS, hz, za1, z1a1, ca1, za2, z1a2, ca2, E900]; done) | (simp [upS, hz, za1, z1a1, ca1, za2, z1a2, ca2, E900]; omega))]
      refine b265_13 ?_
      rw [if_neg (show ¬ ((0 : Int) ≤ (-1)) by first | omega | (simp [upS, hz, za1, z1a1, ca1, za2, z1a2, ca2, E900]; done) | (simp [upS, hz, za1, z1a1, ca1, za2, z1a2, ca2, E900]; omega))]
      refine ⟨(show (-2147483648 : Int) ≤ (0 + (-1)) ∧ ((0 + (-1)) : Int) ≤ 2147483647 by first | omega | (simp [upS, hz, za1, z1a1, ca1, za2, z1a2, ca2, E900]; done) | (simp [upS, hz, za1, z1a1, ca1, za2, z1a2, ca2, E900]; omega)), ?_⟩
      rw [show ((0 + (-1)) : Int) = (-1) by (first | omega | (simp [upS, hz, za1, z1a1, ca1, za2, z1a2, ca2, E900]; done) | (simp [upS, hz, za1, z1a1, ca1, za2, z1a2, ca2, E900]; omega))]
      refine b265_3 ?_
      rw [if_neg (show ¬ ((0 : Int) ≤ (-1)) by first | omega | (simp [upS, hz, za1, z1a1, ca1, za2, z1a2, ca2, E900]; done) | (simp [upS, hz, za1, z1a1, ca1, za2, z1a2, ca2, E900]; omega))]
      all_goals rfl
    refine ⟨_, hD28, ?_⟩
    clear hD28
    rw [show ((upS (upS (upS (upS S900 682 0 0) 682 12 0) 682 13 0) 694 0 0) 694 (0 : Int).toNat) = 0 by (first | omega | (simp [upS, hz, za1, z1a1, ca1, za2, z1a2, ca2, E900]; done) | (simp [upS, hz, za1, z1a1, ca1, za2, z1a2, ca2, E900]; omega))]
    all_goals rfl
  refine ⟨_, _, _, _, hA, hB, ?_, ?_, ?_, ?_, ?_⟩
  all_goals subst E900
  · (first | rfl | (simp [upS, SCR, hz, za1, z1a1, ca1, za2, z1a2, ca2]; done) | (simp [upS, SCR, hz, za1, z1a1, ca1, za2, z1a2, ca2]; omega))
  · first | (intro h9; omega) | (intro _; first | rfl | (simp [upS, SCR, hz, za1, z1a1, ca1, za2, z1a2, ca2]; done) | (simp [upS, SCR, hz, za1, z1a1, ca1, za2, z1a2, ca2]; omega))
  · intro i; first | rfl | (unfold upS SCR; (repeat' split) <;> first | rfl | omega)
  · first | rfl | (unfold upS SCR; (repeat' split) <;> first | rfl | omega)
  · first | rfl | (unfold upS SCR; (repeat' split) <;> first | rfl | omega)
end
