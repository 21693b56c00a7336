noncomputable section
theorem x10_0 {σ : Sg} {c : Int} {a1 : Int} (H : Rel c σ) (h0 : a1 < 0) : OpR 400 300 [(.inr (.inr (some 0))), (.inl a1), (.inr (.inr (some 726)))] [(.inr (.inr (some 682))), (.inl a1)] σ (c + 1) := by
  obtain ⟨r1, r2, r3, r4, r5⟩ := rel_n H
  have hA : Dd 400 [(.inr (.inr (some 0))), (.inl a1), (.inr (.inr (some 726)))] σ (.inl (some (.inl 1)), σ) := by
    refine b400 ?_
    have hD4 : Dd 182 [(.inr (.inr (some 0))), (.inl a1)] σ (.inr 0, σ) := by
      refine b182 ?_
      have hD3 : Dd 230 [(.inr (.inr (some 0))), (.inl a1)] σ (.inr 0, σ) := by
        refine b230 ?_
        have hD1 : Dd 89 [(.inr (.inr (some 19))), (.inl a1), (.inl (σ 0 3))] σ (.inl (some (.inr (.inr none))), σ) := by
          refine b89 ?_
          rw [if_neg (show ¬ ((0 : Int) ≤ a1) by first | omega | (simp [upS]; done) | (simp [upS]; omega))]
          all_goals rfl
        refine ⟨_, _, hD1, ?_⟩
        clear hD1
        refine ⟨fun _ => ?_, fun _ hz2 => (by cases hz2)⟩
        all_goals rfl
      refine Or.inr ⟨_, _, hD3, ?_⟩
      all_goals rfl
    exact Or.inr (Or.inl ⟨_, hD4, rfl⟩)
  have hB : Dd 300 [(.inr (.inr (some 682))), (.inl a1)] σ (.inl (some (.inl 0)), (upS σ 682 0 1)) := by
    refine b300 ?_
    have hD6 : Dd 248 [(.inr (.inr (some 682))), (.inl a1)] σ (.inl (some (.inl 0)), σ) := by
      refine b248 ?_
      have hD5 : Dd 246 [(.inl a1), (.inl (σ 682 3))] σ (.inl (some (.inl 0)), σ) := by
        refine b246 ?_
        try rw [if_neg (show ¬ ((0 : Int) ≤ a1) by first | omega | (simp [upS]; done) | (simp [upS]; omega))]
        all_goals rfl
      refine ⟨_, _, hD5, ?_⟩
      clear hD5
      refine ⟨(show 0 = 0 ∨ 0 = 1 by first | omega | (simp [upS]; done) | (simp [upS]; omega)), ?_⟩
      all_goals rfl
    refine ⟨_, _, hD6, ?_⟩
    clear hD6
    try rw [if_pos (show (0 : Int) = 0 by first | omega | (simp [upS]; done) | (simp [upS]; omega))]
    refine b300_27 ?_
    have hD7 : Dd 245 [(.inr (.inr (some 682))), (.inl 1)] σ (.inl (some (.inl 0)), (upS σ 682 0 1)) := by
      refine b245 ?_
      try rw [if_neg (show ¬ ((1 : Int) = 0) by first | omega | (simp [upS]; done) | (simp [upS]; omega))]
      all_goals rfl
    refine ⟨_, _, hD7, ?_⟩
    clear hD7
    rw [if_pos (show (0 : Int) = 0 by first | omega | (simp [upS]; done) | (simp [upS]; omega))]
    all_goals rfl
  exact op_x H (by decide) hA hB
theorem x10_1 {σ : Sg} {c : Int} {a1 : Int} (H : Rel c σ) (h0 : σ 0 3 ≤ a1) : OpR 400 300 [(.inr (.inr (some 0))), (.inl a1), (.inr (.inr (some 726)))] [(.inr (.inr (some 682))), (.inl a1)] σ (c + 1) := by
  obtain ⟨r1, r2, r3, r4, r5⟩ := rel_n H
  have hA : Dd 400 [(.inr (.inr (some 0))), (.inl a1), (.inr (.inr (some 726)))] σ (.inl (some (.inl 1)), σ) := by
    refine b400 ?_
    have hD4 : Dd 182 [(.inr (.inr (some 0))), (.inl a1)] σ (.inr 0, σ) := by
      refine b182 ?_
      have hD3 : Dd 230 [(.inr (.inr (some 0))), (.inl a1)] σ (.inr 0, σ) := by
        refine b230 ?_
        have hD1 : Dd 89 [(.inr (.inr (some 19))), (.inl a1), (.inl (σ 0 3))] σ (.inl (some (.inr (.inr none))), σ) := by
          refine b89 ?_
          rw [if_pos (show (0 : Int) ≤ a1 by first | omega | (simp [upS]; done) | (simp [upS]; omega))]
          rw [if_neg (show ¬ (a1 < (σ 0 3)) by first | omega | (simp [upS]; done) | (simp [upS]; omega))]
          all_goals rfl
        refine ⟨_, _, hD1, ?_⟩
        clear hD1
        refine ⟨fun _ => ?_, fun _ hz2 => (by cases hz2)⟩
        all_goals rfl
      refine Or.inr ⟨_, _, hD3, ?_⟩
      all_goals rfl
    exact Or.inr (Or.inl ⟨_, hD4, rfl⟩)
  have hB : Dd 300 [(.inr (.inr (some 682))), (.inl a1)] σ (.inl (some (.inl 0)), (upS σ 682 0 1)) := by
    refine b300 ?_
    have hD6 : Dd 248 [(.inr (.inr (some 682))), (.inl a1)] σ (.inl (some (.inl 0)), σ) := by
      refine b248 ?_
      have hD5 : Dd 246 [(.inl a1), (.inl (σ 682 3))] σ (.inl (some (.inl 0)), σ) := by
        refine b246 ?_
        try rw [if_pos (show (0 : Int) ≤ a1 by first | omega | (simp [upS]; done) | (simp [upS]; omega))]
        try rw [if_neg (show ¬ (a1 < (σ 682 3)) by first | omega | (simp [upS]; done) | (simp [upS]; omega))]
        all_goals rfl
      refine ⟨_, _, hD5, ?_⟩
      clear hD5
      refine ⟨(show 0 = 0 ∨ 0 = 1 by first | omega | (simp [upS]; done) | (simp [upS]; omega)), ?_⟩
      all_goals rfl
    refine ⟨_, _, hD6, ?_⟩
    clear hD6
    try rw [if_pos (show (0 : Int) = 0 by first | omega | (simp [upS]; done) | (simp [upS]; omega))]
    refine b300_27 ?_
    have hD7 : Dd 245 [(.inr (.inr (some 682))), (.inl 1)] σ (.inl (some (.inl 0)), (upS σ 682 0 1)) := by
      refine b245 ?_
      try rw [if_neg (show ¬ ((1 : Int) = 0) by first | omega | (simp [upS]; done) | (simp [upS]; omega))]
      all_goals rfl
    refine ⟨_, _, hD7, ?_⟩
    clear hD7
    rw [if_pos (show (0 : Int) = 0 by first | omega | (simp [upS]; done) | (simp [upS]; omega))]
    all_goals rfl
  exact op_x H (by decide) hA hB
theorem x11_0 {σ : Sg} {c : Int} {a1 : Int} {a2 : Int} (H : Rel c σ) (h0 : a1 < 0) : OpR 401 301 [(.inr (.inr (some 0))), (.inl a1), (.inl a2), (.inr (.inr (some 726)))] [(.inr (.inr (some 682))), (.inl a1), (.inl a2)] σ (c + 1) := by
  obtain ⟨r1, r2, r3, r4, r5⟩ := rel_n H
  have hA : Dd 401 [(.inr (.inr (some 0))), (.inl a1), (.inl a2), (.inr (.inr (some 726)))] σ (.inl (some (.inl 1)), σ) := by
    refine b401 ?_
    have hD4 : Dd 183 [(.inr (.inr (some 0))), (.inl a1), (.inl a2)] σ (.inr 0, σ) := by
      refine b183 ?_
      have hD3 : Dd 230 [(.inr (.inr (some 0))), (.inl a1)] σ (.inr 0, σ) := by
        refine b230 ?_
        have hD1 : Dd 89 [(.inr (.inr (some 19))), (.inl a1), (.inl (σ 0 3))] σ (.inl (some (.inr (.inr none))), σ) := by
          refine b89 ?_
          rw [if_neg (show ¬ ((0 : Int) ≤ a1) by first | omega | (simp [upS]; done) | (simp [upS]; omega))]
          all_goals rfl
        refine ⟨_, _, hD1, ?_⟩
        clear hD1
        refine ⟨fun _ => ?_, fun _ hz2 => (by cases hz2)⟩
        all_goals rfl
      refine Or.inr ⟨_, _, hD3, ?_⟩
      all_goals rfl
    exact Or.inr (Or.inl ⟨_, hD4, rfl⟩)
  have hB : Dd 301 [(.inr (.inr (some 682))), (.inl a1), (.inl a2)] σ (.inl (some (.inl 0)), (upS σ 682 0 1)) := by
    refine b301 ?_
    have hD6 : Dd 248 [(.inr (.inr (some 682))), (.inl a1)] σ (.inl (some (.inl 0)), σ) := by
      refine b248 ?_
      have hD5 : Dd 246 [(.inl a1), (.inl (σ 682 3))] σ (.inl (some (.inl 0)), σ) := by
        refine b246 ?_
        try rw [if_neg (show ¬ ((0 : Int) ≤ a1) by first | omega | (simp [upS]; done) | (simp [upS]; omega))]
        all_goals rfl
      refine ⟨_, _, hD5, ?_⟩
      clear hD5
      refine ⟨(show 0 = 0 ∨ 0 = 1 by first | omega | (simp [upS]; done) | (simp [upS]; omega)), ?_⟩
      all_goals rfl
    refine ⟨_, _, hD6, ?_⟩
    clear hD6
    rw [if_pos (show (0 : Int) = 0 by first | omega | (simp [upS]; done) | (simp [upS]; omega))]
    refine b301_20 ?_
    refine b301_21 ?_
    rw [if_pos (show (0 : Int) = 0 by first | omega | (simp [upS]; done) | (simp [upS]; omega))]
    refine b301_54 ?_
    have hD7 : Dd 245 [(.inr (.inr (some 682))), (.inl 1)] σ (.inl (some (.inl 0)), (upS σ 682 0 1)) := by
      refine b245 ?_
      try rw [if_neg (show ¬ ((1 : Int) = 0) by first | omega | (simp [upS]; done) | (simp [upS]; omega))]
      all_goals rfl
    refine ⟨_, _, hD7, ?_⟩
    clear hD7
    rw [if_pos (show (0 : Int) = 0 by first | omega | (simp [upS]; done) | (simp [upS]; omega))]
    all_goals rfl
  exact op_x H (by decide) hA hB
theorem x11_1 {σ : Sg} {c : Int} {a1 : Int} {a2 : Int} (H : Rel c σ) (h0 : σ 0 3 ≤ a1) : OpR 401 301 [(.inr (.inr (some 0))), (.inl a1), (.inl a2), (.inr (.inr (some 726)))] [(.inr (.inr (some 682))), (.inl a1), (.inl a2)] σ (c + 1) := by
  obtain ⟨r1, r2, r3, r4, r5⟩ := rel_n H
  have hA : Dd 401 [(.inr (.inr (some 0))), (.inl a1), (.inl a2), (.inr (.inr (some 726)))] σ (.inl (some (.inl 1)), σ) := by
    refine b401 ?_
    have hD4 : Dd 183 [(.inr (.inr (some 0))), (.inl a1), (.inl a2)] σ (.inr 0, σ) := by
      refine b183 ?_
      have hD3 : Dd 230 [(.inr (.inr (some 0))), (.inl a1)] σ (.inr 0, σ) := by
        refine b230 ?_
        have hD1 : Dd 89 [(.inr (.inr (some 19))), (.inl a1), (.inl (σ 0 3))] σ (.inl (some (.inr (.inr none))), σ) := by
          refine b89 ?_
          rw [if_pos (show (0 : Int) ≤ a1 by first | omega | (simp [upS]; done) | (simp [upS]; omega))]
          rw [if_neg (show ¬ (a1 < (σ 0 3)) by first | omega | (simp [upS]; done) | (simp [upS]; omega))]
          all_goals rfl
        refine ⟨_, _, hD1, ?_⟩
        clear hD1
        refine ⟨fun _ => ?_, fun _ hz2 => (by cases hz2)⟩
        all_goals rfl
      refine Or.inr ⟨_, _, hD3, ?_⟩
      all_goals rfl
    exact Or.inr (Or.inl ⟨_, hD4, rfl⟩)
  have hB : Dd 301 [(.inr (.inr (some 682))), (.inl a1), (.inl a2)] σ (.inl (some (.inl 0)), (upS σ 682 0 1)) := by
    refine b301 ?_
    have hD6 : Dd 248 [(.inr (.inr (some 682))), (.inl a1)] σ (.inl (some (.inl 0)), σ) := by
      refine b248 ?_
      have hD5 : Dd 246 [(.inl a1), (.inl (σ 682 3))] σ (.inl (some (.inl 0)), σ) := by
        refine b246 ?_
        try rw [if_pos (show (0 : Int) ≤ a1 by first | omega | (simp [upS]; done) | (simp [upS]; omega))]
        try rw [if_neg (show ¬ (a1 < (σ 682 3)) by first | omega | (simp [upS]; done) | (simp [upS]; omega))]
        all_goals rfl
      refine ⟨_, _, hD5, ?_⟩
      clear hD5
      refine ⟨(show 0 = 0 ∨ 0 = 1 by first | omega | (simp [upS]; done) | (simp [upS]; omega)), ?_⟩
      all_goals rfl
    refine ⟨_, _, hD6, ?_⟩
    clear hD6
    rw [if_pos (show (0 : Int) = 0 by first | omega | (simp [upS]; done) | (simp [upS]; omega))]
    refine b301_20 ?_
    refine b301_21 ?_
    rw [if_pos (show (0 : Int) = 0 by first | omega | (simp [upS]; done) | (simp [upS]; omega))]
    refine b301_54 ?_
    have hD7 : Dd 245 [(.inr (.inr (some 682))), (.inl 1)] σ (.inl (some (.inl 0)), (upS σ 682 0 1)) := by
      refine b245 ?_
      try rw [if_neg (show ¬ ((1 : Int) = 0) by first | omega | (simp [upS]; done) | (simp [upS]; omega))]
      all_goals rfl
    refine ⟨_, _, hD7, ?_⟩
    clear hD7
    rw [if_pos (show (0 : Int) = 0 by first | omega | (simp [upS]; done) | (simp [upS]; omega))]
    all_goals rfl
  exact op_x H (by decide) hA hB
theorem x11_2 {σ : Sg} {c : Int} {a1 : Int} {a2 : Int} (H : Rel c σ) (h0 : 0 ≤ a1 ∧ a1 < σ 0 3) (h1 : a2 < 0) : OpR 401 301 [(.inr (.inr (some 0))), (.inl a1), (.inl a2), (.inr (.inr (some 726)))] [(.inr (.inr (some 682))), (.inl a1), (.inl a2)] σ (c + 1) := by
  obtain ⟨r1, r2, r3, r4, r5⟩ := rel_n H
  have t0 := rel_p H h0
  have hA : Dd 401 [(.inr (.inr (some 0))), (.inl a1), (.inl a2), (.inr (.inr (some 726)))] σ (.inl (some (.inl 1)), σ) := by
    refine b401 ?_
    have hD7 : Dd 183 [(.inr (.inr (some 0))), (.inl a1), (.inl a2)] σ (.inr 0, σ) := by
      refine b183 ?_
      have hD3 : Dd 230 [(.inr (.inr (some 0))), (.inl a1)] σ (.inl (some (.inr (.inr (some (20 + 13 * ((a1)).toNat))))), σ) := by
        refine b230 ?_
        have hD1 : Dd 89 [(.inr (.inr (some 19))), (.inl a1), (.inl (σ 0 3))] σ (.inl (some (.inr (.inr (some (20 + 13 * ((a1)).toNat))))), σ) := by
          refine b89 ?_
          rw [if_pos (show (0 : Int) ≤ a1 by first | omega | (simp [upS]; done) | (simp [upS]; omega))]
          rw [if_pos (show a1 < (σ 0 3) by first | omega | (simp [upS]; done) | (simp [upS]; omega))]
          refine ⟨24, (by decide +kernel), (by decide), ?_⟩
          rw [if_pos (show a1 < ((24 : Nat) : Int) by first | omega | (simp [upS]; done) | (simp [upS]; omega))]
          refine ⟨(show 0 ≤ a1 by first | omega | (simp [upS]; done) | (simp [upS]; omega)), ?_⟩
          refine ⟨(20 + 13 * ((a1)).toNat), (el_19 (i := (a1)) (by first | omega | (simp [upS]; done) | (simp [upS]; omega))).1, (el_19 (i := (a1)) (by first | omega | (simp [upS]; done) | (simp [upS]; omega))).2, ?_⟩
          all_goals rfl
        refine ⟨_, _, hD1, ?_⟩
        clear hD1
        refine ⟨fun hz2 => (by cases hz2), fun _ hz2 => ?_⟩
        cases hz2
        refine ⟨(el_19 (i := (a1)) (by first | omega | (simp [upS]; done) | (simp [upS]; omega))).2, ?_⟩
        all_goals rfl
      refine Or.inl ⟨_, _, hD3, (el_19 (i := (a1)) (by first | omega | (simp [upS]; done) | (simp [upS]; omega))).2, ?_⟩
      clear hD3
      have hD6 : Dd 230 [(.inr (.inr (some 0))), (.inl a2)] σ (.inr 0, σ) := by
        refine b230 ?_
        have hD4 : Dd 89 [(.inr (.inr (some 19))), (.inl a2), (.inl (σ 0 3))] σ (.inl (some (.inr (.inr none))), σ) := by
          refine b89 ?_
          rw [if_neg (show ¬ ((0 : Int) ≤ a2) by first | omega | (simp [upS]; done) | (simp [upS]; omega))]
          all_goals rfl
        refine ⟨_, _, hD4, ?_⟩
        clear hD4
        refine ⟨fun _ => ?_, fun _ hz5 => (by cases hz5)⟩
        all_goals rfl
      refine Or.inr ⟨_, _, hD6, ?_⟩
      all_goals rfl
    exact Or.inr (Or.inl ⟨_, hD7, rfl⟩)
  have hB : Dd 301 [(.inr (.inr (some 682))), (.inl a1), (.inl a2)] σ (.inl (some (.inl 0)), (upS σ 682 0 1)) := by
    refine b301 ?_
    have hD9 : Dd 248 [(.inr (.inr (some 682))), (.inl a1)] σ (.inl (some (.inl 1)), σ) := by
      refine b248 ?_
      have hD8 : Dd 246 [(.inl a1), (.inl (σ 682 3))] σ (.inl (some (.inl 1)), σ) := by
        refine b246 ?_
        try rw [if_pos (show (0 : Int) ≤ a1 by first | omega | (simp [upS]; done) | (simp [upS]; omega))]
        try rw [if_pos (show a1 < (σ 682 3) by first | omega | (simp [upS]; done) | (simp [upS]; omega))]
        all_goals rfl
      refine ⟨_, _, hD8, ?_⟩
      clear hD8
      refine ⟨(show 1 = 0 ∨ 1 = 1 by first | omega | (simp [upS]; done) | (simp [upS]; omega)), ?_⟩
      all_goals rfl
    refine ⟨_, _, hD9, ?_⟩
    clear hD9
    rw [if_neg (show ¬ ((1 : Int) = 0) by first | omega | (simp [upS]; done) | (simp [upS]; omega))]
    have hD11 : Dd 248 [(.inr (.inr (some 682))), (.inl a2)] σ (.inl (some (.inl 0)), σ) := by
      refine b248 ?_
      have hD10 : Dd 246 [(.inl a2), (.inl (σ 682 3))] σ (.inl (some (.inl 0)), σ) := by
        refine b246 ?_
        try rw [if_neg (show ¬ ((0 : Int) ≤ a2) by first | omega | (simp [upS]; done) | (simp [upS]; omega))]
        all_goals rfl
      refine ⟨_, _, hD10, ?_⟩
      clear hD10
      refine ⟨(show 0 = 0 ∨ 0 = 1 by first | omega | (simp [upS]; done) | (simp [upS]; omega)), ?_⟩
      all_goals rfl
    refine ⟨_, _, hD11, ?_⟩
    clear hD11
    rw [if_pos (show (0 : Int) = 0 by first | omega | (simp [upS]; done) | (simp [upS]; omega))]
    refine b301_20 ?_
    refine b301_21 ?_
    rw [if_pos (show (0 : Int) = 0 by first | omega | (simp [upS]; done) | (simp [upS]; omega))]
    refine b301_54 ?_
    have hD12 : Dd 245 [(.inr (.inr (some 682))), (.inl 1)] σ (.inl (some (.inl 0)), (upS σ 682 0 1)) := by
      refine b245 ?_
      try rw [if_neg (show ¬ ((1 : Int) = 0) by first | omega | (simp [upS]; done) | (simp [upS]; omega))]
      all_goals rfl
    refine ⟨_, _, hD12, ?_⟩
    clear hD12
    rw [if_pos (show (0 : Int) = 0 by first | omega | (simp [upS]; done) | (simp [upS]; omega))]
    all_goals rfl
  exact op_x H (by decide) hA hB
theorem x11_3 {σ : Sg} {c : Int} {a1 : Int} {a2 : Int} (H : Rel c σ) (h0 : 0 ≤ a1 ∧ a1 < σ 0 3) (h1 : σ 0 3 ≤ a2) : OpR 401 301 [(.inr (.inr (some 0))), (.inl a1), (.inl a2), (.inr (.inr (some 726)))] [(.inr (.inr (some 682))), (.inl a1), (.inl a2)] σ (c + 1) := by
  obtain ⟨r1, r2, r3, r4, r5⟩ := rel_n H
  have t0 := rel_p H h0
  have hA : Dd 401 [(.inr (.inr (some 0))), (.inl a1), (.inl a2), (.inr (.inr (some 726)))] σ (.inl (some (.inl 1)), σ) := by
    refine b401 ?_
    have hD7 : Dd 183 [(.inr (.inr (some 0))), (.inl a1), (.inl a2)] σ (.inr 0, σ) := by
      refine b183 ?_
      have hD3 : Dd 230 [(.inr (.inr (some 0))), (.inl a1)] σ (.inl (some (.inr (.inr (some (20 + 13 * ((a1)).toNat))))), σ) := by
        refine b230 ?_
        have hD1 : Dd 89 [(.inr (.inr (some 19))), (.inl a1), (.inl (σ 0 3))] σ (.inl (some (.inr (.inr (some (20 + 13 * ((a1)).toNat))))), σ) := by
          refine b89 ?_
          rw [if_pos (show (0 : Int) ≤ a1 by first | omega | (simp [upS]; done) | (simp [upS]; omega))]
          rw [if_pos (show a1 < (σ 0 3) by first | omega | (simp [upS]; done) | (simp [upS]; omega))]
          refine ⟨24, (by decide +kernel), (by decide), ?_⟩
          rw [if_pos (show a1 < ((24 : Nat) : Int) by first | omega | (simp [upS]; done) | (simp [upS]; omega))]
          refine ⟨(show 0 ≤ a1 by first | omega | (simp [upS]; done) | (simp [upS]; omega)), ?_⟩
          refine ⟨(20 + 13 * ((a1)).toNat), (el_19 (i := (a1)) (by first | omega | (simp [upS]; done) | (simp [upS]; omega))).1, (el_19 (i := (a1)) (by first | omega | (simp [upS]; done) | (simp [upS]; omega))).2, ?_⟩
          all_goals rfl
        refine ⟨_, _, hD1, ?_⟩
        clear hD1
        refine ⟨fun hz2 => (by cases hz2), fun _ hz2 => ?_⟩
        cases hz2
        refine ⟨(el_19 (i := (a1)) (by first | omega | (simp [upS]; done) | (simp [upS]; omega))).2, ?_⟩
        all_goals rfl
      refine Or.inl ⟨_, _, hD3, (el_19 (i := (a1)) (by first | omega | (simp [upS]; done) | (simp [upS]; omega))).2, ?_⟩
      clear hD3
      have hD6 : Dd 230 [(.inr (.inr (some 0))), (.inl a2)] σ (.inr 0, σ) := by
        refine b230 ?_
        have hD4 : Dd 89 [(.inr (.inr (some 19))), (.inl a2), (.inl (σ 0 3))] σ (.inl (some (.inr (.inr none))), σ) := by
          refine b89 ?_
          rw [if_pos (show (0 : Int) ≤ a2 by first | omega | (simp [upS]; done) | (simp [upS]; omega))]
          rw [if_neg (show ¬ (a2 < (σ 0 3)) by first | omega | (simp [upS]; done) | (simp [upS]; omega))]
          all_goals rfl
        refine ⟨_, _, hD4, ?_⟩
        clear hD4
        refine ⟨fun _ => ?_, fun _ hz5 => (by cases hz5)⟩
        all_goals rfl
      refine Or.inr ⟨_, _, hD6, ?_⟩
      all_goals rfl
    exact Or.inr (Or.inl ⟨_, hD7, rfl⟩)
  have hB : Dd 301 [(.inr (.inr (some 682))), (.inl a1), (.inl a2)] σ (.inl (some (.inl 0)), (upS σ 682 0 1)) := by
    refine b301 ?_
    have hD9 : Dd 248 [(.inr (.inr (some 682))), (.inl a1)] σ (.inl (some (.inl 1)), σ) := by
      refine b248 ?_
      have hD8 : Dd 246 [(.inl a1), (.inl (σ 682 3))] σ (.inl (some (.inl 1)), σ) := by
        refine b246 ?_
        try rw [if_pos (show (0 : Int) ≤ a1 by first | omega | (simp [upS]; done) | (simp [upS]; omega))]
        try rw [if_pos (show a1 < (σ 682 3) by first | omega | (simp [upS]; done) | (simp [upS]; omega))]
        all_goals rfl
      refine ⟨_, _, hD8, ?_⟩
      clear hD8
      refine ⟨(show 1 = 0 ∨ 1 = 1 by first | omega | (simp [upS]; done) | (simp [upS]; omega)), ?_⟩
      all_goals rfl
    refine ⟨_, _, hD9, ?_⟩
    clear hD9
    rw [if_neg (show ¬ ((1 : Int) = 0) by first | omega | (simp [upS]; done) | (simp [upS]; omega))]
    have hD11 : Dd 248 [(.inr (.inr (some 682))), (.inl a2)] σ (.inl (some (.inl 0)), σ) := by
      refine b248 ?_
      have hD10 : Dd 246 [(.inl a2), (.inl (σ 682 3))] σ (.inl (some (.inl 0)), σ) := by
        refine b246 ?_
        try rw [if_pos (show (0 : Int) ≤ a2 by first | omega | (simp [upS]; done) | (simp [upS]; omega))]
        try rw [if_neg (show ¬ (a2 < (σ 682 3)) by first | omega | (simp [upS]; done) | (simp [upS]; omega))]
        all_goals rfl
      refine ⟨_, _, hD10, ?_⟩
      clear hD10
      refine ⟨(show 0 = 0 ∨ 0 = 1 by first | omega | (simp [upS]; done) | (simp [upS]; omega)), ?_⟩
      all_goals rfl
    refine ⟨_, _, hD11, ?_⟩
    clear hD11
    rw [if_pos (show (0 : Int) = 0 by first | omega | (simp [upS]; done) | (simp [upS]; omega))]
    refine b301_20 ?_
    refine b301_21 ?_
    rw [if_pos (show (0 : Int) = 0 by first | omega | (simp [upS]; done) | (simp [upS]; omega))]
    refine b301_54 ?_
    have hD12 : Dd 245 [(.inr (.inr (some 682))), (.inl 1)] σ (.inl (some (.inl 0)), (upS σ 682 0 1)) := by
      refine b245 ?_
      try rw [if_neg (show ¬ ((1 : Int) = 0) by first | omega | (simp [upS]; done) | (simp [upS]; omega))]
      all_goals rfl
    refine ⟨_, _, hD12, ?_⟩
    clear hD12
    rw [if_pos (show (0 : Int) = 0 by first | omega | (simp [upS]; done) | (simp [upS]; omega))]
    all_goals rfl
  exact op_x H (by decide) hA hB
theorem x12_0 {σ : Sg} {c : Int} {a1 : Int} {a2 : Int} (H : Rel c σ) (h0 : a1 < 0) : OpB 402 302 [(.inr (.inr (some 0))), (.inl a1), (.inl a2), (.inr (.inr (some 726)))] [(.inr (.inr (some 682))), (.inl a1), (.inl a2)] σ (c + 1) := by
  obtain ⟨r1, r2, r3, r4, r5⟩ := rel_n H
  have hA : Dd 402 [(.inr (.inr (some 0))), (.inl a1), (.inl a2), (.inr (.inr (some 726)))] σ (.inl (some (.inl 1)), σ) := by
    refine b402 ?_
    have hD4 : Dd 184 [(.inr (.inr (some 0))), (.inl a1), (.inl a2)] σ (.inr 0, σ) := by
      refine b184 ?_
      have hD3 : Dd 230 [(.inr (.inr (some 0))), (.inl a1)] σ (.inr 0, σ) := by
        refine b230 ?_
        have hD1 : Dd 89 [(.inr (.inr (some 19))), (.inl a1), (.inl (σ 0 3))] σ (.inl (some (.inr (.inr none))), σ) := by
          refine b89 ?_
          rw [if_neg (show ¬ ((0 : Int) ≤ a1) by first | omega | (simp [upS]; done) | (simp [upS]; omega))]
          all_goals rfl
        refine ⟨_, _, hD1, ?_⟩
        clear hD1
        refine ⟨fun _ => ?_, fun _ hz2 => (by cases hz2)⟩
        all_goals rfl
      refine Or.inr ⟨_, _, hD3, ?_⟩
      all_goals rfl
    exact Or.inr (Or.inl ⟨_, hD4, rfl⟩)
  have hB : Dd 302 [(.inr (.inr (some 682))), (.inl a1), (.inl a2)] σ (.inl (some (.inl 0)), (upS σ 682 0 1)) := by
    refine b302 ?_
    have hD6 : Dd 248 [(.inr (.inr (some 682))), (.inl a1)] σ (.inl (some (.inl 0)), σ) := by
      refine b248 ?_
      have hD5 : Dd 246 [(.inl a1), (.inl (σ 682 3))] σ (.inl (some (.inl 0)), σ) := by
        refine b246 ?_
        try rw [if_neg (show ¬ ((0 : Int) ≤ a1) by first | omega | (simp [upS]; done) | (simp [upS]; omega))]
        all_goals rfl
      refine ⟨_, _, hD5, ?_⟩
      clear hD5
      refine ⟨(show 0 = 0 ∨ 0 = 1 by first | omega | (simp [upS]; done) | (simp [upS]; omega)), ?_⟩
      all_goals rfl
    refine ⟨_, _, hD6, ?_⟩
    clear hD6
    rw [if_pos (show (0 : Int) = 0 by first | omega | (simp [upS]; done) | (simp [upS]; omega))]
    refine b302_20 ?_
    refine b302_21 ?_
    rw [if_pos (show (0 : Int) = 0 by first | omega | (simp [upS]; done) | (simp [upS]; omega))]
    refine b302_45 ?_
    have hD7 : Dd 245 [(.inr (.inr (some 682))), (.inl 1)] σ (.inl (some (.inl 0)), (upS σ 682 0 1)) := by
      refine b245 ?_
      try rw [if_neg (show ¬ ((1 : Int) = 0) by first | omega | (simp [upS]; done) | (simp [upS]; omega))]
      all_goals rfl
    refine ⟨_, _, hD7, ?_⟩
    clear hD7
    rw [if_pos (show (0 : Int) = 0 by first | omega | (simp [upS]; done) | (simp [upS]; omega))]
    all_goals rfl
  exact op_xB H (by decide) hA hB
theorem x12_1 {σ : Sg} {c : Int} {a1 : Int} {a2 : Int} (H : Rel c σ) (h0 : σ 0 3 ≤ a1) : OpB 402 302 [(.inr (.inr (some 0))), (.inl a1), (.inl a2), (.inr (.inr (some 726)))] [(.inr (.inr (some 682))), (.inl a1), (.inl a2)] σ (c + 1) := by
  obtain ⟨r1, r2, r3, r4, r5⟩ := rel_n H
  have hA : Dd 402 [(.inr (.inr (some 0))), (.inl a1), (.inl a2), (.inr (.inr (some 726)))] σ (.inl (some (.inl 1)), σ) := by
    refine b402 ?_
    have hD4 : Dd 184 [(.inr (.inr (some 0))), (.inl a1), (.inl a2)] σ (.inr 0, σ) := by
      refine b184 ?_
      have hD3 : Dd 230 [(.inr (.inr (some 0))), (.inl a1)] σ (.inr 0, σ) := by
        refine b230 ?_
        have hD1 : Dd 89 [(.inr (.inr (some 19))), (.inl a1), (.inl (σ 0 3))] σ (.inl (some (.inr (.inr none))), σ) := by
          refine b89 ?_
          rw [if_pos (show (0 : Int) ≤ a1 by first | omega | (simp [upS]; done) | (simp [upS]; omega))]
          rw [if_neg (show ¬ (a1 < (σ 0 3)) by first | omega | (simp [upS]; done) | (simp [upS]; omega))]
          all_goals rfl
        refine ⟨_, _, hD1, ?_⟩
        clear hD1
        refine ⟨fun _ => ?_, fun _ hz2 => (by cases hz2)⟩
        all_goals rfl
      refine Or.inr ⟨_, _, hD3, ?_⟩
      all_goals rfl
    exact Or.inr (Or.inl ⟨_, hD4, rfl⟩)
  have hB : Dd 302 [(.inr (.inr (some 682))), (.inl a1), (.inl a2)] σ (.inl (some (.inl 0)), (upS σ 682 0 1)) := by
    refine b302 ?_
    have hD6 : Dd 248 [(.inr (.inr (some 682))), (.inl a1)] σ (.inl (some (.inl 0)), σ) := by
      refine b248 ?_
      have hD5 : Dd 246 [(.inl a1), (.inl (σ 682 3))] σ (.inl (some (.inl 0)), σ) := by
        refine b246 ?_
        try rw [if_pos (show (0 : Int) ≤ a1 by first | omega | (simp [upS]; done) | (simp [upS]; omega))]
        try rw [if_neg (show ¬ (a1 < (σ 682 3)) by first | omega | (simp [upS]; done) | (simp [upS]; omega))]
        all_goals rfl
      refine ⟨_, _, hD5, ?_⟩
      clear hD5
      refine ⟨(show 0 = 0 ∨ 0 = 1 by first | omega | (simp [upS]; done) | (simp [upS]; omega)), ?_⟩
      all_goals rfl
    refine ⟨_, _, hD6, ?_⟩
    clear hD6
    rw [if_pos (show (0 : Int) = 0 by first | omega | (simp [upS]; done) | (simp [upS]; omega))]
    refine b302_20 ?_
    refine b302_21 ?_
    rw [if_pos (show (0 : Int) = 0 by first | omega | (simp [upS]; done) | (simp [upS]; omega))]
    refine b302_45 ?_
    have hD7 : Dd 245 [(.inr (.inr (some 682))), (.inl 1)] σ (.inl (some (.inl 0)), (upS σ 682 0 1)) := by
      refine b245 ?_
      try rw [if_neg (show ¬ ((1 : Int) = 0) by first | omega | (simp [upS]; done) | (simp [upS]; omega))]
      all_goals rfl
    refine ⟨_, _, hD7, ?_⟩
    clear hD7
    rw [if_pos (show (0 : Int) = 0 by first | omega | (simp [upS]; done) | (simp [upS]; omega))]
    all_goals rfl
  exact op_xB H (by decide) hA hB
theorem x12_2 {σ : Sg} {c : Int} {a1 : Int} {a2 : Int} (H : Rel c σ) (h0 : 0 ≤ a1 ∧ a1 < σ 0 3) (h1 : a2 < 0) : OpB 402 302 [(.inr (.inr (some 0))), (.inl a1), (.inl a2), (.inr (.inr (some 726)))] [(.inr (.inr (some 682))), (.inl a1), (.inl a2)] σ (c + 1) := by
  obtain ⟨r1, r2, r3, r4, r5⟩ := rel_n H
  have t0 := rel_p H h0
  have hA : Dd 402 [(.inr (.inr (some 0))), (.inl a1), (.inl a2), (.inr (.inr (some 726)))] σ (.inl (some (.inl 1)), σ) := by
    refine b402 ?_
    have hD7 : Dd 184 [(.inr (.inr (some 0))), (.inl a1), (.inl a2)] σ (.inr 0, σ) := by
      refine b184 ?_
      have hD3 : Dd 230 [(.inr (.inr (some 0))), (.inl a1)] σ (.inl (some (.inr (.inr (some (20 + 13 * ((a1)).toNat))))), σ) := by
        refine b230 ?_
        have hD1 : Dd 89 [(.inr (.inr (some 19))), (.inl a1), (.inl (σ 0 3))] σ (.inl (some (.inr (.inr (some (20 + 13 * ((a1)).toNat))))), σ) := by
          refine b89 ?_
          rw [if_pos (show (0 : Int) ≤ a1 by first | omega | (simp [upS]; done) | (simp [upS]; omega))]
          rw [if_pos (show a1 < (σ 0 3) by first | omega | (simp [upS]; done) | (simp [upS]; omega))]
          refine ⟨24, (by decide +kernel), (by decide), ?_⟩
          rw [if_pos (show a1 < ((24 : Nat) : Int) by first | omega | (simp [upS]; done) | (simp [upS]; omega))]
          refine ⟨(show 0 ≤ a1 by first | omega | (simp [upS]; done) | (simp [upS]; omega)), ?_⟩
          refine ⟨(20 + 13 * ((a1)).toNat), (el_19 (i := (a1)) (by first | omega | (simp [upS]; done) | (simp [upS]; omega))).1, (el_19 (i := (a1)) (by first | omega | (simp [upS]; done) | (simp [upS]; omega))).2, ?_⟩
          all_goals rfl
        refine ⟨_, _, hD1, ?_⟩
        clear hD1
        refine ⟨fun hz2 => (by cases hz2), fun _ hz2 => ?_⟩
        cases hz2
        refine ⟨(el_19 (i := (a1)) (by first | omega | (simp [upS]; done) | (simp [upS]; omega))).2, ?_⟩
        all_goals rfl
      refine Or.inl ⟨_, _, hD3, (el_19 (i := (a1)) (by first | omega | (simp [upS]; done) | (simp [upS]; omega))).2, ?_⟩
      clear hD3
      have hD6 : Dd 230 [(.inr (.inr (some 0))), (.inl a2)] σ (.inr 0, σ) := by
        refine b230 ?_
        have hD4 : Dd 89 [(.inr (.inr (some 19))), (.inl a2), (.inl (σ 0 3))] σ (.inl (some (.inr (.inr none))), σ) := by
          refine b89 ?_
          rw [if_neg (show ¬ ((0 : Int) ≤ a2) by first | omega | (simp [upS]; done) | (simp [upS]; omega))]
          all_goals rfl
        refine ⟨_, _, hD4, ?_⟩
        clear hD4
        refine ⟨fun _ => ?_, fun _ hz5 => (by cases hz5)⟩
        all_goals rfl
      refine Or.inr ⟨_, _, hD6, ?_⟩
      all_goals rfl
    exact Or.inr (Or.inl ⟨_, hD7, rfl⟩)
  have hB : Dd 302 [(.inr (.inr (some 682))), (.inl a1), (.inl a2)] σ (.inl (some (.inl 0)), (upS σ 682 0 1)) := by
    refine b302 ?_
    have hD9 : Dd 248 [(.inr (.inr (some 682))), (.inl a1)] σ (.inl (some (.inl 1)), σ) := by
      refine b248 ?_
      have hD8 : Dd 246 [(.inl a1), (.inl (σ 682 3))] σ (.inl (some (.inl 1)), σ) := by
        refine b246 ?_
        try rw [if_pos (show (0 : Int) ≤ a1 by first | omega | (simp [upS]; done) | (simp [upS]; omega))]
        try rw [if_pos (show a1 < (σ 682 3) by first | omega | (simp [upS]; done) | (simp [upS]; omega))]
        all_goals rfl
      refine ⟨_, _, hD8, ?_⟩
      clear hD8
      refine ⟨(show 1 = 0 ∨ 1 = 1 by first | omega | (simp [upS]; done) | (simp [upS]; omega)), ?_⟩
      all_goals rfl
    refine ⟨_, _, hD9, ?_⟩
    clear hD9
    rw [if_neg (show ¬ ((1 : Int) = 0) by first | omega | (simp [upS]; done) | (simp [upS]; omega))]
    have hD11 : Dd 248 [(.inr (.inr (some 682))), (.inl a2)] σ (.inl (some (.inl 0)), σ) := by
      refine b248 ?_
      have hD10 : Dd 246 [(.inl a2), (.inl (σ 682 3))] σ (.inl (some (.inl 0)), σ) := by
        refine b246 ?_
        try rw [if_neg (show ¬ ((0 : Int) ≤ a2) by first | omega | (simp [upS]; done) | (simp [upS]; omega))]
        all_goals rfl
      refine ⟨_, _, hD10, ?_⟩
      clear hD10
      refine ⟨(show 0 = 0 ∨ 0 = 1 by first | omega | (simp [upS]; done) | (simp [upS]; omega)), ?_⟩
      all_goals rfl
    refine ⟨_, _, hD11, ?_⟩
    clear hD11
    rw [if_pos (show (0 : Int) = 0 by first | omega | (simp [upS]; done) | (simp [upS]; omega))]
    refine b302_20 ?_
    refine b302_21 ?_
    rw [if_pos (show (0 : Int) = 0 by first | omega | (simp [upS]; done) | (simp [upS]; omega))]
    refine b302_45 ?_
    have hD12 : Dd 245 [(.inr (.inr (some 682))), (.inl 1)] σ (.inl (some (.inl 0)), (upS σ 682 0 1)) := by
      refine b245 ?_
      try rw [if_neg (show ¬ ((1 : Int) = 0) by first | omega | (simp [upS]; done) | (simp [upS]; omega))]
      all_goals rfl
    refine ⟨_, _, hD12, ?_⟩
    clear hD12
    rw [if_pos (show (0 : Int) = 0 by first | omega | (simp [upS]; done) | (simp [upS]; omega))]
    all_goals rfl
  exact op_xB H (by decide) hA hB
theorem x12_3 {σ : Sg} {c : Int} {a1 : Int} {a2 : Int} (H : Rel c σ) (h0 : 0 ≤ a1 ∧ a1 < σ 0 3) (h1 : σ 0 3 ≤ a2) : OpB 402 302 [(.inr (.inr (some 0))), (.inl a1), (.inl a2), (.inr (.inr (some 726)))] [(.inr (.inr (some 682))), (.inl a1), (.inl a2)] σ (c + 1) := by
  obtain ⟨r1, r2, r3, r4, r5⟩ := rel_n H
  have t0 := rel_p H h0
  have hA : Dd 402 [(.inr (.inr (some 0))), (.inl a1), (.inl a2), (.inr (.inr (some 726)))] σ (.inl (some (.inl 1)), σ) := by
    refine b402 ?_
    have hD7 : Dd 184 [(.inr (.inr (some 0))), (.inl a1), (.inl a2)] σ (.inr 0, σ) := by
      refine b184 ?_
      have hD3 : Dd 230 [(.inr (.inr (some 0))), (.inl a1)] σ (.inl (some (.inr (.inr (some (20 + 13 * ((a1)).toNat))))), σ) := by
        refine b230 ?_
        have hD1 : Dd 89 [(.inr (.inr (some 19))), (.inl a1), (.inl (σ 0 3))] σ (.inl (some (.inr (.inr (some (20 + 13 * ((a1)).toNat))))), σ) := by
          refine b89 ?_
          rw [if_pos (show (0 : Int) ≤ a1 by first | omega | (simp [upS]; done) | (simp [upS]; omega))]
          rw [if_pos (show a1 < (σ 0 3) by first | omega | (simp [upS]; done) | (simp [upS]; omega))]
          refine ⟨24, (by decide +kernel), (by decide), ?_⟩
          rw [if_pos (show a1 < ((24 : Nat) : Int) by first | omega | (simp [upS]; done) | (simp [upS]; omega))]
          refine ⟨(show 0 ≤ a1 by first | omega | (simp [upS]; done) | (simp [upS]; omega)), ?_⟩
          refine ⟨(20 + 13 * ((a1)).toNat), (el_19 (i := (a1)) (by first | omega | (simp [upS]; done) | (simp [upS]; omega))).1, (el_19 (i := (a1)) (by first | omega | (simp [upS]; done) | (simp [upS]; omega))).2, ?_⟩
          all_goals rfl
        refine ⟨_, _, hD1, ?_⟩
        clear hD1
        refine ⟨fun hz2 => (by cases hz2), fun _ hz2 => ?_⟩
        cases hz2
        refine ⟨(el_19 (i := (a1)) (by first | omega | (simp [upS]; done) | (simp [upS]; omega))).2, ?_⟩
        all_goals rfl
      refine Or.inl ⟨_, _, hD3, (el_19 (i := (a1)) (by first | omega | (simp [upS]; done) | (simp [upS]; omega))).2, ?_⟩
      clear hD3
      have hD6 : Dd 230 [(.inr (.inr (some 0))), (.inl a2)] σ (.inr 0, σ) := by
        refine b230 ?_
        have hD4 : Dd 89 [(.inr (.inr (some 19))), (.inl a2), (.inl (σ 0 3))] σ (.inl (some (.inr (.inr none))), σ) := by
          refine b89 ?_
          rw [if_pos (show (0 : Int) ≤ a2 by first | omega | (simp [upS]; done) | (simp [upS]; omega))]
          rw [if_neg (show ¬ (a2 < (σ 0 3)) by first | omega | (simp [upS]; done) | (simp [upS]; omega))]
          all_goals rfl
        refine ⟨_, _, hD4, ?_⟩
        clear hD4
        refine ⟨fun _ => ?_, fun _ hz5 => (by cases hz5)⟩
        all_goals rfl
      refine Or.inr ⟨_, _, hD6, ?_⟩
      all_goals rfl
    exact Or.inr (Or.inl ⟨_, hD7, rfl⟩)
  have hB : Dd 302 [(.inr (.inr (some 682))), (.inl a1), (.inl a2)] σ (.inl (some (.inl 0)), (upS σ 682 0 1)) := by
    refine b302 ?_
    have hD9 : Dd 248 [(.inr (.inr (some 682))), (.inl a1)] σ (.inl (some (.inl 1)), σ) := by
      refine b248 ?_
      have hD8 : Dd 246 [(.inl a1), (.inl (σ 682 3))] σ (.inl (some (.inl 1)), σ) := by
        refine b246 ?_
        try rw [if_pos (show (0 : Int) ≤ a1 by first | omega | (simp [upS]; done) | (simp [upS]; omega))]
        try rw [if_pos (show a1 < (σ 682 3) by first | omega | (simp [upS]; done) | (simp [upS]; omega))]
        all_goals rfl
      refine ⟨_, _, hD8, ?_⟩
      clear hD8
      refine ⟨(show 1 = 0 ∨ 1 = 1 by first | omega | (simp [upS]; done) | (simp [upS]; omega)), ?_⟩
      all_goals rfl
    refine ⟨_, _, hD9, ?_⟩
    clear hD9
    rw [if_neg (show ¬ ((1 : Int) = 0) by first | omega | (simp [upS]; done) | (simp [upS]; omega))]
    have hD11 : Dd 248 [(.inr (.inr (some 682))), (.inl a2)] σ (.inl (some (.inl 0)), σ) := by
      refine b248 ?_
      have hD10 : Dd 246 [(.inl a2), (.inl (σ 682 3))] σ (.inl (some (.inl 0)), σ) := by
        refine b246 ?_
        try rw [if_pos (show (0 : Int) ≤ a2 by first | omega | (simp [upS]; done) | (simp [upS]; omega))]
        try rw [if_neg (show ¬ (a2 < (σ 682 3)) by first | omega | (simp [upS]; done) | (simp [upS]; omega))]
        all_goals rfl
      refine ⟨_, _, hD10, ?_⟩
      clear hD10
      refine ⟨(show 0 = 0 ∨ 0 = 1 by first | omega | (simp [upS]; done) | (simp [upS]; omega)), ?_⟩
      all_goals rfl
    refine ⟨_, _, hD11, ?_⟩
    clear hD11
    rw [if_pos (show (0 : Int) = 0 by first | omega | (simp [upS]; done) | (simp [upS]; omega))]
    refine b302_20 ?_
    refine b302_21 ?_
    rw [if_pos (show (0 : Int) = 0 by first | omega | (simp [upS]; done) | (simp [upS]; omega))]
    refine b302_45 ?_
    have hD12 : Dd 245 [(.inr (.inr (some 682))), (.inl 1)] σ (.inl (some (.inl 0)), (upS σ 682 0 1)) := by
      refine b245 ?_
      try rw [if_neg (show ¬ ((1 : Int) = 0) by first | omega | (simp [upS]; done) | (simp [upS]; omega))]
      all_goals rfl
    refine ⟨_, _, hD12, ?_⟩
    clear hD12
    rw [if_pos (show (0 : Int) = 0 by first | omega | (simp [upS]; done) | (simp [upS]; omega))]
    all_goals rfl
  exact op_xB H (by decide) hA hB
theorem x13_0 {σ : Sg} {c : Int} {a1 : Int} {a2 : Int} {a3 : Int} (H : Rel c σ) (h0 : a1 < 0) : OpR 403 303 [(.inr (.inr (some 0))), (.inl a1), (.inl a2), (.inl a3), (.inr (.inr (some 726)))] [(.inr (.inr (some 682))), (.inl a1), (.inl a2), (.inl a3)] σ (c + 1) := by
  obtain ⟨r1, r2, r3, r4, r5⟩ := rel_n H
  have hA : Dd 403 [(.inr (.inr (some 0))), (.inl a1), (.inl a2), (.inl a3), (.inr (.inr (some 726)))] σ (.inl (some (.inl 1)), σ) := by
    refine b403 ?_
    have hD4 : Dd 185 [(.inr (.inr (some 0))), (.inl a1), (.inl a2), (.inl a3)] σ (.inr 0, σ) := by
      refine b185 ?_
      have hD3 : Dd 230 [(.inr (.inr (some 0))), (.inl a1)] σ (.inr 0, σ) := by
        refine b230 ?_
        have hD1 : Dd 89 [(.inr (.inr (some 19))), (.inl a1), (.inl (σ 0 3))] σ (.inl (some (.inr (.inr none))), σ) := by
          refine b89 ?_
          rw [if_neg (show ¬ ((0 : Int) ≤ a1) by first | omega | (simp [upS]; done) | (simp [upS]; omega))]
          all_goals rfl
        refine ⟨_, _, hD1, ?_⟩
        clear hD1
        refine ⟨fun _ => ?_, fun _ hz2 => (by cases hz2)⟩
        all_goals rfl
      refine Or.inr ⟨_, _, hD3, ?_⟩
      all_goals rfl
    exact Or.inr (Or.inl ⟨_, hD4, rfl⟩)
  have hB : Dd 303 [(.inr (.inr (some 682))), (.inl a1), (.inl a2), (.inl a3)] σ (.inl (some (.inl 0)), (upS σ 682 0 1)) := by
    refine b303 ?_
    have hD6 : Dd 248 [(.inr (.inr (some 682))), (.inl a1)] σ (.inl (some (.inl 0)), σ) := by
      refine b248 ?_
      have hD5 : Dd 246 [(.inl a1), (.inl (σ 682 3))] σ (.inl (some (.inl 0)), σ) := by
        refine b246 ?_
        try rw [if_neg (show ¬ ((0 : Int) ≤ a1) by first | omega | (simp [upS]; done) | (simp [upS]; omega))]
        all_goals rfl
      refine ⟨_, _, hD5, ?_⟩
      clear hD5
      refine ⟨(show 0 = 0 ∨ 0 = 1 by first | omega | (simp [upS]; done) | (simp [upS]; omega)), ?_⟩
      all_goals rfl
    refine ⟨_, _, hD6, ?_⟩
    clear hD6
    rw [if_pos (show (0 : Int) = 0 by first | omega | (simp [upS]; done) | (simp [upS]; omega))]
    refine b303_20 ?_
    refine b303_21 ?_
    rw [if_pos (show (0 : Int) = 0 by first | omega | (simp [upS]; done) | (simp [upS]; omega))]
    refine b303_50 ?_
    refine b303_51 ?_
    rw [if_pos (show (0 : Int) = 0 by first | omega | (simp [upS]; done) | (simp [upS]; omega))]
    refine b303_68 ?_
    rw [if_pos (show (0 : Int) = 0 by first | omega | (simp [upS]; done) | (simp [upS]; omega))]
    refine b303_109 ?_
    have hD7 : Dd 245 [(.inr (.inr (some 682))), (.inl 1)] σ (.inl (some (.inl 0)), (upS σ 682 0 1)) := by
      refine b245 ?_
      try rw [if_neg (show ¬ ((1 : Int) = 0) by first | omega | (simp [upS]; done) | (simp [upS]; omega))]
      all_goals rfl
    refine ⟨_, _, hD7, ?_⟩
    clear hD7
    rw [if_pos (show (0 : Int) = 0 by first | omega | (simp [upS]; done) | (simp [upS]; omega))]
    all_goals rfl
  exact op_x H (by decide) hA hB
theorem x13_1 {σ : Sg} {c : Int} {a1 : Int} {a2 : Int} {a3 : Int} (H : Rel c σ) (h0 : σ 0 3 ≤ a1) : OpR 403 303 [(.inr (.inr (some 0))), (.inl a1), (.inl a2), (.inl a3), (.inr (.inr (some 726)))] [(.inr (.inr (some 682))), (.inl a1), (.inl a2), (.inl a3)] σ (c + 1) := by
  obtain ⟨r1, r2, r3, r4, r5⟩ := rel_n H
  have hA : Dd 403 [(.inr (.inr (some 0))), (.inl a1), (.inl a2), (.inl a3), (.inr (.inr (some 726)))] σ (.inl (some (.inl 1)), σ) := by
    refine b403 ?_
    have hD4 : Dd 185 [(.inr (.inr (some 0))), (.inl a1), (.inl a2), (.inl a3)] σ (.inr 0, σ) := by
      refine b185 ?_
      have hD3 : Dd 230 [(.inr (.inr (some 0))), (.inl a1)] σ (.inr 0, σ) := by
        refine b230 ?_
        have hD1 : Dd 89 [(.inr (.inr (some 19))), (.inl a1), (.inl (σ 0 3))] σ (.inl (some (.inr (.inr none))), σ) := by
          refine b89 ?_
          rw [if_pos (show (0 : Int) ≤ a1 by first | omega | (simp [upS]; done) | (simp [upS]; omega))]
          rw [if_neg (show ¬ (a1 < (σ 0 3)) by first | omega | (simp [upS]; done) | (simp [upS]; omega))]
          all_goals rfl
        refine ⟨_, _, hD1, ?_⟩
        clear hD1
        refine ⟨fun _ => ?_, fun _ hz2 => (by cases hz2)⟩
        all_goals rfl
      refine Or.inr ⟨_, _, hD3, ?_⟩
      all_goals rfl
    exact Or.inr (Or.inl ⟨_, hD4, rfl⟩)
  have hB : Dd 303 [(.inr (.inr (some 682))), (.inl a1), (.inl a2), (.inl a3)] σ (.inl (some (.inl 0)), (upS σ 682 0 1)) := by
    refine b303 ?_
    have hD6 : Dd 248 [(.inr (.inr (some 682))), (.inl a1)] σ (.inl (some (.inl 0)), σ) := by
      refine b248 ?_
      have hD5 : Dd 246 [(.inl a1), (.inl (σ 682 3))] σ (.inl (some (.inl 0)), σ) := by
        refine b246 ?_
        try rw [if_pos (show (0 : Int) ≤ a1 by first | omega | (simp [upS]; done) | (simp [upS]; omega))]
        try rw [if_neg (show ¬ (a1 < (σ 682 3)) by first | omega | (simp [upS]; done) | (simp [upS]; omega))]
        all_goals rfl
      refine ⟨_, _, hD5, ?_⟩
      clear hD5
      refine ⟨(show 0 = 0 ∨ 0 = 1 by first | omega | (simp [upS]; done) | (simp [upS]; omega)), ?_⟩
      all_goals rfl
    refine ⟨_, _, hD6, ?_⟩
    clear hD6
    rw [if_pos (show (0 : Int) = 0 by first | omega | (simp [upS]; done) | (simp [upS]; omega))]
    refine b303_20 ?_
    refine b303_21 ?_
    rw [if_pos (show (0 : Int) = 0 by first | omega | (simp [upS]; done) | (simp [upS]; omega))]
    refine b303_50 ?_
    refine b303_51 ?_
    rw [if_pos (show (0 : Int) = 0 by first | omega | (simp [upS]; done) | (simp [upS]; omega))]
    refine b303_68 ?_
    rw [if_pos (show (0 : Int) = 0 by first | omega | (simp [upS]; done) | (simp [upS]; omega))]
    refine b303_109 ?_
    have hD7 : Dd 245 [(.inr (.inr (some 682))), (.inl 1)] σ (.inl (some (.inl 0)), (upS σ 682 0 1)) := by
      refine b245 ?_
      try rw [if_neg (show ¬ ((1 : Int) = 0) by first | omega | (simp [upS]; done) | (simp [upS]; omega))]
      all_goals rfl
    refine ⟨_, _, hD7, ?_⟩
    clear hD7
    rw [if_pos (show (0 : Int) = 0 by first | omega | (simp [upS]; done) | (simp [upS]; omega))]
    all_goals rfl
  exact op_x H (by decide) hA hB
theorem x13_2 {σ : Sg} {c : Int} {a1 : Int} {a2 : Int} {a3 : Int} (H : Rel c σ) (h0 : 0 ≤ a1 ∧ a1 < σ 0 3) (h1 : a2 < 0) : OpR 403 303 [(.inr (.inr (some 0))), (.inl a1), (.inl a2), (.inl a3), (.inr (.inr (some 726)))] [(.inr (.inr (some 682))), (.inl a1), (.inl a2), (.inl a3)] σ (c + 1) := by
  obtain ⟨r1, r2, r3, r4, r5⟩ := rel_n H
  have t0 := rel_p H h0
  have hA : Dd 403 [(.inr (.inr (some 0))), (.inl a1), (.inl a2), (.inl a3), (.inr (.inr (some 726)))] σ (.inl (some (.inl 1)), σ) := by
    refine b403 ?_
    have hD7 : Dd 185 [(.inr (.inr (some 0))), (.inl a1), (.inl a2), (.inl a3)] σ (.inr 0, σ) := by
      refine b185 ?_
      have hD3 : Dd 230 [(.inr (.inr (some 0))), (.inl a1)] σ (.inl (some (.inr (.inr (some (20 + 13 * ((a1)).toNat))))), σ) := by
        refine b230 ?_
        have hD1 : Dd 89 [(.inr (.inr (some 19))), (.inl a1), (.inl (σ 0 3))] σ (.inl (some (.inr (.inr (some (20 + 13 * ((a1)).toNat))))), σ) := by
          refine b89 ?_
          rw [if_pos (show (0 : Int) ≤ a1 by first | omega | (simp [upS]; done) | (simp [upS]; omega))]
          rw [if_pos (show a1 < (σ 0 3) by first | omega | (simp [upS]; done) | (simp [upS]; omega))]
          refine ⟨24, (by decide +kernel), (by decide), ?_⟩
          rw [if_pos (show a1 < ((24 : Nat) : Int) by first | omega | (simp [upS]; done) | (simp [upS]; omega))]
          refine ⟨(show 0 ≤ a1 by first | omega | (simp [upS]; done) | (simp [upS]; omega)), ?_⟩
          refine ⟨(20 + 13 * ((a1)).toNat), (el_19 (i := (a1)) (by first | omega | (simp [upS]; done) | (simp [upS]; omega))).1, (el_19 (i := (a1)) (by first | omega | (simp [upS]; done) | (simp [upS]; omega))).2, ?_⟩
          all_goals rfl
        refine ⟨_, _, hD1, ?_⟩
        clear hD1
        refine ⟨fun hz2 => (by cases hz2), fun _ hz2 => ?_⟩
        cases hz2
        refine ⟨(el_19 (i := (a1)) (by first | omega | (simp [upS]; done) | (simp [upS]; omega))).2, ?_⟩
        all_goals rfl
      refine Or.inl ⟨_, _, hD3, (el_19 (i := (a1)) (by first | omega | (simp [upS]; done) | (simp [upS]; omega))).2, ?_⟩
      clear hD3
      have hD6 : Dd 230 [(.inr (.inr (some 0))), (.inl a2)] σ (.inr 0, σ) := by
        refine b230 ?_
        have hD4 : Dd 89 [(.inr (.inr (some 19))), (.inl a2), (.inl (σ 0 3))] σ (.inl (some (.inr (.inr none))), σ) := by
          refine b89 ?_
          rw [if_neg (show ¬ ((0 : Int) ≤ a2) by first | omega | (simp [upS]; done) | (simp [upS]; omega))]
          all_goals rfl
        refine ⟨_, _, hD4, ?_⟩
        clear hD4
        refine ⟨fun _ => ?_, fun _ hz5 => (by cases hz5)⟩
        all_goals rfl
      refine Or.inr ⟨_, _, hD6, ?_⟩
      all_goals rfl
    exact Or.inr (Or.inl ⟨_, hD7, rfl⟩)
  have hB : Dd 303 [(.inr (.inr (some 682))), (.inl a1), (.inl a2), (.inl a3)] σ (.inl (some (.inl 0)), (upS σ 682 0 1)) := by
    refine b303 ?_
    have hD9 : Dd 248 [(.inr (.inr (some 682))), (.inl a1)] σ (.inl (some (.inl 1)), σ) := by
      refine b248 ?_
      have hD8 : Dd 246 [(.inl a1), (.inl (σ 682 3))] σ (.inl (some (.inl 1)), σ) := by
        refine b246 ?_
        try rw [if_pos (show (0 : Int) ≤ a1 by first | omega | (simp [upS]; done) | (simp [upS]; omega))]
        try rw [if_pos (show a1 < (σ 682 3) by first | omega | (simp [upS]; done) | (simp [upS]; omega))]
        all_goals rfl
      refine ⟨_, _, hD8, ?_⟩
      clear hD8
      refine ⟨(show 1 = 0 ∨ 1 = 1 by first | omega | (simp [upS]; done) | (simp [upS]; omega)), ?_⟩
      all_goals rfl
    refine ⟨_, _, hD9, ?_⟩
    clear hD9
    rw [if_neg (show ¬ ((1 : Int) = 0) by first | omega | (simp [upS]; done) | (simp [upS]; omega))]
    have hD11 : Dd 248 [(.inr (.inr (some 682))), (.inl a2)] σ (.inl (some (.inl 0)), σ) := by
      refine b248 ?_
      have hD10 : Dd 246 [(.inl a2), (.inl (σ 682 3))] σ (.inl (some (.inl 0)), σ) := by
        refine b246 ?_
        try rw [if_neg (show ¬ ((0 : Int) ≤ a2) by first | omega | (simp [upS]; done) | (simp [upS]; omega))]
        all_goals rfl
      refine ⟨_, _, hD10, ?_⟩
      clear hD10
      refine ⟨(show 0 = 0 ∨ 0 = 1 by first | omega | (simp [upS]; done) | (simp [upS]; omega)), ?_⟩
      all_goals rfl
    refine ⟨_, _, hD11, ?_⟩
    clear hD11
    rw [if_pos (show (0 : Int) = 0 by first | omega | (simp [upS]; done) | (simp [upS]; omega))]
    refine b303_20 ?_
    refine b303_21 ?_
    rw [if_pos (show (0 : Int) = 0 by first | omega | (simp [upS]; done) | (simp [upS]; omega))]
    refine b303_50 ?_
    refine b303_51 ?_
    rw [if_pos (show (0 : Int) = 0 by first | omega | (simp [upS]; done) | (simp [upS]; omega))]
    refine b303_68 ?_
    rw [if_pos (show (0 : Int) = 0 by first | omega | (simp [upS]; done) | (simp [upS]; omega))]
    refine b303_109 ?_
    have hD12 : Dd 245 [(.inr (.inr (some 682))), (.inl 1)] σ (.inl (some (.inl 0)), (upS σ 682 0 1)) := by
      refine b245 ?_
      try rw [if_neg (show ¬ ((1 : Int) = 0) by first | omega | (simp [upS]; done) | (simp [upS]; omega))]
      all_goals rfl
    refine ⟨_, _, hD12, ?_⟩
    clear hD12
    rw [if_pos (show (0 : Int) = 0 by first | omega | (simp [upS]; done) | (simp [upS]; omega))]
    all_goals rfl
  exact op_x H (by decide) hA hB
theorem x13_3 {σ : Sg} {c : Int} {a1 : Int} {a2 : Int} {a3 : Int} (H : Rel c σ) (h0 : 0 ≤ a1 ∧ a1 < σ 0 3) (h1 : σ 0 3 ≤ a2) : OpR 403 303 [(.inr (.inr (some 0))), (.inl a1), (.inl a2), (.inl a3), (.inr (.inr (some 726)))] [(.inr (.inr (some 682))), (.inl a1), (.inl a2), (.inl a3)] σ (c + 1) := by
  obtain ⟨r1, r2, r3, r4, r5⟩ := rel_n H
  have t0 := rel_p H h0
  have hA : Dd 403 [(.inr (.inr (some 0))), (.inl a1), (.inl a2), (.inl a3), (.inr (.inr (some 726)))] σ (.inl (some (.inl 1)), σ) := by
    refine b403 ?_
    have hD7 : Dd 185 [(.inr (.inr (some 0))), (.inl a1), (.inl a2), (.inl a3)] σ (.inr 0, σ) := by
      refine b185 ?_
      have hD3 : Dd 230 [(.inr (.inr (some 0))), (.inl a1)] σ (.inl (some (.inr (.inr (some (20 + 13 * ((a1)).toNat))))), σ) := by
        refine b230 ?_
        have hD1 : Dd 89 [(.inr (.inr (some 19))), (.inl a1), (.inl (σ 0 3))] σ (.inl (some (.inr (.inr (some (20 + 13 * ((a1)).toNat))))), σ) := by
          refine b89 ?_
          rw [if_pos (show (0 : Int) ≤ a1 by first | omega | (simp [upS]; done) | (simp [upS]; omega))]
          rw [if_pos (show a1 < (σ 0 3) by first | omega | (simp [upS]; done) | (simp [upS]; omega))]
          refine ⟨24, (by decide +kernel), (by decide), ?_⟩
          rw [if_pos (show a1 < ((24 : Nat) : Int) by first | omega | (simp [upS]; done) | (simp [upS]; omega))]
          refine ⟨(show 0 ≤ a1 by first | omega | (simp [upS]; done) | (simp [upS]; omega)), ?_⟩
          refine ⟨(20 + 13 * ((a1)).toNat), (el_19 (i := (a1)) (by first | omega | (simp [upS]; done) | (simp [upS]; omega))).1, (el_19 (i := (a1)) (by first | omega | (simp [upS]; done) | (simp [upS]; omega))).2, ?_⟩
          all_goals rfl
        refine ⟨_, _, hD1, ?_⟩
        clear hD1
        refine ⟨fun hz2 => (by cases hz2), fun _ hz2 => ?_⟩
        cases hz2
        refine ⟨(el_19 (i := (a1)) (by first | omega | (simp [upS]; done) | (simp [upS]; omega))).2, ?_⟩
        all_goals rfl
      refine Or.inl ⟨_, _, hD3, (el_19 (i := (a1)) (by first | omega | (simp [upS]; done) | (simp [upS]; omega))).2, ?_⟩
      clear hD3
      have hD6 : Dd 230 [(.inr (.inr (some 0))), (.inl a2)] σ (.inr 0, σ) := by
        refine b230 ?_
        have hD4 : Dd 89 [(.inr (.inr (some 19))), (.inl a2), (.inl (σ 0 3))] σ (.inl (some (.inr (.inr none))), σ) := by
          refine b89 ?_
          rw [if_pos (show (0 : Int) ≤ a2 by first | omega | (simp [upS]; done) | (simp [upS]; omega))]
          rw [if_neg (show ¬ (a2 < (σ 0 3)) by first | omega | (simp [upS]; done) | (simp [upS]; omega))]
          all_goals rfl
        refine ⟨_, _, hD4, ?_⟩
        clear hD4
        refine ⟨fun _ => ?_, fun _ hz5 => (by cases hz5)⟩
        all_goals rfl
      refine Or.inr ⟨_, _, hD6, ?_⟩
      all_goals rfl
    exact Or.inr (Or.inl ⟨_, hD7, rfl⟩)
  have hB : Dd 303 [(.inr (.inr (some 682))), (.inl a1), (.inl a2), (.inl a3)] σ (.inl (some (.inl 0)), (upS σ 682 0 1)) := by
    refine b303 ?_
    have hD9 : Dd 248 [(.inr (.inr (some 682))), (.inl a1)] σ (.inl (some (.inl 1)), σ) := by
      refine b248 ?_
      have hD8 : Dd 246 [(.inl a1), (.inl (σ 682 3))] σ (.inl (some (.inl 1)), σ) := by
        refine b246 ?_
        try rw [if_pos (show (0 : Int) ≤ a1 by first | omega | (simp [upS]; done) | (simp [upS]; omega))]
        try rw [if_pos (show a1 < (σ 682 3) by first | omega | (simp [upS]; done) | (simp [upS]; omega))]
        all_goals rfl
      refine ⟨_, _, hD8, ?_⟩
      clear hD8
      refine ⟨(show 1 = 0 ∨ 1 = 1 by first | omega | (simp [upS]; done) | (simp [upS]; omega)), ?_⟩
      all_goals rfl
    refine ⟨_, _, hD9, ?_⟩
    clear hD9
    rw [if_neg (show ¬ ((1 : Int) = 0) by first | omega | (simp [upS]; done) | (simp [upS]; omega))]
    have hD11 : Dd 248 [(.inr (.inr (some 682))), (.inl a2)] σ (.inl (some (.inl 0)), σ) := by
      refine b248 ?_
      have hD10 : Dd 246 [(.inl a2), (.inl (σ 682 3))] σ (.inl (some (.inl 0)), σ) := by
        refine b246 ?_
        try rw [if_pos (show (0 : Int) ≤ a2 by first | omega | (simp [upS]; done) | (simp [upS]; omega))]
        try rw [if_neg (show ¬ (a2 < (σ 682 3)) by first | omega | (simp [upS]; done) | (simp [upS]; omega))]
        all_goals rfl
      refine ⟨_, _, hD10, ?_⟩
      clear hD10
      refine ⟨(show 0 = 0 ∨ 0 = 1 by first | omega | (simp [upS]; done) | (simp [upS]; omega)), ?_⟩
      all_goals rfl
    refine ⟨_, _, hD11, ?_⟩
    clear hD11
    rw [if_pos (show (0 : Int) = 0 by first | omega | (simp [upS]; done) | (simp [upS]; omega))]
    refine b303_20 ?_
    refine b303_21 ?_
    rw [if_pos (show (0 : Int) = 0 by first | omega | (simp [upS]; done) | (simp [upS]; omega))]
    refine b303_50 ?_
    refine b303_51 ?_
    rw [if_pos (show (0 : Int) = 0 by first | omega | (simp [upS]; done) | (simp [upS]; omega))]
    refine b303_68 ?_
    rw [if_pos (show (0 : Int) = 0 by first | omega | (simp [upS]; done) | (simp [upS]; omega))]
    refine b303_109 ?_
    have hD12 : Dd 245 [(.inr (.inr (some 682))), (.inl 1)] σ (.inl (some (.inl 0)), (upS σ 682 0 1)) := by
      refine b245 ?_
      try rw [if_neg (show ¬ ((1 : Int) = 0) by first | omega | (simp [upS]; done) | (simp [upS]; omega))]
      all_goals rfl
    refine ⟨_, _, hD12, ?_⟩
    clear hD12
    rw [if_pos (show (0 : Int) = 0 by first | omega | (simp [upS]; done) | (simp [upS]; omega))]
    all_goals rfl
  exact op_x H (by decide) hA hB
theorem x14_0 {σ : Sg} {c : Int} {a1 : Int} {a2 : Int} {a3 : Int} {a4 : Int} {a5 : Int} (H : Rel c σ) (h0 : a1 < 0) : OpR 404 305 [(.inr (.inr (some 0))), (.inl a1), (.inl a2), (.inl a3), (.inl a4), (.inl a5), (.inr (.inr (some 726)))] [(.inr (.inr (some 682))), (.inl a1), (.inl a2), (.inl a3), (.inl a4), (.inl a5)] σ (c + 1) := by
  obtain ⟨r1, r2, r3, r4, r5⟩ := rel_n H
  have hA : Dd 404 [(.inr (.inr (some 0))), (.inl a1), (.inl a2), (.inl a3), (.inl a4), (.inl a5), (.inr (.inr (some 726)))] σ (.inl (some (.inl 1)), σ) := by
    refine b404 ?_
    have hD4 : Dd 186 [(.inr (.inr (some 0))), (.inl a1), (.inl a2), (.inl a3), (.inl a4), (.inl a5)] σ (.inr 0, σ) := by
      refine b186 ?_
      have hD3 : Dd 230 [(.inr (.inr (some 0))), (.inl a1)] σ (.inr 0, σ) := by
        refine b230 ?_
        have hD1 : Dd 89 [(.inr (.inr (some 19))), (.inl a1), (.inl (σ 0 3))] σ (.inl (some (.inr (.inr none))), σ) := by
          refine b89 ?_
          rw [if_neg (show ¬ ((0 : Int) ≤ a1) by first | omega | (simp [upS]; done) | (simp [upS]; omega))]
          all_goals rfl
        refine ⟨_, _, hD1, ?_⟩
        clear hD1
        refine ⟨fun _ => ?_, fun _ hz2 => (by cases hz2)⟩
        all_goals rfl
      refine Or.inr ⟨_, _, hD3, ?_⟩
      all_goals rfl
    exact Or.inr (Or.inl ⟨_, hD4, rfl⟩)
  have hB : Dd 305 [(.inr (.inr (some 682))), (.inl a1), (.inl a2), (.inl a3), (.inl a4), (.inl a5)] σ (.inl (some (.inl 0)), (upS σ 682 0 1)) := by
    refine b305 ?_
    have hD7 : Dd 304 [(.inr (.inr (some 682))), (.inl a1), (.inl a2)] σ (.inl (some (.inl 0)), σ) := by
      refine b304 ?_
      have hD6 : Dd 248 [(.inr (.inr (some 682))), (.inl a1)] σ (.inl (some (.inl 0)), σ) := by
        refine b248 ?_
        have hD5 : Dd 246 [(.inl a1), (.inl (σ 682 3))] σ (.inl (some (.inl 0)), σ) := by
          refine b246 ?_
          try rw [if_neg (show ¬ ((0 : Int) ≤ a1) by first | omega | (simp [upS]; done) | (simp [upS]; omega))]
          all_goals rfl
        refine ⟨_, _, hD5, ?_⟩
        clear hD5
        refine ⟨(show 0 = 0 ∨ 0 = 1 by first | omega | (simp [upS]; done) | (simp [upS]; omega)), ?_⟩
        all_goals rfl
      refine ⟨_, _, hD6, ?_⟩
      clear hD6
      rw [if_pos (show (0 : Int) = 0 by first | omega | (simp [upS]; done) | (simp [upS]; omega))]
      all_goals rfl
    refine ⟨_, _, hD7, ?_⟩
    clear hD7
    rw [if_pos (show (0 : Int) = 0 by first | omega | (simp [upS]; done) | (simp [upS]; omega))]
    refine b305_48 ?_
    refine b305_49 ?_
    rw [if_pos (show (0 : Int) = 0 by first | omega | (simp [upS]; done) | (simp [upS]; omega))]
    refine b305_69 ?_
    rw [if_pos (show (0 : Int) = 0 by first | omega | (simp [upS]; done) | (simp [upS]; omega))]
    refine b305_114 ?_
    have hD8 : Dd 245 [(.inr (.inr (some 682))), (.inl 1)] σ (.inl (some (.inl 0)), (upS σ 682 0 1)) := by
      refine b245 ?_
      try rw [if_neg (show ¬ ((1 : Int) = 0) by first | omega | (simp [upS]; done) | (simp [upS]; omega))]
      all_goals rfl
    refine ⟨_, _, hD8, ?_⟩
    clear hD8
    rw [if_pos (show (0 : Int) = 0 by first | omega | (simp [upS]; done) | (simp [upS]; omega))]
    all_goals rfl
  exact op_x H (by decide) hA hB
theorem x14_1 {σ : Sg} {c : Int} {a1 : Int} {a2 : Int} {a3 : Int} {a4 : Int} {a5 : Int} (H : Rel c σ) (h0 : σ 0 3 ≤ a1) : OpR 404 305 [(.inr (.inr (some 0))), (.inl a1), (.inl a2), (.inl a3), (.inl a4), (.inl a5), (.inr (.inr (some 726)))] [(.inr (.inr (some 682))), (.inl a1), (.inl a2), (.inl a3), (.inl a4), (.inl a5)] σ (c + 1) := by
  obtain ⟨r1, r2, r3, r4, r5⟩ := rel_n H
  have hA : Dd 404 [(.inr (.inr (some 0))), (.inl a1), (.inl a2), (.inl a3), (.inl a4), (.inl a5), (.inr (.inr (some 726)))] σ (.inl (some (.inl 1)), σ) := by
    refine b404 ?_
    have hD4 : Dd 186 [(.inr (.inr (some 0))), (.inl a1), (.inl a2), (.inl a3), (.inl a4), (.inl a5)] σ (.inr 0, σ) := by
      refine b186 ?_
      have hD3 : Dd 230 [(.inr (.inr (some 0))), (.inl a1)] σ (.inr 0, σ) := by
        refine b230 ?_
        have hD1 : Dd 89 [(.inr (.inr (some 19))), (.inl a1), (.inl (σ 0 3))] σ (.inl (some (.inr (.inr none))), σ) := by
          refine b89 ?_
          rw [if_pos (show (0 : Int) ≤ a1 by first | omega | (simp [upS]; done) | (simp [upS]; omega))]
          rw [if_neg (show ¬ (a1 < (σ 0 3)) by first | omega | (simp [upS]; done) | (simp [upS]; omega))]
          all_goals rfl
        refine ⟨_, _, hD1, ?_⟩
        clear hD1
        refine ⟨fun _ => ?_, fun _ hz2 => (by cases hz2)⟩
        all_goals rfl
      refine Or.inr ⟨_, _, hD3, ?_⟩
      all_goals rfl
    exact Or.inr (Or.inl ⟨_, hD4, rfl⟩)
  have hB : Dd 305 [(.inr (.inr (some 682))), (.inl a1), (.inl a2), (.inl a3), (.inl a4), (.inl a5)] σ (.inl (some (.inl 0)), (upS σ 682 0 1)) := by
    refine b305 ?_
    have hD7 : Dd 304 [(.inr (.inr (some 682))), (.inl a1), (.inl a2)] σ (.inl (some (.inl 0)), σ) := by
      refine b304 ?_
      have hD6 : Dd 248 [(.inr (.inr (some 682))), (.inl a1)] σ (.inl (some (.inl 0)), σ) := by
        refine b248 ?_
        have hD5 : Dd 246 [(.inl a1), (.inl (σ 682 3))] σ (.inl (some (.inl 0)), σ) := by
          refine b246 ?_
          try rw [if_pos (show (0 : Int) ≤ a1 by first | omega | (simp [upS]; done) | (simp [upS]; omega))]
          try rw [if_neg (show ¬ (a1 < (σ 682 3)) by first | omega | (simp [upS]; done) | (simp [upS]; omega))]
          all_goals rfl
        refine ⟨_, _, hD5, ?_⟩
        clear hD5
        refine ⟨(show 0 = 0 ∨ 0 = 1 by first | omega | (simp [upS]; done) | (simp [upS]; omega)), ?_⟩
        all_goals rfl
      refine ⟨_, _, hD6, ?_⟩
      clear hD6
      rw [if_pos (show (0 : Int) = 0 by first | omega | (simp [upS]; done) | (simp [upS]; omega))]
      all_goals rfl
    refine ⟨_, _, hD7, ?_⟩
    clear hD7
    rw [if_pos (show (0 : Int) = 0 by first | omega | (simp [upS]; done) | (simp [upS]; omega))]
    refine b305_48 ?_
    refine b305_49 ?_
    rw [if_pos (show (0 : Int) = 0 by first | omega | (simp [upS]; done) | (simp [upS]; omega))]
    refine b305_69 ?_
    rw [if_pos (show (0 : Int) = 0 by first | omega | (simp [upS]; done) | (simp [upS]; omega))]
    refine b305_114 ?_
    have hD8 : Dd 245 [(.inr (.inr (some 682))), (.inl 1)] σ (.inl (some (.inl 0)), (upS σ 682 0 1)) := by
      refine b245 ?_
      try rw [if_neg (show ¬ ((1 : Int) = 0) by first | omega | (simp [upS]; done) | (simp [upS]; omega))]
      all_goals rfl
    refine ⟨_, _, hD8, ?_⟩
    clear hD8
    rw [if_pos (show (0 : Int) = 0 by first | omega | (simp [upS]; done) | (simp [upS]; omega))]
    all_goals rfl
  exact op_x H (by decide) hA hB
theorem x16_0 {σ : Sg} {c : Int} {a1 : Int} {a2 : Int} {a3 : Int} (H : Rel c σ) (h0 : a1 < 0) : OpR 405 307 [(.inr (.inr (some 0))), (.inl a1), (.inl a2), (.inl a3), (.inr (.inr (some 726)))] [(.inr (.inr (some 682))), (.inl a1), (.inl a2), (.inl a3)] σ (c + 1) := by
  obtain ⟨r1, r2, r3, r4, r5⟩ := rel_n H
  have hA : Dd 405 [(.inr (.inr (some 0))), (.inl a1), (.inl a2), (.inl a3), (.inr (.inr (some 726)))] σ (.inl (some (.inl 1)), σ) := by
    refine b405 ?_
    have hD4 : Dd 188 [(.inr (.inr (some 0))), (.inl a1), (.inl a2), (.inl a3)] σ (.inr 0, σ) := by
      refine b188 ?_
      have hD3 : Dd 230 [(.inr (.inr (some 0))), (.inl a1)] σ (.inr 0, σ) := by
        refine b230 ?_
        have hD1 : Dd 89 [(.inr (.inr (some 19))), (.inl a1), (.inl (σ 0 3))] σ (.inl (some (.inr (.inr none))), σ) := by
          refine b89 ?_
          rw [if_neg (show ¬ ((0 : Int) ≤ a1) by first | omega | (simp [upS]; done) | (simp [upS]; omega))]
          all_goals rfl
        refine ⟨_, _, hD1, ?_⟩
        clear hD1
        refine ⟨fun _ => ?_, fun _ hz2 => (by cases hz2)⟩
        all_goals rfl
      refine Or.inr ⟨_, _, hD3, ?_⟩
      all_goals rfl
    exact Or.inr (⟨_, hD4, rfl⟩)
  have hB : Dd 307 [(.inr (.inr (some 682))), (.inl a1), (.inl a2), (.inl a3)] σ (.inl (some (.inl 0)), (upS σ 682 0 1)) := by
    refine b307 ?_
    have hD6 : Dd 248 [(.inr (.inr (some 682))), (.inl a1)] σ (.inl (some (.inl 0)), σ) := by
      refine b248 ?_
      have hD5 : Dd 246 [(.inl a1), (.inl (σ 682 3))] σ (.inl (some (.inl 0)), σ) := by
        refine b246 ?_
        try rw [if_neg (show ¬ ((0 : Int) ≤ a1) by first | omega | (simp [upS]; done) | (simp [upS]; omega))]
        all_goals rfl
      refine ⟨_, _, hD5, ?_⟩
      clear hD5
      refine ⟨(show 0 = 0 ∨ 0 = 1 by first | omega | (simp [upS]; done) | (simp [upS]; omega)), ?_⟩
      all_goals rfl
    refine ⟨_, _, hD6, ?_⟩
    clear hD6
    rw [if_pos (show (0 : Int) = 0 by first | omega | (simp [upS]; done) | (simp [upS]; omega))]
    refine b307_17 ?_
    refine b307_18 ?_
    have hD7 : Dd 245 [(.inr (.inr (some 682))), (.inl 1)] σ (.inl (some (.inl 0)), (upS σ 682 0 1)) := by
      refine b245 ?_
      try rw [if_neg (show ¬ ((1 : Int) = 0) by first | omega | (simp [upS]; done) | (simp [upS]; omega))]
      all_goals rfl
    refine ⟨_, _, hD7, ?_⟩
    clear hD7
    rw [if_pos (show (0 : Int) = 0 by first | omega | (simp [upS]; done) | (simp [upS]; omega))]
    all_goals rfl
  exact op_x H (by decide) hA hB
theorem x16_1 {σ : Sg} {c : Int} {a1 : Int} {a2 : Int} {a3 : Int} (H : Rel c σ) (h0 : σ 0 3 ≤ a1) : OpR 405 307 [(.inr (.inr (some 0))), (.inl a1), (.inl a2), (.inl a3), (.inr (.inr (some 726)))] [(.inr (.inr (some 682))), (.inl a1), (.inl a2), (.inl a3)] σ (c + 1) := by
  obtain ⟨r1, r2, r3, r4, r5⟩ := rel_n H
  have hA : Dd 405 [(.inr (.inr (some 0))), (.inl a1), (.inl a2), (.inl a3), (.inr (.inr (some 726)))] σ (.inl (some (.inl 1)), σ) := by
    refine b405 ?_
    have hD4 : Dd 188 [(.inr (.inr (some 0))), (.inl a1), (.inl a2), (.inl a3)] σ (.inr 0, σ) := by
      refine b188 ?_
      have hD3 : Dd 230 [(.inr (.inr (some 0))), (.inl a1)] σ (.inr 0, σ) := by
        refine b230 ?_
        have hD1 : Dd 89 [(.inr (.inr (some 19))), (.inl a1), (.inl (σ 0 3))] σ (.inl (some (.inr (.inr none))), σ) := by
          refine b89 ?_
          rw [if_pos (show (0 : Int) ≤ a1 by first | omega | (simp [upS]; done) | (simp [upS]; omega))]
          rw [if_neg (show ¬ (a1 < (σ 0 3)) by first | omega | (simp [upS]; done) | (simp [upS]; omega))]
          all_goals rfl
        refine ⟨_, _, hD1, ?_⟩
        clear hD1
        refine ⟨fun _ => ?_, fun _ hz2 => (by cases hz2)⟩
        all_goals rfl
      refine Or.inr ⟨_, _, hD3, ?_⟩
      all_goals rfl
    exact Or.inr (⟨_, hD4, rfl⟩)
  have hB : Dd 307 [(.inr (.inr (some 682))), (.inl a1), (.inl a2), (.inl a3)] σ (.inl (some (.inl 0)), (upS σ 682 0 1)) := by
    refine b307 ?_
    have hD6 : Dd 248 [(.inr (.inr (some 682))), (.inl a1)] σ (.inl (some (.inl 0)), σ) := by
      refine b248 ?_
      have hD5 : Dd 246 [(.inl a1), (.inl (σ 682 3))] σ (.inl (some (.inl 0)), σ) := by
        refine b246 ?_
        try rw [if_pos (show (0 : Int) ≤ a1 by first | omega | (simp [upS]; done) | (simp [upS]; omega))]
        try rw [if_neg (show ¬ (a1 < (σ 682 3)) by first | omega | (simp [upS]; done) | (simp [upS]; omega))]
        all_goals rfl
      refine ⟨_, _, hD5, ?_⟩
      clear hD5
      refine ⟨(show 0 = 0 ∨ 0 = 1 by first | omega | (simp [upS]; done) | (simp [upS]; omega)), ?_⟩
      all_goals rfl
    refine ⟨_, _, hD6, ?_⟩
    clear hD6
    rw [if_pos (show (0 : Int) = 0 by first | omega | (simp [upS]; done) | (simp [upS]; omega))]
    refine b307_17 ?_
    refine b307_18 ?_
    have hD7 : Dd 245 [(.inr (.inr (some 682))), (.inl 1)] σ (.inl (some (.inl 0)), (upS σ 682 0 1)) := by
      refine b245 ?_
      try rw [if_neg (show ¬ ((1 : Int) = 0) by first | omega | (simp [upS]; done) | (simp [upS]; omega))]
      all_goals rfl
    refine ⟨_, _, hD7, ?_⟩
    clear hD7
    rw [if_pos (show (0 : Int) = 0 by first | omega | (simp [upS]; done) | (simp [upS]; omega))]
    all_goals rfl
  exact op_x H (by decide) hA hB
theorem x16_2 {σ : Sg} {c : Int} {a1 : Int} {a2 : Int} {a3 : Int} (H : Rel c σ) (h0 : 0 ≤ a1 ∧ a1 < σ 0 3) (h1 : a3 < 0) : OpR 405 307 [(.inr (.inr (some 0))), (.inl a1), (.inl a2), (.inl a3), (.inr (.inr (some 726)))] [(.inr (.inr (some 682))), (.inl a1), (.inl a2), (.inl a3)] σ (c + 1) := by
  obtain ⟨r1, r2, r3, r4, r5⟩ := rel_n H
  have t0 := rel_p H h0
  have hA : Dd 405 [(.inr (.inr (some 0))), (.inl a1), (.inl a2), (.inl a3), (.inr (.inr (some 726)))] σ (.inl (some (.inl 1)), σ) := by
    refine b405 ?_
    have hD5 : Dd 188 [(.inr (.inr (some 0))), (.inl a1), (.inl a2), (.inl a3)] σ (.inr 0, σ) := by
      refine b188 ?_
      have hD3 : Dd 230 [(.inr (.inr (some 0))), (.inl a1)] σ (.inl (some (.inr (.inr (some (20 + 13 * ((a1)).toNat))))), σ) := by
        refine b230 ?_
        have hD1 : Dd 89 [(.inr (.inr (some 19))), (.inl a1), (.inl (σ 0 3))] σ (.inl (some (.inr (.inr (some (20 + 13 * ((a1)).toNat))))), σ) := by
          refine b89 ?_
          rw [if_pos (show (0 : Int) ≤ a1 by first | omega | (simp [upS]; done) | (simp [upS]; omega))]
          rw [if_pos (show a1 < (σ 0 3) by first | omega | (simp [upS]; done) | (simp [upS]; omega))]
          refine ⟨24, (by decide +kernel), (by decide), ?_⟩
          rw [if_pos (show a1 < ((24 : Nat) : Int) by first | omega | (simp [upS]; done) | (simp [upS]; omega))]
          refine ⟨(show 0 ≤ a1 by first | omega | (simp [upS]; done) | (simp [upS]; omega)), ?_⟩
          refine ⟨(20 + 13 * ((a1)).toNat), (el_19 (i := (a1)) (by first | omega | (simp [upS]; done) | (simp [upS]; omega))).1, (el_19 (i := (a1)) (by first | omega | (simp [upS]; done) | (simp [upS]; omega))).2, ?_⟩
          all_goals rfl
        refine ⟨_, _, hD1, ?_⟩
        clear hD1
        refine ⟨fun hz2 => (by cases hz2), fun _ hz2 => ?_⟩
        cases hz2
        refine ⟨(el_19 (i := (a1)) (by first | omega | (simp [upS]; done) | (simp [upS]; omega))).2, ?_⟩
        all_goals rfl
      refine Or.inl ⟨_, _, hD3, (el_19 (i := (a1)) (by first | omega | (simp [upS]; done) | (simp [upS]; omega))).2, ?_⟩
      clear hD3
      have hD4 : Dd 233 [(.inr (.inr (some 0))), (.inl a3)] σ (.inr 0, σ) := by
        refine b233 ?_
        rw [if_pos (show a3 < 0 by first | omega | (simp [upS]; done) | (simp [upS]; omega))]
        all_goals rfl
      refine Or.inr ⟨_, _, hD4, ?_⟩
      all_goals rfl
    exact Or.inr (⟨_, hD5, rfl⟩)
  have hB : Dd 307 [(.inr (.inr (some 682))), (.inl a1), (.inl a2), (.inl a3)] σ (.inl (some (.inl 0)), (upS σ 682 0 1)) := by
    refine b307 ?_
    have hD7 : Dd 248 [(.inr (.inr (some 682))), (.inl a1)] σ (.inl (some (.inl 1)), σ) := by
      refine b248 ?_
      have hD6 : Dd 246 [(.inl a1), (.inl (σ 682 3))] σ (.inl (some (.inl 1)), σ) := by
        refine b246 ?_
        try rw [if_pos (show (0 : Int) ≤ a1 by first | omega | (simp [upS]; done) | (simp [upS]; omega))]
        try rw [if_pos (show a1 < (σ 682 3) by first | omega | (simp [upS]; done) | (simp [upS]; omega))]
        all_goals rfl
      refine ⟨_, _, hD6, ?_⟩
      clear hD6
      refine ⟨(show 1 = 0 ∨ 1 = 1 by first | omega | (simp [upS]; done) | (simp [upS]; omega)), ?_⟩
      all_goals rfl
    refine ⟨_, _, hD7, ?_⟩
    clear hD7
    rw [if_neg (show ¬ ((1 : Int) = 0) by first | omega | (simp [upS]; done) | (simp [upS]; omega))]
    rw [if_neg (show ¬ ((0 : Int) ≤ a3) by first | omega | (simp [upS]; done) | (simp [upS]; omega))]
    refine b307_17 ?_
    refine b307_18 ?_
    have hD8 : Dd 245 [(.inr (.inr (some 682))), (.inl 1)] σ (.inl (some (.inl 0)), (upS σ 682 0 1)) := by
      refine b245 ?_
      try rw [if_neg (show ¬ ((1 : Int) = 0) by first | omega | (simp [upS]; done) | (simp [upS]; omega))]
      all_goals rfl
    refine ⟨_, _, hD8, ?_⟩
    clear hD8
    rw [if_pos (show (0 : Int) = 0 by first | omega | (simp [upS]; done) | (simp [upS]; omega))]
    all_goals rfl
  exact op_x H (by decide) hA hB
theorem x17_0 {σ : Sg} {c : Int} {a1 : Int} {a2 : Int} (H : Rel c σ) (h0 : a1 < 0) : OpR 406 309 [(.inr (.inr (some 0))), (.inl a1), (.inl a2), (.inr (.inr (some 726)))] [(.inr (.inr (some 682))), (.inl a1), (.inl a2)] σ (c + 1) := by
  obtain ⟨r1, r2, r3, r4, r5⟩ := rel_n H
  have hA : Dd 406 [(.inr (.inr (some 0))), (.inl a1), (.inl a2), (.inr (.inr (some 726)))] σ (.inl (some (.inl 1)), σ) := by
    refine b406 ?_
    have hD4 : Dd 189 [(.inr (.inr (some 0))), (.inl a1), (.inl a2)] σ (.inr 0, σ) := by
      refine b189 ?_
      have hD3 : Dd 230 [(.inr (.inr (some 0))), (.inl a1)] σ (.inr 0, σ) := by
        refine b230 ?_
        have hD1 : Dd 89 [(.inr (.inr (some 19))), (.inl a1), (.inl (σ 0 3))] σ (.inl (some (.inr (.inr none))), σ) := by
          refine b89 ?_
          rw [if_neg (show ¬ ((0 : Int) ≤ a1) by first | omega | (simp [upS]; done) | (simp [upS]; omega))]
          all_goals rfl
        refine ⟨_, _, hD1, ?_⟩
        clear hD1
        refine ⟨fun _ => ?_, fun _ hz2 => (by cases hz2)⟩
        all_goals rfl
      refine Or.inr ⟨_, _, hD3, ?_⟩
      all_goals rfl
    exact Or.inr (⟨_, hD4, rfl⟩)
  have hB : Dd 309 [(.inr (.inr (some 682))), (.inl a1), (.inl a2)] σ (.inl (some (.inl 0)), (upS σ 682 0 1)) := by
    refine b309 ?_
    have hD8 : Dd 308 [(.inr (.inr (some 682))), (.inl a1), (.inl a2)] σ (.inl (some (.inl 0)), (upS σ 682 0 1)) := by
      refine b308 ?_
      have hD6 : Dd 248 [(.inr (.inr (some 682))), (.inl a1)] σ (.inl (some (.inl 0)), σ) := by
        refine b248 ?_
        have hD5 : Dd 246 [(.inl a1), (.inl (σ 682 3))] σ (.inl (some (.inl 0)), σ) := by
          refine b246 ?_
          try rw [if_neg (show ¬ ((0 : Int) ≤ a1) by first | omega | (simp [upS]; done) | (simp [upS]; omega))]
          all_goals rfl
        refine ⟨_, _, hD5, ?_⟩
        clear hD5
        refine ⟨(show 0 = 0 ∨ 0 = 1 by first | omega | (simp [upS]; done) | (simp [upS]; omega)), ?_⟩
        all_goals rfl
      refine ⟨_, _, hD6, ?_⟩
      clear hD6
      rw [if_pos (show (0 : Int) = 0 by first | omega | (simp [upS]; done) | (simp [upS]; omega))]
      refine b308_26 ?_
      refine b308_27 ?_
      have hD7 : Dd 245 [(.inr (.inr (some 682))), (.inl 1)] σ (.inl (some (.inl 0)), (upS σ 682 0 1)) := by
        refine b245 ?_
        try rw [if_neg (show ¬ ((1 : Int) = 0) by first | omega | (simp [upS]; done) | (simp [upS]; omega))]
        all_goals rfl
      refine ⟨_, _, hD7, ?_⟩
      clear hD7
      refine ⟨(show 0 = 0 ∨ 0 = 1 by first | omega | (simp [upS]; done) | (simp [upS]; omega)), ?_⟩
      all_goals rfl
    refine ⟨_, _, hD8, ?_⟩
    clear hD8
    refine ⟨(show ¬ (0 = 0) → -2147483648 ≤ (100 * a1) ∧ (100 * a1) ≤ 2147483647 by (first | (intros; first | omega | (simp [upS]; done) | (simp [upS]; omega)) | (intros; simp_all [upS]; done) | (intros; simp_all [upS]; omega))), ?_⟩
    refine ⟨(show ¬ (0 = 0) → -2147483648 ≤ ((100 * a1) + a2) ∧ ((100 * a1) + a2) ≤ 2147483647 by (first | (intros; first | omega | (simp [upS]; done) | (simp [upS]; omega)) | (intros; simp_all [upS]; done) | (intros; simp_all [upS]; omega))), ?_⟩
    refine ⟨(show ¬ (0 = 0) → 0 ≤ ((100 * a1) + a2) ∧ ((100 * a1) + a2) < 4400 by (first | (intros; first | omega | (simp [upS]; done) | (simp [upS]; omega)) | (intros; simp_all [upS]; done) | (intros; simp_all [upS]; omega))), ?_⟩
    try rw [if_pos (show (0 : Int) = 0 by first | omega | (simp [upS]; done) | (simp [upS]; omega))]
    all_goals rfl
  exact op_x H (by decide) hA hB
theorem x17_1 {σ : Sg} {c : Int} {a1 : Int} {a2 : Int} (H : Rel c σ) (h0 : σ 0 3 ≤ a1) : OpR 406 309 [(.inr (.inr (some 0))), (.inl a1), (.inl a2), (.inr (.inr (some 726)))] [(.inr (.inr (some 682))), (.inl a1), (.inl a2)] σ (c + 1) := by
  obtain ⟨r1, r2, r3, r4, r5⟩ := rel_n H
  have hA : Dd 406 [(.inr (.inr (some 0))), (.inl a1), (.inl a2), (.inr (.inr (some 726)))] σ (.inl (some (.inl 1)), σ) := by
    refine b406 ?_
    have hD4 : Dd 189 [(.inr (.inr (some 0))), (.inl a1), (.inl a2)] σ (.inr 0, σ) := by
      refine b189 ?_
      have hD3 : Dd 230 [(.inr (.inr (some 0))), (.inl a1)] σ (.inr 0, σ) := by
        refine b230 ?_
        have hD1 : Dd 89 [(.inr (.inr (some 19))), (.inl a1), (.inl (σ 0 3))] σ (.inl (some (.inr (.inr none))), σ) := by
          refine b89 ?_
          rw [if_pos (show (0 : Int) ≤ a1 by first | omega | (simp [upS]; done) | (simp [upS]; omega))]
          rw [if_neg (show ¬ (a1 < (σ 0 3)) by first | omega | (simp [upS]; done) | (simp [upS]; omega))]
          all_goals rfl
        refine ⟨_, _, hD1, ?_⟩
        clear hD1
        refine ⟨fun _ => ?_, fun _ hz2 => (by cases hz2)⟩
        all_goals rfl
      refine Or.inr ⟨_, _, hD3, ?_⟩
      all_goals rfl
    exact Or.inr (⟨_, hD4, rfl⟩)
  have hB : Dd 309 [(.inr (.inr (some 682))), (.inl a1), (.inl a2)] σ (.inl (some (.inl 0)), (upS σ 682 0 1)) := by
    refine b309 ?_
    have hD8 : Dd 308 [(.inr (.inr (some 682))), (.inl a1), (.inl a2)] σ (.inl (some (.inl 0)), (upS σ 682 0 1)) := by
      refine b308 ?_
      have hD6 : Dd 248 [(.inr (.inr (some 682))), (.inl a1)] σ (.inl (some (.inl 0)), σ) := by
        refine b248 ?_
        have hD5 : Dd 246 [(.inl a1), (.inl (σ 682 3))] σ (.inl (some (.inl 0)), σ) := by
          refine b246 ?_
          try rw [if_pos (show (0 : Int) ≤ a1 by first | omega | (simp [upS]; done) | (simp [upS]; omega))]
          try rw [if_neg (show ¬ (a1 < (σ 682 3)) by first | omega | (simp [upS]; done) | (simp [upS]; omega))]
          all_goals rfl
        refine ⟨_, _, hD5, ?_⟩
        clear hD5
        refine ⟨(show 0 = 0 ∨ 0 = 1 by first | omega | (simp [upS]; done) | (simp [upS]; omega)), ?_⟩
        all_goals rfl
      refine ⟨_, _, hD6, ?_⟩
      clear hD6
      rw [if_pos (show (0 : Int) = 0 by first | omega | (simp [upS]; done) | (simp [upS]; omega))]
      refine b308_26 ?_
      refine b308_27 ?_
      have hD7 : Dd 245 [(.inr (.inr (some 682))), (.inl 1)] σ (.inl (some (.inl 0)), (upS σ 682 0 1)) := by
        refine b245 ?_
        try rw [if_neg (show ¬ ((1 : Int) = 0) by first | omega | (simp [upS]; done) | (simp [upS]; omega))]
        all_goals rfl
      refine ⟨_, _, hD7, ?_⟩
      clear hD7
      refine ⟨(show 0 = 0 ∨ 0 = 1 by first | omega | (simp [upS]; done) | (simp [upS]; omega)), ?_⟩
      all_goals rfl
    refine ⟨_, _, hD8, ?_⟩
    clear hD8
    refine ⟨(show ¬ (0 = 0) → -2147483648 ≤ (100 * a1) ∧ (100 * a1) ≤ 2147483647 by (first | (intros; first | omega | (simp [upS]; done) | (simp [upS]; omega)) | (intros; simp_all [upS]; done) | (intros; simp_all [upS]; omega))), ?_⟩
    refine ⟨(show ¬ (0 = 0) → -2147483648 ≤ ((100 * a1) + a2) ∧ ((100 * a1) + a2) ≤ 2147483647 by (first | (intros; first | omega | (simp [upS]; done) | (simp [upS]; omega)) | (intros; simp_all [upS]; done) | (intros; simp_all [upS]; omega))), ?_⟩
    refine ⟨(show ¬ (0 = 0) → 0 ≤ ((100 * a1) + a2) ∧ ((100 * a1) + a2) < 4400 by (first | (intros; first | omega | (simp [upS]; done) | (simp [upS]; omega)) | (intros; simp_all [upS]; done) | (intros; simp_all [upS]; omega))), ?_⟩
    try rw [if_pos (show (0 : Int) = 0 by first | omega | (simp [upS]; done) | (simp [upS]; omega))]
    all_goals rfl
  exact op_x H (by decide) hA hB
theorem x17_2 {σ : Sg} {c : Int} {a1 : Int} {a2 : Int} (H : Rel c σ) (h0 : 0 ≤ a1 ∧ a1 < σ 0 3) (h1 : a2 < 0) : OpR 406 309 [(.inr (.inr (some 0))), (.inl a1), (.inl a2), (.inr (.inr (some 726)))] [(.inr (.inr (some 682))), (.inl a1), (.inl a2)] σ (c + 1) := by
  obtain ⟨r1, r2, r3, r4, r5⟩ := rel_n H
  have t0 := rel_p H h0
  have hA : Dd 406 [(.inr (.inr (some 0))), (.inl a1), (.inl a2), (.inr (.inr (some 726)))] σ (.inl (some (.inl 1)), σ) := by
    refine b406 ?_
    have hD6 : Dd 189 [(.inr (.inr (some 0))), (.inl a1), (.inl a2)] σ (.inr 0, σ) := by
      refine b189 ?_
      have hD3 : Dd 230 [(.inr (.inr (some 0))), (.inl a1)] σ (.inl (some (.inr (.inr (some (20 + 13 * ((a1)).toNat))))), σ) := by
        refine b230 ?_
        have hD1 : Dd 89 [(.inr (.inr (some 19))), (.inl a1), (.inl (σ 0 3))] σ (.inl (some (.inr (.inr (some (20 + 13 * ((a1)).toNat))))), σ) := by
          refine b89 ?_
          rw [if_pos (show (0 : Int) ≤ a1 by first | omega | (simp [upS]; done) | (simp [upS]; omega))]
          rw [if_pos (show a1 < (σ 0 3) by first | omega | (simp [upS]; done) | (simp [upS]; omega))]
          refine ⟨24, (by decide +kernel), (by decide), ?_⟩
          rw [if_pos (show a1 < ((24 : Nat) : Int) by first | omega | (simp [upS]; done) | (simp [upS]; omega))]
          refine ⟨(show 0 ≤ a1 by first | omega | (simp [upS]; done) | (simp [upS]; omega)), ?_⟩
          refine ⟨(20 + 13 * ((a1)).toNat), (el_19 (i := (a1)) (by first | omega | (simp [upS]; done) | (simp [upS]; omega))).1, (el_19 (i := (a1)) (by first | omega | (simp [upS]; done) | (simp [upS]; omega))).2, ?_⟩
          all_goals rfl
        refine ⟨_, _, hD1, ?_⟩
        clear hD1
        refine ⟨fun hz2 => (by cases hz2), fun _ hz2 => ?_⟩
        cases hz2
        refine ⟨(el_19 (i := (a1)) (by first | omega | (simp [upS]; done) | (simp [upS]; omega))).2, ?_⟩
        all_goals rfl
      refine Or.inl ⟨_, _, hD3, (el_19 (i := (a1)) (by first | omega | (simp [upS]; done) | (simp [upS]; omega))).2, ?_⟩
      clear hD3
      have hD4 : Dd 146 [(.inr (.inr (some ((20 + 13 * ((a1)).toNat) + 1))))] σ (.inl (some (.inl (σ ((20 + 13 * ((a1)).toNat) + 1) 1))), σ) := by
        refine b146 (pat_1 (el_19 (i := (a1)) (by first | omega | (simp [upS]; done) | (simp [upS]; omega))).2) ?_
        all_goals rfl
      refine ⟨_, _, hD4, ?_⟩
      clear hD4
      have hD5 : Dd 232 [(.inr (.inr (some 0))), (.inl a2), (.inl (σ ((20 + 13 * ((a1)).toNat) + 1) 1))] σ (.inr 0, σ) := by
        refine b232 ?_
        rw [if_neg (show ¬ ((0 : Int) ≤ a2) by first | omega | (simp [upS]; done) | (simp [upS]; omega))]
        refine b232_9 ?_
        all_goals rfl
      refine Or.inr ⟨_, _, hD5, ?_⟩
      all_goals rfl
    exact Or.inr (⟨_, hD6, rfl⟩)
  have hB : Dd 309 [(.inr (.inr (some 682))), (.inl a1), (.inl a2)] σ (.inl (some (.inl 0)), (upS σ 682 0 1)) := by
    refine b309 ?_
    have hD11 : Dd 308 [(.inr (.inr (some 682))), (.inl a1), (.inl a2)] σ (.inl (some (.inl 0)), (upS σ 682 0 1)) := by
      refine b308 ?_
      have hD8 : Dd 248 [(.inr (.inr (some 682))), (.inl a1)] σ (.inl (some (.inl 1)), σ) := by
        refine b248 ?_
        have hD7 : Dd 246 [(.inl a1), (.inl (σ 682 3))] σ (.inl (some (.inl 1)), σ) := by
          refine b246 ?_
          try rw [if_pos (show (0 : Int) ≤ a1 by first | omega | (simp [upS]; done) | (simp [upS]; omega))]
          try rw [if_pos (show a1 < (σ 682 3) by first | omega | (simp [upS]; done) | (simp [upS]; omega))]
          all_goals rfl
        refine ⟨_, _, hD7, ?_⟩
        clear hD7
        refine ⟨(show 1 = 0 ∨ 1 = 1 by first | omega | (simp [upS]; done) | (simp [upS]; omega)), ?_⟩
        all_goals rfl
      refine ⟨_, _, hD8, ?_⟩
      clear hD8
      rw [if_neg (show ¬ ((1 : Int) = 0) by first | omega | (simp [upS]; done) | (simp [upS]; omega))]
      refine ⟨(show 0 ≤ a1 ∧ a1 < 44 by first | omega | (simp [upS]; done) | (simp [upS]; omega)), ?_⟩
      rw [show (σ 688 (a1).toNat) = (σ 688 ((a1).toNat)) by (first | omega | (simp [upS]; done) | (simp [upS]; omega))]
      have hD9 : Dd 246 [(.inl a2), (.inl (σ 688 ((a1).toNat)))] σ (.inl (some (.inl 0)), σ) := by
        refine b246 ?_
        try rw [if_neg (show ¬ ((0 : Int) ≤ a2) by first | omega | (simp [upS]; done) | (simp [upS]; omega))]
        all_goals rfl
      refine ⟨_, _, hD9, ?_⟩
      clear hD9
      rw [if_pos (show (0 : Int) = 0 by first | omega | (simp [upS]; done) | (simp [upS]; omega))]
      refine b308_26 ?_
      refine b308_27 ?_
      have hD10 : Dd 245 [(.inr (.inr (some 682))), (.inl 1)] σ (.inl (some (.inl 0)), (upS σ 682 0 1)) := by
        refine b245 ?_
        try rw [if_neg (show ¬ ((1 : Int) = 0) by first | omega | (simp [upS]; done) | (simp [upS]; omega))]
        all_goals rfl
      refine ⟨_, _, hD10, ?_⟩
      clear hD10
      refine ⟨(show 0 = 0 ∨ 0 = 1 by first | omega | (simp [upS]; done) | (simp [upS]; omega)), ?_⟩
      all_goals rfl
    refine ⟨_, _, hD11, ?_⟩
    clear hD11
    refine ⟨(show ¬ (0 = 0) → -2147483648 ≤ (100 * a1) ∧ (100 * a1) ≤ 2147483647 by (first | (intros; first | omega | (simp [upS]; done) | (simp [upS]; omega)) | (intros; simp_all [upS]; done) | (intros; simp_all [upS]; omega))), ?_⟩
    refine ⟨(show ¬ (0 = 0) → -2147483648 ≤ ((100 * a1) + a2) ∧ ((100 * a1) + a2) ≤ 2147483647 by (first | (intros; first | omega | (simp [upS]; done) | (simp [upS]; omega)) | (intros; simp_all [upS]; done) | (intros; simp_all [upS]; omega))), ?_⟩
    refine ⟨(show ¬ (0 = 0) → 0 ≤ ((100 * a1) + a2) ∧ ((100 * a1) + a2) < 4400 by (first | (intros; first | omega | (simp [upS]; done) | (simp [upS]; omega)) | (intros; simp_all [upS]; done) | (intros; simp_all [upS]; omega))), ?_⟩
    try rw [if_pos (show (0 : Int) = 0 by first | omega | (simp [upS]; done) | (simp [upS]; omega))]
    all_goals rfl
  exact op_x H (by decide) hA hB
theorem x17_3 {σ : Sg} {c : Int} {a1 : Int} {a2 : Int} (H : Rel c σ) (h0 : 0 ≤ a1 ∧ a1 < σ 0 3) (h1 : σ ((20 + 13 * ((a1)).toNat) + 1) 1 ≤ a2) : OpR 406 309 [(.inr (.inr (some 0))), (.inl a1), (.inl a2), (.inr (.inr (some 726)))] [(.inr (.inr (some 682))), (.inl a1), (.inl a2)] σ (c + 1) := by
  obtain ⟨r1, r2, r3, r4, r5⟩ := rel_n H
  have t0 := rel_p H h0
  have hA : Dd 406 [(.inr (.inr (some 0))), (.inl a1), (.inl a2), (.inr (.inr (some 726)))] σ (.inl (some (.inl 1)), σ) := by
    refine b406 ?_
    have hD6 : Dd 189 [(.inr (.inr (some 0))), (.inl a1), (.inl a2)] σ (.inr 0, σ) := by
      refine b189 ?_
      have hD3 : Dd 230 [(.inr (.inr (some 0))), (.inl a1)] σ (.inl (some (.inr (.inr (some (20 + 13 * ((a1)).toNat))))), σ) := by
        refine b230 ?_
        have hD1 : Dd 89 [(.inr (.inr (some 19))), (.inl a1), (.inl (σ 0 3))] σ (.inl (some (.inr (.inr (some (20 + 13 * ((a1)).toNat))))), σ) := by
          refine b89 ?_
          rw [if_pos (show (0 : Int) ≤ a1 by first | omega | (simp [upS]; done) | (simp [upS]; omega))]
          rw [if_pos (show a1 < (σ 0 3) by first | omega | (simp [upS]; done) | (simp [upS]; omega))]
          refine ⟨24, (by decide +kernel), (by decide), ?_⟩
          rw [if_pos (show a1 < ((24 : Nat) : Int) by first | omega | (simp [upS]; done) | (simp [upS]; omega))]
          refine ⟨(show 0 ≤ a1 by first | omega | (simp [upS]; done) | (simp [upS]; omega)), ?_⟩
          refine ⟨(20 + 13 * ((a1)).toNat), (el_19 (i := (a1)) (by first | omega | (simp [upS]; done) | (simp [upS]; omega))).1, (el_19 (i := (a1)) (by first | omega | (simp [upS]; done) | (simp [upS]; omega))).2, ?_⟩
          all_goals rfl
        refine ⟨_, _, hD1, ?_⟩
        clear hD1
        refine ⟨fun hz2 => (by cases hz2), fun _ hz2 => ?_⟩
        cases hz2
        refine ⟨(el_19 (i := (a1)) (by first | omega | (simp [upS]; done) | (simp [upS]; omega))).2, ?_⟩
        all_goals rfl
      refine Or.inl ⟨_, _, hD3, (el_19 (i := (a1)) (by first | omega | (simp [upS]; done) | (simp [upS]; omega))).2, ?_⟩
      clear hD3
      have hD4 : Dd 146 [(.inr (.inr (some ((20 + 13 * ((a1)).toNat) + 1))))] σ (.inl (some (.inl (σ ((20 + 13 * ((a1)).toNat) + 1) 1))), σ) := by
        refine b146 (pat_1 (el_19 (i := (a1)) (by first | omega | (simp [upS]; done) | (simp [upS]; omega))).2) ?_
        all_goals rfl
      refine ⟨_, _, hD4, ?_⟩
      clear hD4
      have hD5 : Dd 232 [(.inr (.inr (some 0))), (.inl a2), (.inl (σ ((20 + 13 * ((a1)).toNat) + 1) 1))] σ (.inr 0, σ) := by
        refine b232 ?_
        rw [if_pos (show (0 : Int) ≤ a2 by first | omega | (simp [upS]; done) | (simp [upS]; omega))]
        rw [if_pos (show (σ ((20 + 13 * ((a1)).toNat) + 1) 1) ≤ a2 by first | omega | (simp [upS]; done) | (simp [upS]; omega))]
        refine b232_9 ?_
        all_goals rfl
      refine Or.inr ⟨_, _, hD5, ?_⟩
      all_goals rfl
    exact Or.inr (⟨_, hD6, rfl⟩)
  have hB : Dd 309 [(.inr (.inr (some 682))), (.inl a1), (.inl a2)] σ (.inl (some (.inl 0)), (upS σ 682 0 1)) := by
    refine b309 ?_
    have hD11 : Dd 308 [(.inr (.inr (some 682))), (.inl a1), (.inl a2)] σ (.inl (some (.inl 0)), (upS σ 682 0 1)) := by
      refine b308 ?_
      have hD8 : Dd 248 [(.inr (.inr (some 682))), (.inl a1)] σ (.inl (some (.inl 1)), σ) := by
        refine b248 ?_
        have hD7 : Dd 246 [(.inl a1), (.inl (σ 682 3))] σ (.inl (some (.inl 1)), σ) := by
          refine b246 ?_
          try rw [if_pos (show (0 : Int) ≤ a1 by first | omega | (simp [upS]; done) | (simp [upS]; omega))]
          try rw [if_pos (show a1 < (σ 682 3) by first | omega | (simp [upS]; done) | (simp [upS]; omega))]
          all_goals rfl
        refine ⟨_, _, hD7, ?_⟩
        clear hD7
        refine ⟨(show 1 = 0 ∨ 1 = 1 by first | omega | (simp [upS]; done) | (simp [upS]; omega)), ?_⟩
        all_goals rfl
      refine ⟨_, _, hD8, ?_⟩
      clear hD8
      rw [if_neg (show ¬ ((1 : Int) = 0) by first | omega | (simp [upS]; done) | (simp [upS]; omega))]
      refine ⟨(show 0 ≤ a1 ∧ a1 < 44 by first | omega | (simp [upS]; done) | (simp [upS]; omega)), ?_⟩
      rw [show (σ 688 (a1).toNat) = (σ 688 ((a1).toNat)) by (first | omega | (simp [upS]; done) | (simp [upS]; omega))]
      have hD9 : Dd 246 [(.inl a2), (.inl (σ 688 ((a1).toNat)))] σ (.inl (some (.inl 0)), σ) := by
        refine b246 ?_
        try rw [if_pos (show (0 : Int) ≤ a2 by first | omega | (simp [upS]; done) | (simp [upS]; omega))]
        try rw [if_neg (show ¬ (a2 < (σ 688 ((a1).toNat))) by first | omega | (simp [upS]; done) | (simp [upS]; omega))]
        all_goals rfl
      refine ⟨_, _, hD9, ?_⟩
      clear hD9
      rw [if_pos (show (0 : Int) = 0 by first | omega | (simp [upS]; done) | (simp [upS]; omega))]
      refine b308_26 ?_
      refine b308_27 ?_
      have hD10 : Dd 245 [(.inr (.inr (some 682))), (.inl 1)] σ (.inl (some (.inl 0)), (upS σ 682 0 1)) := by
        refine b245 ?_
        try rw [if_neg (show ¬ ((1 : Int) = 0) by first | omega | (simp [upS]; done) | (simp [upS]; omega))]
        all_goals rfl
      refine ⟨_, _, hD10, ?_⟩
      clear hD10
      refine ⟨(show 0 = 0 ∨ 0 = 1 by first | omega | (simp [upS]; done) | (simp [upS]; omega)), ?_⟩
      all_goals rfl
    refine ⟨_, _, hD11, ?_⟩
    clear hD11
    refine ⟨(show ¬ (0 = 0) → -2147483648 ≤ (100 * a1) ∧ (100 * a1) ≤ 2147483647 by (first | (intros; first | omega | (simp [upS]; done) | (simp [upS]; omega)) | (intros; simp_all [upS]; done) | (intros; simp_all [upS]; omega))), ?_⟩
    refine ⟨(show ¬ (0 = 0) → -2147483648 ≤ ((100 * a1) + a2) ∧ ((100 * a1) + a2) ≤ 2147483647 by (first | (intros; first | omega | (simp [upS]; done) | (simp [upS]; omega)) | (intros; simp_all [upS]; done) | (intros; simp_all [upS]; omega))), ?_⟩
    refine ⟨(show ¬ (0 = 0) → 0 ≤ ((100 * a1) + a2) ∧ ((100 * a1) + a2) < 4400 by (first | (intros; first | omega | (simp [upS]; done) | (simp [upS]; omega)) | (intros; simp_all [upS]; done) | (intros; simp_all [upS]; omega))), ?_⟩
    try rw [if_pos (show (0 : Int) = 0 by first | omega | (simp [upS]; done) | (simp [upS]; omega))]
    all_goals rfl
  exact op_x H (by decide) hA hB
theorem x18_0 {σ : Sg} {c : Int} {a1 : Int} (H : Rel c σ) (h0 : a1 < 0) : OpR 407 310 [(.inr (.inr (some 0))), (.inl a1), (.inr (.inr (some 726)))] [(.inr (.inr (some 682))), (.inl a1)] σ (c + 1) := by
  obtain ⟨r1, r2, r3, r4, r5⟩ := rel_n H
  have hA : Dd 407 [(.inr (.inr (some 0))), (.inl a1), (.inr (.inr (some 726)))] σ (.inl (some (.inl 1)), σ) := by
    refine b407 ?_
    have hD4 : Dd 190 [(.inr (.inr (some 0))), (.inl a1)] σ (.inr 0, σ) := by
      refine b190 ?_
      have hD3 : Dd 230 [(.inr (.inr (some 0))), (.inl a1)] σ (.inr 0, σ) := by
        refine b230 ?_
        have hD1 : Dd 89 [(.inr (.inr (some 19))), (.inl a1), (.inl (σ 0 3))] σ (.inl (some (.inr (.inr none))), σ) := by
          refine b89 ?_
          rw [if_neg (show ¬ ((0 : Int) ≤ a1) by first | omega | (simp [upS]; done) | (simp [upS]; omega))]
          all_goals rfl
        refine ⟨_, _, hD1, ?_⟩
        clear hD1
        refine ⟨fun _ => ?_, fun _ hz2 => (by cases hz2)⟩
        all_goals rfl
      refine Or.inr ⟨_, _, hD3, ?_⟩
      all_goals rfl
    exact Or.inr (⟨_, hD4, rfl⟩)
  have hB : Dd 310 [(.inr (.inr (some 682))), (.inl a1)] σ (.inl (some (.inl 0)), (upS σ 682 0 1)) := by
    refine b310 ?_
    have hD6 : Dd 248 [(.inr (.inr (some 682))), (.inl a1)] σ (.inl (some (.inl 0)), σ) := by
      refine b248 ?_
      have hD5 : Dd 246 [(.inl a1), (.inl (σ 682 3))] σ (.inl (some (.inl 0)), σ) := by
        refine b246 ?_
        try rw [if_neg (show ¬ ((0 : Int) ≤ a1) by first | omega | (simp [upS]; done) | (simp [upS]; omega))]
        all_goals rfl
      refine ⟨_, _, hD5, ?_⟩
      clear hD5
      refine ⟨(show 0 = 0 ∨ 0 = 1 by first | omega | (simp [upS]; done) | (simp [upS]; omega)), ?_⟩
      all_goals rfl
    refine ⟨_, _, hD6, ?_⟩
    clear hD6
    try rw [if_pos (show (0 : Int) = 0 by first | omega | (simp [upS]; done) | (simp [upS]; omega))]
    refine b310_14 ?_
    have hD7 : Dd 245 [(.inr (.inr (some 682))), (.inl 1)] σ (.inl (some (.inl 0)), (upS σ 682 0 1)) := by
      refine b245 ?_
      try rw [if_neg (show ¬ ((1 : Int) = 0) by first | omega | (simp [upS]; done) | (simp [upS]; omega))]
      all_goals rfl
    refine ⟨_, _, hD7, ?_⟩
    clear hD7
    rw [if_pos (show (0 : Int) = 0 by first | omega | (simp [upS]; done) | (simp [upS]; omega))]
    all_goals rfl
  exact op_x H (by decide) hA hB
theorem x18_1 {σ : Sg} {c : Int} {a1 : Int} (H : Rel c σ) (h0 : σ 0 3 ≤ a1) : OpR 407 310 [(.inr (.inr (some 0))), (.inl a1), (.inr (.inr (some 726)))] [(.inr (.inr (some 682))), (.inl a1)] σ (c + 1) := by
  obtain ⟨r1, r2, r3, r4, r5⟩ := rel_n H
  have hA : Dd 407 [(.inr (.inr (some 0))), (.inl a1), (.inr (.inr (some 726)))] σ (.inl (some (.inl 1)), σ) := by
    refine b407 ?_
    have hD4 : Dd 190 [(.inr (.inr (some 0))), (.inl a1)] σ (.inr 0, σ) := by
      refine b190 ?_
      have hD3 : Dd 230 [(.inr (.inr (some 0))), (.inl a1)] σ (.inr 0, σ) := by
        refine b230 ?_
        have hD1 : Dd 89 [(.inr (.inr (some 19))), (.inl a1), (.inl (σ 0 3))] σ (.inl (some (.inr (.inr none))), σ) := by
          refine b89 ?_
          rw [if_pos (show (0 : Int) ≤ a1 by first | omega | (simp [upS]; done) | (simp [upS]; omega))]
          rw [if_neg (show ¬ (a1 < (σ 0 3)) by first | omega | (simp [upS]; done) | (simp [upS]; omega))]
          all_goals rfl
        refine ⟨_, _, hD1, ?_⟩
        clear hD1
        refine ⟨fun _ => ?_, fun _ hz2 => (by cases hz2)⟩
        all_goals rfl
      refine Or.inr ⟨_, _, hD3, ?_⟩
      all_goals rfl
    exact Or.inr (⟨_, hD4, rfl⟩)
  have hB : Dd 310 [(.inr (.inr (some 682))), (.inl a1)] σ (.inl (some (.inl 0)), (upS σ 682 0 1)) := by
    refine b310 ?_
    have hD6 : Dd 248 [(.inr (.inr (some 682))), (.inl a1)] σ (.inl (some (.inl 0)), σ) := by
      refine b248 ?_
      have hD5 : Dd 246 [(.inl a1), (.inl (σ 682 3))] σ (.inl (some (.inl 0)), σ) := by
        refine b246 ?_
        try rw [if_pos (show (0 : Int) ≤ a1 by first | omega | (simp [upS]; done) | (simp [upS]; omega))]
        try rw [if_neg (show ¬ (a1 < (σ 682 3)) by first | omega | (simp [upS]; done) | (simp [upS]; omega))]
        all_goals rfl
      refine ⟨_, _, hD5, ?_⟩
      clear hD5
      refine ⟨(show 0 = 0 ∨ 0 = 1 by first | omega | (simp [upS]; done) | (simp [upS]; omega)), ?_⟩
      all_goals rfl
    refine ⟨_, _, hD6, ?_⟩
    clear hD6
    try rw [if_pos (show (0 : Int) = 0 by first | omega | (simp [upS]; done) | (simp [upS]; omega))]
    refine b310_14 ?_
    have hD7 : Dd 245 [(.inr (.inr (some 682))), (.inl 1)] σ (.inl (some (.inl 0)), (upS σ 682 0 1)) := by
      refine b245 ?_
      try rw [if_neg (show ¬ ((1 : Int) = 0) by first | omega | (simp [upS]; done) | (simp [upS]; omega))]
      all_goals rfl
    refine ⟨_, _, hD7, ?_⟩
    clear hD7
    rw [if_pos (show (0 : Int) = 0 by first | omega | (simp [upS]; done) | (simp [upS]; omega))]
    all_goals rfl
  exact op_x H (by decide) hA hB
theorem x19_0 {σ : Sg} {c : Int} {a1 : Int} {a2 : Int} {a3 : Int} (H : Rel c σ) (h0 : a1 < 0) : OpR 408 311 [(.inr (.inr (some 0))), (.inl a1), (.inl a2), (.inl a3), (.inr (.inr (some 726)))] [(.inr (.inr (some 682))), (.inl a1), (.inl a2), (.inl a3)] σ (c + 1) := by
  obtain ⟨r1, r2, r3, r4, r5⟩ := rel_n H
  have hA : Dd 408 [(.inr (.inr (some 0))), (.inl a1), (.inl a2), (.inl a3), (.inr (.inr (some 726)))] σ (.inl (some (.inl 1)), σ) := by
    refine b408 ?_
    have hD4 : Dd 191 [(.inr (.inr (some 0))), (.inl a1), (.inl a2), (.inl a3)] σ (.inr 0, σ) := by
      refine b191 ?_
      have hD3 : Dd 230 [(.inr (.inr (some 0))), (.inl a1)] σ (.inr 0, σ) := by
        refine b230 ?_
        have hD1 : Dd 89 [(.inr (.inr (some 19))), (.inl a1), (.inl (σ 0 3))] σ (.inl (some (.inr (.inr none))), σ) := by
          refine b89 ?_
          rw [if_neg (show ¬ ((0 : Int) ≤ a1) by first | omega | (simp [upS]; done) | (simp [upS]; omega))]
          all_goals rfl
        refine ⟨_, _, hD1, ?_⟩
        clear hD1
        refine ⟨fun _ => ?_, fun _ hz2 => (by cases hz2)⟩
        all_goals rfl
      refine Or.inr ⟨_, _, hD3, ?_⟩
      all_goals rfl
    exact Or.inr (Or.inl ⟨_, hD4, rfl⟩)
  have hB : Dd 311 [(.inr (.inr (some 682))), (.inl a1), (.inl a2), (.inl a3)] σ (.inl (some (.inl 0)), (upS σ 682 0 1)) := by
    refine b311 ?_
    have hD7 : Dd 304 [(.inr (.inr (some 682))), (.inl a1), (.inl a2)] σ (.inl (some (.inl 0)), σ) := by
      refine b304 ?_
      have hD6 : Dd 248 [(.inr (.inr (some 682))), (.inl a1)] σ (.inl (some (.inl 0)), σ) := by
        refine b248 ?_
        have hD5 : Dd 246 [(.inl a1), (.inl (σ 682 3))] σ (.inl (some (.inl 0)), σ) := by
          refine b246 ?_
          try rw [if_neg (show ¬ ((0 : Int) ≤ a1) by first | omega | (simp [upS]; done) | (simp [upS]; omega))]
          all_goals rfl
        refine ⟨_, _, hD5, ?_⟩
        clear hD5
        refine ⟨(show 0 = 0 ∨ 0 = 1 by first | omega | (simp [upS]; done) | (simp [upS]; omega)), ?_⟩
        all_goals rfl
      refine ⟨_, _, hD6, ?_⟩
      clear hD6
      rw [if_pos (show (0 : Int) = 0 by first | omega | (simp [upS]; done) | (simp [upS]; omega))]
      all_goals rfl
    refine ⟨_, _, hD7, ?_⟩
    clear hD7
    rw [if_pos (show (0 : Int) = 0 by first | omega | (simp [upS]; done) | (simp [upS]; omega))]
    refine b311_31 ?_
    have hD8 : Dd 245 [(.inr (.inr (some 682))), (.inl 1)] σ (.inl (some (.inl 0)), (upS σ 682 0 1)) := by
      refine b245 ?_
      try rw [if_neg (show ¬ ((1 : Int) = 0) by first | omega | (simp [upS]; done) | (simp [upS]; omega))]
      all_goals rfl
    refine ⟨_, _, hD8, ?_⟩
    clear hD8
    refine ⟨(show ¬ (0 = 0) → (a3 = 0) → 0 ≤ a2 ∧ a2 < 256 by (first | (intros; first | omega | (simp [upS]; done) | (simp [upS]; omega)) | (intros; simp_all [upS]; done) | (intros; simp_all [upS]; omega))), ?_⟩
    refine ⟨(show ¬ (0 = 0) → ¬ (a3 = 0) → (a3 = 1) → 0 ≤ a2 ∧ a2 < 256 by (first | (intros; first | omega | (simp [upS]; done) | (simp [upS]; omega)) | (intros; simp_all [upS]; done) | (intros; simp_all [upS]; omega))), ?_⟩
    refine ⟨(show ¬ (0 = 0) → ¬ (a3 = 0) → ¬ (a3 = 1) → (a3 = 2) → 0 ≤ a2 ∧ a2 < 256 by (first | (intros; first | omega | (simp [upS]; done) | (simp [upS]; omega)) | (intros; simp_all [upS]; done) | (intros; simp_all [upS]; omega))), ?_⟩
    refine ⟨(show ¬ (0 = 0) → ¬ (a3 = 0) → ¬ (a3 = 1) → ¬ (a3 = 2) → 0 ≤ a2 ∧ a2 < 256 by (first | (intros; first | omega | (simp [upS]; done) | (simp [upS]; omega)) | (intros; simp_all [upS]; done) | (intros; simp_all [upS]; omega))), ?_⟩
    try rw [if_pos (show (0 : Int) = 0 by first | omega | (simp [upS]; done) | (simp [upS]; omega))]
    all_goals rfl
  exact op_x H (by decide) hA hB
theorem x19_1 {σ : Sg} {c : Int} {a1 : Int} {a2 : Int} {a3 : Int} (H : Rel c σ) (h0 : σ 0 3 ≤ a1) : OpR 408 311 [(.inr (.inr (some 0))), (.inl a1), (.inl a2), (.inl a3), (.inr (.inr (some 726)))] [(.inr (.inr (some 682))), (.inl a1), (.inl a2), (.inl a3)] σ (c + 1) := by
  obtain ⟨r1, r2, r3, r4, r5⟩ := rel_n H
  have hA : Dd 408 [(.inr (.inr (some 0))), (.inl a1), (.inl a2), (.inl a3), (.inr (.inr (some 726)))] σ (.inl (some (.inl 1)), σ) := by
    refine b408 ?_
    have hD4 : Dd 191 [(.inr (.inr (some 0))), (.inl a1), (.inl a2), (.inl a3)] σ (.inr 0, σ) := by
      refine b191 ?_
      have hD3 : Dd 230 [(.inr (.inr (some 0))), (.inl a1)] σ (.inr 0, σ) := by
        refine b230 ?_
        have hD1 : Dd 89 [(.inr (.inr (some 19))), (.inl a1), (.inl (σ 0 3))] σ (.inl (some (.inr (.inr none))), σ) := by
          refine b89 ?_
          rw [if_pos (show (0 : Int) ≤ a1 by first | omega | (simp [upS]; done) | (simp [upS]; omega))]
          rw [if_neg (show ¬ (a1 < (σ 0 3)) by first | omega | (simp [upS]; done) | (simp [upS]; omega))]
          all_goals rfl
        refine ⟨_, _, hD1, ?_⟩
        clear hD1
        refine ⟨fun _ => ?_, fun _ hz2 => (by cases hz2)⟩
        all_goals rfl
      refine Or.inr ⟨_, _, hD3, ?_⟩
      all_goals rfl
    exact Or.inr (Or.inl ⟨_, hD4, rfl⟩)
  have hB : Dd 311 [(.inr (.inr (some 682))), (.inl a1), (.inl a2), (.inl a3)] σ (.inl (some (.inl 0)), (upS σ 682 0 1)) := by
    refine b311 ?_
    have hD7 : Dd 304 [(.inr (.inr (some 682))), (.inl a1), (.inl a2)] σ (.inl (some (.inl 0)), σ) := by
      refine b304 ?_
      have hD6 : Dd 248 [(.inr (.inr (some 682))), (.inl a1)] σ (.inl (some (.inl 0)), σ) := by
        refine b248 ?_
        have hD5 : Dd 246 [(.inl a1), (.inl (σ 682 3))] σ (.inl (some (.inl 0)), σ) := by
          refine b246 ?_
          try rw [if_pos (show (0 : Int) ≤ a1 by first | omega | (simp [upS]; done) | (simp [upS]; omega))]
          try rw [if_neg (show ¬ (a1 < (σ 682 3)) by first | omega | (simp [upS]; done) | (simp [upS]; omega))]
          all_goals rfl
        refine ⟨_, _, hD5, ?_⟩
        clear hD5
        refine ⟨(show 0 = 0 ∨ 0 = 1 by first | omega | (simp [upS]; done) | (simp [upS]; omega)), ?_⟩
        all_goals rfl
      refine ⟨_, _, hD6, ?_⟩
      clear hD6
      rw [if_pos (show (0 : Int) = 0 by first | omega | (simp [upS]; done) | (simp [upS]; omega))]
      all_goals rfl
    refine ⟨_, _, hD7, ?_⟩
    clear hD7
    rw [if_pos (show (0 : Int) = 0 by first | omega | (simp [upS]; done) | (simp [upS]; omega))]
    refine b311_31 ?_
    have hD8 : Dd 245 [(.inr (.inr (some 682))), (.inl 1)] σ (.inl (some (.inl 0)), (upS σ 682 0 1)) := by
      refine b245 ?_
      try rw [if_neg (show ¬ ((1 : Int) = 0) by first | omega | (simp [upS]; done) | (simp [upS]; omega))]
      all_goals rfl
    refine ⟨_, _, hD8, ?_⟩
    clear hD8
    refine ⟨(show ¬ (0 = 0) → (a3 = 0) → 0 ≤ a2 ∧ a2 < 256 by (first | (intros; first | omega | (simp [upS]; done) | (simp [upS]; omega)) | (intros; simp_all [upS]; done) | (intros; simp_all [upS]; omega))), ?_⟩
    refine ⟨(show ¬ (0 = 0) → ¬ (a3 = 0) → (a3 = 1) → 0 ≤ a2 ∧ a2 < 256 by (first | (intros; first | omega | (simp [upS]; done) | (simp [upS]; omega)) | (intros; simp_all [upS]; done) | (intros; simp_all [upS]; omega))), ?_⟩
    refine ⟨(show ¬ (0 = 0) → ¬ (a3 = 0) → ¬ (a3 = 1) → (a3 = 2) → 0 ≤ a2 ∧ a2 < 256 by (first | (intros; first | omega | (simp [upS]; done) | (simp [upS]; omega)) | (intros; simp_all [upS]; done) | (intros; simp_all [upS]; omega))), ?_⟩
    refine ⟨(show ¬ (0 = 0) → ¬ (a3 = 0) → ¬ (a3 = 1) → ¬ (a3 = 2) → 0 ≤ a2 ∧ a2 < 256 by (first | (intros; first | omega | (simp [upS]; done) | (simp [upS]; omega)) | (intros; simp_all [upS]; done) | (intros; simp_all [upS]; omega))), ?_⟩
    try rw [if_pos (show (0 : Int) = 0 by first | omega | (simp [upS]; done) | (simp [upS]; omega))]
    all_goals rfl
  exact op_x H (by decide) hA hB
theorem x20_0 {σ : Sg} {c : Int} {a1 : Int} {a2 : Int} (H : Rel c σ) (h0 : a1 < 0) : OpR 409 316 [(.inr (.inr (some 0))), (.inl a1), (.inl a2), (.inr (.inr (some 726)))] [(.inr (.inr (some 682))), (.inl a1), (.inl a2)] σ (c + 1) := by
  obtain ⟨r1, r2, r3, r4, r5⟩ := rel_n H
  have hA : Dd 409 [(.inr (.inr (some 0))), (.inl a1), (.inl a2), (.inr (.inr (some 726)))] σ (.inl (some (.inl 1)), σ) := by
    refine b409 ?_
    have hD4 : Dd 192 [(.inr (.inr (some 0))), (.inl a1), (.inl a2)] σ (.inr 0, σ) := by
      refine b192 ?_
      have hD3 : Dd 230 [(.inr (.inr (some 0))), (.inl a1)] σ (.inr 0, σ) := by
        refine b230 ?_
        have hD1 : Dd 89 [(.inr (.inr (some 19))), (.inl a1), (.inl (σ 0 3))] σ (.inl (some (.inr (.inr none))), σ) := by
          refine b89 ?_
          rw [if_neg (show ¬ ((0 : Int) ≤ a1) by first | omega | (simp [upS]; done) | (simp [upS]; omega))]
          all_goals rfl
        refine ⟨_, _, hD1, ?_⟩
        clear hD1
        refine ⟨fun _ => ?_, fun _ hz2 => (by cases hz2)⟩
        all_goals rfl
      refine Or.inr ⟨_, _, hD3, ?_⟩
      all_goals rfl
    exact Or.inr (⟨_, hD4, rfl⟩)
  have hB : Dd 316 [(.inr (.inr (some 682))), (.inl a1), (.inl a2)] σ (.inl (some (.inl 0)), (upS σ 682 0 1)) := by
    refine b316 ?_
    have hD8 : Dd 308 [(.inr (.inr (some 682))), (.inl a1), (.inl a2)] σ (.inl (some (.inl 0)), (upS σ 682 0 1)) := by
      refine b308 ?_
      have hD6 : Dd 248 [(.inr (.inr (some 682))), (.inl a1)] σ (.inl (some (.inl 0)), σ) := by
        refine b248 ?_
        have hD5 : Dd 246 [(.inl a1), (.inl (σ 682 3))] σ (.inl (some (.inl 0)), σ) := by
          refine b246 ?_
          try rw [if_neg (show ¬ ((0 : Int) ≤ a1) by first | omega | (simp [upS]; done) | (simp [upS]; omega))]
          all_goals rfl
        refine ⟨_, _, hD5, ?_⟩
        clear hD5
        refine ⟨(show 0 = 0 ∨ 0 = 1 by first | omega | (simp [upS]; done) | (simp [upS]; omega)), ?_⟩
        all_goals rfl
      refine ⟨_, _, hD6, ?_⟩
      clear hD6
      rw [if_pos (show (0 : Int) = 0 by first | omega | (simp [upS]; done) | (simp [upS]; omega))]
      refine b308_26 ?_
      refine b308_27 ?_
      have hD7 : Dd 245 [(.inr (.inr (some 682))), (.inl 1)] σ (.inl (some (.inl 0)), (upS σ 682 0 1)) := by
        refine b245 ?_
        try rw [if_neg (show ¬ ((1 : Int) = 0) by first | omega | (simp [upS]; done) | (simp [upS]; omega))]
        all_goals rfl
      refine ⟨_, _, hD7, ?_⟩
      clear hD7
      refine ⟨(show 0 = 0 ∨ 0 = 1 by first | omega | (simp [upS]; done) | (simp [upS]; omega)), ?_⟩
      all_goals rfl
    refine ⟨_, _, hD8, ?_⟩
    clear hD8
    rw [if_pos (show (0 : Int) = 0 by first | omega | (simp [upS]; done) | (simp [upS]; omega))]
    all_goals rfl
  exact op_x H (by decide) hA hB
theorem x20_1 {σ : Sg} {c : Int} {a1 : Int} {a2 : Int} (H : Rel c σ) (h0 : σ 0 3 ≤ a1) : OpR 409 316 [(.inr (.inr (some 0))), (.inl a1), (.inl a2), (.inr (.inr (some 726)))] [(.inr (.inr (some 682))), (.inl a1), (.inl a2)] σ (c + 1) := by
  obtain ⟨r1, r2, r3, r4, r5⟩ := rel_n H
  have hA : Dd 409 [(.inr (.inr (some 0))), (.inl a1), (.inl a2), (.inr (.inr (some 726)))] σ (.inl (some (.inl 1)), σ) := by
    refine b409 ?_
    have hD4 : Dd 192 [(.inr (.inr (some 0))), (.inl a1), (.inl a2)] σ (.inr 0, σ) := by
      refine b192 ?_
      have hD3 : Dd 230 [(.inr (.inr (some 0))), (.inl a1)] σ (.inr 0, σ) := by
        refine b230 ?_
        have hD1 : Dd 89 [(.inr (.inr (some 19))), (.inl a1), (.inl (σ 0 3))] σ (.inl (some (.inr (.inr none))), σ) := by
          refine b89 ?_
          rw [if_pos (show (0 : Int) ≤ a1 by first | omega | (simp [upS]; done) | (simp [upS]; omega))]
          rw [if_neg (show ¬ (a1 < (σ 0 3)) by first | omega | (simp [upS]; done) | (simp [upS]; omega))]
          all_goals rfl
        refine ⟨_, _, hD1, ?_⟩
        clear hD1
        refine ⟨fun _ => ?_, fun _ hz2 => (by cases hz2)⟩
        all_goals rfl
      refine Or.inr ⟨_, _, hD3, ?_⟩
      all_goals rfl
    exact Or.inr (⟨_, hD4, rfl⟩)
  have hB : Dd 316 [(.inr (.inr (some 682))), (.inl a1), (.inl a2)] σ (.inl (some (.inl 0)), (upS σ 682 0 1)) := by
    refine b316 ?_
    have hD8 : Dd 308 [(.inr (.inr (some 682))), (.inl a1), (.inl a2)] σ (.inl (some (.inl 0)), (upS σ 682 0 1)) := by
      refine b308 ?_
      have hD6 : Dd 248 [(.inr (.inr (some 682))), (.inl a1)] σ (.inl (some (.inl 0)), σ) := by
        refine b248 ?_
        have hD5 : Dd 246 [(.inl a1), (.inl (σ 682 3))] σ (.inl (some (.inl 0)), σ) := by
          refine b246 ?_
          try rw [if_pos (show (0 : Int) ≤ a1 by first | omega | (simp [upS]; done) | (simp [upS]; omega))]
          try rw [if_neg (show ¬ (a1 < (σ 682 3)) by first | omega | (simp [upS]; done) | (simp [upS]; omega))]
          all_goals rfl
        refine ⟨_, _, hD5, ?_⟩
        clear hD5
        refine ⟨(show 0 = 0 ∨ 0 = 1 by first | omega | (simp [upS]; done) | (simp [upS]; omega)), ?_⟩
        all_goals rfl
      refine ⟨_, _, hD6, ?_⟩
      clear hD6
      rw [if_pos (show (0 : Int) = 0 by first | omega | (simp [upS]; done) | (simp [upS]; omega))]
      refine b308_26 ?_
      refine b308_27 ?_
      have hD7 : Dd 245 [(.inr (.inr (some 682))), (.inl 1)] σ (.inl (some (.inl 0)), (upS σ 682 0 1)) := by
        refine b245 ?_
        try rw [if_neg (show ¬ ((1 : Int) = 0) by first | omega | (simp [upS]; done) | (simp [upS]; omega))]
        all_goals rfl
      refine ⟨_, _, hD7, ?_⟩
      clear hD7
      refine ⟨(show 0 = 0 ∨ 0 = 1 by first | omega | (simp [upS]; done) | (simp [upS]; omega)), ?_⟩
      all_goals rfl
    refine ⟨_, _, hD8, ?_⟩
    clear hD8
    rw [if_pos (show (0 : Int) = 0 by first | omega | (simp [upS]; done) | (simp [upS]; omega))]
    all_goals rfl
  exact op_x H (by decide) hA hB
theorem x20_2 {σ : Sg} {c : Int} {a1 : Int} {a2 : Int} (H : Rel c σ) (h0 : 0 ≤ a1 ∧ a1 < σ 0 3) (h1 : a2 < 0) : OpR 409 316 [(.inr (.inr (some 0))), (.inl a1), (.inl a2), (.inr (.inr (some 726)))] [(.inr (.inr (some 682))), (.inl a1), (.inl a2)] σ (c + 1) := by
  obtain ⟨r1, r2, r3, r4, r5⟩ := rel_n H
  have t0 := rel_p H h0
  have hA : Dd 409 [(.inr (.inr (some 0))), (.inl a1), (.inl a2), (.inr (.inr (some 726)))] σ (.inl (some (.inl 1)), σ) := by
    refine b409 ?_
    have hD6 : Dd 192 [(.inr (.inr (some 0))), (.inl a1), (.inl a2)] σ (.inr 0, σ) := by
      refine b192 ?_
      have hD3 : Dd 230 [(.inr (.inr (some 0))), (.inl a1)] σ (.inl (some (.inr (.inr (some (20 + 13 * ((a1)).toNat))))), σ) := by
        refine b230 ?_
        have hD1 : Dd 89 [(.inr (.inr (some 19))), (.inl a1), (.inl (σ 0 3))] σ (.inl (some (.inr (.inr (some (20 + 13 * ((a1)).toNat))))), σ) := by
          refine b89 ?_
          rw [if_pos (show (0 : Int) ≤ a1 by first | omega | (simp [upS]; done) | (simp [upS]; omega))]
          rw [if_pos (show a1 < (σ 0 3) by first | omega | (simp [upS]; done) | (simp [upS]; omega))]
          refine ⟨24, (by decide +kernel), (by decide), ?_⟩
          rw [if_pos (show a1 < ((24 : Nat) : Int) by first | omega | (simp [upS]; done) | (simp [upS]; omega))]
          refine ⟨(show 0 ≤ a1 by first | omega | (simp [upS]; done) | (simp [upS]; omega)), ?_⟩
          refine ⟨(20 + 13 * ((a1)).toNat), (el_19 (i := (a1)) (by first | omega | (simp [upS]; done) | (simp [upS]; omega))).1, (el_19 (i := (a1)) (by first | omega | (simp [upS]; done) | (simp [upS]; omega))).2, ?_⟩
          all_goals rfl
        refine ⟨_, _, hD1, ?_⟩
        clear hD1
        refine ⟨fun hz2 => (by cases hz2), fun _ hz2 => ?_⟩
        cases hz2
        refine ⟨(el_19 (i := (a1)) (by first | omega | (simp [upS]; done) | (simp [upS]; omega))).2, ?_⟩
        all_goals rfl
      refine Or.inl ⟨_, _, hD3, (el_19 (i := (a1)) (by first | omega | (simp [upS]; done) | (simp [upS]; omega))).2, ?_⟩
      clear hD3
      have hD4 : Dd 146 [(.inr (.inr (some ((20 + 13 * ((a1)).toNat) + 1))))] σ (.inl (some (.inl (σ ((20 + 13 * ((a1)).toNat) + 1) 1))), σ) := by
        refine b146 (pat_1 (el_19 (i := (a1)) (by first | omega | (simp [upS]; done) | (simp [upS]; omega))).2) ?_
        all_goals rfl
      refine ⟨_, _, hD4, ?_⟩
      clear hD4
      have hD5 : Dd 232 [(.inr (.inr (some 0))), (.inl a2), (.inl (σ ((20 + 13 * ((a1)).toNat) + 1) 1))] σ (.inr 0, σ) := by
        refine b232 ?_
        rw [if_neg (show ¬ ((0 : Int) ≤ a2) by first | omega | (simp [upS]; done) | (simp [upS]; omega))]
        refine b232_9 ?_
        all_goals rfl
      refine Or.inr ⟨_, _, hD5, ?_⟩
      all_goals rfl
    exact Or.inr (⟨_, hD6, rfl⟩)
  have hB : Dd 316 [(.inr (.inr (some 682))), (.inl a1), (.inl a2)] σ (.inl (some (.inl 0)), (upS σ 682 0 1)) := by
    refine b316 ?_
    have hD11 : Dd 308 [(.inr (.inr (some 682))), (.inl a1), (.inl a2)] σ (.inl (some (.inl 0)), (upS σ 682 0 1)) := by
      refine b308 ?_
      have hD8 : Dd 248 [(.inr (.inr (some 682))), (.inl a1)] σ (.inl (some (.inl 1)), σ) := by
        refine b248 ?_
        have hD7 : Dd 246 [(.inl a1), (.inl (σ 682 3))] σ (.inl (some (.inl 1)), σ) := by
          refine b246 ?_
          try rw [if_pos (show (0 : Int) ≤ a1 by first | omega | (simp [upS]; done) | (simp [upS]; omega))]
          try rw [if_pos (show a1 < (σ 682 3) by first | omega | (simp [upS]; done) | (simp [upS]; omega))]
          all_goals rfl
        refine ⟨_, _, hD7, ?_⟩
        clear hD7
        refine ⟨(show 1 = 0 ∨ 1 = 1 by first | omega | (simp [upS]; done) | (simp [upS]; omega)), ?_⟩
        all_goals rfl
      refine ⟨_, _, hD8, ?_⟩
      clear hD8
      rw [if_neg (show ¬ ((1 : Int) = 0) by first | omega | (simp [upS]; done) | (simp [upS]; omega))]
      refine ⟨(show 0 ≤ a1 ∧ a1 < 44 by first | omega | (simp [upS]; done) | (simp [upS]; omega)), ?_⟩
      rw [show (σ 688 (a1).toNat) = (σ 688 ((a1).toNat)) by (first | omega | (simp [upS]; done) | (simp [upS]; omega))]
      have hD9 : Dd 246 [(.inl a2), (.inl (σ 688 ((a1).toNat)))] σ (.inl (some (.inl 0)), σ) := by
        refine b246 ?_
        try rw [if_neg (show ¬ ((0 : Int) ≤ a2) by first | omega | (simp [upS]; done) | (simp [upS]; omega))]
        all_goals rfl
      refine ⟨_, _, hD9, ?_⟩
      clear hD9
      rw [if_pos (show (0 : Int) = 0 by first | omega | (simp [upS]; done) | (simp [upS]; omega))]
      refine b308_26 ?_
      refine b308_27 ?_
      have hD10 : Dd 245 [(.inr (.inr (some 682))), (.inl 1)] σ (.inl (some (.inl 0)), (upS σ 682 0 1)) := by
        refine b245 ?_
        try rw [if_neg (show ¬ ((1 : Int) = 0) by first | omega | (simp [upS]; done) | (simp [upS]; omega))]
        all_goals rfl
      refine ⟨_, _, hD10, ?_⟩
      clear hD10
      refine ⟨(show 0 = 0 ∨ 0 = 1 by first | omega | (simp [upS]; done) | (simp [upS]; omega)), ?_⟩
      all_goals rfl
    refine ⟨_, _, hD11, ?_⟩
    clear hD11
    rw [if_pos (show (0 : Int) = 0 by first | omega | (simp [upS]; done) | (simp [upS]; omega))]
    all_goals rfl
  exact op_x H (by decide) hA hB
theorem x20_3 {σ : Sg} {c : Int} {a1 : Int} {a2 : Int} (H : Rel c σ) (h0 : 0 ≤ a1 ∧ a1 < σ 0 3) (h1 : σ ((20 + 13 * ((a1)).toNat) + 1) 1 ≤ a2) : OpR 409 316 [(.inr (.inr (some 0))), (.inl a1), (.inl a2), (.inr (.inr (some 726)))] [(.inr (.inr (some 682))), (.inl a1), (.inl a2)] σ (c + 1) := by
  obtain ⟨r1, r2, r3, r4, r5⟩ := rel_n H
  have t0 := rel_p H h0
  have hA : Dd 409 [(.inr (.inr (some 0))), (.inl a1), (.inl a2), (.inr (.inr (some 726)))] σ (.inl (some (.inl 1)), σ) := by
    refine b409 ?_
    have hD6 : Dd 192 [(.inr (.inr (some 0))), (.inl a1), (.inl a2)] σ (.inr 0, σ) := by
      refine b192 ?_
      have hD3 : Dd 230 [(.inr (.inr (some 0))), (.inl a1)] σ (.inl (some (.inr (.inr (some (20 + 13 * ((a1)).toNat))))), σ) := by
        refine b230 ?_
        have hD1 : Dd 89 [(.inr (.inr (some 19))), (.inl a1), (.inl (σ 0 3))] σ (.inl (some (.inr (.inr (some (20 + 13 * ((a1)).toNat))))), σ) := by
          refine b89 ?_
          rw [if_pos (show (0 : Int) ≤ a1 by first | omega | (simp [upS]; done) | (simp [upS]; omega))]
          rw [if_pos (show a1 < (σ 0 3) by first | omega | (simp [upS]; done) | (simp [upS]; omega))]
          refine ⟨24, (by decide +kernel), (by decide), ?_⟩
          rw [if_pos (show a1 < ((24 : Nat) : Int) by first | omega | (simp [upS]; done) | (simp [upS]; omega))]
          refine ⟨(show 0 ≤ a1 by first | omega | (simp [upS]; done) | (simp [upS]; omega)), ?_⟩
          refine ⟨(20 + 13 * ((a1)).toNat), (el_19 (i := (a1)) (by first | omega | (simp [upS]; done) | (simp [upS]; omega))).1, (el_19 (i := (a1)) (by first | omega | (simp [upS]; done) | (simp [upS]; omega))).2, ?_⟩
          all_goals rfl
        refine ⟨_, _, hD1, ?_⟩
        clear hD1
        refine ⟨fun hz2 => (by cases hz2), fun _ hz2 => ?_⟩
        cases hz2
        refine ⟨(el_19 (i := (a1)) (by first | omega | (simp [upS]; done) | (simp [upS]; omega))).2, ?_⟩
        all_goals rfl
      refine Or.inl ⟨_, _, hD3, (el_19 (i := (a1)) (by first | omega | (simp [upS]; done) | (simp [upS]; omega))).2, ?_⟩
      clear hD3
      have hD4 : Dd 146 [(.inr (.inr (some ((20 + 13 * ((a1)).toNat) + 1))))] σ (.inl (some (.inl (σ ((20 + 13 * ((a1)).toNat) + 1) 1))), σ) := by
        refine b146 (pat_1 (el_19 (i := (a1)) (by first | omega | (simp [upS]; done) | (simp [upS]; omega))).2) ?_
        all_goals rfl
      refine ⟨_, _, hD4, ?_⟩
      clear hD4
      have hD5 : Dd 232 [(.inr (.inr (some 0))), (.inl a2), (.inl (σ ((20 + 13 * ((a1)).toNat) + 1) 1))] σ (.inr 0, σ) := by
        refine b232 ?_
        rw [if_pos (show (0 : Int) ≤ a2 by first | omega | (simp [upS]; done) | (simp [upS]; omega))]
        rw [if_pos (show (σ ((20 + 13 * ((a1)).toNat) + 1) 1) ≤ a2 by first | omega | (simp [upS]; done) | (simp [upS]; omega))]
        refine b232_9 ?_
        all_goals rfl
      refine Or.inr ⟨_, _, hD5, ?_⟩
      all_goals rfl
    exact Or.inr (⟨_, hD6, rfl⟩)
  have hB : Dd 316 [(.inr (.inr (some 682))), (.inl a1), (.inl a2)] σ (.inl (some (.inl 0)), (upS σ 682 0 1)) := by
    refine b316 ?_
    have hD11 : Dd 308 [(.inr (.inr (some 682))), (.inl a1), (.inl a2)] σ (.inl (some (.inl 0)), (upS σ 682 0 1)) := by
      refine b308 ?_
      have hD8 : Dd 248 [(.inr (.inr (some 682))), (.inl a1)] σ (.inl (some (.inl 1)), σ) := by
        refine b248 ?_
        have hD7 : Dd 246 [(.inl a1), (.inl (σ 682 3))] σ (.inl (some (.inl 1)), σ) := by
          refine b246 ?_
          try rw [if_pos (show (0 : Int) ≤ a1 by first | omega | (simp [upS]; done) | (simp [upS]; omega))]
          try rw [if_pos (show a1 < (σ 682 3) by first | omega | (simp [upS]; done) | (simp [upS]; omega))]
          all_goals rfl
        refine ⟨_, _, hD7, ?_⟩
        clear hD7
        refine ⟨(show 1 = 0 ∨ 1 = 1 by first | omega | (simp [upS]; done) | (simp [upS]; omega)), ?_⟩
        all_goals rfl
      refine ⟨_, _, hD8, ?_⟩
      clear hD8
      rw [if_neg (show ¬ ((1 : Int) = 0) by first | omega | (simp [upS]; done) | (simp [upS]; omega))]
      refine ⟨(show 0 ≤ a1 ∧ a1 < 44 by first | omega | (simp [upS]; done) | (simp [upS]; omega)), ?_⟩
      rw [show (σ 688 (a1).toNat) = (σ 688 ((a1).toNat)) by (first | omega | (simp [upS]; done) | (simp [upS]; omega))]
      have hD9 : Dd 246 [(.inl a2), (.inl (σ 688 ((a1).toNat)))] σ (.inl (some (.inl 0)), σ) := by
        refine b246 ?_
        try rw [if_pos (show (0 : Int) ≤ a2 by first | omega | (simp [upS]; done) | (simp [upS]; omega))]
        try rw [if_neg (show ¬ (a2 < (σ 688 ((a1).toNat))) by first | omega | (simp [upS]; done) | (simp [upS]; omega))]
        all_goals rfl
      refine ⟨_, _, hD9, ?_⟩
      clear hD9
      rw [if_pos (show (0 : Int) = 0 by first | omega | (simp [upS]; done) | (simp [upS]; omega))]
      refine b308_26 ?_
      refine b308_27 ?_
      have hD10 : Dd 245 [(.inr (.inr (some 682))), (.inl 1)] σ (.inl (some (.inl 0)), (upS σ 682 0 1)) := by
        refine b245 ?_
        try rw [if_neg (show ¬ ((1 : Int) = 0) by first | omega | (simp [upS]; done) | (simp [upS]; omega))]
        all_goals rfl
      refine ⟨_, _, hD10, ?_⟩
      clear hD10
      refine ⟨(show 0 = 0 ∨ 0 = 1 by first | omega | (simp [upS]; done) | (simp [upS]; omega)), ?_⟩
      all_goals rfl
    refine ⟨_, _, hD11, ?_⟩
    clear hD11
    rw [if_pos (show (0 : Int) = 0 by first | omega | (simp [upS]; done) | (simp [upS]; omega))]
    all_goals rfl
  exact op_x H (by decide) hA hB
theorem x21_0 {σ : Sg} {c : Int} {a1 : Int} {a2 : Int} (H : Rel c σ) (h0 : a1 < 0) : OpB 410 317 [(.inr (.inr (some 0))), (.inl a1), (.inl a2), (.inr (.inr (some 726)))] [(.inr (.inr (some 682))), (.inl a1), (.inl a2)] σ (c + 1) := by
  obtain ⟨r1, r2, r3, r4, r5⟩ := rel_n H
  have hA : Dd 410 [(.inr (.inr (some 0))), (.inl a1), (.inl a2), (.inr (.inr (some 726)))] σ (.inl (some (.inl 1)), σ) := by
    refine b410 ?_
    have hD4 : Dd 193 [(.inr (.inr (some 0))), (.inl a1), (.inl a2)] σ (.inr 0, σ) := by
      refine b193 ?_
      have hD3 : Dd 230 [(.inr (.inr (some 0))), (.inl a1)] σ (.inr 0, σ) := by
        refine b230 ?_
        have hD1 : Dd 89 [(.inr (.inr (some 19))), (.inl a1), (.inl (σ 0 3))] σ (.inl (some (.inr (.inr none))), σ) := by
          refine b89 ?_
          rw [if_neg (show ¬ ((0 : Int) ≤ a1) by first | omega | (simp [upS]; done) | (simp [upS]; omega))]
          all_goals rfl
        refine ⟨_, _, hD1, ?_⟩
        clear hD1
        refine ⟨fun _ => ?_, fun _ hz2 => (by cases hz2)⟩
        all_goals rfl
      refine Or.inr ⟨_, _, hD3, ?_⟩
      all_goals rfl
    exact Or.inr (⟨_, hD4, rfl⟩)
  have hB : Dd 317 [(.inr (.inr (some 682))), (.inl a1), (.inl a2)] σ (.inl (some (.inl 0)), (upS σ 682 0 1)) := by
    refine b317 ?_
    have hD6 : Dd 248 [(.inr (.inr (some 682))), (.inl a1)] σ (.inl (some (.inl 0)), σ) := by
      refine b248 ?_
      have hD5 : Dd 246 [(.inl a1), (.inl (σ 682 3))] σ (.inl (some (.inl 0)), σ) := by
        refine b246 ?_
        try rw [if_neg (show ¬ ((0 : Int) ≤ a1) by first | omega | (simp [upS]; done) | (simp [upS]; omega))]
        all_goals rfl
      refine ⟨_, _, hD5, ?_⟩
      clear hD5
      refine ⟨(show 0 = 0 ∨ 0 = 1 by first | omega | (simp [upS]; done) | (simp [upS]; omega)), ?_⟩
      all_goals rfl
    refine ⟨_, _, hD6, ?_⟩
    clear hD6
    rw [if_pos (show (0 : Int) = 0 by first | omega | (simp [upS]; done) | (simp [upS]; omega))]
    refine b317_21 ?_
    refine b317_22 ?_
    have hD7 : Dd 245 [(.inr (.inr (some 682))), (.inl 1)] σ (.inl (some (.inl 0)), (upS σ 682 0 1)) := by
      refine b245 ?_
      try rw [if_neg (show ¬ ((1 : Int) = 0) by first | omega | (simp [upS]; done) | (simp [upS]; omega))]
      all_goals rfl
    refine ⟨_, _, hD7, ?_⟩
    clear hD7
    rw [if_pos (show (0 : Int) = 0 by first | omega | (simp [upS]; done) | (simp [upS]; omega))]
    all_goals rfl
  exact op_xB H (by decide) hA hB
theorem x21_1 {σ : Sg} {c : Int} {a1 : Int} {a2 : Int} (H : Rel c σ) (h0 : σ 0 3 ≤ a1) : OpB 410 317 [(.inr (.inr (some 0))), (.inl a1), (.inl a2), (.inr (.inr (some 726)))] [(.inr (.inr (some 682))), (.inl a1), (.inl a2)] σ (c + 1) := by
  obtain ⟨r1, r2, r3, r4, r5⟩ := rel_n H
  have hA : Dd 410 [(.inr (.inr (some 0))), (.inl a1), (.inl a2), (.inr (.inr (some 726)))] σ (.inl (some (.inl 1)), σ) := by
    refine b410 ?_
    have hD4 : Dd 193 [(.inr (.inr (some 0))), (.inl a1), (.inl a2)] σ (.inr 0, σ) := by
      refine b193 ?_
      have hD3 : Dd 230 [(.inr (.inr (some 0))), (.inl a1)] σ (.inr 0, σ) := by
        refine b230 ?_
        have hD1 : Dd 89 [(.inr (.inr (some 19))), (.inl a1), (.inl (σ 0 3))] σ (.inl (some (.inr (.inr none))), σ) := by
          refine b89 ?_
          rw [if_pos (show (0 : Int) ≤ a1 by first | omega | (simp [upS]; done) | (simp [upS]; omega))]
          rw [if_neg (show ¬ (a1 < (σ 0 3)) by first | omega | (simp [upS]; done) | (simp [upS]; omega))]
          all_goals rfl
        refine ⟨_, _, hD1, ?_⟩
        clear hD1
        refine ⟨fun _ => ?_, fun _ hz2 => (by cases hz2)⟩
        all_goals rfl
      refine Or.inr ⟨_, _, hD3, ?_⟩
      all_goals rfl
    exact Or.inr (⟨_, hD4, rfl⟩)
  have hB : Dd 317 [(.inr (.inr (some 682))), (.inl a1), (.inl a2)] σ (.inl (some (.inl 0)), (upS σ 682 0 1)) := by
    refine b317 ?_
    have hD6 : Dd 248 [(.inr (.inr (some 682))), (.inl a1)] σ (.inl (some (.inl 0)), σ) := by
      refine b248 ?_
      have hD5 : Dd 246 [(.inl a1), (.inl (σ 682 3))] σ (.inl (some (.inl 0)), σ) := by
        refine b246 ?_
        try rw [if_pos (show (0 : Int) ≤ a1 by first | omega | (simp [upS]; done) | (simp [upS]; omega))]
        try rw [if_neg (show ¬ (a1 < (σ 682 3)) by first | omega | (simp [upS]; done) | (simp [upS]; omega))]
        all_goals rfl
      refine ⟨_, _, hD5, ?_⟩
      clear hD5
      refine ⟨(show 0 = 0 ∨ 0 = 1 by first | omega | (simp [upS]; done) | (simp [upS]; omega)), ?_⟩
      all_goals rfl
    refine ⟨_, _, hD6, ?_⟩
    clear hD6
    rw [if_pos (show (0 : Int) = 0 by first | omega | (simp [upS]; done) | (simp [upS]; omega))]
    refine b317_21 ?_
    refine b317_22 ?_
    have hD7 : Dd 245 [(.inr (.inr (some 682))), (.inl 1)] σ (.inl (some (.inl 0)), (upS σ 682 0 1)) := by
      refine b245 ?_
      try rw [if_neg (show ¬ ((1 : Int) = 0) by first | omega | (simp [upS]; done) | (simp [upS]; omega))]
      all_goals rfl
    refine ⟨_, _, hD7, ?_⟩
    clear hD7
    rw [if_pos (show (0 : Int) = 0 by first | omega | (simp [upS]; done) | (simp [upS]; omega))]
    all_goals rfl
  exact op_xB H (by decide) hA hB
theorem x21_2 {σ : Sg} {c : Int} {a1 : Int} {a2 : Int} (H : Rel c σ) (h0 : 0 ≤ a1 ∧ a1 < σ 0 3) (h1 : a2 < 0) : OpB 410 317 [(.inr (.inr (some 0))), (.inl a1), (.inl a2), (.inr (.inr (some 726)))] [(.inr (.inr (some 682))), (.inl a1), (.inl a2)] σ (c + 1) := by
  obtain ⟨r1, r2, r3, r4, r5⟩ := rel_n H
  have t0 := rel_p H h0
  have hA : Dd 410 [(.inr (.inr (some 0))), (.inl a1), (.inl a2), (.inr (.inr (some 726)))] σ (.inl (some (.inl 1)), σ) := by
    refine b410 ?_
    have hD7 : Dd 193 [(.inr (.inr (some 0))), (.inl a1), (.inl a2)] σ (.inr 0, σ) := by
      refine b193 ?_
      have hD3 : Dd 230 [(.inr (.inr (some 0))), (.inl a1)] σ (.inl (some (.inr (.inr (some (20 + 13 * ((a1)).toNat))))), σ) := by
        refine b230 ?_
        have hD1 : Dd 89 [(.inr (.inr (some 19))), (.inl a1), (.inl (σ 0 3))] σ (.inl (some (.inr (.inr (some (20 + 13 * ((a1)).toNat))))), σ) := by
          refine b89 ?_
          rw [if_pos (show (0 : Int) ≤ a1 by first | omega | (simp [upS]; done) | (simp [upS]; omega))]
          rw [if_pos (show a1 < (σ 0 3) by first | omega | (simp [upS]; done) | (simp [upS]; omega))]
          refine ⟨24, (by decide +kernel), (by decide), ?_⟩
          rw [if_pos (show a1 < ((24 : Nat) : Int) by first | omega | (simp [upS]; done) | (simp [upS]; omega))]
          refine ⟨(show 0 ≤ a1 by first | omega | (simp [upS]; done) | (simp [upS]; omega)), ?_⟩
          refine ⟨(20 + 13 * ((a1)).toNat), (el_19 (i := (a1)) (by first | omega | (simp [upS]; done) | (simp [upS]; omega))).1, (el_19 (i := (a1)) (by first | omega | (simp [upS]; done) | (simp [upS]; omega))).2, ?_⟩
          all_goals rfl
        refine ⟨_, _, hD1, ?_⟩
        clear hD1
        refine ⟨fun hz2 => (by cases hz2), fun _ hz2 => ?_⟩
        cases hz2
        refine ⟨(el_19 (i := (a1)) (by first | omega | (simp [upS]; done) | (simp [upS]; omega))).2, ?_⟩
        all_goals rfl
      refine Or.inl ⟨_, _, hD3, (el_19 (i := (a1)) (by first | omega | (simp [upS]; done) | (simp [upS]; omega))).2, ?_⟩
      clear hD3
      have hD6 : Dd 230 [(.inr (.inr (some 0))), (.inl a2)] σ (.inr 0, σ) := by
        refine b230 ?_
        have hD4 : Dd 89 [(.inr (.inr (some 19))), (.inl a2), (.inl (σ 0 3))] σ (.inl (some (.inr (.inr none))), σ) := by
          refine b89 ?_
          rw [if_neg (show ¬ ((0 : Int) ≤ a2) by first | omega | (simp [upS]; done) | (simp [upS]; omega))]
          all_goals rfl
        refine ⟨_, _, hD4, ?_⟩
        clear hD4
        refine ⟨fun _ => ?_, fun _ hz5 => (by cases hz5)⟩
        all_goals rfl
      refine Or.inr ⟨_, _, hD6, ?_⟩
      all_goals rfl
    exact Or.inr (⟨_, hD7, rfl⟩)
  have hB : Dd 317 [(.inr (.inr (some 682))), (.inl a1), (.inl a2)] σ (.inl (some (.inl 0)), (upS σ 682 0 1)) := by
    refine b317 ?_
    have hD9 : Dd 248 [(.inr (.inr (some 682))), (.inl a1)] σ (.inl (some (.inl 1)), σ) := by
      refine b248 ?_
      have hD8 : Dd 246 [(.inl a1), (.inl (σ 682 3))] σ (.inl (some (.inl 1)), σ) := by
        refine b246 ?_
        try rw [if_pos (show (0 : Int) ≤ a1 by first | omega | (simp [upS]; done) | (simp [upS]; omega))]
        try rw [if_pos (show a1 < (σ 682 3) by first | omega | (simp [upS]; done) | (simp [upS]; omega))]
        all_goals rfl
      refine ⟨_, _, hD8, ?_⟩
      clear hD8
      refine ⟨(show 1 = 0 ∨ 1 = 1 by first | omega | (simp [upS]; done) | (simp [upS]; omega)), ?_⟩
      all_goals rfl
    refine ⟨_, _, hD9, ?_⟩
    clear hD9
    rw [if_neg (show ¬ ((1 : Int) = 0) by first | omega | (simp [upS]; done) | (simp [upS]; omega))]
    have hD11 : Dd 248 [(.inr (.inr (some 682))), (.inl a2)] σ (.inl (some (.inl 0)), σ) := by
      refine b248 ?_
      have hD10 : Dd 246 [(.inl a2), (.inl (σ 682 3))] σ (.inl (some (.inl 0)), σ) := by
        refine b246 ?_
        try rw [if_neg (show ¬ ((0 : Int) ≤ a2) by first | omega | (simp [upS]; done) | (simp [upS]; omega))]
        all_goals rfl
      refine ⟨_, _, hD10, ?_⟩
      clear hD10
      refine ⟨(show 0 = 0 ∨ 0 = 1 by first | omega | (simp [upS]; done) | (simp [upS]; omega)), ?_⟩
      all_goals rfl
    refine ⟨_, _, hD11, ?_⟩
    clear hD11
    rw [if_pos (show (0 : Int) = 0 by first | omega | (simp [upS]; done) | (simp [upS]; omega))]
    refine b317_21 ?_
    refine b317_22 ?_
    have hD12 : Dd 245 [(.inr (.inr (some 682))), (.inl 1)] σ (.inl (some (.inl 0)), (upS σ 682 0 1)) := by
      refine b245 ?_
      try rw [if_neg (show ¬ ((1 : Int) = 0) by first | omega | (simp [upS]; done) | (simp [upS]; omega))]
      all_goals rfl
    refine ⟨_, _, hD12, ?_⟩
    clear hD12
    rw [if_pos (show (0 : Int) = 0 by first | omega | (simp [upS]; done) | (simp [upS]; omega))]
    all_goals rfl
  exact op_xB H (by decide) hA hB
theorem x21_3 {σ : Sg} {c : Int} {a1 : Int} {a2 : Int} (H : Rel c σ) (h0 : 0 ≤ a1 ∧ a1 < σ 0 3) (h1 : σ 0 3 ≤ a2) : OpB 410 317 [(.inr (.inr (some 0))), (.inl a1), (.inl a2), (.inr (.inr (some 726)))] [(.inr (.inr (some 682))), (.inl a1), (.inl a2)] σ (c + 1) := by
  obtain ⟨r1, r2, r3, r4, r5⟩ := rel_n H
  have t0 := rel_p H h0
  have hA : Dd 410 [(.inr (.inr (some 0))), (.inl a1), (.inl a2), (.inr (.inr (some 726)))] σ (.inl (some (.inl 1)), σ) := by
    refine b410 ?_
    have hD7 : Dd 193 [(.inr (.inr (some 0))), (.inl a1), (.inl a2)] σ (.inr 0, σ) := by
      refine b193 ?_
      have hD3 : Dd 230 [(.inr (.inr (some 0))), (.inl a1)] σ (.inl (some (.inr (.inr (some (20 + 13 * ((a1)).toNat))))), σ) := by
        refine b230 ?_
        have hD1 : Dd 89 [(.inr (.inr (some 19))), (.inl a1), (.inl (σ 0 3))] σ (.inl (some (.inr (.inr (some (20 + 13 * ((a1)).toNat))))), σ) := by
          refine b89 ?_
          rw [if_pos (show (0 : Int) ≤ a1 by first | omega | (simp [upS]; done) | (simp [upS]; omega))]
          rw [if_pos (show a1 < (σ 0 3) by first | omega | (simp [upS]; done) | (simp [upS]; omega))]
          refine ⟨24, (by decide +kernel), (by decide), ?_⟩
          rw [if_pos (show a1 < ((24 : Nat) : Int) by first | omega | (simp [upS]; done) | (simp [upS]; omega))]
          refine ⟨(show 0 ≤ a1 by first | omega | (simp [upS]; done) | (simp [upS]; omega)), ?_⟩
          refine ⟨(20 + 13 * ((a1)).toNat), (el_19 (i := (a1)) (by first | omega | (simp [upS]; done) | (simp [upS]; omega))).1, (el_19 (i := (a1)) (by first | omega | (simp [upS]; done) | (simp [upS]; omega))).2, ?_⟩
          all_goals rfl
        refine ⟨_, _, hD1, ?_⟩
        clear hD1
        refine ⟨fun hz2 => (by cases hz2), fun _ hz2 => ?_⟩
        cases hz2
        refine ⟨(el_19 (i := (a1)) (by first | omega | (simp [upS]; done) | (simp [upS]; omega))).2, ?_⟩
        all_goals rfl
      refine Or.inl ⟨_, _, hD3, (el_19 (i := (a1)) (by first | omega | (simp [upS]; done) | (simp [upS]; omega))).2, ?_⟩
      clear hD3
      have hD6 : Dd 230 [(.inr (.inr (some 0))), (.inl a2)] σ (.inr 0, σ) := by
        refine b230 ?_
        have hD4 : Dd 89 [(.inr (.inr (some 19))), (.inl a2), (.inl (σ 0 3))] σ (.inl (some (.inr (.inr none))), σ) := by
          refine b89 ?_
          rw [if_pos (show (0 : Int) ≤ a2 by first | omega | (simp [upS]; done) | (simp [upS]; omega))]
          rw [if_neg (show ¬ (a2 < (σ 0 3)) by first | omega | (simp [upS]; done) | (simp [upS]; omega))]
          all_goals rfl
        refine ⟨_, _, hD4, ?_⟩
        clear hD4
        refine ⟨fun _ => ?_, fun _ hz5 => (by cases hz5)⟩
        all_goals rfl
      refine Or.inr ⟨_, _, hD6, ?_⟩
      all_goals rfl
    exact Or.inr (⟨_, hD7, rfl⟩)
  have hB : Dd 317 [(.inr (.inr (some 682))), (.inl a1), (.inl a2)] σ (.inl (some (.inl 0)), (upS σ 682 0 1)) := by
    refine b317 ?_
    have hD9 : Dd 248 [(.inr (.inr (some 682))), (.inl a1)] σ (.inl (some (.inl 1)), σ) := by
      refine b248 ?_
      have hD8 : Dd 246 [(.inl a1), (.inl (σ 682 3))] σ (.inl (some (.inl 1)), σ) := by
        refine b246 ?_
        try rw [if_pos (show (0 : Int) ≤ a1 by first | omega | (simp [upS]; done) | (simp [upS]; omega))]
        try rw [if_pos (show a1 < (σ 682 3) by first | omega | (simp [upS]; done) | (simp [upS]; omega))]
        all_goals rfl
      refine ⟨_, _, hD8, ?_⟩
      clear hD8
      refine ⟨(show 1 = 0 ∨ 1 = 1 by first | omega | (simp [upS]; done) | (simp [upS]; omega)), ?_⟩
      all_goals rfl
    refine ⟨_, _, hD9, ?_⟩
    clear hD9
    rw [if_neg (show ¬ ((1 : Int) = 0) by first | omega | (simp [upS]; done) | (simp [upS]; omega))]
    have hD11 : Dd 248 [(.inr (.inr (some 682))), (.inl a2)] σ (.inl (some (.inl 0)), σ) := by
      refine b248 ?_
      have hD10 : Dd 246 [(.inl a2), (.inl (σ 682 3))] σ (.inl (some (.inl 0)), σ) := by
        refine b246 ?_
        try rw [if_pos (show (0 : Int) ≤ a2 by first | omega | (simp [upS]; done) | (simp [upS]; omega))]
        try rw [if_neg (show ¬ (a2 < (σ 682 3)) by first | omega | (simp [upS]; done) | (simp [upS]; omega))]
        all_goals rfl
      refine ⟨_, _, hD10, ?_⟩
      clear hD10
      refine ⟨(show 0 = 0 ∨ 0 = 1 by first | omega | (simp [upS]; done) | (simp [upS]; omega)), ?_⟩
      all_goals rfl
    refine ⟨_, _, hD11, ?_⟩
    clear hD11
    rw [if_pos (show (0 : Int) = 0 by first | omega | (simp [upS]; done) | (simp [upS]; omega))]
    refine b317_21 ?_
    refine b317_22 ?_
    have hD12 : Dd 245 [(.inr (.inr (some 682))), (.inl 1)] σ (.inl (some (.inl 0)), (upS σ 682 0 1)) := by
      refine b245 ?_
      try rw [if_neg (show ¬ ((1 : Int) = 0) by first | omega | (simp [upS]; done) | (simp [upS]; omega))]
      all_goals rfl
    refine ⟨_, _, hD12, ?_⟩
    clear hD12
    rw [if_pos (show (0 : Int) = 0 by first | omega | (simp [upS]; done) | (simp [upS]; omega))]
    all_goals rfl
  exact op_xB H (by decide) hA hB
theorem x22_0 {σ : Sg} {c : Int} {a1 : Int} {a2 : Int} (H : Rel c σ) (h0 : a1 < 0) : OpR 411 320 [(.inr (.inr (some 0))), (.inl a1), (.inl a2), (.inr (.inr (some 726)))] [(.inr (.inr (some 682))), (.inl a1), (.inl a2)] σ (c + 1) := by
  obtain ⟨r1, r2, r3, r4, r5⟩ := rel_n H
  have hA : Dd 411 [(.inr (.inr (some 0))), (.inl a1), (.inl a2), (.inr (.inr (some 726)))] σ (.inl (some (.inl 1)), σ) := by
    refine b411 ?_
    have hD4 : Dd 194 [(.inr (.inr (some 0))), (.inl a1), (.inl a2)] σ (.inr 0, σ) := by
      refine b194 ?_
      have hD3 : Dd 230 [(.inr (.inr (some 0))), (.inl a1)] σ (.inr 0, σ) := by
        refine b230 ?_
        have hD1 : Dd 89 [(.inr (.inr (some 19))), (.inl a1), (.inl (σ 0 3))] σ (.inl (some (.inr (.inr none))), σ) := by
          refine b89 ?_
          rw [if_neg (show ¬ ((0 : Int) ≤ a1) by first | omega | (simp [upS]; done) | (simp [upS]; omega))]
          all_goals rfl
        refine ⟨_, _, hD1, ?_⟩
        clear hD1
        refine ⟨fun _ => ?_, fun _ hz2 => (by cases hz2)⟩
        all_goals rfl
      refine Or.inr ⟨_, _, hD3, ?_⟩
      all_goals rfl
    exact Or.inr (⟨_, hD4, rfl⟩)
  have hB : Dd 320 [(.inr (.inr (some 682))), (.inl a1), (.inl a2)] σ (.inl (some (.inl 0)), (upS σ 682 0 1)) := by
    refine b320 ?_
    have hD6 : Dd 248 [(.inr (.inr (some 682))), (.inl a1)] σ (.inl (some (.inl 0)), σ) := by
      refine b248 ?_
      have hD5 : Dd 246 [(.inl a1), (.inl (σ 682 3))] σ (.inl (some (.inl 0)), σ) := by
        refine b246 ?_
        try rw [if_neg (show ¬ ((0 : Int) ≤ a1) by first | omega | (simp [upS]; done) | (simp [upS]; omega))]
        all_goals rfl
      refine ⟨_, _, hD5, ?_⟩
      clear hD5
      refine ⟨(show 0 = 0 ∨ 0 = 1 by first | omega | (simp [upS]; done) | (simp [upS]; omega)), ?_⟩
      all_goals rfl
    refine ⟨_, _, hD6, ?_⟩
    clear hD6
    rw [if_pos (show (0 : Int) = 0 by first | omega | (simp [upS]; done) | (simp [upS]; omega))]
    refine b320_21 ?_
    refine b320_22 ?_
    have hD7 : Dd 245 [(.inr (.inr (some 682))), (.inl 1)] σ (.inl (some (.inl 0)), (upS σ 682 0 1)) := by
      refine b245 ?_
      try rw [if_neg (show ¬ ((1 : Int) = 0) by first | omega | (simp [upS]; done) | (simp [upS]; omega))]
      all_goals rfl
    refine ⟨_, _, hD7, ?_⟩
    clear hD7
    rw [if_pos (show (0 : Int) = 0 by first | omega | (simp [upS]; done) | (simp [upS]; omega))]
    all_goals rfl
  exact op_x H (by decide) hA hB
theorem x22_1 {σ : Sg} {c : Int} {a1 : Int} {a2 : Int} (H : Rel c σ) (h0 : σ 0 3 ≤ a1) : OpR 411 320 [(.inr (.inr (some 0))), (.inl a1), (.inl a2), (.inr (.inr (some 726)))] [(.inr (.inr (some 682))), (.inl a1), (.inl a2)] σ (c + 1) := by
  obtain ⟨r1, r2, r3, r4, r5⟩ := rel_n H
  have hA : Dd 411 [(.inr (.inr (some 0))), (.inl a1), (.inl a2), (.inr (.inr (some 726)))] σ (.inl (some (.inl 1)), σ) := by
    refine b411 ?_
    have hD4 : Dd 194 [(.inr (.inr (some 0))), (.inl a1), (.inl a2)] σ (.inr 0, σ) := by
      refine b194 ?_
      have hD3 : Dd 230 [(.inr (.inr (some 0))), (.inl a1)] σ (.inr 0, σ) := by
        refine b230 ?_
        have hD1 : Dd 89 [(.inr (.inr (some 19))), (.inl a1), (.inl (σ 0 3))] σ (.inl (some (.inr (.inr none))), σ) := by
          refine b89 ?_
          rw [if_pos (show (0 : Int) ≤ a1 by first | omega | (simp [upS]; done) | (simp [upS]; omega))]
          rw [if_neg (show ¬ (a1 < (σ 0 3)) by first | omega | (simp [upS]; done) | (simp [upS]; omega))]
          all_goals rfl
        refine ⟨_, _, hD1, ?_⟩
        clear hD1
        refine ⟨fun _ => ?_, fun _ hz2 => (by cases hz2)⟩
        all_goals rfl
      refine Or.inr ⟨_, _, hD3, ?_⟩
      all_goals rfl
    exact Or.inr (⟨_, hD4, rfl⟩)
  have hB : Dd 320 [(.inr (.inr (some 682))), (.inl a1), (.inl a2)] σ (.inl (some (.inl 0)), (upS σ 682 0 1)) := by
    refine b320 ?_
    have hD6 : Dd 248 [(.inr (.inr (some 682))), (.inl a1)] σ (.inl (some (.inl 0)), σ) := by
      refine b248 ?_
      have hD5 : Dd 246 [(.inl a1), (.inl (σ 682 3))] σ (.inl (some (.inl 0)), σ) := by
        refine b246 ?_
        try rw [if_pos (show (0 : Int) ≤ a1 by first | omega | (simp [upS]; done) | (simp [upS]; omega))]
        try rw [if_neg (show ¬ (a1 < (σ 682 3)) by first | omega | (simp [upS]; done) | (simp [upS]; omega))]
        all_goals rfl
      refine ⟨_, _, hD5, ?_⟩
      clear hD5
      refine ⟨(show 0 = 0 ∨ 0 = 1 by first | omega | (simp [upS]; done) | (simp [upS]; omega)), ?_⟩
      all_goals rfl
    refine ⟨_, _, hD6, ?_⟩
    clear hD6
    rw [if_pos (show (0 : Int) = 0 by first | omega | (simp [upS]; done) | (simp [upS]; omega))]
    refine b320_21 ?_
    refine b320_22 ?_
    have hD7 : Dd 245 [(.inr (.inr (some 682))), (.inl 1)] σ (.inl (some (.inl 0)), (upS σ 682 0 1)) := by
      refine b245 ?_
      try rw [if_neg (show ¬ ((1 : Int) = 0) by first | omega | (simp [upS]; done) | (simp [upS]; omega))]
      all_goals rfl
    refine ⟨_, _, hD7, ?_⟩
    clear hD7
    rw [if_pos (show (0 : Int) = 0 by first | omega | (simp [upS]; done) | (simp [upS]; omega))]
    all_goals rfl
  exact op_x H (by decide) hA hB
theorem x22_2 {σ : Sg} {c : Int} {a1 : Int} {a2 : Int} (H : Rel c σ) (h0 : 0 ≤ a1 ∧ a1 < σ 0 3) (h1 : a2 < 0) : OpR 411 320 [(.inr (.inr (some 0))), (.inl a1), (.inl a2), (.inr (.inr (some 726)))] [(.inr (.inr (some 682))), (.inl a1), (.inl a2)] σ (c + 1) := by
  obtain ⟨r1, r2, r3, r4, r5⟩ := rel_n H
  have t0 := rel_p H h0
  have hA : Dd 411 [(.inr (.inr (some 0))), (.inl a1), (.inl a2), (.inr (.inr (some 726)))] σ (.inl (some (.inl 1)), σ) := by
    refine b411 ?_
    have hD7 : Dd 194 [(.inr (.inr (some 0))), (.inl a1), (.inl a2)] σ (.inr 0, σ) := by
      refine b194 ?_
      have hD3 : Dd 230 [(.inr (.inr (some 0))), (.inl a1)] σ (.inl (some (.inr (.inr (some (20 + 13 * ((a1)).toNat))))), σ) := by
        refine b230 ?_
        have hD1 : Dd 89 [(.inr (.inr (some 19))), (.inl a1), (.inl (σ 0 3))] σ (.inl (some (.inr (.inr (some (20 + 13 * ((a1)).toNat))))), σ) := by
          refine b89 ?_
          rw [if_pos (show (0 : Int) ≤ a1 by first | omega | (simp [upS]; done) | (simp [upS]; omega))]
          rw [if_pos (show a1 < (σ 0 3) by first | omega | (simp [upS]; done) | (simp [upS]; omega))]
          refine ⟨24, (by decide +kernel), (by decide), ?_⟩
          rw [if_pos (show a1 < ((24 : Nat) : Int) by first | omega | (simp [upS]; done) | (simp [upS]; omega))]
          refine ⟨(show 0 ≤ a1 by first | omega | (simp [upS]; done) | (simp [upS]; omega)), ?_⟩
          refine ⟨(20 + 13 * ((a1)).toNat), (el_19 (i := (a1)) (by first | omega | (simp [upS]; done) | (simp [upS]; omega))).1, (el_19 (i := (a1)) (by first | omega | (simp [upS]; done) | (simp [upS]; omega))).2, ?_⟩
          all_goals rfl
        refine ⟨_, _, hD1, ?_⟩
        clear hD1
        refine ⟨fun hz2 => (by cases hz2), fun _ hz2 => ?_⟩
        cases hz2
        refine ⟨(el_19 (i := (a1)) (by first | omega | (simp [upS]; done) | (simp [upS]; omega))).2, ?_⟩
        all_goals rfl
      refine Or.inl ⟨_, _, hD3, (el_19 (i := (a1)) (by first | omega | (simp [upS]; done) | (simp [upS]; omega))).2, ?_⟩
      clear hD3
      have hD6 : Dd 230 [(.inr (.inr (some 0))), (.inl a2)] σ (.inr 0, σ) := by
        refine b230 ?_
        have hD4 : Dd 89 [(.inr (.inr (some 19))), (.inl a2), (.inl (σ 0 3))] σ (.inl (some (.inr (.inr none))), σ) := by
          refine b89 ?_
          rw [if_neg (show ¬ ((0 : Int) ≤ a2) by first | omega | (simp [upS]; done) | (simp [upS]; omega))]
          all_goals rfl
        refine ⟨_, _, hD4, ?_⟩
        clear hD4
        refine ⟨fun _ => ?_, fun _ hz5 => (by cases hz5)⟩
        all_goals rfl
      refine Or.inr ⟨_, _, hD6, ?_⟩
      all_goals rfl
    exact Or.inr (⟨_, hD7, rfl⟩)
  have hB : Dd 320 [(.inr (.inr (some 682))), (.inl a1), (.inl a2)] σ (.inl (some (.inl 0)), (upS σ 682 0 1)) := by
    refine b320 ?_
    have hD9 : Dd 248 [(.inr (.inr (some 682))), (.inl a1)] σ (.inl (some (.inl 1)), σ) := by
      refine b248 ?_
      have hD8 : Dd 246 [(.inl a1), (.inl (σ 682 3))] σ (.inl (some (.inl 1)), σ) := by
        refine b246 ?_
        try rw [if_pos (show (0 : Int) ≤ a1 by first | omega | (simp [upS]; done) | (simp [upS]; omega))]
        try rw [if_pos (show a1 < (σ 682 3) by first | omega | (simp [upS]; done) | (simp [upS]; omega))]
        all_goals rfl
      refine ⟨_, _, hD8, ?_⟩
      clear hD8
      refine ⟨(show 1 = 0 ∨ 1 = 1 by first | omega | (simp [upS]; done) | (simp [upS]; omega)), ?_⟩
      all_goals rfl
    refine ⟨_, _, hD9, ?_⟩
    clear hD9
    rw [if_neg (show ¬ ((1 : Int) = 0) by first | omega | (simp [upS]; done) | (simp [upS]; omega))]
    have hD11 : Dd 248 [(.inr (.inr (some 682))), (.inl a2)] σ (.inl (some (.inl 0)), σ) := by
      refine b248 ?_
      have hD10 : Dd 246 [(.inl a2), (.inl (σ 682 3))] σ (.inl (some (.inl 0)), σ) := by
        refine b246 ?_
        try rw [if_neg (show ¬ ((0 : Int) ≤ a2) by first | omega | (simp [upS]; done) | (simp [upS]; omega))]
        all_goals rfl
      refine ⟨_, _, hD10, ?_⟩
      clear hD10
      refine ⟨(show 0 = 0 ∨ 0 = 1 by first | omega | (simp [upS]; done) | (simp [upS]; omega)), ?_⟩
      all_goals rfl
    refine ⟨_, _, hD11, ?_⟩
    clear hD11
    rw [if_pos (show (0 : Int) = 0 by first | omega | (simp [upS]; done) | (simp [upS]; omega))]
    refine b320_21 ?_
    refine b320_22 ?_
    have hD12 : Dd 245 [(.inr (.inr (some 682))), (.inl 1)] σ (.inl (some (.inl 0)), (upS σ 682 0 1)) := by
      refine b245 ?_
      try rw [if_neg (show ¬ ((1 : Int) = 0) by first | omega | (simp [upS]; done) | (simp [upS]; omega))]
      all_goals rfl
    refine ⟨_, _, hD12, ?_⟩
    clear hD12
    rw [if_pos (show (0 : Int) = 0 by first | omega | (simp [upS]; done) | (simp [upS]; omega))]
    all_goals rfl
  exact op_x H (by decide) hA hB
theorem x22_3 {σ : Sg} {c : Int} {a1 : Int} {a2 : Int} (H : Rel c σ) (h0 : 0 ≤ a1 ∧ a1 < σ 0 3) (h1 : σ 0 3 ≤ a2) : OpR 411 320 [(.inr (.inr (some 0))), (.inl a1), (.inl a2), (.inr (.inr (some 726)))] [(.inr (.inr (some 682))), (.inl a1), (.inl a2)] σ (c + 1) := by
  obtain ⟨r1, r2, r3, r4, r5⟩ := rel_n H
  have t0 := rel_p H h0
  have hA : Dd 411 [(.inr (.inr (some 0))), (.inl a1), (.inl a2), (.inr (.inr (some 726)))] σ (.inl (some (.inl 1)), σ) := by
    refine b411 ?_
    have hD7 : Dd 194 [(.inr (.inr (some 0))), (.inl a1), (.inl a2)] σ (.inr 0, σ) := by
      refine b194 ?_
      have hD3 : Dd 230 [(.inr (.inr (some 0))), (.inl a1)] σ (.inl (some (.inr (.inr (some (20 + 13 * ((a1)).toNat))))), σ) := by
        refine b230 ?_
        have hD1 : Dd 89 [(.inr (.inr (some 19))), (.inl a1), (.inl (σ 0 3))] σ (.inl (some (.inr (.inr (some (20 + 13 * ((a1)).toNat))))), σ) := by
          refine b89 ?_
          rw [if_pos (show (0 : Int) ≤ a1 by first | omega | (simp [upS]; done) | (simp [upS]; omega))]
          rw [if_pos (show a1 < (σ 0 3) by first | omega | (simp [upS]; done) | (simp [upS]; omega))]
          refine ⟨24, (by decide +kernel), (by decide), ?_⟩
          rw [if_pos (show a1 < ((24 : Nat) : Int) by first | omega | (simp [upS]; done) | (simp [upS]; omega))]
          refine ⟨(show 0 ≤ a1 by first | omega | (simp [upS]; done) | (simp [upS]; omega)), ?_⟩
          refine ⟨(20 + 13 * ((a1)).toNat), (el_19 (i := (a1)) (by first | omega | (simp [upS]; done) | (simp [upS]; omega))).1, (el_19 (i := (a1)) (by first | omega | (simp [upS]; done) | (simp [upS]; omega))).2, ?_⟩
          all_goals rfl
        refine ⟨_, _, hD1, ?_⟩
        clear hD1
        refine ⟨fun hz2 => (by cases hz2), fun _ hz2 => ?_⟩
        cases hz2
        refine ⟨(el_19 (i := (a1)) (by first | omega | (simp [upS]; done) | (simp [upS]; omega))).2, ?_⟩
        all_goals rfl
      refine Or.inl ⟨_, _, hD3, (el_19 (i := (a1)) (by first | omega | (simp [upS]; done) | (simp [upS]; omega))).2, ?_⟩
      clear hD3
      have hD6 : Dd 230 [(.inr (.inr (some 0))), (.inl a2)] σ (.inr 0, σ) := by
        refine b230 ?_
        have hD4 : Dd 89 [(.inr (.inr (some 19))), (.inl a2), (.inl (σ 0 3))] σ (.inl (some (.inr (.inr none))), σ) := by
          refine b89 ?_
          rw [if_pos (show (0 : Int) ≤ a2 by first | omega | (simp [upS]; done) | (simp [upS]; omega))]
          rw [if_neg (show ¬ (a2 < (σ 0 3)) by first | omega | (simp [upS]; done) | (simp [upS]; omega))]
          all_goals rfl
        refine ⟨_, _, hD4, ?_⟩
        clear hD4
        refine ⟨fun _ => ?_, fun _ hz5 => (by cases hz5)⟩
        all_goals rfl
      refine Or.inr ⟨_, _, hD6, ?_⟩
      all_goals rfl
    exact Or.inr (⟨_, hD7, rfl⟩)
  have hB : Dd 320 [(.inr (.inr (some 682))), (.inl a1), (.inl a2)] σ (.inl (some (.inl 0)), (upS σ 682 0 1)) := by
    refine b320 ?_
    have hD9 : Dd 248 [(.inr (.inr (some 682))), (.inl a1)] σ (.inl (some (.inl 1)), σ) := by
      refine b248 ?_
      have hD8 : Dd 246 [(.inl a1), (.inl (σ 682 3))] σ (.inl (some (.inl 1)), σ) := by
        refine b246 ?_
        try rw [if_pos (show (0 : Int) ≤ a1 by first | omega | (simp [upS]; done) | (simp [upS]; omega))]
        try rw [if_pos (show a1 < (σ 682 3) by first | omega | (simp [upS]; done) | (simp [upS]; omega))]
        all_goals rfl
      refine ⟨_, _, hD8, ?_⟩
      clear hD8
      refine ⟨(show 1 = 0 ∨ 1 = 1 by first | omega | (simp [upS]; done) | (simp [upS]; omega)), ?_⟩
      all_goals rfl
    refine ⟨_, _, hD9, ?_⟩
    clear hD9
    rw [if_neg (show ¬ ((1 : Int) = 0) by first | omega | (simp [upS]; done) | (simp [upS]; omega))]
    have hD11 : Dd 248 [(.inr (.inr (some 682))), (.inl a2)] σ (.inl (some (.inl 0)), σ) := by
      refine b248 ?_
      have hD10 : Dd 246 [(.inl a2), (.inl (σ 682 3))] σ (.inl (some (.inl 0)), σ) := by
        refine b246 ?_
        try rw [if_pos (show (0 : Int) ≤ a2 by first | omega | (simp [upS]; done) | (simp [upS]; omega))]
        try rw [if_neg (show ¬ (a2 < (σ 682 3)) by first | omega | (simp [upS]; done) | (simp [upS]; omega))]
        all_goals rfl
      refine ⟨_, _, hD10, ?_⟩
      clear hD10
      refine ⟨(show 0 = 0 ∨ 0 = 1 by first | omega | (simp [upS]; done) | (simp [upS]; omega)), ?_⟩
      all_goals rfl
    refine ⟨_, _, hD11, ?_⟩
    clear hD11
    rw [if_pos (show (0 : Int) = 0 by first | omega | (simp [upS]; done) | (simp [upS]; omega))]
    refine b320_21 ?_
    refine b320_22 ?_
    have hD12 : Dd 245 [(.inr (.inr (some 682))), (.inl 1)] σ (.inl (some (.inl 0)), (upS σ 682 0 1)) := by
      refine b245 ?_
      try rw [if_neg (show ¬ ((1 : Int) = 0) by first | omega | (simp [upS]; done) | (simp [upS]; omega))]
      all_goals rfl
    refine ⟨_, _, hD12, ?_⟩
    clear hD12
    rw [if_pos (show (0 : Int) = 0 by first | omega | (simp [upS]; done) | (simp [upS]; omega))]
    all_goals rfl
  exact op_x H (by decide) hA hB
theorem x23_0 {σ : Sg} {c : Int} {a1 : Int} {a2 : Int} {a3 : Int} (H : Rel c σ) (h0 : a1 < 0) : OpR 412 326 [(.inr (.inr (some 0))), (.inl a1), (.inl a2), (.inl a3), (.inr (.inr (some 726)))] [(.inr (.inr (some 682))), (.inl a1), (.inl a2), (.inl a3)] σ (c + 1) := by
  obtain ⟨r1, r2, r3, r4, r5⟩ := rel_n H
  have hA : Dd 412 [(.inr (.inr (some 0))), (.inl a1), (.inl a2), (.inl a3), (.inr (.inr (some 726)))] σ (.inl (some (.inl 1)), σ) := by
    refine b412 ?_
    have hD4 : Dd 195 [(.inr (.inr (some 0))), (.inl a1), (.inl a2), (.inl a3)] σ (.inr 0, σ) := by
      refine b195 ?_
      have hD3 : Dd 230 [(.inr (.inr (some 0))), (.inl a1)] σ (.inr 0, σ) := by
        refine b230 ?_
        have hD1 : Dd 89 [(.inr (.inr (some 19))), (.inl a1), (.inl (σ 0 3))] σ (.inl (some (.inr (.inr none))), σ) := by
          refine b89 ?_
          rw [if_neg (show ¬ ((0 : Int) ≤ a1) by first | omega | (simp [upS]; done) | (simp [upS]; omega))]
          all_goals rfl
        refine ⟨_, _, hD1, ?_⟩
        clear hD1
        refine ⟨fun _ => ?_, fun _ hz2 => (by cases hz2)⟩
        all_goals rfl
      refine Or.inr ⟨_, _, hD3, ?_⟩
      all_goals rfl
    exact Or.inr (Or.inl ⟨_, hD4, rfl⟩)
  have hB : Dd 326 [(.inr (.inr (some 682))), (.inl a1), (.inl a2), (.inl a3)] σ (.inl (some (.inl 0)), (upS σ 682 0 1)) := by
    refine b326 ?_
    have hD6 : Dd 248 [(.inr (.inr (some 682))), (.inl a1)] σ (.inl (some (.inl 0)), σ) := by
      refine b248 ?_
      have hD5 : Dd 246 [(.inl a1), (.inl (σ 682 3))] σ (.inl (some (.inl 0)), σ) := by
        refine b246 ?_
        try rw [if_neg (show ¬ ((0 : Int) ≤ a1) by first | omega | (simp [upS]; done) | (simp [upS]; omega))]
        all_goals rfl
      refine ⟨_, _, hD5, ?_⟩
      clear hD5
      refine ⟨(show 0 = 0 ∨ 0 = 1 by first | omega | (simp [upS]; done) | (simp [upS]; omega)), ?_⟩
      all_goals rfl
    refine ⟨_, _, hD6, ?_⟩
    clear hD6
    rw [if_pos (show (0 : Int) = 0 by first | omega | (simp [upS]; done) | (simp [upS]; omega))]
    refine b326_19 ?_
    refine b326_20 ?_
    rw [if_pos (show (0 : Int) = 0 by first | omega | (simp [upS]; done) | (simp [upS]; omega))]
    refine b326_39 ?_
    refine b326_40 ?_
    rw [if_pos (show (0 : Int) = 0 by first | omega | (simp [upS]; done) | (simp [upS]; omega))]
    refine b326_58 ?_
    try rw [if_pos (show (0 : Int) = 0 by first | omega | (simp [upS]; done) | (simp [upS]; omega))]
    refine b326_93 ?_
    have hD7 : Dd 245 [(.inr (.inr (some 682))), (.inl 1)] σ (.inl (some (.inl 0)), (upS σ 682 0 1)) := by
      refine b245 ?_
      try rw [if_neg (show ¬ ((1 : Int) = 0) by first | omega | (simp [upS]; done) | (simp [upS]; omega))]
      all_goals rfl
    refine ⟨_, _, hD7, ?_⟩
    clear hD7
    rw [if_pos (show (0 : Int) = 0 by first | omega | (simp [upS]; done) | (simp [upS]; omega))]
    all_goals rfl
  exact op_x H (by decide) hA hB
theorem x23_1 {σ : Sg} {c : Int} {a1 : Int} {a2 : Int} {a3 : Int} (H : Rel c σ) (h0 : σ 0 3 ≤ a1) : OpR 412 326 [(.inr (.inr (some 0))), (.inl a1), (.inl a2), (.inl a3), (.inr (.inr (some 726)))] [(.inr (.inr (some 682))), (.inl a1), (.inl a2), (.inl a3)] σ (c + 1) := by
  obtain ⟨r1, r2, r3, r4, r5⟩ := rel_n H
  have hA : Dd 412 [(.inr (.inr (some 0))), (.inl a1), (.inl a2), (.inl a3), (.inr (.inr (some 726)))] σ (.inl (some (.inl 1)), σ) := by
    refine b412 ?_
    have hD4 : Dd 195 [(.inr (.inr (some 0))), (.inl a1), (.inl a2), (.inl a3)] σ (.inr 0, σ) := by
      refine b195 ?_
      have hD3 : Dd 230 [(.inr (.inr (some 0))), (.inl a1)] σ (.inr 0, σ) := by
        refine b230 ?_
        have hD1 : Dd 89 [(.inr (.inr (some 19))), (.inl a1), (.inl (σ 0 3))] σ (.inl (some (.inr (.inr none))), σ) := by
          refine b89 ?_
          rw [if_pos (show (0 : Int) ≤ a1 by first | omega | (simp [upS]; done) | (simp [upS]; omega))]
          rw [if_neg (show ¬ (a1 < (σ 0 3)) by first | omega | (simp [upS]; done) | (simp [upS]; omega))]
          all_goals rfl
        refine ⟨_, _, hD1, ?_⟩
        clear hD1
        refine ⟨fun _ => ?_, fun _ hz2 => (by cases hz2)⟩
        all_goals rfl
      refine Or.inr ⟨_, _, hD3, ?_⟩
      all_goals rfl
    exact Or.inr (Or.inl ⟨_, hD4, rfl⟩)
  have hB : Dd 326 [(.inr (.inr (some 682))), (.inl a1), (.inl a2), (.inl a3)] σ (.inl (some (.inl 0)), (upS σ 682 0 1)) := by
    refine b326 ?_
    have hD6 : Dd 248 [(.inr (.inr (some 682))), (.inl a1)] σ (.inl (some (.inl 0)), σ) := by
      refine b248 ?_
      have hD5 : Dd 246 [(.inl a1), (.inl (σ 682 3))] σ (.inl (some (.inl 0)), σ) := by
        refine b246 ?_
        try rw [if_pos (show (0 : Int) ≤ a1 by first | omega | (simp [upS]; done) | (simp [upS]; omega))]
        try rw [if_neg (show ¬ (a1 < (σ 682 3)) by first | omega | (simp [upS]; done) | (simp [upS]; omega))]
        all_goals rfl
      refine ⟨_, _, hD5, ?_⟩
      clear hD5
      refine ⟨(show 0 = 0 ∨ 0 = 1 by first | omega | (simp [upS]; done) | (simp [upS]; omega)), ?_⟩
      all_goals rfl
    refine ⟨_, _, hD6, ?_⟩
    clear hD6
    rw [if_pos (show (0 : Int) = 0 by first | omega | (simp [upS]; done) | (simp [upS]; omega))]
    refine b326_19 ?_
    refine b326_20 ?_
    rw [if_pos (show (0 : Int) = 0 by first | omega | (simp [upS]; done) | (simp [upS]; omega))]
    refine b326_39 ?_
    refine b326_40 ?_
    rw [if_pos (show (0 : Int) = 0 by first | omega | (simp [upS]; done) | (simp [upS]; omega))]
    refine b326_58 ?_
    try rw [if_pos (show (0 : Int) = 0 by first | omega | (simp [upS]; done) | (simp [upS]; omega))]
    refine b326_93 ?_
    have hD7 : Dd 245 [(.inr (.inr (some 682))), (.inl 1)] σ (.inl (some (.inl 0)), (upS σ 682 0 1)) := by
      refine b245 ?_
      try rw [if_neg (show ¬ ((1 : Int) = 0) by first | omega | (simp [upS]; done) | (simp [upS]; omega))]
      all_goals rfl
    refine ⟨_, _, hD7, ?_⟩
    clear hD7
    rw [if_pos (show (0 : Int) = 0 by first | omega | (simp [upS]; done) | (simp [upS]; omega))]
    all_goals rfl
  exact op_x H (by decide) hA hB
theorem x23_2 {σ : Sg} {c : Int} {a1 : Int} {a2 : Int} {a3 : Int} (H : Rel c σ) (h0 : 0 ≤ a1 ∧ a1 < σ 0 3) (h1 : a2 < 0) : OpR 412 326 [(.inr (.inr (some 0))), (.inl a1), (.inl a2), (.inl a3), (.inr (.inr (some 726)))] [(.inr (.inr (some 682))), (.inl a1), (.inl a2), (.inl a3)] σ (c + 1) := by
  obtain ⟨r1, r2, r3, r4, r5⟩ := rel_n H
  have t0 := rel_p H h0
  have hA : Dd 412 [(.inr (.inr (some 0))), (.inl a1), (.inl a2), (.inl a3), (.inr (.inr (some 726)))] σ (.inl (some (.inl 1)), σ) := by
    refine b412 ?_
    have hD7 : Dd 195 [(.inr (.inr (some 0))), (.inl a1), (.inl a2), (.inl a3)] σ (.inr 0, σ) := by
      refine b195 ?_
      have hD3 : Dd 230 [(.inr (.inr (some 0))), (.inl a1)] σ (.inl (some (.inr (.inr (some (20 + 13 * ((a1)).toNat))))), σ) := by
        refine b230 ?_
        have hD1 : Dd 89 [(.inr (.inr (some 19))), (.inl a1), (.inl (σ 0 3))] σ (.inl (some (.inr (.inr (some (20 + 13 * ((a1)).toNat))))), σ) := by
          refine b89 ?_
          rw [if_pos (show (0 : Int) ≤ a1 by first | omega | (simp [upS]; done) | (simp [upS]; omega))]
          rw [if_pos (show a1 < (σ 0 3) by first | omega | (simp [upS]; done) | (simp [upS]; omega))]
          refine ⟨24, (by decide +kernel), (by decide), ?_⟩
          rw [if_pos (show a1 < ((24 : Nat) : Int) by first | omega | (simp [upS]; done) | (simp [upS]; omega))]
          refine ⟨(show 0 ≤ a1 by first | omega | (simp [upS]; done) | (simp [upS]; omega)), ?_⟩
          refine ⟨(20 + 13 * ((a1)).toNat), (el_19 (i := (a1)) (by first | omega | (simp [upS]; done) | (simp [upS]; omega))).1, (el_19 (i := (a1)) (by first | omega | (simp [upS]; done) | (simp [upS]; omega))).2, ?_⟩
          all_goals rfl
        refine ⟨_, _, hD1, ?_⟩
        clear hD1
        refine ⟨fun hz2 => (by cases hz2), fun _ hz2 => ?_⟩
        cases hz2
        refine ⟨(el_19 (i := (a1)) (by first | omega | (simp [upS]; done) | (simp [upS]; omega))).2, ?_⟩
        all_goals rfl
      refine Or.inl ⟨_, _, hD3, (el_19 (i := (a1)) (by first | omega | (simp [upS]; done) | (simp [upS]; omega))).2, ?_⟩
      clear hD3
      have hD6 : Dd 227 [(.inr (.inr (some 0))), (.inl a2)] σ (.inr 0, σ) := by
        refine b227 ?_
        have hD4 : Dd 145 [(.inr (.inr (some 1))), (.inl a2)] σ (.inl (some (.inr (.inr none))), σ) := by
          refine b145 ?_
          rw [if_neg (show ¬ ((0 : Int) ≤ a2) by first | omega | (simp [upS]; done) | (simp [upS]; omega))]
          all_goals rfl
        refine ⟨_, _, hD4, ?_⟩
        clear hD4
        refine ⟨fun _ => ?_, fun _ hz5 => (by cases hz5)⟩
        all_goals rfl
      refine Or.inr ⟨_, _, hD6, ?_⟩
      all_goals rfl
    exact Or.inr (Or.inl ⟨_, hD7, rfl⟩)
  have hB : Dd 326 [(.inr (.inr (some 682))), (.inl a1), (.inl a2), (.inl a3)] σ (.inl (some (.inl 0)), (upS σ 682 0 1)) := by
    refine b326 ?_
    have hD9 : Dd 248 [(.inr (.inr (some 682))), (.inl a1)] σ (.inl (some (.inl 1)), σ) := by
      refine b248 ?_
      have hD8 : Dd 246 [(.inl a1), (.inl (σ 682 3))] σ (.inl (some (.inl 1)), σ) := by
        refine b246 ?_
        try rw [if_pos (show (0 : Int) ≤ a1 by first | omega | (simp [upS]; done) | (simp [upS]; omega))]
        try rw [if_pos (show a1 < (σ 682 3) by first | omega | (simp [upS]; done) | (simp [upS]; omega))]
        all_goals rfl
      refine ⟨_, _, hD8, ?_⟩
      clear hD8
      refine ⟨(show 1 = 0 ∨ 1 = 1 by first | omega | (simp [upS]; done) | (simp [upS]; omega)), ?_⟩
      all_goals rfl
    refine ⟨_, _, hD9, ?_⟩
    clear hD9
    rw [if_neg (show ¬ ((1 : Int) = 0) by first | omega | (simp [upS]; done) | (simp [upS]; omega))]
    have hD11 : Dd 247 [(.inl a2)] σ (.inl (some (.inl 0)), σ) := by
      refine b247 ?_
      have hD10 : Dd 246 [(.inl a2), (.inl 4)] σ (.inl (some (.inl 0)), σ) := by
        refine b246 ?_
        try rw [if_neg (show ¬ ((0 : Int) ≤ a2) by first | omega | (simp [upS]; done) | (simp [upS]; omega))]
        all_goals rfl
      refine ⟨_, _, hD10, ?_⟩
      clear hD10
      refine ⟨(show 0 = 0 ∨ 0 = 1 by first | omega | (simp [upS]; done) | (simp [upS]; omega)), ?_⟩
      all_goals rfl
    refine ⟨_, _, hD11, ?_⟩
    clear hD11
    rw [if_pos (show (0 : Int) = 0 by first | omega | (simp [upS]; done) | (simp [upS]; omega))]
    refine b326_19 ?_
    refine b326_20 ?_
    rw [if_pos (show (0 : Int) = 0 by first | omega | (simp [upS]; done) | (simp [upS]; omega))]
    refine b326_39 ?_
    refine b326_40 ?_
    rw [if_pos (show (0 : Int) = 0 by first | omega | (simp [upS]; done) | (simp [upS]; omega))]
    refine b326_58 ?_
    try rw [if_pos (show (0 : Int) = 0 by first | omega | (simp [upS]; done) | (simp [upS]; omega))]
    refine b326_93 ?_
    have hD12 : Dd 245 [(.inr (.inr (some 682))), (.inl 1)] σ (.inl (some (.inl 0)), (upS σ 682 0 1)) := by
      refine b245 ?_
      try rw [if_neg (show ¬ ((1 : Int) = 0) by first | omega | (simp [upS]; done) | (simp [upS]; omega))]
      all_goals rfl
    refine ⟨_, _, hD12, ?_⟩
    clear hD12
    rw [if_pos (show (0 : Int) = 0 by first | omega | (simp [upS]; done) | (simp [upS]; omega))]
    all_goals rfl
  exact op_x H (by decide) hA hB
theorem x23_3 {σ : Sg} {c : Int} {a1 : Int} {a2 : Int} {a3 : Int} (H : Rel c σ) (h0 : 0 ≤ a1 ∧ a1 < σ 0 3) (h1 : 4 ≤ a2) : OpR 412 326 [(.inr (.inr (some 0))), (.inl a1), (.inl a2), (.inl a3), (.inr (.inr (some 726)))] [(.inr (.inr (some 682))), (.inl a1), (.inl a2), (.inl a3)] σ (c + 1) := by
  obtain ⟨r1, r2, r3, r4, r5⟩ := rel_n H
  have t0 := rel_p H h0
  have hA : Dd 412 [(.inr (.inr (some 0))), (.inl a1), (.inl a2), (.inl a3), (.inr (.inr (some 726)))] σ (.inl (some (.inl 1)), σ) := by
    refine b412 ?_
    have hD7 : Dd 195 [(.inr (.inr (some 0))), (.inl a1), (.inl a2), (.inl a3)] σ (.inr 0, σ) := by
      refine b195 ?_
      have hD3 : Dd 230 [(.inr (.inr (some 0))), (.inl a1)] σ (.inl (some (.inr (.inr (some (20 + 13 * ((a1)).toNat))))), σ) := by
        refine b230 ?_
        have hD1 : Dd 89 [(.inr (.inr (some 19))), (.inl a1), (.inl (σ 0 3))] σ (.inl (some (.inr (.inr (some (20 + 13 * ((a1)).toNat))))), σ) := by
          refine b89 ?_
          rw [if_pos (show (0 : Int) ≤ a1 by first | omega | (simp [upS]; done) | (simp [upS]; omega))]
          rw [if_pos (show a1 < (σ 0 3) by first | omega | (simp [upS]; done) | (simp [upS]; omega))]
          refine ⟨24, (by decide +kernel), (by decide), ?_⟩
          rw [if_pos (show a1 < ((24 : Nat) : Int) by first | omega | (simp [upS]; done) | (simp [upS]; omega))]
          refine ⟨(show 0 ≤ a1 by first | omega | (simp [upS]; done) | (simp [upS]; omega)), ?_⟩
          refine ⟨(20 + 13 * ((a1)).toNat), (el_19 (i := (a1)) (by first | omega | (simp [upS]; done) | (simp [upS]; omega))).1, (el_19 (i := (a1)) (by first | omega | (simp [upS]; done) | (simp [upS]; omega))).2, ?_⟩
          all_goals rfl
        refine ⟨_, _, hD1, ?_⟩
        clear hD1
        refine ⟨fun hz2 => (by cases hz2), fun _ hz2 => ?_⟩
        cases hz2
        refine ⟨(el_19 (i := (a1)) (by first | omega | (simp [upS]; done) | (simp [upS]; omega))).2, ?_⟩
        all_goals rfl
      refine Or.inl ⟨_, _, hD3, (el_19 (i := (a1)) (by first | omega | (simp [upS]; done) | (simp [upS]; omega))).2, ?_⟩
      clear hD3
      have hD6 : Dd 227 [(.inr (.inr (some 0))), (.inl a2)] σ (.inr 0, σ) := by
        refine b227 ?_
        have hD4 : Dd 145 [(.inr (.inr (some 1))), (.inl a2)] σ (.inl (some (.inr (.inr none))), σ) := by
          refine b145 ?_
          rw [if_pos (show (0 : Int) ≤ a2 by first | omega | (simp [upS]; done) | (simp [upS]; omega))]
          refine ⟨4, (by decide +kernel), (by decide), ?_⟩
          rw [if_neg (show ¬ (a2 < ((4 : Nat) : Int)) by first | omega | (simp [upS]; done) | (simp [upS]; omega))]
          all_goals rfl
        refine ⟨_, _, hD4, ?_⟩
        clear hD4
        refine ⟨fun _ => ?_, fun _ hz5 => (by cases hz5)⟩
        all_goals rfl
      refine Or.inr ⟨_, _, hD6, ?_⟩
      all_goals rfl
    exact Or.inr (Or.inl ⟨_, hD7, rfl⟩)
  have hB : Dd 326 [(.inr (.inr (some 682))), (.inl a1), (.inl a2), (.inl a3)] σ (.inl (some (.inl 0)), (upS σ 682 0 1)) := by
    refine b326 ?_
    have hD9 : Dd 248 [(.inr (.inr (some 682))), (.inl a1)] σ (.inl (some (.inl 1)), σ) := by
      refine b248 ?_
      have hD8 : Dd 246 [(.inl a1), (.inl (σ 682 3))] σ (.inl (some (.inl 1)), σ) := by
        refine b246 ?_
        try rw [if_pos (show (0 : Int) ≤ a1 by first | omega | (simp [upS]; done) | (simp [upS]; omega))]
        try rw [if_pos (show a1 < (σ 682 3) by first | omega | (simp [upS]; done) | (simp [upS]; omega))]
        all_goals rfl
      refine ⟨_, _, hD8, ?_⟩
      clear hD8
      refine ⟨(show 1 = 0 ∨ 1 = 1 by first | omega | (simp [upS]; done) | (simp [upS]; omega)), ?_⟩
      all_goals rfl
    refine ⟨_, _, hD9, ?_⟩
    clear hD9
    rw [if_neg (show ¬ ((1 : Int) = 0) by first | omega | (simp [upS]; done) | (simp [upS]; omega))]
    have hD11 : Dd 247 [(.inl a2)] σ (.inl (some (.inl 0)), σ) := by
      refine b247 ?_
      have hD10 : Dd 246 [(.inl a2), (.inl 4)] σ (.inl (some (.inl 0)), σ) := by
        refine b246 ?_
        try rw [if_pos (show (0 : Int) ≤ a2 by first | omega | (simp [upS]; done) | (simp [upS]; omega))]
        try rw [if_neg (show ¬ (a2 < 4) by first | omega | (simp [upS]; done) | (simp [upS]; omega))]
        all_goals rfl
      refine ⟨_, _, hD10, ?_⟩
      clear hD10
      refine ⟨(show 0 = 0 ∨ 0 = 1 by first | omega | (simp [upS]; done) | (simp [upS]; omega)), ?_⟩
      all_goals rfl
    refine ⟨_, _, hD11, ?_⟩
    clear hD11
    rw [if_pos (show (0 : Int) = 0 by first | omega | (simp [upS]; done) | (simp [upS]; omega))]
    refine b326_19 ?_
    refine b326_20 ?_
    rw [if_pos (show (0 : Int) = 0 by first | omega | (simp [upS]; done) | (simp [upS]; omega))]
    refine b326_39 ?_
    refine b326_40 ?_
    rw [if_pos (show (0 : Int) = 0 by first | omega | (simp [upS]; done) | (simp [upS]; omega))]
    refine b326_58 ?_
    try rw [if_pos (show (0 : Int) = 0 by first | omega | (simp [upS]; done) | (simp [upS]; omega))]
    refine b326_93 ?_
    have hD12 : Dd 245 [(.inr (.inr (some 682))), (.inl 1)] σ (.inl (some (.inl 0)), (upS σ 682 0 1)) := by
      refine b245 ?_
      try rw [if_neg (show ¬ ((1 : Int) = 0) by first | omega | (simp [upS]; done) | (simp [upS]; omega))]
      all_goals rfl
    refine ⟨_, _, hD12, ?_⟩
    clear hD12
    rw [if_pos (show (0 : Int) = 0 by first | omega | (simp [upS]; done) | (simp [upS]; omega))]
    all_goals rfl
  exact op_x H (by decide) hA hB
theorem x23_4 {σ : Sg} {c : Int} {a1 : Int} {a2 : Int} {a3 : Int} (H : Rel c σ) (h0 : 0 ≤ a1 ∧ a1 < σ 0 3) (h1 : 0 ≤ a2 ∧ a2 < 4) (h2 : a3 < 0) : OpR 412 326 [(.inr (.inr (some 0))), (.inl a1), (.inl a2), (.inl a3), (.inr (.inr (some 726)))] [(.inr (.inr (some 682))), (.inl a1), (.inl a2), (.inl a3)] σ (c + 1) := by
  obtain ⟨r1, r2, r3, r4, r5⟩ := rel_n H
  have t0 := rel_p H h0
  have t1 := rel_t H h1
  have hA : Dd 412 [(.inr (.inr (some 0))), (.inl a1), (.inl a2), (.inl a3), (.inr (.inr (some 726)))] σ (.inl (some (.inl 2)), σ) := by
    refine b412 ?_
    have hD8 : Dd 195 [(.inr (.inr (some 0))), (.inl a1), (.inl a2), (.inl a3)] σ (.inr 1, σ) := by
      refine b195 ?_
      have hD3 : Dd 230 [(.inr (.inr (some 0))), (.inl a1)] σ (.inl (some (.inr (.inr (some (20 + 13 * ((a1)).toNat))))), σ) := by
        refine b230 ?_
        have hD1 : Dd 89 [(.inr (.inr (some 19))), (.inl a1), (.inl (σ 0 3))] σ (.inl (some (.inr (.inr (some (20 + 13 * ((a1)).toNat))))), σ) := by
          refine b89 ?_
          rw [if_pos (show (0 : Int) ≤ a1 by first | omega | (simp [upS]; done) | (simp [upS]; omega))]
          rw [if_pos (show a1 < (σ 0 3) by first | omega | (simp [upS]; done) | (simp [upS]; omega))]
          refine ⟨24, (by decide +kernel), (by decide), ?_⟩
          rw [if_pos (show a1 < ((24 : Nat) : Int) by first | omega | (simp [upS]; done) | (simp [upS]; omega))]
          refine ⟨(show 0 ≤ a1 by first | omega | (simp [upS]; done) | (simp [upS]; omega)), ?_⟩
          refine ⟨(20 + 13 * ((a1)).toNat), (el_19 (i := (a1)) (by first | omega | (simp [upS]; done) | (simp [upS]; omega))).1, (el_19 (i := (a1)) (by first | omega | (simp [upS]; done) | (simp [upS]; omega))).2, ?_⟩
          all_goals rfl
        refine ⟨_, _, hD1, ?_⟩
        clear hD1
        refine ⟨fun hz2 => (by cases hz2), fun _ hz2 => ?_⟩
        cases hz2
        refine ⟨(el_19 (i := (a1)) (by first | omega | (simp [upS]; done) | (simp [upS]; omega))).2, ?_⟩
        all_goals rfl
      refine Or.inl ⟨_, _, hD3, (el_19 (i := (a1)) (by first | omega | (simp [upS]; done) | (simp [upS]; omega))).2, ?_⟩
      clear hD3
      have hD6 : Dd 227 [(.inr (.inr (some 0))), (.inl a2)] σ (.inl (some (.inr (.inr (some (2 + 2 * ((a2)).toNat))))), σ) := by
        refine b227 ?_
        have hD4 : Dd 145 [(.inr (.inr (some 1))), (.inl a2)] σ (.inl (some (.inr (.inr (some (2 + 2 * ((a2)).toNat))))), σ) := by
          refine b145 ?_
          rw [if_pos (show (0 : Int) ≤ a2 by first | omega | (simp [upS]; done) | (simp [upS]; omega))]
          refine ⟨4, (by decide +kernel), (by decide), ?_⟩
          rw [if_pos (show a2 < ((4 : Nat) : Int) by first | omega | (simp [upS]; done) | (simp [upS]; omega))]
          refine ⟨(show 0 ≤ a2 by first | omega | (simp [upS]; done) | (simp [upS]; omega)), ?_⟩
          refine ⟨(2 + 2 * ((a2)).toNat), (el_1 (i := (a2)) (by first | omega | (simp [upS]; done) | (simp [upS]; omega))).1, (el_1 (i := (a2)) (by first | omega | (simp [upS]; done) | (simp [upS]; omega))).2, ?_⟩
          all_goals rfl
        refine ⟨_, _, hD4, ?_⟩
        clear hD4
        refine ⟨fun hz5 => (by cases hz5), fun _ hz5 => ?_⟩
        cases hz5
        refine ⟨(el_1 (i := (a2)) (by first | omega | (simp [upS]; done) | (simp [upS]; omega))).2, ?_⟩
        all_goals rfl
      refine Or.inl ⟨_, _, hD6, (el_1 (i := (a2)) (by first | omega | (simp [upS]; done) | (simp [upS]; omega))).2, ?_⟩
      clear hD6
      have hD7 : Dd 234 [(.inr (.inr (some 0))), (.inl a3), (.inl 0), (.inl 3)] σ (.inr 1, σ) := by
        refine b234 ?_
        rw [if_neg (show ¬ ((0 : Int) ≤ a3) by first | omega | (simp [upS]; done) | (simp [upS]; omega))]
        refine b234_10 ?_
        all_goals rfl
      refine Or.inr ⟨_, _, hD7, ?_⟩
      all_goals rfl
    exact Or.inr (Or.inr (Or.inl ⟨_, hD8, rfl⟩))
  have hB : Dd 326 [(.inr (.inr (some 682))), (.inl a1), (.inl a2), (.inl a3)] σ (.inl (some (.inl 0)), (upS σ 682 0 2)) := by
    refine b326 ?_
    have hD10 : Dd 248 [(.inr (.inr (some 682))), (.inl a1)] σ (.inl (some (.inl 1)), σ) := by
      refine b248 ?_
      have hD9 : Dd 246 [(.inl a1), (.inl (σ 682 3))] σ (.inl (some (.inl 1)), σ) := by
        refine b246 ?_
        try rw [if_pos (show (0 : Int) ≤ a1 by first | omega | (simp [upS]; done) | (simp [upS]; omega))]
        try rw [if_pos (show a1 < (σ 682 3) by first | omega | (simp [upS]; done) | (simp [upS]; omega))]
        all_goals rfl
      refine ⟨_, _, hD9, ?_⟩
      clear hD9
      refine ⟨(show 1 = 0 ∨ 1 = 1 by first | omega | (simp [upS]; done) | (simp [upS]; omega)), ?_⟩
      all_goals rfl
    refine ⟨_, _, hD10, ?_⟩
    clear hD10
    rw [if_neg (show ¬ ((1 : Int) = 0) by first | omega | (simp [upS]; done) | (simp [upS]; omega))]
    have hD12 : Dd 247 [(.inl a2)] σ (.inl (some (.inl 1)), σ) := by
      refine b247 ?_
      have hD11 : Dd 246 [(.inl a2), (.inl 4)] σ (.inl (some (.inl 1)), σ) := by
        refine b246 ?_
        try rw [if_pos (show (0 : Int) ≤ a2 by first | omega | (simp [upS]; done) | (simp [upS]; omega))]
        try rw [if_pos (show a2 < 4 by first | omega | (simp [upS]; done) | (simp [upS]; omega))]
        all_goals rfl
      refine ⟨_, _, hD11, ?_⟩
      clear hD11
      refine ⟨(show 1 = 0 ∨ 1 = 1 by first | omega | (simp [upS]; done) | (simp [upS]; omega)), ?_⟩
      all_goals rfl
    refine ⟨_, _, hD12, ?_⟩
    clear hD12
    rw [if_neg (show ¬ ((1 : Int) = 0) by first | omega | (simp [upS]; done) | (simp [upS]; omega))]
    refine b326_20 ?_
    rw [if_neg (show ¬ ((1 : Int) = 0) by first | omega | (simp [upS]; done) | (simp [upS]; omega))]
    have hD13 : Dd 246 [(.inl a3), (.inl 4)] σ (.inl (some (.inl 0)), σ) := by
      refine b246 ?_
      try rw [if_neg (show ¬ ((0 : Int) ≤ a3) by first | omega | (simp [upS]; done) | (simp [upS]; omega))]
      all_goals rfl
    refine ⟨_, _, hD13, ?_⟩
    clear hD13
    rw [if_pos (show (0 : Int) = 0 by first | omega | (simp [upS]; done) | (simp [upS]; omega))]
    refine b326_39 ?_
    refine b326_40 ?_
    rw [if_pos (show (0 : Int) = 0 by first | omega | (simp [upS]; done) | (simp [upS]; omega))]
    refine b326_58 ?_
    try rw [if_neg (show ¬ ((1 : Int) = 0) by first | omega | (simp [upS]; done) | (simp [upS]; omega))]
    try rw [if_pos (show (0 : Int) = 0 by first | omega | (simp [upS]; done) | (simp [upS]; omega))]
    refine b326_93 ?_
    have hD14 : Dd 245 [(.inr (.inr (some 682))), (.inl 2)] σ (.inl (some (.inl 0)), (upS σ 682 0 2)) := by
      refine b245 ?_
      try rw [if_neg (show ¬ ((2 : Int) = 0) by first | omega | (simp [upS]; done) | (simp [upS]; omega))]
      all_goals rfl
    refine ⟨_, _, hD14, ?_⟩
    clear hD14
    rw [if_pos (show (0 : Int) = 0 by first | omega | (simp [upS]; done) | (simp [upS]; omega))]
    all_goals rfl
  exact op_x H (by decide) hA hB
theorem x23_5 {σ : Sg} {c : Int} {a1 : Int} {a2 : Int} {a3 : Int} (H : Rel c σ) (h0 : 0 ≤ a1 ∧ a1 < σ 0 3) (h1 : 0 ≤ a2 ∧ a2 < 4) (h2 : 3 < a3) : OpR 412 326 [(.inr (.inr (some 0))), (.inl a1), (.inl a2), (.inl a3), (.inr (.inr (some 726)))] [(.inr (.inr (some 682))), (.inl a1), (.inl a2), (.inl a3)] σ (c + 1) := by
  obtain ⟨r1, r2, r3, r4, r5⟩ := rel_n H
  have t0 := rel_p H h0
  have t1 := rel_t H h1
  have hA : Dd 412 [(.inr (.inr (some 0))), (.inl a1), (.inl a2), (.inl a3), (.inr (.inr (some 726)))] σ (.inl (some (.inl 2)), σ) := by
    refine b412 ?_
    have hD8 : Dd 195 [(.inr (.inr (some 0))), (.inl a1), (.inl a2), (.inl a3)] σ (.inr 1, σ) := by
      refine b195 ?_
      have hD3 : Dd 230 [(.inr (.inr (some 0))), (.inl a1)] σ (.inl (some (.inr (.inr (some (20 + 13 * ((a1)).toNat))))), σ) := by
        refine b230 ?_
        have hD1 : Dd 89 [(.inr (.inr (some 19))), (.inl a1), (.inl (σ 0 3))] σ (.inl (some (.inr (.inr (some (20 + 13 * ((a1)).toNat))))), σ) := by
          refine b89 ?_
          rw [if_pos (show (0 : Int) ≤ a1 by first | omega | (simp [upS]; done) | (simp [upS]; omega))]
          rw [if_pos (show a1 < (σ 0 3) by first | omega | (simp [upS]; done) | (simp [upS]; omega))]
          refine ⟨24, (by decide +kernel), (by decide), ?_⟩
          rw [if_pos (show a1 < ((24 : Nat) : Int) by first | omega | (simp [upS]; done) | (simp [upS]; omega))]
          refine ⟨(show 0 ≤ a1 by first | omega | (simp [upS]; done) | (simp [upS]; omega)), ?_⟩
          refine ⟨(20 + 13 * ((a1)).toNat), (el_19 (i := (a1)) (by first | omega | (simp [upS]; done) | (simp [upS]; omega))).1, (el_19 (i := (a1)) (by first | omega | (simp [upS]; done) | (simp [upS]; omega))).2, ?_⟩
          all_goals rfl
        refine ⟨_, _, hD1, ?_⟩
        clear hD1
        refine ⟨fun hz2 => (by cases hz2), fun _ hz2 => ?_⟩
        cases hz2
        refine ⟨(el_19 (i := (a1)) (by first | omega | (simp [upS]; done) | (simp [upS]; omega))).2, ?_⟩
        all_goals rfl
      refine Or.inl ⟨_, _, hD3, (el_19 (i := (a1)) (by first | omega | (simp [upS]; done) | (simp [upS]; omega))).2, ?_⟩
      clear hD3
      have hD6 : Dd 227 [(.inr (.inr (some 0))), (.inl a2)] σ (.inl (some (.inr (.inr (some (2 + 2 * ((a2)).toNat))))), σ) := by
        refine b227 ?_
        have hD4 : Dd 145 [(.inr (.inr (some 1))), (.inl a2)] σ (.inl (some (.inr (.inr (some (2 + 2 * ((a2)).toNat))))), σ) := by
          refine b145 ?_
          rw [if_pos (show (0 : Int) ≤ a2 by first | omega | (simp [upS]; done) | (simp [upS]; omega))]
          refine ⟨4, (by decide +kernel), (by decide), ?_⟩
          rw [if_pos (show a2 < ((4 : Nat) : Int) by first | omega | (simp [upS]; done) | (simp [upS]; omega))]
          refine ⟨(show 0 ≤ a2 by first | omega | (simp [upS]; done) | (simp [upS]; omega)), ?_⟩
          refine ⟨(2 + 2 * ((a2)).toNat), (el_1 (i := (a2)) (by first | omega | (simp [upS]; done) | (simp [upS]; omega))).1, (el_1 (i := (a2)) (by first | omega | (simp [upS]; done) | (simp [upS]; omega))).2, ?_⟩
          all_goals rfl
        refine ⟨_, _, hD4, ?_⟩
        clear hD4
        refine ⟨fun hz5 => (by cases hz5), fun _ hz5 => ?_⟩
        cases hz5
        refine ⟨(el_1 (i := (a2)) (by first | omega | (simp [upS]; done) | (simp [upS]; omega))).2, ?_⟩
        all_goals rfl
      refine Or.inl ⟨_, _, hD6, (el_1 (i := (a2)) (by first | omega | (simp [upS]; done) | (simp [upS]; omega))).2, ?_⟩
      clear hD6
      have hD7 : Dd 234 [(.inr (.inr (some 0))), (.inl a3), (.inl 0), (.inl 3)] σ (.inr 1, σ) := by
        refine b234 ?_
        rw [if_pos (show (0 : Int) ≤ a3 by first | omega | (simp [upS]; done) | (simp [upS]; omega))]
        rw [if_pos (show (3 : Int) < a3 by first | omega | (simp [upS]; done) | (simp [upS]; omega))]
        refine b234_10 ?_
        all_goals rfl
      refine Or.inr ⟨_, _, hD7, ?_⟩
      all_goals rfl
    exact Or.inr (Or.inr (Or.inl ⟨_, hD8, rfl⟩))
  have hB : Dd 326 [(.inr (.inr (some 682))), (.inl a1), (.inl a2), (.inl a3)] σ (.inl (some (.inl 0)), (upS σ 682 0 2)) := by
    refine b326 ?_
    have hD10 : Dd 248 [(.inr (.inr (some 682))), (.inl a1)] σ (.inl (some (.inl 1)), σ) := by
      refine b248 ?_
      have hD9 : Dd 246 [(.inl a1), (.inl (σ 682 3))] σ (.inl (some (.inl 1)), σ) := by
        refine b246 ?_
        try rw [if_pos (show (0 : Int) ≤ a1 by first | omega | (simp [upS]; done) | (simp [upS]; omega))]
        try rw [if_pos (show a1 < (σ 682 3) by first | omega | (simp [upS]; done) | (simp [upS]; omega))]
        all_goals rfl
      refine ⟨_, _, hD9, ?_⟩
      clear hD9
      refine ⟨(show 1 = 0 ∨ 1 = 1 by first | omega | (simp [upS]; done) | (simp [upS]; omega)), ?_⟩
      all_goals rfl
    refine ⟨_, _, hD10, ?_⟩
    clear hD10
    rw [if_neg (show ¬ ((1 : Int) = 0) by first | omega | (simp [upS]; done) | (simp [upS]; omega))]
    have hD12 : Dd 247 [(.inl a2)] σ (.inl (some (.inl 1)), σ) := by
      refine b247 ?_
      have hD11 : Dd 246 [(.inl a2), (.inl 4)] σ (.inl (some (.inl 1)), σ) := by
        refine b246 ?_
        try rw [if_pos (show (0 : Int) ≤ a2 by first | omega | (simp [upS]; done) | (simp [upS]; omega))]
        try rw [if_pos (show a2 < 4 by first | omega | (simp [upS]; done) | (simp [upS]; omega))]
        all_goals rfl
      refine ⟨_, _, hD11, ?_⟩
      clear hD11
      refine ⟨(show 1 = 0 ∨ 1 = 1 by first | omega | (simp [upS]; done) | (simp [upS]; omega)), ?_⟩
      all_goals rfl
    refine ⟨_, _, hD12, ?_⟩
    clear hD12
    rw [if_neg (show ¬ ((1 : Int) = 0) by first | omega | (simp [upS]; done) | (simp [upS]; omega))]
    refine b326_20 ?_
    rw [if_neg (show ¬ ((1 : Int) = 0) by first | omega | (simp [upS]; done) | (simp [upS]; omega))]
    have hD13 : Dd 246 [(.inl a3), (.inl 4)] σ (.inl (some (.inl 0)), σ) := by
      refine b246 ?_
      try rw [if_pos (show (0 : Int) ≤ a3 by first | omega | (simp [upS]; done) | (simp [upS]; omega))]
      try rw [if_neg (show ¬ (a3 < 4) by first | omega | (simp [upS]; done) | (simp [upS]; omega))]
      all_goals rfl
    refine ⟨_, _, hD13, ?_⟩
    clear hD13
    rw [if_pos (show (0 : Int) = 0 by first | omega | (simp [upS]; done) | (simp [upS]; omega))]
    refine b326_39 ?_
    refine b326_40 ?_
    rw [if_pos (show (0 : Int) = 0 by first | omega | (simp [upS]; done) | (simp [upS]; omega))]
    refine b326_58 ?_
    try rw [if_neg (show ¬ ((1 : Int) = 0) by first | omega | (simp [upS]; done) | (simp [upS]; omega))]
    try rw [if_pos (show (0 : Int) = 0 by first | omega | (simp [upS]; done) | (simp [upS]; omega))]
    refine b326_93 ?_
    have hD14 : Dd 245 [(.inr (.inr (some 682))), (.inl 2)] σ (.inl (some (.inl 0)), (upS σ 682 0 2)) := by
      refine b245 ?_
      try rw [if_neg (show ¬ ((2 : Int) = 0) by first | omega | (simp [upS]; done) | (simp [upS]; omega))]
      all_goals rfl
    refine ⟨_, _, hD14, ?_⟩
    clear hD14
    rw [if_pos (show (0 : Int) = 0 by first | omega | (simp [upS]; done) | (simp [upS]; omega))]
    all_goals rfl
  exact op_x H (by decide) hA hB
end
