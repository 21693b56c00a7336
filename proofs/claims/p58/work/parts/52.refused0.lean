noncomputable section
theorem x0_0 {σ : Sg} {c : Int} {a1 : Int} {a2 : Int} {a3 : Int} (H : Rel c σ) (h0 : a1 < 0) : OpR 390 256 [(.inr (.inr (some 0))), (.inl a1), (.inl a2), (.inl a3), (.inr (.inr (some 726)))] [(.inr (.inr (some 682))), (.inl a1), (.inl a2), (.inl a3)] σ (c + 1) := by
  obtain ⟨r1, r2, r3, r4, r5⟩ := rel_n H
  have hA : Dd 390 [(.inr (.inr (some 0))), (.inl a1), (.inl a2), (.inl a3), (.inr (.inr (some 726)))] σ (.inl (some (.inl 1)), σ) := by
    refine b390 ?_
    have hD4 : Dd 172 [(.inr (.inr (some 0))), (.inl a1), (.inl a2), (.inl a3)] σ (.inr 0, σ) := by
      refine b172 ?_
      have hD3 : Dd 227 [(.inr (.inr (some 0))), (.inl a1)] σ (.inr 0, σ) := by
        refine b227 ?_
        have hD1 : Dd 145 [(.inr (.inr (some 1))), (.inl a1)] σ (.inl (some (.inr (.inr none))), σ) := by
          refine b145 ?_
          rw [if_neg (show ¬ ((0 : Int) ≤ a1) by first | omega | (simp [upS]; done) | (simp [upS]; omega))]
          all_goals rfl
        refine ⟨_, _, hD1, ?_⟩
        clear hD1
        refine ⟨fun _ => ?_, fun _ hz2 => (by cases hz2)⟩
        all_goals rfl
      refine Or.inr ⟨_, _, hD3, ?_⟩
      all_goals rfl
    exact Or.inr (Or.inl ⟨_, hD4, rfl⟩)
  have hB : Dd 256 [(.inr (.inr (some 682))), (.inl a1), (.inl a2), (.inl a3)] σ (.inl (some (.inl 0)), (upS σ 682 0 1)) := by
    refine b256 ?_
    have hD6 : Dd 247 [(.inl a1)] σ (.inl (some (.inl 0)), σ) := by
      refine b247 ?_
      have hD5 : Dd 246 [(.inl a1), (.inl 4)] σ (.inl (some (.inl 0)), σ) := by
        refine b246 ?_
        try rw [if_neg (show ¬ ((0 : Int) ≤ a1) by first | omega | (simp [upS]; done) | (simp [upS]; omega))]
        all_goals rfl
      refine ⟨_, _, hD5, ?_⟩
      clear hD5
      refine ⟨(show 0 = 0 ∨ 0 = 1 by first | omega | (simp [upS]; done) | (simp [upS]; omega)), ?_⟩
      all_goals rfl
    refine ⟨_, _, hD6, ?_⟩
    clear hD6
    rw [if_pos (show (0 : Int) = 0 by first | omega | (simp [upS]; done) | (simp [upS]; omega))]
    refine b256_25 ?_
    refine b256_26 ?_
    rw [if_pos (show (0 : Int) = 0 by first | omega | (simp [upS]; done) | (simp [upS]; omega))]
    refine b256_65 ?_
    have hD7 : Dd 245 [(.inr (.inr (some 682))), (.inl 1)] σ (.inl (some (.inl 0)), (upS σ 682 0 1)) := by
      refine b245 ?_
      try rw [if_neg (show ¬ ((1 : Int) = 0) by first | omega | (simp [upS]; done) | (simp [upS]; omega))]
      all_goals rfl
    refine ⟨_, _, hD7, ?_⟩
    clear hD7
    rw [if_pos (show (0 : Int) = 0 by first | omega | (simp [upS]; done) | (simp [upS]; omega))]
    all_goals rfl
  exact op_x H (by decide) hA hB
theorem x0_1 {σ : Sg} {c : Int} {a1 : Int} {a2 : Int} {a3 : Int} (H : Rel c σ) (h0 : 4 ≤ a1) : OpR 390 256 [(.inr (.inr (some 0))), (.inl a1), (.inl a2), (.inl a3), (.inr (.inr (some 726)))] [(.inr (.inr (some 682))), (.inl a1), (.inl a2), (.inl a3)] σ (c + 1) := by
  obtain ⟨r1, r2, r3, r4, r5⟩ := rel_n H
  have hA : Dd 390 [(.inr (.inr (some 0))), (.inl a1), (.inl a2), (.inl a3), (.inr (.inr (some 726)))] σ (.inl (some (.inl 1)), σ) := by
    refine b390 ?_
    have hD4 : Dd 172 [(.inr (.inr (some 0))), (.inl a1), (.inl a2), (.inl a3)] σ (.inr 0, σ) := by
      refine b172 ?_
      have hD3 : Dd 227 [(.inr (.inr (some 0))), (.inl a1)] σ (.inr 0, σ) := by
        refine b227 ?_
        have hD1 : Dd 145 [(.inr (.inr (some 1))), (.inl a1)] σ (.inl (some (.inr (.inr none))), σ) := by
          refine b145 ?_
          rw [if_pos (show (0 : Int) ≤ a1 by first | omega | (simp [upS]; done) | (simp [upS]; omega))]
          refine ⟨4, (by decide +kernel), (by decide), ?_⟩
          rw [if_neg (show ¬ (a1 < ((4 : Nat) : Int)) by first | omega | (simp [upS]; done) | (simp [upS]; omega))]
          all_goals rfl
        refine ⟨_, _, hD1, ?_⟩
        clear hD1
        refine ⟨fun _ => ?_, fun _ hz2 => (by cases hz2)⟩
        all_goals rfl
      refine Or.inr ⟨_, _, hD3, ?_⟩
      all_goals rfl
    exact Or.inr (Or.inl ⟨_, hD4, rfl⟩)
  have hB : Dd 256 [(.inr (.inr (some 682))), (.inl a1), (.inl a2), (.inl a3)] σ (.inl (some (.inl 0)), (upS σ 682 0 1)) := by
    refine b256 ?_
    have hD6 : Dd 247 [(.inl a1)] σ (.inl (some (.inl 0)), σ) := by
      refine b247 ?_
      have hD5 : Dd 246 [(.inl a1), (.inl 4)] σ (.inl (some (.inl 0)), σ) := by
        refine b246 ?_
        try rw [if_pos (show (0 : Int) ≤ a1 by first | omega | (simp [upS]; done) | (simp [upS]; omega))]
        try rw [if_neg (show ¬ (a1 < 4) by first | omega | (simp [upS]; done) | (simp [upS]; omega))]
        all_goals rfl
      refine ⟨_, _, hD5, ?_⟩
      clear hD5
      refine ⟨(show 0 = 0 ∨ 0 = 1 by first | omega | (simp [upS]; done) | (simp [upS]; omega)), ?_⟩
      all_goals rfl
    refine ⟨_, _, hD6, ?_⟩
    clear hD6
    rw [if_pos (show (0 : Int) = 0 by first | omega | (simp [upS]; done) | (simp [upS]; omega))]
    refine b256_25 ?_
    refine b256_26 ?_
    rw [if_pos (show (0 : Int) = 0 by first | omega | (simp [upS]; done) | (simp [upS]; omega))]
    refine b256_65 ?_
    have hD7 : Dd 245 [(.inr (.inr (some 682))), (.inl 1)] σ (.inl (some (.inl 0)), (upS σ 682 0 1)) := by
      refine b245 ?_
      try rw [if_neg (show ¬ ((1 : Int) = 0) by first | omega | (simp [upS]; done) | (simp [upS]; omega))]
      all_goals rfl
    refine ⟨_, _, hD7, ?_⟩
    clear hD7
    rw [if_pos (show (0 : Int) = 0 by first | omega | (simp [upS]; done) | (simp [upS]; omega))]
    all_goals rfl
  exact op_x H (by decide) hA hB
theorem x0_2 {σ : Sg} {c : Int} {a1 : Int} {a2 : Int} {a3 : Int} (H : Rel c σ) (h0 : 0 ≤ a1 ∧ a1 < 4) (h1 : a2 < 0) : OpR 390 256 [(.inr (.inr (some 0))), (.inl a1), (.inl a2), (.inl a3), (.inr (.inr (some 726)))] [(.inr (.inr (some 682))), (.inl a1), (.inl a2), (.inl a3)] σ (c + 1) := by
  obtain ⟨r1, r2, r3, r4, r5⟩ := rel_n H
  have t0 := rel_t H h0
  have hA : Dd 390 [(.inr (.inr (some 0))), (.inl a1), (.inl a2), (.inl a3), (.inr (.inr (some 726)))] σ (.inl (some (.inl 1)), σ) := by
    refine b390 ?_
    have hD6 : Dd 172 [(.inr (.inr (some 0))), (.inl a1), (.inl a2), (.inl a3)] σ (.inr 0, σ) := by
      refine b172 ?_
      have hD3 : Dd 227 [(.inr (.inr (some 0))), (.inl a1)] σ (.inl (some (.inr (.inr (some (2 + 2 * ((a1)).toNat))))), σ) := by
        refine b227 ?_
        have hD1 : Dd 145 [(.inr (.inr (some 1))), (.inl a1)] σ (.inl (some (.inr (.inr (some (2 + 2 * ((a1)).toNat))))), σ) := by
          refine b145 ?_
          rw [if_pos (show (0 : Int) ≤ a1 by first | omega | (simp [upS]; done) | (simp [upS]; omega))]
          refine ⟨4, (by decide +kernel), (by decide), ?_⟩
          rw [if_pos (show a1 < ((4 : Nat) : Int) by first | omega | (simp [upS]; done) | (simp [upS]; omega))]
          refine ⟨(show 0 ≤ a1 by first | omega | (simp [upS]; done) | (simp [upS]; omega)), ?_⟩
          refine ⟨(2 + 2 * ((a1)).toNat), (el_1 (i := (a1)) (by first | omega | (simp [upS]; done) | (simp [upS]; omega))).1, (el_1 (i := (a1)) (by first | omega | (simp [upS]; done) | (simp [upS]; omega))).2, ?_⟩
          all_goals rfl
        refine ⟨_, _, hD1, ?_⟩
        clear hD1
        refine ⟨fun hz2 => (by cases hz2), fun _ hz2 => ?_⟩
        cases hz2
        refine ⟨(el_1 (i := (a1)) (by first | omega | (simp [upS]; done) | (simp [upS]; omega))).2, ?_⟩
        all_goals rfl
      refine Or.inl ⟨_, _, hD3, (el_1 (i := (a1)) (by first | omega | (simp [upS]; done) | (simp [upS]; omega))).2, ?_⟩
      clear hD3
      have hD4 : Dd 146 [(.inr (.inr (some (2 + 2 * ((a1)).toNat))))] σ (.inl (some (.inl (σ (2 + 2 * ((a1)).toNat) 1))), σ) := by
        refine b146 (el_1 (i := (a1)) (by first | omega | (simp [upS]; done) | (simp [upS]; omega))).2 ?_
        all_goals rfl
      refine ⟨_, _, hD4, ?_⟩
      clear hD4
      refine ⟨(show -2147483648 ≤ ((σ (2 + 2 * ((a1)).toNat) 1) + 1) ∧ ((σ (2 + 2 * ((a1)).toNat) 1) + 1) ≤ 2147483647 by first | omega | (simp [upS]; done) | (simp [upS]; omega)), ?_⟩
      have hD5 : Dd 232 [(.inr (.inr (some 0))), (.inl a2), (.inl ((σ (2 + 2 * ((a1)).toNat) 1) + 1))] σ (.inr 0, σ) := by
        refine b232 ?_
        rw [if_neg (show ¬ ((0 : Int) ≤ a2) by first | omega | (simp [upS]; done) | (simp [upS]; omega))]
        refine b232_9 ?_
        all_goals rfl
      refine Or.inr ⟨_, _, hD5, ?_⟩
      all_goals rfl
    exact Or.inr (Or.inl ⟨_, hD6, rfl⟩)
  have hB : Dd 256 [(.inr (.inr (some 682))), (.inl a1), (.inl a2), (.inl a3)] σ (.inl (some (.inl 0)), (upS σ 682 0 1)) := by
    refine b256 ?_
    have hD8 : Dd 247 [(.inl a1)] σ (.inl (some (.inl 1)), σ) := by
      refine b247 ?_
      have hD7 : Dd 246 [(.inl a1), (.inl 4)] σ (.inl (some (.inl 1)), σ) := by
        refine b246 ?_
        try rw [if_pos (show (0 : Int) ≤ a1 by first | omega | (simp [upS]; done) | (simp [upS]; omega))]
        try rw [if_pos (show a1 < 4 by first | omega | (simp [upS]; done) | (simp [upS]; omega))]
        all_goals rfl
      refine ⟨_, _, hD7, ?_⟩
      clear hD7
      refine ⟨(show 1 = 0 ∨ 1 = 1 by first | omega | (simp [upS]; done) | (simp [upS]; omega)), ?_⟩
      all_goals rfl
    refine ⟨_, _, hD8, ?_⟩
    clear hD8
    rw [if_neg (show ¬ ((1 : Int) = 0) by first | omega | (simp [upS]; done) | (simp [upS]; omega))]
    rw [if_neg (show ¬ ((0 : Int) ≤ a2) by first | omega | (simp [upS]; done) | (simp [upS]; omega))]
    refine b256_25 ?_
    refine b256_26 ?_
    rw [if_pos (show (0 : Int) = 0 by first | omega | (simp [upS]; done) | (simp [upS]; omega))]
    refine b256_65 ?_
    have hD9 : Dd 245 [(.inr (.inr (some 682))), (.inl 1)] σ (.inl (some (.inl 0)), (upS σ 682 0 1)) := by
      refine b245 ?_
      try rw [if_neg (show ¬ ((1 : Int) = 0) by first | omega | (simp [upS]; done) | (simp [upS]; omega))]
      all_goals rfl
    refine ⟨_, _, hD9, ?_⟩
    clear hD9
    rw [if_pos (show (0 : Int) = 0 by first | omega | (simp [upS]; done) | (simp [upS]; omega))]
    all_goals rfl
  exact op_x H (by decide) hA hB
theorem x0_3 {σ : Sg} {c : Int} {a1 : Int} {a2 : Int} {a3 : Int} (H : Rel c σ) (h0 : 0 ≤ a1 ∧ a1 < 4) (h1 : σ (2 + 2 * ((a1)).toNat) 1 < a2) : OpR 390 256 [(.inr (.inr (some 0))), (.inl a1), (.inl a2), (.inl a3), (.inr (.inr (some 726)))] [(.inr (.inr (some 682))), (.inl a1), (.inl a2), (.inl a3)] σ (c + 1) := by
  obtain ⟨r1, r2, r3, r4, r5⟩ := rel_n H
  have t0 := rel_t H h0
  have hA : Dd 390 [(.inr (.inr (some 0))), (.inl a1), (.inl a2), (.inl a3), (.inr (.inr (some 726)))] σ (.inl (some (.inl 1)), σ) := by
    refine b390 ?_
    have hD6 : Dd 172 [(.inr (.inr (some 0))), (.inl a1), (.inl a2), (.inl a3)] σ (.inr 0, σ) := by
      refine b172 ?_
      have hD3 : Dd 227 [(.inr (.inr (some 0))), (.inl a1)] σ (.inl (some (.inr (.inr (some (2 + 2 * ((a1)).toNat))))), σ) := by
        refine b227 ?_
        have hD1 : Dd 145 [(.inr (.inr (some 1))), (.inl a1)] σ (.inl (some (.inr (.inr (some (2 + 2 * ((a1)).toNat))))), σ) := by
          refine b145 ?_
          rw [if_pos (show (0 : Int) ≤ a1 by first | omega | (simp [upS]; done) | (simp [upS]; omega))]
          refine ⟨4, (by decide +kernel), (by decide), ?_⟩
          rw [if_pos (show a1 < ((4 : Nat) : Int) by first | omega | (simp [upS]; done) | (simp [upS]; omega))]
          refine ⟨(show 0 ≤ a1 by first | omega | (simp [upS]; done) | (simp [upS]; omega)), ?_⟩
          refine ⟨(2 + 2 * ((a1)).toNat), (el_1 (i := (a1)) (by first | omega | (simp [upS]; done) | (simp [upS]; omega))).1, (el_1 (i := (a1)) (by first | omega | (simp [upS]; done) | (simp [upS]; omega))).2, ?_⟩
          all_goals rfl
        refine ⟨_, _, hD1, ?_⟩
        clear hD1
        refine ⟨fun hz2 => (by cases hz2), fun _ hz2 => ?_⟩
        cases hz2
        refine ⟨(el_1 (i := (a1)) (by first | omega | (simp [upS]; done) | (simp [upS]; omega))).2, ?_⟩
        all_goals rfl
      refine Or.inl ⟨_, _, hD3, (el_1 (i := (a1)) (by first | omega | (simp [upS]; done) | (simp [upS]; omega))).2, ?_⟩
      clear hD3
      have hD4 : Dd 146 [(.inr (.inr (some (2 + 2 * ((a1)).toNat))))] σ (.inl (some (.inl (σ (2 + 2 * ((a1)).toNat) 1))), σ) := by
        refine b146 (el_1 (i := (a1)) (by first | omega | (simp [upS]; done) | (simp [upS]; omega))).2 ?_
        all_goals rfl
      refine ⟨_, _, hD4, ?_⟩
      clear hD4
      refine ⟨(show -2147483648 ≤ ((σ (2 + 2 * ((a1)).toNat) 1) + 1) ∧ ((σ (2 + 2 * ((a1)).toNat) 1) + 1) ≤ 2147483647 by first | omega | (simp [upS]; done) | (simp [upS]; omega)), ?_⟩
      have hD5 : Dd 232 [(.inr (.inr (some 0))), (.inl a2), (.inl ((σ (2 + 2 * ((a1)).toNat) 1) + 1))] σ (.inr 0, σ) := by
        refine b232 ?_
        rw [if_pos (show (0 : Int) ≤ a2 by first | omega | (simp [upS]; done) | (simp [upS]; omega))]
        rw [if_pos (show ((σ (2 + 2 * ((a1)).toNat) 1) + 1) ≤ a2 by first | omega | (simp [upS]; done) | (simp [upS]; omega))]
        refine b232_9 ?_
        all_goals rfl
      refine Or.inr ⟨_, _, hD5, ?_⟩
      all_goals rfl
    exact Or.inr (Or.inl ⟨_, hD6, rfl⟩)
  have hB : Dd 256 [(.inr (.inr (some 682))), (.inl a1), (.inl a2), (.inl a3)] σ (.inl (some (.inl 0)), (upS σ 682 0 1)) := by
    refine b256 ?_
    have hD8 : Dd 247 [(.inl a1)] σ (.inl (some (.inl 1)), σ) := by
      refine b247 ?_
      have hD7 : Dd 246 [(.inl a1), (.inl 4)] σ (.inl (some (.inl 1)), σ) := by
        refine b246 ?_
        try rw [if_pos (show (0 : Int) ≤ a1 by first | omega | (simp [upS]; done) | (simp [upS]; omega))]
        try rw [if_pos (show a1 < 4 by first | omega | (simp [upS]; done) | (simp [upS]; omega))]
        all_goals rfl
      refine ⟨_, _, hD7, ?_⟩
      clear hD7
      refine ⟨(show 1 = 0 ∨ 1 = 1 by first | omega | (simp [upS]; done) | (simp [upS]; omega)), ?_⟩
      all_goals rfl
    refine ⟨_, _, hD8, ?_⟩
    clear hD8
    rw [if_neg (show ¬ ((1 : Int) = 0) by first | omega | (simp [upS]; done) | (simp [upS]; omega))]
    rw [if_pos (show (0 : Int) ≤ a2 by first | omega | (simp [upS]; done) | (simp [upS]; omega))]
    refine ⟨(show 0 ≤ a1 ∧ a1 < 4 by first | omega | (simp [upS]; done) | (simp [upS]; omega)), ?_⟩
    rw [if_neg (show ¬ (a2 ≤ (σ 684 (a1).toNat)) by first | omega | (simp [upS]; done) | (simp [upS]; omega))]
    refine b256_25 ?_
    refine b256_26 ?_
    rw [if_pos (show (0 : Int) = 0 by first | omega | (simp [upS]; done) | (simp [upS]; omega))]
    refine b256_65 ?_
    have hD9 : Dd 245 [(.inr (.inr (some 682))), (.inl 1)] σ (.inl (some (.inl 0)), (upS σ 682 0 1)) := by
      refine b245 ?_
      try rw [if_neg (show ¬ ((1 : Int) = 0) by first | omega | (simp [upS]; done) | (simp [upS]; omega))]
      all_goals rfl
    refine ⟨_, _, hD9, ?_⟩
    clear hD9
    rw [if_pos (show (0 : Int) = 0 by first | omega | (simp [upS]; done) | (simp [upS]; omega))]
    all_goals rfl
  exact op_x H (by decide) hA hB
theorem x0_4 {σ : Sg} {c : Int} {a1 : Int} {a2 : Int} {a3 : Int} (H : Rel c σ) (h0 : 0 ≤ a1 ∧ a1 < 4) (h1 : 0 ≤ a2 ∧ a2 ≤ σ (2 + 2 * ((a1)).toNat) 1) (h2 : isLn a3 = false) : OpR 390 256 [(.inr (.inr (some 0))), (.inl a1), (.inl a2), (.inl a3), (.inr (.inr (some 726)))] [(.inr (.inr (some 682))), (.inl a1), (.inl a2), (.inl a3)] σ (c + 1) := by
  obtain ⟨r1, r2, r3, r4, r5⟩ := rel_n H
  have t0 := rel_t H h0
  have hA : Dd 390 [(.inr (.inr (some 0))), (.inl a1), (.inl a2), (.inl a3), (.inr (.inr (some 726)))] σ (.inl (some (.inl 2)), σ) := by
    refine b390 ?_
    have hD8 : Dd 172 [(.inr (.inr (some 0))), (.inl a1), (.inl a2), (.inl a3)] σ (.inr 1, σ) := by
      refine b172 ?_
      have hD3 : Dd 227 [(.inr (.inr (some 0))), (.inl a1)] σ (.inl (some (.inr (.inr (some (2 + 2 * ((a1)).toNat))))), σ) := by
        refine b227 ?_
        have hD1 : Dd 145 [(.inr (.inr (some 1))), (.inl a1)] σ (.inl (some (.inr (.inr (some (2 + 2 * ((a1)).toNat))))), σ) := by
          refine b145 ?_
          rw [if_pos (show (0 : Int) ≤ a1 by first | omega | (simp [upS, h2]; done) | (simp [upS, h2]; omega))]
          refine ⟨4, (by decide +kernel), (by decide), ?_⟩
          rw [if_pos (show a1 < ((4 : Nat) : Int) by first | omega | (simp [upS, h2]; done) | (simp [upS, h2]; omega))]
          refine ⟨(show 0 ≤ a1 by first | omega | (simp [upS, h2]; done) | (simp [upS, h2]; omega)), ?_⟩
          refine ⟨(2 + 2 * ((a1)).toNat), (el_1 (i := (a1)) (by first | omega | (simp [upS, h2]; done) | (simp [upS, h2]; omega))).1, (el_1 (i := (a1)) (by first | omega | (simp [upS, h2]; done) | (simp [upS, h2]; omega))).2, ?_⟩
          all_goals rfl
        refine ⟨_, _, hD1, ?_⟩
        clear hD1
        refine ⟨fun hz2 => (by cases hz2), fun _ hz2 => ?_⟩
        cases hz2
        refine ⟨(el_1 (i := (a1)) (by first | omega | (simp [upS, h2]; done) | (simp [upS, h2]; omega))).2, ?_⟩
        all_goals rfl
      refine Or.inl ⟨_, _, hD3, (el_1 (i := (a1)) (by first | omega | (simp [upS, h2]; done) | (simp [upS, h2]; omega))).2, ?_⟩
      clear hD3
      have hD4 : Dd 146 [(.inr (.inr (some (2 + 2 * ((a1)).toNat))))] σ (.inl (some (.inl (σ (2 + 2 * ((a1)).toNat) 1))), σ) := by
        refine b146 (el_1 (i := (a1)) (by first | omega | (simp [upS, h2]; done) | (simp [upS, h2]; omega))).2 ?_
        all_goals rfl
      refine ⟨_, _, hD4, ?_⟩
      clear hD4
      refine ⟨(show -2147483648 ≤ ((σ (2 + 2 * ((a1)).toNat) 1) + 1) ∧ ((σ (2 + 2 * ((a1)).toNat) 1) + 1) ≤ 2147483647 by first | omega | (simp [upS, h2]; done) | (simp [upS, h2]; omega)), ?_⟩
      have hD5 : Dd 232 [(.inr (.inr (some 0))), (.inl a2), (.inl ((σ (2 + 2 * ((a1)).toNat) 1) + 1))] σ (.inl none, σ) := by
        refine b232 ?_
        rw [if_pos (show (0 : Int) ≤ a2 by first | omega | (simp [upS, h2]; done) | (simp [upS, h2]; omega))]
        rw [if_neg (show ¬ (((σ (2 + 2 * ((a1)).toNat) 1) + 1) ≤ a2) by first | omega | (simp [upS, h2]; done) | (simp [upS, h2]; omega))]
        all_goals rfl
      refine Or.inl ⟨_, hD5, ?_⟩
      clear hD5
      have hD7 : Dd 235 [(.inr (.inr (some 0))), (.inl a3)] σ (.inr 1, σ) := by
        refine b235 ?_
        have hD6 : Dd 68 [(.inl a3)] σ (.inl (some (.inl (if isLn a3 = true then (1 : Int) else 0))), σ) := d68
        refine ⟨_, _, hD6, ?_⟩
        clear hD6
        rw [if_pos (show (if isLn a3 = true then (1 : Int) else 0) = 0 by first | omega | (simp [upS, h2]; done) | (simp [upS, h2]; omega))]
        all_goals rfl
      refine Or.inr ⟨_, _, hD7, ?_⟩
      all_goals rfl
    exact Or.inr (Or.inr (Or.inl ⟨_, hD8, rfl⟩))
  have hB : Dd 256 [(.inr (.inr (some 682))), (.inl a1), (.inl a2), (.inl a3)] σ (.inl (some (.inl 0)), (upS σ 682 0 2)) := by
    refine b256 ?_
    have hD10 : Dd 247 [(.inl a1)] σ (.inl (some (.inl 1)), σ) := by
      refine b247 ?_
      have hD9 : Dd 246 [(.inl a1), (.inl 4)] σ (.inl (some (.inl 1)), σ) := by
        refine b246 ?_
        try rw [if_pos (show (0 : Int) ≤ a1 by first | omega | (simp [upS, h2]; done) | (simp [upS, h2]; omega))]
        try rw [if_pos (show a1 < 4 by first | omega | (simp [upS, h2]; done) | (simp [upS, h2]; omega))]
        all_goals rfl
      refine ⟨_, _, hD9, ?_⟩
      clear hD9
      refine ⟨(show 1 = 0 ∨ 1 = 1 by first | omega | (simp [upS, h2]; done) | (simp [upS, h2]; omega)), ?_⟩
      all_goals rfl
    refine ⟨_, _, hD10, ?_⟩
    clear hD10
    rw [if_neg (show ¬ ((1 : Int) = 0) by first | omega | (simp [upS, h2]; done) | (simp [upS, h2]; omega))]
    rw [if_pos (show (0 : Int) ≤ a2 by first | omega | (simp [upS, h2]; done) | (simp [upS, h2]; omega))]
    refine ⟨(show 0 ≤ a1 ∧ a1 < 4 by first | omega | (simp [upS, h2]; done) | (simp [upS, h2]; omega)), ?_⟩
    rw [if_pos (show a2 ≤ (σ 684 (a1).toNat) by first | omega | (simp [upS, h2]; done) | (simp [upS, h2]; omega))]
    refine b256_26 ?_
    rw [if_neg (show ¬ ((1 : Int) = 0) by first | omega | (simp [upS, h2]; done) | (simp [upS, h2]; omega))]
    have hD11 : Dd 250 [(.inl a3)] σ (.inl (some (.inl (if isLn a3 = true then (1 : Int) else 0))), σ) := d250
    refine ⟨_, _, hD11, ?_⟩
    clear hD11
    refine ⟨(show ¬ ((if isLn a3 = true then (1 : Int) else 0) = 0) → 0 ≤ a1 ∧ a1 < 4 by (first | (intros; first | omega | (simp [upS, h2]; done) | (simp [upS, h2]; omega)) | (intros; simp_all [upS, h2]; done) | (intros; simp_all [upS, h2]; omega))), ?_⟩
    try rw [if_pos (show (if isLn a3 = true then (1 : Int) else 0) = 0 by first | omega | (simp [upS, h2]; done) | (simp [upS, h2]; omega))]
    refine b256_65 ?_
    have hD12 : Dd 245 [(.inr (.inr (some 682))), (.inl 2)] σ (.inl (some (.inl 0)), (upS σ 682 0 2)) := by
      refine b245 ?_
      try rw [if_neg (show ¬ ((2 : Int) = 0) by first | omega | (simp [upS, h2]; done) | (simp [upS, h2]; omega))]
      all_goals rfl
    refine ⟨_, _, hD12, ?_⟩
    clear hD12
    rw [if_pos (show (0 : Int) = 0 by first | omega | (simp [upS, h2]; done) | (simp [upS, h2]; omega))]
    all_goals rfl
  exact op_x H (by decide) hA hB
theorem x1_0 {σ : Sg} {c : Int} {a1 : Int} {a2 : Int} (H : Rel c σ) (h0 : a1 < 0) : OpR 391 258 [(.inr (.inr (some 0))), (.inl a1), (.inl a2), (.inr (.inr (some 726)))] [(.inr (.inr (some 682))), (.inl a1), (.inl a2)] σ (c + 1) := by
  obtain ⟨r1, r2, r3, r4, r5⟩ := rel_n H
  have hA : Dd 391 [(.inr (.inr (some 0))), (.inl a1), (.inl a2), (.inr (.inr (some 726)))] σ (.inl (some (.inl 1)), σ) := by
    refine b391 ?_
    have hD4 : Dd 173 [(.inr (.inr (some 0))), (.inl a1), (.inl a2)] σ (.inr 0, σ) := by
      refine b173 ?_
      have hD3 : Dd 227 [(.inr (.inr (some 0))), (.inl a1)] σ (.inr 0, σ) := by
        refine b227 ?_
        have hD1 : Dd 145 [(.inr (.inr (some 1))), (.inl a1)] σ (.inl (some (.inr (.inr none))), σ) := by
          refine b145 ?_
          rw [if_neg (show ¬ ((0 : Int) ≤ a1) by first | omega | (simp [upS]; done) | (simp [upS]; omega))]
          all_goals rfl
        refine ⟨_, _, hD1, ?_⟩
        clear hD1
        refine ⟨fun _ => ?_, fun _ hz2 => (by cases hz2)⟩
        all_goals rfl
      refine Or.inr ⟨_, _, hD3, ?_⟩
      all_goals rfl
    exact Or.inr (⟨_, hD4, rfl⟩)
  have hB : Dd 258 [(.inr (.inr (some 682))), (.inl a1), (.inl a2)] σ (.inl (some (.inl 0)), (upS σ 682 0 1)) := by
    refine b258 ?_
    have hD8 : Dd 257 [(.inr (.inr (some 682))), (.inl a1), (.inl a2)] σ (.inl (some (.inl 0)), (upS σ 682 0 1)) := by
      refine b257 ?_
      have hD6 : Dd 247 [(.inl a1)] σ (.inl (some (.inl 0)), σ) := by
        refine b247 ?_
        have hD5 : Dd 246 [(.inl a1), (.inl 4)] σ (.inl (some (.inl 0)), σ) := by
          refine b246 ?_
          try rw [if_neg (show ¬ ((0 : Int) ≤ a1) by first | omega | (simp [upS]; done) | (simp [upS]; omega))]
          all_goals rfl
        refine ⟨_, _, hD5, ?_⟩
        clear hD5
        refine ⟨(show 0 = 0 ∨ 0 = 1 by first | omega | (simp [upS]; done) | (simp [upS]; omega)), ?_⟩
        all_goals rfl
      refine ⟨_, _, hD6, ?_⟩
      clear hD6
      rw [if_pos (show (0 : Int) = 0 by first | omega | (simp [upS]; done) | (simp [upS]; omega))]
      refine b257_25 ?_
      refine b257_26 ?_
      have hD7 : Dd 245 [(.inr (.inr (some 682))), (.inl 1)] σ (.inl (some (.inl 0)), (upS σ 682 0 1)) := by
        refine b245 ?_
        try rw [if_neg (show ¬ ((1 : Int) = 0) by first | omega | (simp [upS]; done) | (simp [upS]; omega))]
        all_goals rfl
      refine ⟨_, _, hD7, ?_⟩
      clear hD7
      refine ⟨(show 0 = 0 ∨ 0 = 1 by first | omega | (simp [upS]; done) | (simp [upS]; omega)), ?_⟩
      all_goals rfl
    refine ⟨_, _, hD8, ?_⟩
    clear hD8
    rw [if_pos (show (0 : Int) = 0 by first | omega | (simp [upS]; done) | (simp [upS]; omega))]
    all_goals rfl
  exact op_x H (by decide) hA hB
theorem x1_1 {σ : Sg} {c : Int} {a1 : Int} {a2 : Int} (H : Rel c σ) (h0 : 4 ≤ a1) : OpR 391 258 [(.inr (.inr (some 0))), (.inl a1), (.inl a2), (.inr (.inr (some 726)))] [(.inr (.inr (some 682))), (.inl a1), (.inl a2)] σ (c + 1) := by
  obtain ⟨r1, r2, r3, r4, r5⟩ := rel_n H
  have hA : Dd 391 [(.inr (.inr (some 0))), (.inl a1), (.inl a2), (.inr (.inr (some 726)))] σ (.inl (some (.inl 1)), σ) := by
    refine b391 ?_
    have hD4 : Dd 173 [(.inr (.inr (some 0))), (.inl a1), (.inl a2)] σ (.inr 0, σ) := by
      refine b173 ?_
      have hD3 : Dd 227 [(.inr (.inr (some 0))), (.inl a1)] σ (.inr 0, σ) := by
        refine b227 ?_
        have hD1 : Dd 145 [(.inr (.inr (some 1))), (.inl a1)] σ (.inl (some (.inr (.inr none))), σ) := by
          refine b145 ?_
          rw [if_pos (show (0 : Int) ≤ a1 by first | omega | (simp [upS]; done) | (simp [upS]; omega))]
          refine ⟨4, (by decide +kernel), (by decide), ?_⟩
          rw [if_neg (show ¬ (a1 < ((4 : Nat) : Int)) by first | omega | (simp [upS]; done) | (simp [upS]; omega))]
          all_goals rfl
        refine ⟨_, _, hD1, ?_⟩
        clear hD1
        refine ⟨fun _ => ?_, fun _ hz2 => (by cases hz2)⟩
        all_goals rfl
      refine Or.inr ⟨_, _, hD3, ?_⟩
      all_goals rfl
    exact Or.inr (⟨_, hD4, rfl⟩)
  have hB : Dd 258 [(.inr (.inr (some 682))), (.inl a1), (.inl a2)] σ (.inl (some (.inl 0)), (upS σ 682 0 1)) := by
    refine b258 ?_
    have hD8 : Dd 257 [(.inr (.inr (some 682))), (.inl a1), (.inl a2)] σ (.inl (some (.inl 0)), (upS σ 682 0 1)) := by
      refine b257 ?_
      have hD6 : Dd 247 [(.inl a1)] σ (.inl (some (.inl 0)), σ) := by
        refine b247 ?_
        have hD5 : Dd 246 [(.inl a1), (.inl 4)] σ (.inl (some (.inl 0)), σ) := by
          refine b246 ?_
          try rw [if_pos (show (0 : Int) ≤ a1 by first | omega | (simp [upS]; done) | (simp [upS]; omega))]
          try rw [if_neg (show ¬ (a1 < 4) by first | omega | (simp [upS]; done) | (simp [upS]; omega))]
          all_goals rfl
        refine ⟨_, _, hD5, ?_⟩
        clear hD5
        refine ⟨(show 0 = 0 ∨ 0 = 1 by first | omega | (simp [upS]; done) | (simp [upS]; omega)), ?_⟩
        all_goals rfl
      refine ⟨_, _, hD6, ?_⟩
      clear hD6
      rw [if_pos (show (0 : Int) = 0 by first | omega | (simp [upS]; done) | (simp [upS]; omega))]
      refine b257_25 ?_
      refine b257_26 ?_
      have hD7 : Dd 245 [(.inr (.inr (some 682))), (.inl 1)] σ (.inl (some (.inl 0)), (upS σ 682 0 1)) := by
        refine b245 ?_
        try rw [if_neg (show ¬ ((1 : Int) = 0) by first | omega | (simp [upS]; done) | (simp [upS]; omega))]
        all_goals rfl
      refine ⟨_, _, hD7, ?_⟩
      clear hD7
      refine ⟨(show 0 = 0 ∨ 0 = 1 by first | omega | (simp [upS]; done) | (simp [upS]; omega)), ?_⟩
      all_goals rfl
    refine ⟨_, _, hD8, ?_⟩
    clear hD8
    rw [if_pos (show (0 : Int) = 0 by first | omega | (simp [upS]; done) | (simp [upS]; omega))]
    all_goals rfl
  exact op_x H (by decide) hA hB
theorem x1_2 {σ : Sg} {c : Int} {a1 : Int} {a2 : Int} (H : Rel c σ) (h0 : 0 ≤ a1 ∧ a1 < 4) (h1 : a2 < 0) : OpR 391 258 [(.inr (.inr (some 0))), (.inl a1), (.inl a2), (.inr (.inr (some 726)))] [(.inr (.inr (some 682))), (.inl a1), (.inl a2)] σ (c + 1) := by
  obtain ⟨r1, r2, r3, r4, r5⟩ := rel_n H
  have t0 := rel_t H h0
  have hA : Dd 391 [(.inr (.inr (some 0))), (.inl a1), (.inl a2), (.inr (.inr (some 726)))] σ (.inl (some (.inl 1)), σ) := by
    refine b391 ?_
    have hD6 : Dd 173 [(.inr (.inr (some 0))), (.inl a1), (.inl a2)] σ (.inr 0, σ) := by
      refine b173 ?_
      have hD3 : Dd 227 [(.inr (.inr (some 0))), (.inl a1)] σ (.inl (some (.inr (.inr (some (2 + 2 * ((a1)).toNat))))), σ) := by
        refine b227 ?_
        have hD1 : Dd 145 [(.inr (.inr (some 1))), (.inl a1)] σ (.inl (some (.inr (.inr (some (2 + 2 * ((a1)).toNat))))), σ) := by
          refine b145 ?_
          rw [if_pos (show (0 : Int) ≤ a1 by first | omega | (simp [upS]; done) | (simp [upS]; omega))]
          refine ⟨4, (by decide +kernel), (by decide), ?_⟩
          rw [if_pos (show a1 < ((4 : Nat) : Int) by first | omega | (simp [upS]; done) | (simp [upS]; omega))]
          refine ⟨(show 0 ≤ a1 by first | omega | (simp [upS]; done) | (simp [upS]; omega)), ?_⟩
          refine ⟨(2 + 2 * ((a1)).toNat), (el_1 (i := (a1)) (by first | omega | (simp [upS]; done) | (simp [upS]; omega))).1, (el_1 (i := (a1)) (by first | omega | (simp [upS]; done) | (simp [upS]; omega))).2, ?_⟩
          all_goals rfl
        refine ⟨_, _, hD1, ?_⟩
        clear hD1
        refine ⟨fun hz2 => (by cases hz2), fun _ hz2 => ?_⟩
        cases hz2
        refine ⟨(el_1 (i := (a1)) (by first | omega | (simp [upS]; done) | (simp [upS]; omega))).2, ?_⟩
        all_goals rfl
      refine Or.inl ⟨_, _, hD3, (el_1 (i := (a1)) (by first | omega | (simp [upS]; done) | (simp [upS]; omega))).2, ?_⟩
      clear hD3
      have hD4 : Dd 146 [(.inr (.inr (some (2 + 2 * ((a1)).toNat))))] σ (.inl (some (.inl (σ (2 + 2 * ((a1)).toNat) 1))), σ) := by
        refine b146 (el_1 (i := (a1)) (by first | omega | (simp [upS]; done) | (simp [upS]; omega))).2 ?_
        all_goals rfl
      refine ⟨_, _, hD4, ?_⟩
      clear hD4
      have hD5 : Dd 232 [(.inr (.inr (some 0))), (.inl a2), (.inl (σ (2 + 2 * ((a1)).toNat) 1))] σ (.inr 0, σ) := by
        refine b232 ?_
        rw [if_neg (show ¬ ((0 : Int) ≤ a2) by first | omega | (simp [upS]; done) | (simp [upS]; omega))]
        refine b232_9 ?_
        all_goals rfl
      refine Or.inr ⟨_, _, hD5, ?_⟩
      all_goals rfl
    exact Or.inr (⟨_, hD6, rfl⟩)
  have hB : Dd 258 [(.inr (.inr (some 682))), (.inl a1), (.inl a2)] σ (.inl (some (.inl 0)), (upS σ 682 0 1)) := by
    refine b258 ?_
    have hD11 : Dd 257 [(.inr (.inr (some 682))), (.inl a1), (.inl a2)] σ (.inl (some (.inl 0)), (upS σ 682 0 1)) := by
      refine b257 ?_
      have hD8 : Dd 247 [(.inl a1)] σ (.inl (some (.inl 1)), σ) := by
        refine b247 ?_
        have hD7 : Dd 246 [(.inl a1), (.inl 4)] σ (.inl (some (.inl 1)), σ) := by
          refine b246 ?_
          try rw [if_pos (show (0 : Int) ≤ a1 by first | omega | (simp [upS]; done) | (simp [upS]; omega))]
          try rw [if_pos (show a1 < 4 by first | omega | (simp [upS]; done) | (simp [upS]; omega))]
          all_goals rfl
        refine ⟨_, _, hD7, ?_⟩
        clear hD7
        refine ⟨(show 1 = 0 ∨ 1 = 1 by first | omega | (simp [upS]; done) | (simp [upS]; omega)), ?_⟩
        all_goals rfl
      refine ⟨_, _, hD8, ?_⟩
      clear hD8
      rw [if_neg (show ¬ ((1 : Int) = 0) by first | omega | (simp [upS]; done) | (simp [upS]; omega))]
      refine ⟨(show 0 ≤ a1 ∧ a1 < 4 by first | omega | (simp [upS]; done) | (simp [upS]; omega)), ?_⟩
      rw [show (σ 684 (a1).toNat) = (σ 684 ((a1).toNat)) by (first | omega | (simp [upS]; done) | (simp [upS]; omega))]
      have hD9 : Dd 246 [(.inl a2), (.inl (σ 684 ((a1).toNat)))] σ (.inl (some (.inl 0)), σ) := by
        refine b246 ?_
        try rw [if_neg (show ¬ ((0 : Int) ≤ a2) by first | omega | (simp [upS]; done) | (simp [upS]; omega))]
        all_goals rfl
      refine ⟨_, _, hD9, ?_⟩
      clear hD9
      rw [if_pos (show (0 : Int) = 0 by first | omega | (simp [upS]; done) | (simp [upS]; omega))]
      refine b257_25 ?_
      refine b257_26 ?_
      have hD10 : Dd 245 [(.inr (.inr (some 682))), (.inl 1)] σ (.inl (some (.inl 0)), (upS σ 682 0 1)) := by
        refine b245 ?_
        try rw [if_neg (show ¬ ((1 : Int) = 0) by first | omega | (simp [upS]; done) | (simp [upS]; omega))]
        all_goals rfl
      refine ⟨_, _, hD10, ?_⟩
      clear hD10
      refine ⟨(show 0 = 0 ∨ 0 = 1 by first | omega | (simp [upS]; done) | (simp [upS]; omega)), ?_⟩
      all_goals rfl
    refine ⟨_, _, hD11, ?_⟩
    clear hD11
    rw [if_pos (show (0 : Int) = 0 by first | omega | (simp [upS]; done) | (simp [upS]; omega))]
    all_goals rfl
  exact op_x H (by decide) hA hB
theorem x1_3 {σ : Sg} {c : Int} {a1 : Int} {a2 : Int} (H : Rel c σ) (h0 : 0 ≤ a1 ∧ a1 < 4) (h1 : σ (2 + 2 * ((a1)).toNat) 1 ≤ a2) : OpR 391 258 [(.inr (.inr (some 0))), (.inl a1), (.inl a2), (.inr (.inr (some 726)))] [(.inr (.inr (some 682))), (.inl a1), (.inl a2)] σ (c + 1) := by
  obtain ⟨r1, r2, r3, r4, r5⟩ := rel_n H
  have t0 := rel_t H h0
  have hA : Dd 391 [(.inr (.inr (some 0))), (.inl a1), (.inl a2), (.inr (.inr (some 726)))] σ (.inl (some (.inl 1)), σ) := by
    refine b391 ?_
    have hD6 : Dd 173 [(.inr (.inr (some 0))), (.inl a1), (.inl a2)] σ (.inr 0, σ) := by
      refine b173 ?_
      have hD3 : Dd 227 [(.inr (.inr (some 0))), (.inl a1)] σ (.inl (some (.inr (.inr (some (2 + 2 * ((a1)).toNat))))), σ) := by
        refine b227 ?_
        have hD1 : Dd 145 [(.inr (.inr (some 1))), (.inl a1)] σ (.inl (some (.inr (.inr (some (2 + 2 * ((a1)).toNat))))), σ) := by
          refine b145 ?_
          rw [if_pos (show (0 : Int) ≤ a1 by first | omega | (simp [upS]; done) | (simp [upS]; omega))]
          refine ⟨4, (by decide +kernel), (by decide), ?_⟩
          rw [if_pos (show a1 < ((4 : Nat) : Int) by first | omega | (simp [upS]; done) | (simp [upS]; omega))]
          refine ⟨(show 0 ≤ a1 by first | omega | (simp [upS]; done) | (simp [upS]; omega)), ?_⟩
          refine ⟨(2 + 2 * ((a1)).toNat), (el_1 (i := (a1)) (by first | omega | (simp [upS]; done) | (simp [upS]; omega))).1, (el_1 (i := (a1)) (by first | omega | (simp [upS]; done) | (simp [upS]; omega))).2, ?_⟩
          all_goals rfl
        refine ⟨_, _, hD1, ?_⟩
        clear hD1
        refine ⟨fun hz2 => (by cases hz2), fun _ hz2 => ?_⟩
        cases hz2
        refine ⟨(el_1 (i := (a1)) (by first | omega | (simp [upS]; done) | (simp [upS]; omega))).2, ?_⟩
        all_goals rfl
      refine Or.inl ⟨_, _, hD3, (el_1 (i := (a1)) (by first | omega | (simp [upS]; done) | (simp [upS]; omega))).2, ?_⟩
      clear hD3
      have hD4 : Dd 146 [(.inr (.inr (some (2 + 2 * ((a1)).toNat))))] σ (.inl (some (.inl (σ (2 + 2 * ((a1)).toNat) 1))), σ) := by
        refine b146 (el_1 (i := (a1)) (by first | omega | (simp [upS]; done) | (simp [upS]; omega))).2 ?_
        all_goals rfl
      refine ⟨_, _, hD4, ?_⟩
      clear hD4
      have hD5 : Dd 232 [(.inr (.inr (some 0))), (.inl a2), (.inl (σ (2 + 2 * ((a1)).toNat) 1))] σ (.inr 0, σ) := by
        refine b232 ?_
        rw [if_pos (show (0 : Int) ≤ a2 by first | omega | (simp [upS]; done) | (simp [upS]; omega))]
        rw [if_pos (show (σ (2 + 2 * ((a1)).toNat) 1) ≤ a2 by first | omega | (simp [upS]; done) | (simp [upS]; omega))]
        refine b232_9 ?_
        all_goals rfl
      refine Or.inr ⟨_, _, hD5, ?_⟩
      all_goals rfl
    exact Or.inr (⟨_, hD6, rfl⟩)
  have hB : Dd 258 [(.inr (.inr (some 682))), (.inl a1), (.inl a2)] σ (.inl (some (.inl 0)), (upS σ 682 0 1)) := by
    refine b258 ?_
    have hD11 : Dd 257 [(.inr (.inr (some 682))), (.inl a1), (.inl a2)] σ (.inl (some (.inl 0)), (upS σ 682 0 1)) := by
      refine b257 ?_
      have hD8 : Dd 247 [(.inl a1)] σ (.inl (some (.inl 1)), σ) := by
        refine b247 ?_
        have hD7 : Dd 246 [(.inl a1), (.inl 4)] σ (.inl (some (.inl 1)), σ) := by
          refine b246 ?_
          try rw [if_pos (show (0 : Int) ≤ a1 by first | omega | (simp [upS]; done) | (simp [upS]; omega))]
          try rw [if_pos (show a1 < 4 by first | omega | (simp [upS]; done) | (simp [upS]; omega))]
          all_goals rfl
        refine ⟨_, _, hD7, ?_⟩
        clear hD7
        refine ⟨(show 1 = 0 ∨ 1 = 1 by first | omega | (simp [upS]; done) | (simp [upS]; omega)), ?_⟩
        all_goals rfl
      refine ⟨_, _, hD8, ?_⟩
      clear hD8
      rw [if_neg (show ¬ ((1 : Int) = 0) by first | omega | (simp [upS]; done) | (simp [upS]; omega))]
      refine ⟨(show 0 ≤ a1 ∧ a1 < 4 by first | omega | (simp [upS]; done) | (simp [upS]; omega)), ?_⟩
      rw [show (σ 684 (a1).toNat) = (σ 684 ((a1).toNat)) by (first | omega | (simp [upS]; done) | (simp [upS]; omega))]
      have hD9 : Dd 246 [(.inl a2), (.inl (σ 684 ((a1).toNat)))] σ (.inl (some (.inl 0)), σ) := by
        refine b246 ?_
        try rw [if_pos (show (0 : Int) ≤ a2 by first | omega | (simp [upS]; done) | (simp [upS]; omega))]
        try rw [if_neg (show ¬ (a2 < (σ 684 ((a1).toNat))) by first | omega | (simp [upS]; done) | (simp [upS]; omega))]
        all_goals rfl
      refine ⟨_, _, hD9, ?_⟩
      clear hD9
      rw [if_pos (show (0 : Int) = 0 by first | omega | (simp [upS]; done) | (simp [upS]; omega))]
      refine b257_25 ?_
      refine b257_26 ?_
      have hD10 : Dd 245 [(.inr (.inr (some 682))), (.inl 1)] σ (.inl (some (.inl 0)), (upS σ 682 0 1)) := by
        refine b245 ?_
        try rw [if_neg (show ¬ ((1 : Int) = 0) by first | omega | (simp [upS]; done) | (simp [upS]; omega))]
        all_goals rfl
      refine ⟨_, _, hD10, ?_⟩
      clear hD10
      refine ⟨(show 0 = 0 ∨ 0 = 1 by first | omega | (simp [upS]; done) | (simp [upS]; omega)), ?_⟩
      all_goals rfl
    refine ⟨_, _, hD11, ?_⟩
    clear hD11
    rw [if_pos (show (0 : Int) = 0 by first | omega | (simp [upS]; done) | (simp [upS]; omega))]
    all_goals rfl
  exact op_x H (by decide) hA hB
theorem x2_0 {σ : Sg} {c : Int} {a1 : Int} {a2 : Int} (H : Rel c σ) (h0 : a1 < 0) : OpR 392 259 [(.inr (.inr (some 0))), (.inl a1), (.inl a2), (.inr (.inr (some 726)))] [(.inr (.inr (some 682))), (.inl a1), (.inl a2)] σ (c + 1) := by
  obtain ⟨r1, r2, r3, r4, r5⟩ := rel_n H
  have hA : Dd 392 [(.inr (.inr (some 0))), (.inl a1), (.inl a2), (.inr (.inr (some 726)))] σ (.inl (some (.inl 1)), σ) := by
    refine b392 ?_
    have hD4 : Dd 174 [(.inr (.inr (some 0))), (.inl a1), (.inl a2)] σ (.inr 0, σ) := by
      refine b174 ?_
      have hD3 : Dd 227 [(.inr (.inr (some 0))), (.inl a1)] σ (.inr 0, σ) := by
        refine b227 ?_
        have hD1 : Dd 145 [(.inr (.inr (some 1))), (.inl a1)] σ (.inl (some (.inr (.inr none))), σ) := by
          refine b145 ?_
          rw [if_neg (show ¬ ((0 : Int) ≤ a1) by first | omega | (simp [upS]; done) | (simp [upS]; omega))]
          all_goals rfl
        refine ⟨_, _, hD1, ?_⟩
        clear hD1
        refine ⟨fun _ => ?_, fun _ hz2 => (by cases hz2)⟩
        all_goals rfl
      refine Or.inr ⟨_, _, hD3, ?_⟩
      all_goals rfl
    exact Or.inr (⟨_, hD4, rfl⟩)
  have hB : Dd 259 [(.inr (.inr (some 682))), (.inl a1), (.inl a2)] σ (.inl (some (.inl 0)), (upS σ 682 0 1)) := by
    refine b259 ?_
    have hD6 : Dd 247 [(.inl a1)] σ (.inl (some (.inl 0)), σ) := by
      refine b247 ?_
      have hD5 : Dd 246 [(.inl a1), (.inl 4)] σ (.inl (some (.inl 0)), σ) := by
        refine b246 ?_
        try rw [if_neg (show ¬ ((0 : Int) ≤ a1) by first | omega | (simp [upS]; done) | (simp [upS]; omega))]
        all_goals rfl
      refine ⟨_, _, hD5, ?_⟩
      clear hD5
      refine ⟨(show 0 = 0 ∨ 0 = 1 by first | omega | (simp [upS]; done) | (simp [upS]; omega)), ?_⟩
      all_goals rfl
    refine ⟨_, _, hD6, ?_⟩
    clear hD6
    rw [if_pos (show (0 : Int) = 0 by first | omega | (simp [upS]; done) | (simp [upS]; omega))]
    refine b259_19 ?_
    refine b259_20 ?_
    have hD7 : Dd 245 [(.inr (.inr (some 682))), (.inl 1)] σ (.inl (some (.inl 0)), (upS σ 682 0 1)) := by
      refine b245 ?_
      try rw [if_neg (show ¬ ((1 : Int) = 0) by first | omega | (simp [upS]; done) | (simp [upS]; omega))]
      all_goals rfl
    refine ⟨_, _, hD7, ?_⟩
    clear hD7
    rw [if_pos (show (0 : Int) = 0 by first | omega | (simp [upS]; done) | (simp [upS]; omega))]
    all_goals rfl
  exact op_x H (by decide) hA hB
theorem x2_1 {σ : Sg} {c : Int} {a1 : Int} {a2 : Int} (H : Rel c σ) (h0 : 4 ≤ a1) : OpR 392 259 [(.inr (.inr (some 0))), (.inl a1), (.inl a2), (.inr (.inr (some 726)))] [(.inr (.inr (some 682))), (.inl a1), (.inl a2)] σ (c + 1) := by
  obtain ⟨r1, r2, r3, r4, r5⟩ := rel_n H
  have hA : Dd 392 [(.inr (.inr (some 0))), (.inl a1), (.inl a2), (.inr (.inr (some 726)))] σ (.inl (some (.inl 1)), σ) := by
    refine b392 ?_
    have hD4 : Dd 174 [(.inr (.inr (some 0))), (.inl a1), (.inl a2)] σ (.inr 0, σ) := by
      refine b174 ?_
      have hD3 : Dd 227 [(.inr (.inr (some 0))), (.inl a1)] σ (.inr 0, σ) := by
        refine b227 ?_
        have hD1 : Dd 145 [(.inr (.inr (some 1))), (.inl a1)] σ (.inl (some (.inr (.inr none))), σ) := by
          refine b145 ?_
          rw [if_pos (show (0 : Int) ≤ a1 by first | omega | (simp [upS]; done) | (simp [upS]; omega))]
          refine ⟨4, (by decide +kernel), (by decide), ?_⟩
          rw [if_neg (show ¬ (a1 < ((4 : Nat) : Int)) by first | omega | (simp [upS]; done) | (simp [upS]; omega))]
          all_goals rfl
        refine ⟨_, _, hD1, ?_⟩
        clear hD1
        refine ⟨fun _ => ?_, fun _ hz2 => (by cases hz2)⟩
        all_goals rfl
      refine Or.inr ⟨_, _, hD3, ?_⟩
      all_goals rfl
    exact Or.inr (⟨_, hD4, rfl⟩)
  have hB : Dd 259 [(.inr (.inr (some 682))), (.inl a1), (.inl a2)] σ (.inl (some (.inl 0)), (upS σ 682 0 1)) := by
    refine b259 ?_
    have hD6 : Dd 247 [(.inl a1)] σ (.inl (some (.inl 0)), σ) := by
      refine b247 ?_
      have hD5 : Dd 246 [(.inl a1), (.inl 4)] σ (.inl (some (.inl 0)), σ) := by
        refine b246 ?_
        try rw [if_pos (show (0 : Int) ≤ a1 by first | omega | (simp [upS]; done) | (simp [upS]; omega))]
        try rw [if_neg (show ¬ (a1 < 4) by first | omega | (simp [upS]; done) | (simp [upS]; omega))]
        all_goals rfl
      refine ⟨_, _, hD5, ?_⟩
      clear hD5
      refine ⟨(show 0 = 0 ∨ 0 = 1 by first | omega | (simp [upS]; done) | (simp [upS]; omega)), ?_⟩
      all_goals rfl
    refine ⟨_, _, hD6, ?_⟩
    clear hD6
    rw [if_pos (show (0 : Int) = 0 by first | omega | (simp [upS]; done) | (simp [upS]; omega))]
    refine b259_19 ?_
    refine b259_20 ?_
    have hD7 : Dd 245 [(.inr (.inr (some 682))), (.inl 1)] σ (.inl (some (.inl 0)), (upS σ 682 0 1)) := by
      refine b245 ?_
      try rw [if_neg (show ¬ ((1 : Int) = 0) by first | omega | (simp [upS]; done) | (simp [upS]; omega))]
      all_goals rfl
    refine ⟨_, _, hD7, ?_⟩
    clear hD7
    rw [if_pos (show (0 : Int) = 0 by first | omega | (simp [upS]; done) | (simp [upS]; omega))]
    all_goals rfl
  exact op_x H (by decide) hA hB
theorem x2_2 {σ : Sg} {c : Int} {a1 : Int} {a2 : Int} (H : Rel c σ) (h0 : 0 ≤ a1 ∧ a1 < 4) (h1 : a2 < 0) : OpR 392 259 [(.inr (.inr (some 0))), (.inl a1), (.inl a2), (.inr (.inr (some 726)))] [(.inr (.inr (some 682))), (.inl a1), (.inl a2)] σ (c + 1) := by
  obtain ⟨r1, r2, r3, r4, r5⟩ := rel_n H
  have t0 := rel_t H h0
  have hA : Dd 392 [(.inr (.inr (some 0))), (.inl a1), (.inl a2), (.inr (.inr (some 726)))] σ (.inl (some (.inl 1)), σ) := by
    refine b392 ?_
    have hD7 : Dd 174 [(.inr (.inr (some 0))), (.inl a1), (.inl a2)] σ (.inr 0, σ) := by
      refine b174 ?_
      have hD3 : Dd 227 [(.inr (.inr (some 0))), (.inl a1)] σ (.inl (some (.inr (.inr (some (2 + 2 * ((a1)).toNat))))), σ) := by
        refine b227 ?_
        have hD1 : Dd 145 [(.inr (.inr (some 1))), (.inl a1)] σ (.inl (some (.inr (.inr (some (2 + 2 * ((a1)).toNat))))), σ) := by
          refine b145 ?_
          rw [if_pos (show (0 : Int) ≤ a1 by first | omega | (simp [upS]; done) | (simp [upS]; omega))]
          refine ⟨4, (by decide +kernel), (by decide), ?_⟩
          rw [if_pos (show a1 < ((4 : Nat) : Int) by first | omega | (simp [upS]; done) | (simp [upS]; omega))]
          refine ⟨(show 0 ≤ a1 by first | omega | (simp [upS]; done) | (simp [upS]; omega)), ?_⟩
          refine ⟨(2 + 2 * ((a1)).toNat), (el_1 (i := (a1)) (by first | omega | (simp [upS]; done) | (simp [upS]; omega))).1, (el_1 (i := (a1)) (by first | omega | (simp [upS]; done) | (simp [upS]; omega))).2, ?_⟩
          all_goals rfl
        refine ⟨_, _, hD1, ?_⟩
        clear hD1
        refine ⟨fun hz2 => (by cases hz2), fun _ hz2 => ?_⟩
        cases hz2
        refine ⟨(el_1 (i := (a1)) (by first | omega | (simp [upS]; done) | (simp [upS]; omega))).2, ?_⟩
        all_goals rfl
      refine Or.inl ⟨_, _, hD3, (el_1 (i := (a1)) (by first | omega | (simp [upS]; done) | (simp [upS]; omega))).2, ?_⟩
      clear hD3
      have hD6 : Dd 227 [(.inr (.inr (some 0))), (.inl a2)] σ (.inr 0, σ) := by
        refine b227 ?_
        have hD4 : Dd 145 [(.inr (.inr (some 1))), (.inl a2)] σ (.inl (some (.inr (.inr none))), σ) := by
          refine b145 ?_
          rw [if_neg (show ¬ ((0 : Int) ≤ a2) by first | omega | (simp [upS]; done) | (simp [upS]; omega))]
          all_goals rfl
        refine ⟨_, _, hD4, ?_⟩
        clear hD4
        refine ⟨fun _ => ?_, fun _ hz5 => (by cases hz5)⟩
        all_goals rfl
      refine Or.inr ⟨_, _, hD6, ?_⟩
      all_goals rfl
    exact Or.inr (⟨_, hD7, rfl⟩)
  have hB : Dd 259 [(.inr (.inr (some 682))), (.inl a1), (.inl a2)] σ (.inl (some (.inl 0)), (upS σ 682 0 1)) := by
    refine b259 ?_
    have hD9 : Dd 247 [(.inl a1)] σ (.inl (some (.inl 1)), σ) := by
      refine b247 ?_
      have hD8 : Dd 246 [(.inl a1), (.inl 4)] σ (.inl (some (.inl 1)), σ) := by
        refine b246 ?_
        try rw [if_pos (show (0 : Int) ≤ a1 by first | omega | (simp [upS]; done) | (simp [upS]; omega))]
        try rw [if_pos (show a1 < 4 by first | omega | (simp [upS]; done) | (simp [upS]; omega))]
        all_goals rfl
      refine ⟨_, _, hD8, ?_⟩
      clear hD8
      refine ⟨(show 1 = 0 ∨ 1 = 1 by first | omega | (simp [upS]; done) | (simp [upS]; omega)), ?_⟩
      all_goals rfl
    refine ⟨_, _, hD9, ?_⟩
    clear hD9
    rw [if_neg (show ¬ ((1 : Int) = 0) by first | omega | (simp [upS]; done) | (simp [upS]; omega))]
    have hD11 : Dd 247 [(.inl a2)] σ (.inl (some (.inl 0)), σ) := by
      refine b247 ?_
      have hD10 : Dd 246 [(.inl a2), (.inl 4)] σ (.inl (some (.inl 0)), σ) := by
        refine b246 ?_
        try rw [if_neg (show ¬ ((0 : Int) ≤ a2) by first | omega | (simp [upS]; done) | (simp [upS]; omega))]
        all_goals rfl
      refine ⟨_, _, hD10, ?_⟩
      clear hD10
      refine ⟨(show 0 = 0 ∨ 0 = 1 by first | omega | (simp [upS]; done) | (simp [upS]; omega)), ?_⟩
      all_goals rfl
    refine ⟨_, _, hD11, ?_⟩
    clear hD11
    rw [if_pos (show (0 : Int) = 0 by first | omega | (simp [upS]; done) | (simp [upS]; omega))]
    refine b259_19 ?_
    refine b259_20 ?_
    have hD12 : Dd 245 [(.inr (.inr (some 682))), (.inl 1)] σ (.inl (some (.inl 0)), (upS σ 682 0 1)) := by
      refine b245 ?_
      try rw [if_neg (show ¬ ((1 : Int) = 0) by first | omega | (simp [upS]; done) | (simp [upS]; omega))]
      all_goals rfl
    refine ⟨_, _, hD12, ?_⟩
    clear hD12
    rw [if_pos (show (0 : Int) = 0 by first | omega | (simp [upS]; done) | (simp [upS]; omega))]
    all_goals rfl
  exact op_x H (by decide) hA hB
theorem x2_3 {σ : Sg} {c : Int} {a1 : Int} {a2 : Int} (H : Rel c σ) (h0 : 0 ≤ a1 ∧ a1 < 4) (h1 : 4 ≤ a2) : OpR 392 259 [(.inr (.inr (some 0))), (.inl a1), (.inl a2), (.inr (.inr (some 726)))] [(.inr (.inr (some 682))), (.inl a1), (.inl a2)] σ (c + 1) := by
  obtain ⟨r1, r2, r3, r4, r5⟩ := rel_n H
  have t0 := rel_t H h0
  have hA : Dd 392 [(.inr (.inr (some 0))), (.inl a1), (.inl a2), (.inr (.inr (some 726)))] σ (.inl (some (.inl 1)), σ) := by
    refine b392 ?_
    have hD7 : Dd 174 [(.inr (.inr (some 0))), (.inl a1), (.inl a2)] σ (.inr 0, σ) := by
      refine b174 ?_
      have hD3 : Dd 227 [(.inr (.inr (some 0))), (.inl a1)] σ (.inl (some (.inr (.inr (some (2 + 2 * ((a1)).toNat))))), σ) := by
        refine b227 ?_
        have hD1 : Dd 145 [(.inr (.inr (some 1))), (.inl a1)] σ (.inl (some (.inr (.inr (some (2 + 2 * ((a1)).toNat))))), σ) := by
          refine b145 ?_
          rw [if_pos (show (0 : Int) ≤ a1 by first | omega | (simp [upS]; done) | (simp [upS]; omega))]
          refine ⟨4, (by decide +kernel), (by decide), ?_⟩
          rw [if_pos (show a1 < ((4 : Nat) : Int) by first | omega | (simp [upS]; done) | (simp [upS]; omega))]
          refine ⟨(show 0 ≤ a1 by first | omega | (simp [upS]; done) | (simp [upS]; omega)), ?_⟩
          refine ⟨(2 + 2 * ((a1)).toNat), (el_1 (i := (a1)) (by first | omega | (simp [upS]; done) | (simp [upS]; omega))).1, (el_1 (i := (a1)) (by first | omega | (simp [upS]; done) | (simp [upS]; omega))).2, ?_⟩
          all_goals rfl
        refine ⟨_, _, hD1, ?_⟩
        clear hD1
        refine ⟨fun hz2 => (by cases hz2), fun _ hz2 => ?_⟩
        cases hz2
        refine ⟨(el_1 (i := (a1)) (by first | omega | (simp [upS]; done) | (simp [upS]; omega))).2, ?_⟩
        all_goals rfl
      refine Or.inl ⟨_, _, hD3, (el_1 (i := (a1)) (by first | omega | (simp [upS]; done) | (simp [upS]; omega))).2, ?_⟩
      clear hD3
      have hD6 : Dd 227 [(.inr (.inr (some 0))), (.inl a2)] σ (.inr 0, σ) := by
        refine b227 ?_
        have hD4 : Dd 145 [(.inr (.inr (some 1))), (.inl a2)] σ (.inl (some (.inr (.inr none))), σ) := by
          refine b145 ?_
          rw [if_pos (show (0 : Int) ≤ a2 by first | omega | (simp [upS]; done) | (simp [upS]; omega))]
          refine ⟨4, (by decide +kernel), (by decide), ?_⟩
          rw [if_neg (show ¬ (a2 < ((4 : Nat) : Int)) by first | omega | (simp [upS]; done) | (simp [upS]; omega))]
          all_goals rfl
        refine ⟨_, _, hD4, ?_⟩
        clear hD4
        refine ⟨fun _ => ?_, fun _ hz5 => (by cases hz5)⟩
        all_goals rfl
      refine Or.inr ⟨_, _, hD6, ?_⟩
      all_goals rfl
    exact Or.inr (⟨_, hD7, rfl⟩)
  have hB : Dd 259 [(.inr (.inr (some 682))), (.inl a1), (.inl a2)] σ (.inl (some (.inl 0)), (upS σ 682 0 1)) := by
    refine b259 ?_
    have hD9 : Dd 247 [(.inl a1)] σ (.inl (some (.inl 1)), σ) := by
      refine b247 ?_
      have hD8 : Dd 246 [(.inl a1), (.inl 4)] σ (.inl (some (.inl 1)), σ) := by
        refine b246 ?_
        try rw [if_pos (show (0 : Int) ≤ a1 by first | omega | (simp [upS]; done) | (simp [upS]; omega))]
        try rw [if_pos (show a1 < 4 by first | omega | (simp [upS]; done) | (simp [upS]; omega))]
        all_goals rfl
      refine ⟨_, _, hD8, ?_⟩
      clear hD8
      refine ⟨(show 1 = 0 ∨ 1 = 1 by first | omega | (simp [upS]; done) | (simp [upS]; omega)), ?_⟩
      all_goals rfl
    refine ⟨_, _, hD9, ?_⟩
    clear hD9
    rw [if_neg (show ¬ ((1 : Int) = 0) by first | omega | (simp [upS]; done) | (simp [upS]; omega))]
    have hD11 : Dd 247 [(.inl a2)] σ (.inl (some (.inl 0)), σ) := by
      refine b247 ?_
      have hD10 : Dd 246 [(.inl a2), (.inl 4)] σ (.inl (some (.inl 0)), σ) := by
        refine b246 ?_
        try rw [if_pos (show (0 : Int) ≤ a2 by first | omega | (simp [upS]; done) | (simp [upS]; omega))]
        try rw [if_neg (show ¬ (a2 < 4) by first | omega | (simp [upS]; done) | (simp [upS]; omega))]
        all_goals rfl
      refine ⟨_, _, hD10, ?_⟩
      clear hD10
      refine ⟨(show 0 = 0 ∨ 0 = 1 by first | omega | (simp [upS]; done) | (simp [upS]; omega)), ?_⟩
      all_goals rfl
    refine ⟨_, _, hD11, ?_⟩
    clear hD11
    rw [if_pos (show (0 : Int) = 0 by first | omega | (simp [upS]; done) | (simp [upS]; omega))]
    refine b259_19 ?_
    refine b259_20 ?_
    have hD12 : Dd 245 [(.inr (.inr (some 682))), (.inl 1)] σ (.inl (some (.inl 0)), (upS σ 682 0 1)) := by
      refine b245 ?_
      try rw [if_neg (show ¬ ((1 : Int) = 0) by first | omega | (simp [upS]; done) | (simp [upS]; omega))]
      all_goals rfl
    refine ⟨_, _, hD12, ?_⟩
    clear hD12
    rw [if_pos (show (0 : Int) = 0 by first | omega | (simp [upS]; done) | (simp [upS]; omega))]
    all_goals rfl
  exact op_x H (by decide) hA hB
theorem x3_0 {σ : Sg} {c : Int} {a1 : Int} (H : Rel c σ) (h0 : a1 < 0) : OpR 393 260 [(.inr (.inr (some 0))), (.inl a1), (.inr (.inr (some 726)))] [(.inr (.inr (some 682))), (.inl a1)] σ (c + 1) := by
  obtain ⟨r1, r2, r3, r4, r5⟩ := rel_n H
  have hA : Dd 393 [(.inr (.inr (some 0))), (.inl a1), (.inr (.inr (some 726)))] σ (.inl (some (.inl 1)), σ) := by
    refine b393 ?_
    have hD4 : Dd 175 [(.inr (.inr (some 0))), (.inl a1)] σ (.inr 0, σ) := by
      refine b175 ?_
      have hD3 : Dd 227 [(.inr (.inr (some 0))), (.inl a1)] σ (.inr 0, σ) := by
        refine b227 ?_
        have hD1 : Dd 145 [(.inr (.inr (some 1))), (.inl a1)] σ (.inl (some (.inr (.inr none))), σ) := by
          refine b145 ?_
          rw [if_neg (show ¬ ((0 : Int) ≤ a1) by first | omega | (simp [upS]; done) | (simp [upS]; omega))]
          all_goals rfl
        refine ⟨_, _, hD1, ?_⟩
        clear hD1
        refine ⟨fun _ => ?_, fun _ hz2 => (by cases hz2)⟩
        all_goals rfl
      refine Or.inr ⟨_, _, hD3, ?_⟩
      all_goals rfl
    exact Or.inr (⟨_, hD4, rfl⟩)
  have hB : Dd 260 [(.inr (.inr (some 682))), (.inl a1)] σ (.inl (some (.inl 0)), (upS σ 682 0 1)) := by
    refine b260 ?_
    have hD6 : Dd 247 [(.inl a1)] σ (.inl (some (.inl 0)), σ) := by
      refine b247 ?_
      have hD5 : Dd 246 [(.inl a1), (.inl 4)] σ (.inl (some (.inl 0)), σ) := by
        refine b246 ?_
        try rw [if_neg (show ¬ ((0 : Int) ≤ a1) by first | omega | (simp [upS]; done) | (simp [upS]; omega))]
        all_goals rfl
      refine ⟨_, _, hD5, ?_⟩
      clear hD5
      refine ⟨(show 0 = 0 ∨ 0 = 1 by first | omega | (simp [upS]; done) | (simp [upS]; omega)), ?_⟩
      all_goals rfl
    refine ⟨_, _, hD6, ?_⟩
    clear hD6
    try rw [if_pos (show (0 : Int) = 0 by first | omega | (simp [upS]; done) | (simp [upS]; omega))]
    refine b260_13 ?_
    have hD7 : Dd 245 [(.inr (.inr (some 682))), (.inl 1)] σ (.inl (some (.inl 0)), (upS σ 682 0 1)) := by
      refine b245 ?_
      try rw [if_neg (show ¬ ((1 : Int) = 0) by first | omega | (simp [upS]; done) | (simp [upS]; omega))]
      all_goals rfl
    refine ⟨_, _, hD7, ?_⟩
    clear hD7
    refine ⟨(show ¬ (0 = 0) → 0 ≤ a1 ∧ a1 < 4 by (first | (intros; first | omega | (simp [upS]; done) | (simp [upS]; omega)) | (intros; simp_all [upS]; done) | (intros; simp_all [upS]; omega))), ?_⟩
    try rw [if_pos (show (0 : Int) = 0 by first | omega | (simp [upS]; done) | (simp [upS]; omega))]
    all_goals rfl
  exact op_x H (by decide) hA hB
theorem x3_1 {σ : Sg} {c : Int} {a1 : Int} (H : Rel c σ) (h0 : 4 ≤ a1) : OpR 393 260 [(.inr (.inr (some 0))), (.inl a1), (.inr (.inr (some 726)))] [(.inr (.inr (some 682))), (.inl a1)] σ (c + 1) := by
  obtain ⟨r1, r2, r3, r4, r5⟩ := rel_n H
  have hA : Dd 393 [(.inr (.inr (some 0))), (.inl a1), (.inr (.inr (some 726)))] σ (.inl (some (.inl 1)), σ) := by
    refine b393 ?_
    have hD4 : Dd 175 [(.inr (.inr (some 0))), (.inl a1)] σ (.inr 0, σ) := by
      refine b175 ?_
      have hD3 : Dd 227 [(.inr (.inr (some 0))), (.inl a1)] σ (.inr 0, σ) := by
        refine b227 ?_
        have hD1 : Dd 145 [(.inr (.inr (some 1))), (.inl a1)] σ (.inl (some (.inr (.inr none))), σ) := by
          refine b145 ?_
          rw [if_pos (show (0 : Int) ≤ a1 by first | omega | (simp [upS]; done) | (simp [upS]; omega))]
          refine ⟨4, (by decide +kernel), (by decide), ?_⟩
          rw [if_neg (show ¬ (a1 < ((4 : Nat) : Int)) by first | omega | (simp [upS]; done) | (simp [upS]; omega))]
          all_goals rfl
        refine ⟨_, _, hD1, ?_⟩
        clear hD1
        refine ⟨fun _ => ?_, fun _ hz2 => (by cases hz2)⟩
        all_goals rfl
      refine Or.inr ⟨_, _, hD3, ?_⟩
      all_goals rfl
    exact Or.inr (⟨_, hD4, rfl⟩)
  have hB : Dd 260 [(.inr (.inr (some 682))), (.inl a1)] σ (.inl (some (.inl 0)), (upS σ 682 0 1)) := by
    refine b260 ?_
    have hD6 : Dd 247 [(.inl a1)] σ (.inl (some (.inl 0)), σ) := by
      refine b247 ?_
      have hD5 : Dd 246 [(.inl a1), (.inl 4)] σ (.inl (some (.inl 0)), σ) := by
        refine b246 ?_
        try rw [if_pos (show (0 : Int) ≤ a1 by first | omega | (simp [upS]; done) | (simp [upS]; omega))]
        try rw [if_neg (show ¬ (a1 < 4) by first | omega | (simp [upS]; done) | (simp [upS]; omega))]
        all_goals rfl
      refine ⟨_, _, hD5, ?_⟩
      clear hD5
      refine ⟨(show 0 = 0 ∨ 0 = 1 by first | omega | (simp [upS]; done) | (simp [upS]; omega)), ?_⟩
      all_goals rfl
    refine ⟨_, _, hD6, ?_⟩
    clear hD6
    try rw [if_pos (show (0 : Int) = 0 by first | omega | (simp [upS]; done) | (simp [upS]; omega))]
    refine b260_13 ?_
    have hD7 : Dd 245 [(.inr (.inr (some 682))), (.inl 1)] σ (.inl (some (.inl 0)), (upS σ 682 0 1)) := by
      refine b245 ?_
      try rw [if_neg (show ¬ ((1 : Int) = 0) by first | omega | (simp [upS]; done) | (simp [upS]; omega))]
      all_goals rfl
    refine ⟨_, _, hD7, ?_⟩
    clear hD7
    refine ⟨(show ¬ (0 = 0) → 0 ≤ a1 ∧ a1 < 4 by (first | (intros; first | omega | (simp [upS]; done) | (simp [upS]; omega)) | (intros; simp_all [upS]; done) | (intros; simp_all [upS]; omega))), ?_⟩
    try rw [if_pos (show (0 : Int) = 0 by first | omega | (simp [upS]; done) | (simp [upS]; omega))]
    all_goals rfl
  exact op_x H (by decide) hA hB
theorem x4_0 {σ : Sg} {c : Int} {a1 : Int} {a2 : Int} (H : Rel c σ) (h0 : a1 < 0) : OpR 394 261 [(.inr (.inr (some 0))), (.inl a1), (.inl a2), (.inr (.inr (some 726)))] [(.inr (.inr (some 682))), (.inl a1), (.inl a2)] σ (c + 1) := by
  obtain ⟨r1, r2, r3, r4, r5⟩ := rel_n H
  have hA : Dd 394 [(.inr (.inr (some 0))), (.inl a1), (.inl a2), (.inr (.inr (some 726)))] σ (.inl (some (.inl 1)), σ) := by
    refine b394 ?_
    have hD4 : Dd 176 [(.inr (.inr (some 0))), (.inl a1), (.inl a2)] σ (.inr 0, σ) := by
      refine b176 ?_
      have hD3 : Dd 227 [(.inr (.inr (some 0))), (.inl a1)] σ (.inr 0, σ) := by
        refine b227 ?_
        have hD1 : Dd 145 [(.inr (.inr (some 1))), (.inl a1)] σ (.inl (some (.inr (.inr none))), σ) := by
          refine b145 ?_
          rw [if_neg (show ¬ ((0 : Int) ≤ a1) by first | omega | (simp [upS]; done) | (simp [upS]; omega))]
          all_goals rfl
        refine ⟨_, _, hD1, ?_⟩
        clear hD1
        refine ⟨fun _ => ?_, fun _ hz2 => (by cases hz2)⟩
        all_goals rfl
      refine Or.inr ⟨_, _, hD3, ?_⟩
      all_goals rfl
    exact Or.inr (⟨_, hD4, rfl⟩)
  have hB : Dd 261 [(.inr (.inr (some 682))), (.inl a1), (.inl a2)] σ (.inl (some (.inl 0)), (upS σ 682 0 1)) := by
    refine b261 ?_
    have hD8 : Dd 257 [(.inr (.inr (some 682))), (.inl a1), (.inl a2)] σ (.inl (some (.inl 0)), (upS σ 682 0 1)) := by
      refine b257 ?_
      have hD6 : Dd 247 [(.inl a1)] σ (.inl (some (.inl 0)), σ) := by
        refine b247 ?_
        have hD5 : Dd 246 [(.inl a1), (.inl 4)] σ (.inl (some (.inl 0)), σ) := by
          refine b246 ?_
          try rw [if_neg (show ¬ ((0 : Int) ≤ a1) by first | omega | (simp [upS]; done) | (simp [upS]; omega))]
          all_goals rfl
        refine ⟨_, _, hD5, ?_⟩
        clear hD5
        refine ⟨(show 0 = 0 ∨ 0 = 1 by first | omega | (simp [upS]; done) | (simp [upS]; omega)), ?_⟩
        all_goals rfl
      refine ⟨_, _, hD6, ?_⟩
      clear hD6
      rw [if_pos (show (0 : Int) = 0 by first | omega | (simp [upS]; done) | (simp [upS]; omega))]
      refine b257_25 ?_
      refine b257_26 ?_
      have hD7 : Dd 245 [(.inr (.inr (some 682))), (.inl 1)] σ (.inl (some (.inl 0)), (upS σ 682 0 1)) := by
        refine b245 ?_
        try rw [if_neg (show ¬ ((1 : Int) = 0) by first | omega | (simp [upS]; done) | (simp [upS]; omega))]
        all_goals rfl
      refine ⟨_, _, hD7, ?_⟩
      clear hD7
      refine ⟨(show 0 = 0 ∨ 0 = 1 by first | omega | (simp [upS]; done) | (simp [upS]; omega)), ?_⟩
      all_goals rfl
    refine ⟨_, _, hD8, ?_⟩
    clear hD8
    refine ⟨(show ¬ (0 = 0) → -2147483648 ≤ (16 * a1) ∧ (16 * a1) ≤ 2147483647 by (first | (intros; first | omega | (simp [upS]; done) | (simp [upS]; omega)) | (intros; simp_all [upS]; done) | (intros; simp_all [upS]; omega))), ?_⟩
    refine ⟨(show ¬ (0 = 0) → -2147483648 ≤ ((16 * a1) + a2) ∧ ((16 * a1) + a2) ≤ 2147483647 by (first | (intros; first | omega | (simp [upS]; done) | (simp [upS]; omega)) | (intros; simp_all [upS]; done) | (intros; simp_all [upS]; omega))), ?_⟩
    refine ⟨(show ¬ (0 = 0) → 0 ≤ ((16 * a1) + a2) ∧ ((16 * a1) + a2) < 64 by (first | (intros; first | omega | (simp [upS]; done) | (simp [upS]; omega)) | (intros; simp_all [upS]; done) | (intros; simp_all [upS]; omega))), ?_⟩
    try rw [if_pos (show (0 : Int) = 0 by first | omega | (simp [upS]; done) | (simp [upS]; omega))]
    all_goals rfl
  exact op_x H (by decide) hA hB
theorem x4_1 {σ : Sg} {c : Int} {a1 : Int} {a2 : Int} (H : Rel c σ) (h0 : 4 ≤ a1) : OpR 394 261 [(.inr (.inr (some 0))), (.inl a1), (.inl a2), (.inr (.inr (some 726)))] [(.inr (.inr (some 682))), (.inl a1), (.inl a2)] σ (c + 1) := by
  obtain ⟨r1, r2, r3, r4, r5⟩ := rel_n H
  have hA : Dd 394 [(.inr (.inr (some 0))), (.inl a1), (.inl a2), (.inr (.inr (some 726)))] σ (.inl (some (.inl 1)), σ) := by
    refine b394 ?_
    have hD4 : Dd 176 [(.inr (.inr (some 0))), (.inl a1), (.inl a2)] σ (.inr 0, σ) := by
      refine b176 ?_
      have hD3 : Dd 227 [(.inr (.inr (some 0))), (.inl a1)] σ (.inr 0, σ) := by
        refine b227 ?_
        have hD1 : Dd 145 [(.inr (.inr (some 1))), (.inl a1)] σ (.inl (some (.inr (.inr none))), σ) := by
          refine b145 ?_
          rw [if_pos (show (0 : Int) ≤ a1 by first | omega | (simp [upS]; done) | (simp [upS]; omega))]
          refine ⟨4, (by decide +kernel), (by decide), ?_⟩
          rw [if_neg (show ¬ (a1 < ((4 : Nat) : Int)) by first | omega | (simp [upS]; done) | (simp [upS]; omega))]
          all_goals rfl
        refine ⟨_, _, hD1, ?_⟩
        clear hD1
        refine ⟨fun _ => ?_, fun _ hz2 => (by cases hz2)⟩
        all_goals rfl
      refine Or.inr ⟨_, _, hD3, ?_⟩
      all_goals rfl
    exact Or.inr (⟨_, hD4, rfl⟩)
  have hB : Dd 261 [(.inr (.inr (some 682))), (.inl a1), (.inl a2)] σ (.inl (some (.inl 0)), (upS σ 682 0 1)) := by
    refine b261 ?_
    have hD8 : Dd 257 [(.inr (.inr (some 682))), (.inl a1), (.inl a2)] σ (.inl (some (.inl 0)), (upS σ 682 0 1)) := by
      refine b257 ?_
      have hD6 : Dd 247 [(.inl a1)] σ (.inl (some (.inl 0)), σ) := by
        refine b247 ?_
        have hD5 : Dd 246 [(.inl a1), (.inl 4)] σ (.inl (some (.inl 0)), σ) := by
          refine b246 ?_
          try rw [if_pos (show (0 : Int) ≤ a1 by first | omega | (simp [upS]; done) | (simp [upS]; omega))]
          try rw [if_neg (show ¬ (a1 < 4) by first | omega | (simp [upS]; done) | (simp [upS]; omega))]
          all_goals rfl
        refine ⟨_, _, hD5, ?_⟩
        clear hD5
        refine ⟨(show 0 = 0 ∨ 0 = 1 by first | omega | (simp [upS]; done) | (simp [upS]; omega)), ?_⟩
        all_goals rfl
      refine ⟨_, _, hD6, ?_⟩
      clear hD6
      rw [if_pos (show (0 : Int) = 0 by first | omega | (simp [upS]; done) | (simp [upS]; omega))]
      refine b257_25 ?_
      refine b257_26 ?_
      have hD7 : Dd 245 [(.inr (.inr (some 682))), (.inl 1)] σ (.inl (some (.inl 0)), (upS σ 682 0 1)) := by
        refine b245 ?_
        try rw [if_neg (show ¬ ((1 : Int) = 0) by first | omega | (simp [upS]; done) | (simp [upS]; omega))]
        all_goals rfl
      refine ⟨_, _, hD7, ?_⟩
      clear hD7
      refine ⟨(show 0 = 0 ∨ 0 = 1 by first | omega | (simp [upS]; done) | (simp [upS]; omega)), ?_⟩
      all_goals rfl
    refine ⟨_, _, hD8, ?_⟩
    clear hD8
    refine ⟨(show ¬ (0 = 0) → -2147483648 ≤ (16 * a1) ∧ (16 * a1) ≤ 2147483647 by (first | (intros; first | omega | (simp [upS]; done) | (simp [upS]; omega)) | (intros; simp_all [upS]; done) | (intros; simp_all [upS]; omega))), ?_⟩
    refine ⟨(show ¬ (0 = 0) → -2147483648 ≤ ((16 * a1) + a2) ∧ ((16 * a1) + a2) ≤ 2147483647 by (first | (intros; first | omega | (simp [upS]; done) | (simp [upS]; omega)) | (intros; simp_all [upS]; done) | (intros; simp_all [upS]; omega))), ?_⟩
    refine ⟨(show ¬ (0 = 0) → 0 ≤ ((16 * a1) + a2) ∧ ((16 * a1) + a2) < 64 by (first | (intros; first | omega | (simp [upS]; done) | (simp [upS]; omega)) | (intros; simp_all [upS]; done) | (intros; simp_all [upS]; omega))), ?_⟩
    try rw [if_pos (show (0 : Int) = 0 by first | omega | (simp [upS]; done) | (simp [upS]; omega))]
    all_goals rfl
  exact op_x H (by decide) hA hB
theorem x4_2 {σ : Sg} {c : Int} {a1 : Int} {a2 : Int} (H : Rel c σ) (h0 : 0 ≤ a1 ∧ a1 < 4) (h1 : a2 < 0) : OpR 394 261 [(.inr (.inr (some 0))), (.inl a1), (.inl a2), (.inr (.inr (some 726)))] [(.inr (.inr (some 682))), (.inl a1), (.inl a2)] σ (c + 1) := by
  obtain ⟨r1, r2, r3, r4, r5⟩ := rel_n H
  have t0 := rel_t H h0
  have hA : Dd 394 [(.inr (.inr (some 0))), (.inl a1), (.inl a2), (.inr (.inr (some 726)))] σ (.inl (some (.inl 1)), σ) := by
    refine b394 ?_
    have hD6 : Dd 176 [(.inr (.inr (some 0))), (.inl a1), (.inl a2)] σ (.inr 0, σ) := by
      refine b176 ?_
      have hD3 : Dd 227 [(.inr (.inr (some 0))), (.inl a1)] σ (.inl (some (.inr (.inr (some (2 + 2 * ((a1)).toNat))))), σ) := by
        refine b227 ?_
        have hD1 : Dd 145 [(.inr (.inr (some 1))), (.inl a1)] σ (.inl (some (.inr (.inr (some (2 + 2 * ((a1)).toNat))))), σ) := by
          refine b145 ?_
          rw [if_pos (show (0 : Int) ≤ a1 by first | omega | (simp [upS]; done) | (simp [upS]; omega))]
          refine ⟨4, (by decide +kernel), (by decide), ?_⟩
          rw [if_pos (show a1 < ((4 : Nat) : Int) by first | omega | (simp [upS]; done) | (simp [upS]; omega))]
          refine ⟨(show 0 ≤ a1 by first | omega | (simp [upS]; done) | (simp [upS]; omega)), ?_⟩
          refine ⟨(2 + 2 * ((a1)).toNat), (el_1 (i := (a1)) (by first | omega | (simp [upS]; done) | (simp [upS]; omega))).1, (el_1 (i := (a1)) (by first | omega | (simp [upS]; done) | (simp [upS]; omega))).2, ?_⟩
          all_goals rfl
        refine ⟨_, _, hD1, ?_⟩
        clear hD1
        refine ⟨fun hz2 => (by cases hz2), fun _ hz2 => ?_⟩
        cases hz2
        refine ⟨(el_1 (i := (a1)) (by first | omega | (simp [upS]; done) | (simp [upS]; omega))).2, ?_⟩
        all_goals rfl
      refine Or.inl ⟨_, _, hD3, (el_1 (i := (a1)) (by first | omega | (simp [upS]; done) | (simp [upS]; omega))).2, ?_⟩
      clear hD3
      have hD4 : Dd 146 [(.inr (.inr (some (2 + 2 * ((a1)).toNat))))] σ (.inl (some (.inl (σ (2 + 2 * ((a1)).toNat) 1))), σ) := by
        refine b146 (el_1 (i := (a1)) (by first | omega | (simp [upS]; done) | (simp [upS]; omega))).2 ?_
        all_goals rfl
      refine ⟨_, _, hD4, ?_⟩
      clear hD4
      have hD5 : Dd 232 [(.inr (.inr (some 0))), (.inl a2), (.inl (σ (2 + 2 * ((a1)).toNat) 1))] σ (.inr 0, σ) := by
        refine b232 ?_
        rw [if_neg (show ¬ ((0 : Int) ≤ a2) by first | omega | (simp [upS]; done) | (simp [upS]; omega))]
        refine b232_9 ?_
        all_goals rfl
      refine Or.inr ⟨_, _, hD5, ?_⟩
      all_goals rfl
    exact Or.inr (⟨_, hD6, rfl⟩)
  have hB : Dd 261 [(.inr (.inr (some 682))), (.inl a1), (.inl a2)] σ (.inl (some (.inl 0)), (upS σ 682 0 1)) := by
    refine b261 ?_
    have hD11 : Dd 257 [(.inr (.inr (some 682))), (.inl a1), (.inl a2)] σ (.inl (some (.inl 0)), (upS σ 682 0 1)) := by
      refine b257 ?_
      have hD8 : Dd 247 [(.inl a1)] σ (.inl (some (.inl 1)), σ) := by
        refine b247 ?_
        have hD7 : Dd 246 [(.inl a1), (.inl 4)] σ (.inl (some (.inl 1)), σ) := by
          refine b246 ?_
          try rw [if_pos (show (0 : Int) ≤ a1 by first | omega | (simp [upS]; done) | (simp [upS]; omega))]
          try rw [if_pos (show a1 < 4 by first | omega | (simp [upS]; done) | (simp [upS]; omega))]
          all_goals rfl
        refine ⟨_, _, hD7, ?_⟩
        clear hD7
        refine ⟨(show 1 = 0 ∨ 1 = 1 by first | omega | (simp [upS]; done) | (simp [upS]; omega)), ?_⟩
        all_goals rfl
      refine ⟨_, _, hD8, ?_⟩
      clear hD8
      rw [if_neg (show ¬ ((1 : Int) = 0) by first | omega | (simp [upS]; done) | (simp [upS]; omega))]
      refine ⟨(show 0 ≤ a1 ∧ a1 < 4 by first | omega | (simp [upS]; done) | (simp [upS]; omega)), ?_⟩
      rw [show (σ 684 (a1).toNat) = (σ 684 ((a1).toNat)) by (first | omega | (simp [upS]; done) | (simp [upS]; omega))]
      have hD9 : Dd 246 [(.inl a2), (.inl (σ 684 ((a1).toNat)))] σ (.inl (some (.inl 0)), σ) := by
        refine b246 ?_
        try rw [if_neg (show ¬ ((0 : Int) ≤ a2) by first | omega | (simp [upS]; done) | (simp [upS]; omega))]
        all_goals rfl
      refine ⟨_, _, hD9, ?_⟩
      clear hD9
      rw [if_pos (show (0 : Int) = 0 by first | omega | (simp [upS]; done) | (simp [upS]; omega))]
      refine b257_25 ?_
      refine b257_26 ?_
      have hD10 : Dd 245 [(.inr (.inr (some 682))), (.inl 1)] σ (.inl (some (.inl 0)), (upS σ 682 0 1)) := by
        refine b245 ?_
        try rw [if_neg (show ¬ ((1 : Int) = 0) by first | omega | (simp [upS]; done) | (simp [upS]; omega))]
        all_goals rfl
      refine ⟨_, _, hD10, ?_⟩
      clear hD10
      refine ⟨(show 0 = 0 ∨ 0 = 1 by first | omega | (simp [upS]; done) | (simp [upS]; omega)), ?_⟩
      all_goals rfl
    refine ⟨_, _, hD11, ?_⟩
    clear hD11
    refine ⟨(show ¬ (0 = 0) → -2147483648 ≤ (16 * a1) ∧ (16 * a1) ≤ 2147483647 by (first | (intros; first | omega | (simp [upS]; done) | (simp [upS]; omega)) | (intros; simp_all [upS]; done) | (intros; simp_all [upS]; omega))), ?_⟩
    refine ⟨(show ¬ (0 = 0) → -2147483648 ≤ ((16 * a1) + a2) ∧ ((16 * a1) + a2) ≤ 2147483647 by (first | (intros; first | omega | (simp [upS]; done) | (simp [upS]; omega)) | (intros; simp_all [upS]; done) | (intros; simp_all [upS]; omega))), ?_⟩
    refine ⟨(show ¬ (0 = 0) → 0 ≤ ((16 * a1) + a2) ∧ ((16 * a1) + a2) < 64 by (first | (intros; first | omega | (simp [upS]; done) | (simp [upS]; omega)) | (intros; simp_all [upS]; done) | (intros; simp_all [upS]; omega))), ?_⟩
    try rw [if_pos (show (0 : Int) = 0 by first | omega | (simp [upS]; done) | (simp [upS]; omega))]
    all_goals rfl
  exact op_x H (by decide) hA hB
theorem x4_3 {σ : Sg} {c : Int} {a1 : Int} {a2 : Int} (H : Rel c σ) (h0 : 0 ≤ a1 ∧ a1 < 4) (h1 : σ (2 + 2 * ((a1)).toNat) 1 ≤ a2) : OpR 394 261 [(.inr (.inr (some 0))), (.inl a1), (.inl a2), (.inr (.inr (some 726)))] [(.inr (.inr (some 682))), (.inl a1), (.inl a2)] σ (c + 1) := by
  obtain ⟨r1, r2, r3, r4, r5⟩ := rel_n H
  have t0 := rel_t H h0
  have hA : Dd 394 [(.inr (.inr (some 0))), (.inl a1), (.inl a2), (.inr (.inr (some 726)))] σ (.inl (some (.inl 1)), σ) := by
    refine b394 ?_
    have hD6 : Dd 176 [(.inr (.inr (some 0))), (.inl a1), (.inl a2)] σ (.inr 0, σ) := by
      refine b176 ?_
      have hD3 : Dd 227 [(.inr (.inr (some 0))), (.inl a1)] σ (.inl (some (.inr (.inr (some (2 + 2 * ((a1)).toNat))))), σ) := by
        refine b227 ?_
        have hD1 : Dd 145 [(.inr (.inr (some 1))), (.inl a1)] σ (.inl (some (.inr (.inr (some (2 + 2 * ((a1)).toNat))))), σ) := by
          refine b145 ?_
          rw [if_pos (show (0 : Int) ≤ a1 by first | omega | (simp [upS]; done) | (simp [upS]; omega))]
          refine ⟨4, (by decide +kernel), (by decide), ?_⟩
          rw [if_pos (show a1 < ((4 : Nat) : Int) by first | omega | (simp [upS]; done) | (simp [upS]; omega))]
          refine ⟨(show 0 ≤ a1 by first | omega | (simp [upS]; done) | (simp [upS]; omega)), ?_⟩
          refine ⟨(2 + 2 * ((a1)).toNat), (el_1 (i := (a1)) (by first | omega | (simp [upS]; done) | (simp [upS]; omega))).1, (el_1 (i := (a1)) (by first | omega | (simp [upS]; done) | (simp [upS]; omega))).2, ?_⟩
          all_goals rfl
        refine ⟨_, _, hD1, ?_⟩
        clear hD1
        refine ⟨fun hz2 => (by cases hz2), fun _ hz2 => ?_⟩
        cases hz2
        refine ⟨(el_1 (i := (a1)) (by first | omega | (simp [upS]; done) | (simp [upS]; omega))).2, ?_⟩
        all_goals rfl
      refine Or.inl ⟨_, _, hD3, (el_1 (i := (a1)) (by first | omega | (simp [upS]; done) | (simp [upS]; omega))).2, ?_⟩
      clear hD3
      have hD4 : Dd 146 [(.inr (.inr (some (2 + 2 * ((a1)).toNat))))] σ (.inl (some (.inl (σ (2 + 2 * ((a1)).toNat) 1))), σ) := by
        refine b146 (el_1 (i := (a1)) (by first | omega | (simp [upS]; done) | (simp [upS]; omega))).2 ?_
        all_goals rfl
      refine ⟨_, _, hD4, ?_⟩
      clear hD4
      have hD5 : Dd 232 [(.inr (.inr (some 0))), (.inl a2), (.inl (σ (2 + 2 * ((a1)).toNat) 1))] σ (.inr 0, σ) := by
        refine b232 ?_
        rw [if_pos (show (0 : Int) ≤ a2 by first | omega | (simp [upS]; done) | (simp [upS]; omega))]
        rw [if_pos (show (σ (2 + 2 * ((a1)).toNat) 1) ≤ a2 by first | omega | (simp [upS]; done) | (simp [upS]; omega))]
        refine b232_9 ?_
        all_goals rfl
      refine Or.inr ⟨_, _, hD5, ?_⟩
      all_goals rfl
    exact Or.inr (⟨_, hD6, rfl⟩)
  have hB : Dd 261 [(.inr (.inr (some 682))), (.inl a1), (.inl a2)] σ (.inl (some (.inl 0)), (upS σ 682 0 1)) := by
    refine b261 ?_
    have hD11 : Dd 257 [(.inr (.inr (some 682))), (.inl a1), (.inl a2)] σ (.inl (some (.inl 0)), (upS σ 682 0 1)) := by
      refine b257 ?_
      have hD8 : Dd 247 [(.inl a1)] σ (.inl (some (.inl 1)), σ) := by
        refine b247 ?_
        have hD7 : Dd 246 [(.inl a1), (.inl 4)] σ (.inl (some (.inl 1)), σ) := by
          refine b246 ?_
          try rw [if_pos (show (0 : Int) ≤ a1 by first | omega | (simp [upS]; done) | (simp [upS]; omega))]
          try rw [if_pos (show a1 < 4 by first | omega | (simp [upS]; done) | (simp [upS]; omega))]
          all_goals rfl
        refine ⟨_, _, hD7, ?_⟩
        clear hD7
        refine ⟨(show 1 = 0 ∨ 1 = 1 by first | omega | (simp [upS]; done) | (simp [upS]; omega)), ?_⟩
        all_goals rfl
      refine ⟨_, _, hD8, ?_⟩
      clear hD8
      rw [if_neg (show ¬ ((1 : Int) = 0) by first | omega | (simp [upS]; done) | (simp [upS]; omega))]
      refine ⟨(show 0 ≤ a1 ∧ a1 < 4 by first | omega | (simp [upS]; done) | (simp [upS]; omega)), ?_⟩
      rw [show (σ 684 (a1).toNat) = (σ 684 ((a1).toNat)) by (first | omega | (simp [upS]; done) | (simp [upS]; omega))]
      have hD9 : Dd 246 [(.inl a2), (.inl (σ 684 ((a1).toNat)))] σ (.inl (some (.inl 0)), σ) := by
        refine b246 ?_
        try rw [if_pos (show (0 : Int) ≤ a2 by first | omega | (simp [upS]; done) | (simp [upS]; omega))]
        try rw [if_neg (show ¬ (a2 < (σ 684 ((a1).toNat))) by first | omega | (simp [upS]; done) | (simp [upS]; omega))]
        all_goals rfl
      refine ⟨_, _, hD9, ?_⟩
      clear hD9
      rw [if_pos (show (0 : Int) = 0 by first | omega | (simp [upS]; done) | (simp [upS]; omega))]
      refine b257_25 ?_
      refine b257_26 ?_
      have hD10 : Dd 245 [(.inr (.inr (some 682))), (.inl 1)] σ (.inl (some (.inl 0)), (upS σ 682 0 1)) := by
        refine b245 ?_
        try rw [if_neg (show ¬ ((1 : Int) = 0) by first | omega | (simp [upS]; done) | (simp [upS]; omega))]
        all_goals rfl
      refine ⟨_, _, hD10, ?_⟩
      clear hD10
      refine ⟨(show 0 = 0 ∨ 0 = 1 by first | omega | (simp [upS]; done) | (simp [upS]; omega)), ?_⟩
      all_goals rfl
    refine ⟨_, _, hD11, ?_⟩
    clear hD11
    refine ⟨(show ¬ (0 = 0) → -2147483648 ≤ (16 * a1) ∧ (16 * a1) ≤ 2147483647 by (first | (intros; first | omega | (simp [upS]; done) | (simp [upS]; omega)) | (intros; simp_all [upS]; done) | (intros; simp_all [upS]; omega))), ?_⟩
    refine ⟨(show ¬ (0 = 0) → -2147483648 ≤ ((16 * a1) + a2) ∧ ((16 * a1) + a2) ≤ 2147483647 by (first | (intros; first | omega | (simp [upS]; done) | (simp [upS]; omega)) | (intros; simp_all [upS]; done) | (intros; simp_all [upS]; omega))), ?_⟩
    refine ⟨(show ¬ (0 = 0) → 0 ≤ ((16 * a1) + a2) ∧ ((16 * a1) + a2) < 64 by (first | (intros; first | omega | (simp [upS]; done) | (simp [upS]; omega)) | (intros; simp_all [upS]; done) | (intros; simp_all [upS]; omega))), ?_⟩
    try rw [if_pos (show (0 : Int) = 0 by first | omega | (simp [upS]; done) | (simp [upS]; omega))]
    all_goals rfl
  exact op_x H (by decide) hA hB
theorem x6_0 {σ : Sg} {c : Int} {a1 : Int} {a2 : Int} {a3 : Int} {a4 : Int} (H : Rel c σ) (h0 : a1 < 0) : OpR 396 277 [(.inr (.inr (some 0))), (.inl a1), (.inl a2), (.inl a3), (.inl a4), (.inr (.inr (some 726)))] [(.inr (.inr (some 682))), (.inl a1), (.inl a2), (.inl a3), (.inl a4)] σ (c + 1) := by
  obtain ⟨r1, r2, r3, r4, r5⟩ := rel_n H
  have hA : Dd 396 [(.inr (.inr (some 0))), (.inl a1), (.inl a2), (.inl a3), (.inl a4), (.inr (.inr (some 726)))] σ (.inl (some (.inl 1)), σ) := by
    refine b396 ?_
    have hD4 : Dd 178 [(.inr (.inr (some 0))), (.inl a1), (.inl a2), (.inl a3), (.inl a4)] σ (.inr 0, σ) := by
      refine b178 ?_
      have hD3 : Dd 227 [(.inr (.inr (some 0))), (.inl a1)] σ (.inr 0, σ) := by
        refine b227 ?_
        have hD1 : Dd 145 [(.inr (.inr (some 1))), (.inl a1)] σ (.inl (some (.inr (.inr none))), σ) := by
          refine b145 ?_
          rw [if_neg (show ¬ ((0 : Int) ≤ a1) by first | omega | (simp [upS]; done) | (simp [upS]; omega))]
          all_goals rfl
        refine ⟨_, _, hD1, ?_⟩
        clear hD1
        refine ⟨fun _ => ?_, fun _ hz2 => (by cases hz2)⟩
        all_goals rfl
      refine Or.inr ⟨_, _, hD3, ?_⟩
      all_goals rfl
    exact Or.inr (Or.inl ⟨_, hD4, rfl⟩)
  have hB : Dd 277 [(.inr (.inr (some 682))), (.inl a1), (.inl a2), (.inl a3), (.inl a4)] σ (.inl (some (.inl 0)), (upS σ 682 0 1)) := by
    refine b277 ?_
    have hD6 : Dd 247 [(.inl a1)] σ (.inl (some (.inl 0)), σ) := by
      refine b247 ?_
      have hD5 : Dd 246 [(.inl a1), (.inl 4)] σ (.inl (some (.inl 0)), σ) := by
        refine b246 ?_
        try rw [if_neg (show ¬ ((0 : Int) ≤ a1) by first | omega | (simp [upS]; done) | (simp [upS]; omega))]
        all_goals rfl
      refine ⟨_, _, hD5, ?_⟩
      clear hD5
      refine ⟨(show 0 = 0 ∨ 0 = 1 by first | omega | (simp [upS]; done) | (simp [upS]; omega)), ?_⟩
      all_goals rfl
    refine ⟨_, _, hD6, ?_⟩
    clear hD6
    rw [if_pos (show (0 : Int) = 0 by first | omega | (simp [upS]; done) | (simp [upS]; omega))]
    refine b277_32 ?_
    refine b277_33 ?_
    rw [if_pos (show (0 : Int) = 0 by first | omega | (simp [upS]; done) | (simp [upS]; omega))]
    refine b277_57 ?_
    have hD7 : Dd 245 [(.inr (.inr (some 682))), (.inl 1)] σ (.inl (some (.inl 0)), (upS σ 682 0 1)) := by
      refine b245 ?_
      try rw [if_neg (show ¬ ((1 : Int) = 0) by first | omega | (simp [upS]; done) | (simp [upS]; omega))]
      all_goals rfl
    refine ⟨_, _, hD7, ?_⟩
    clear hD7
    rw [if_pos (show (0 : Int) = 0 by first | omega | (simp [upS]; done) | (simp [upS]; omega))]
    all_goals rfl
  exact op_x H (by decide) hA hB
theorem x6_1 {σ : Sg} {c : Int} {a1 : Int} {a2 : Int} {a3 : Int} {a4 : Int} (H : Rel c σ) (h0 : 4 ≤ a1) : OpR 396 277 [(.inr (.inr (some 0))), (.inl a1), (.inl a2), (.inl a3), (.inl a4), (.inr (.inr (some 726)))] [(.inr (.inr (some 682))), (.inl a1), (.inl a2), (.inl a3), (.inl a4)] σ (c + 1) := by
  obtain ⟨r1, r2, r3, r4, r5⟩ := rel_n H
  have hA : Dd 396 [(.inr (.inr (some 0))), (.inl a1), (.inl a2), (.inl a3), (.inl a4), (.inr (.inr (some 726)))] σ (.inl (some (.inl 1)), σ) := by
    refine b396 ?_
    have hD4 : Dd 178 [(.inr (.inr (some 0))), (.inl a1), (.inl a2), (.inl a3), (.inl a4)] σ (.inr 0, σ) := by
      refine b178 ?_
      have hD3 : Dd 227 [(.inr (.inr (some 0))), (.inl a1)] σ (.inr 0, σ) := by
        refine b227 ?_
        have hD1 : Dd 145 [(.inr (.inr (some 1))), (.inl a1)] σ (.inl (some (.inr (.inr none))), σ) := by
          refine b145 ?_
          rw [if_pos (show (0 : Int) ≤ a1 by first | omega | (simp [upS]; done) | (simp [upS]; omega))]
          refine ⟨4, (by decide +kernel), (by decide), ?_⟩
          rw [if_neg (show ¬ (a1 < ((4 : Nat) : Int)) by first | omega | (simp [upS]; done) | (simp [upS]; omega))]
          all_goals rfl
        refine ⟨_, _, hD1, ?_⟩
        clear hD1
        refine ⟨fun _ => ?_, fun _ hz2 => (by cases hz2)⟩
        all_goals rfl
      refine Or.inr ⟨_, _, hD3, ?_⟩
      all_goals rfl
    exact Or.inr (Or.inl ⟨_, hD4, rfl⟩)
  have hB : Dd 277 [(.inr (.inr (some 682))), (.inl a1), (.inl a2), (.inl a3), (.inl a4)] σ (.inl (some (.inl 0)), (upS σ 682 0 1)) := by
    refine b277 ?_
    have hD6 : Dd 247 [(.inl a1)] σ (.inl (some (.inl 0)), σ) := by
      refine b247 ?_
      have hD5 : Dd 246 [(.inl a1), (.inl 4)] σ (.inl (some (.inl 0)), σ) := by
        refine b246 ?_
        try rw [if_pos (show (0 : Int) ≤ a1 by first | omega | (simp [upS]; done) | (simp [upS]; omega))]
        try rw [if_neg (show ¬ (a1 < 4) by first | omega | (simp [upS]; done) | (simp [upS]; omega))]
        all_goals rfl
      refine ⟨_, _, hD5, ?_⟩
      clear hD5
      refine ⟨(show 0 = 0 ∨ 0 = 1 by first | omega | (simp [upS]; done) | (simp [upS]; omega)), ?_⟩
      all_goals rfl
    refine ⟨_, _, hD6, ?_⟩
    clear hD6
    rw [if_pos (show (0 : Int) = 0 by first | omega | (simp [upS]; done) | (simp [upS]; omega))]
    refine b277_32 ?_
    refine b277_33 ?_
    rw [if_pos (show (0 : Int) = 0 by first | omega | (simp [upS]; done) | (simp [upS]; omega))]
    refine b277_57 ?_
    have hD7 : Dd 245 [(.inr (.inr (some 682))), (.inl 1)] σ (.inl (some (.inl 0)), (upS σ 682 0 1)) := by
      refine b245 ?_
      try rw [if_neg (show ¬ ((1 : Int) = 0) by first | omega | (simp [upS]; done) | (simp [upS]; omega))]
      all_goals rfl
    refine ⟨_, _, hD7, ?_⟩
    clear hD7
    rw [if_pos (show (0 : Int) = 0 by first | omega | (simp [upS]; done) | (simp [upS]; omega))]
    all_goals rfl
  exact op_x H (by decide) hA hB
theorem x6_2 {σ : Sg} {c : Int} {a1 : Int} {a2 : Int} {a3 : Int} {a4 : Int} (H : Rel c σ) (h0 : 0 ≤ a1 ∧ a1 < 4) (h1 : a2 < 0) : OpR 396 277 [(.inr (.inr (some 0))), (.inl a1), (.inl a2), (.inl a3), (.inl a4), (.inr (.inr (some 726)))] [(.inr (.inr (some 682))), (.inl a1), (.inl a2), (.inl a3), (.inl a4)] σ (c + 1) := by
  obtain ⟨r1, r2, r3, r4, r5⟩ := rel_n H
  have t0 := rel_t H h0
  have hA : Dd 396 [(.inr (.inr (some 0))), (.inl a1), (.inl a2), (.inl a3), (.inl a4), (.inr (.inr (some 726)))] σ (.inl (some (.inl 1)), σ) := by
    refine b396 ?_
    have hD7 : Dd 178 [(.inr (.inr (some 0))), (.inl a1), (.inl a2), (.inl a3), (.inl a4)] σ (.inr 0, σ) := by
      refine b178 ?_
      have hD3 : Dd 227 [(.inr (.inr (some 0))), (.inl a1)] σ (.inl (some (.inr (.inr (some (2 + 2 * ((a1)).toNat))))), σ) := by
        refine b227 ?_
        have hD1 : Dd 145 [(.inr (.inr (some 1))), (.inl a1)] σ (.inl (some (.inr (.inr (some (2 + 2 * ((a1)).toNat))))), σ) := by
          refine b145 ?_
          rw [if_pos (show (0 : Int) ≤ a1 by first | omega | (simp [upS]; done) | (simp [upS]; omega))]
          refine ⟨4, (by decide +kernel), (by decide), ?_⟩
          rw [if_pos (show a1 < ((4 : Nat) : Int) by first | omega | (simp [upS]; done) | (simp [upS]; omega))]
          refine ⟨(show 0 ≤ a1 by first | omega | (simp [upS]; done) | (simp [upS]; omega)), ?_⟩
          refine ⟨(2 + 2 * ((a1)).toNat), (el_1 (i := (a1)) (by first | omega | (simp [upS]; done) | (simp [upS]; omega))).1, (el_1 (i := (a1)) (by first | omega | (simp [upS]; done) | (simp [upS]; omega))).2, ?_⟩
          all_goals rfl
        refine ⟨_, _, hD1, ?_⟩
        clear hD1
        refine ⟨fun hz2 => (by cases hz2), fun _ hz2 => ?_⟩
        cases hz2
        refine ⟨(el_1 (i := (a1)) (by first | omega | (simp [upS]; done) | (simp [upS]; omega))).2, ?_⟩
        all_goals rfl
      refine Or.inl ⟨_, _, hD3, (el_1 (i := (a1)) (by first | omega | (simp [upS]; done) | (simp [upS]; omega))).2, ?_⟩
      clear hD3
      have hD6 : Dd 227 [(.inr (.inr (some 0))), (.inl a2)] σ (.inr 0, σ) := by
        refine b227 ?_
        have hD4 : Dd 145 [(.inr (.inr (some 1))), (.inl a2)] σ (.inl (some (.inr (.inr none))), σ) := by
          refine b145 ?_
          rw [if_neg (show ¬ ((0 : Int) ≤ a2) by first | omega | (simp [upS]; done) | (simp [upS]; omega))]
          all_goals rfl
        refine ⟨_, _, hD4, ?_⟩
        clear hD4
        refine ⟨fun _ => ?_, fun _ hz5 => (by cases hz5)⟩
        all_goals rfl
      refine Or.inr ⟨_, _, hD6, ?_⟩
      all_goals rfl
    exact Or.inr (Or.inl ⟨_, hD7, rfl⟩)
  have hB : Dd 277 [(.inr (.inr (some 682))), (.inl a1), (.inl a2), (.inl a3), (.inl a4)] σ (.inl (some (.inl 0)), (upS σ 682 0 1)) := by
    refine b277 ?_
    have hD9 : Dd 247 [(.inl a1)] σ (.inl (some (.inl 1)), σ) := by
      refine b247 ?_
      have hD8 : Dd 246 [(.inl a1), (.inl 4)] σ (.inl (some (.inl 1)), σ) := by
        refine b246 ?_
        try rw [if_pos (show (0 : Int) ≤ a1 by first | omega | (simp [upS]; done) | (simp [upS]; omega))]
        try rw [if_pos (show a1 < 4 by first | omega | (simp [upS]; done) | (simp [upS]; omega))]
        all_goals rfl
      refine ⟨_, _, hD8, ?_⟩
      clear hD8
      refine ⟨(show 1 = 0 ∨ 1 = 1 by first | omega | (simp [upS]; done) | (simp [upS]; omega)), ?_⟩
      all_goals rfl
    refine ⟨_, _, hD9, ?_⟩
    clear hD9
    rw [if_neg (show ¬ ((1 : Int) = 0) by first | omega | (simp [upS]; done) | (simp [upS]; omega))]
    have hD11 : Dd 247 [(.inl a2)] σ (.inl (some (.inl 0)), σ) := by
      refine b247 ?_
      have hD10 : Dd 246 [(.inl a2), (.inl 4)] σ (.inl (some (.inl 0)), σ) := by
        refine b246 ?_
        try rw [if_neg (show ¬ ((0 : Int) ≤ a2) by first | omega | (simp [upS]; done) | (simp [upS]; omega))]
        all_goals rfl
      refine ⟨_, _, hD10, ?_⟩
      clear hD10
      refine ⟨(show 0 = 0 ∨ 0 = 1 by first | omega | (simp [upS]; done) | (simp [upS]; omega)), ?_⟩
      all_goals rfl
    refine ⟨_, _, hD11, ?_⟩
    clear hD11
    rw [if_pos (show (0 : Int) = 0 by first | omega | (simp [upS]; done) | (simp [upS]; omega))]
    refine b277_32 ?_
    refine b277_33 ?_
    rw [if_pos (show (0 : Int) = 0 by first | omega | (simp [upS]; done) | (simp [upS]; omega))]
    refine b277_57 ?_
    have hD12 : Dd 245 [(.inr (.inr (some 682))), (.inl 1)] σ (.inl (some (.inl 0)), (upS σ 682 0 1)) := by
      refine b245 ?_
      try rw [if_neg (show ¬ ((1 : Int) = 0) by first | omega | (simp [upS]; done) | (simp [upS]; omega))]
      all_goals rfl
    refine ⟨_, _, hD12, ?_⟩
    clear hD12
    rw [if_pos (show (0 : Int) = 0 by first | omega | (simp [upS]; done) | (simp [upS]; omega))]
    all_goals rfl
  exact op_x H (by decide) hA hB
theorem x6_3 {σ : Sg} {c : Int} {a1 : Int} {a2 : Int} {a3 : Int} {a4 : Int} (H : Rel c σ) (h0 : 0 ≤ a1 ∧ a1 < 4) (h1 : 4 ≤ a2) : OpR 396 277 [(.inr (.inr (some 0))), (.inl a1), (.inl a2), (.inl a3), (.inl a4), (.inr (.inr (some 726)))] [(.inr (.inr (some 682))), (.inl a1), (.inl a2), (.inl a3), (.inl a4)] σ (c + 1) := by
  obtain ⟨r1, r2, r3, r4, r5⟩ := rel_n H
  have t0 := rel_t H h0
  have hA : Dd 396 [(.inr (.inr (some 0))), (.inl a1), (.inl a2), (.inl a3), (.inl a4), (.inr (.inr (some 726)))] σ (.inl (some (.inl 1)), σ) := by
    refine b396 ?_
    have hD7 : Dd 178 [(.inr (.inr (some 0))), (.inl a1), (.inl a2), (.inl a3), (.inl a4)] σ (.inr 0, σ) := by
      refine b178 ?_
      have hD3 : Dd 227 [(.inr (.inr (some 0))), (.inl a1)] σ (.inl (some (.inr (.inr (some (2 + 2 * ((a1)).toNat))))), σ) := by
        refine b227 ?_
        have hD1 : Dd 145 [(.inr (.inr (some 1))), (.inl a1)] σ (.inl (some (.inr (.inr (some (2 + 2 * ((a1)).toNat))))), σ) := by
          refine b145 ?_
          rw [if_pos (show (0 : Int) ≤ a1 by first | omega | (simp [upS]; done) | (simp [upS]; omega))]
          refine ⟨4, (by decide +kernel), (by decide), ?_⟩
          rw [if_pos (show a1 < ((4 : Nat) : Int) by first | omega | (simp [upS]; done) | (simp [upS]; omega))]
          refine ⟨(show 0 ≤ a1 by first | omega | (simp [upS]; done) | (simp [upS]; omega)), ?_⟩
          refine ⟨(2 + 2 * ((a1)).toNat), (el_1 (i := (a1)) (by first | omega | (simp [upS]; done) | (simp [upS]; omega))).1, (el_1 (i := (a1)) (by first | omega | (simp [upS]; done) | (simp [upS]; omega))).2, ?_⟩
          all_goals rfl
        refine ⟨_, _, hD1, ?_⟩
        clear hD1
        refine ⟨fun hz2 => (by cases hz2), fun _ hz2 => ?_⟩
        cases hz2
        refine ⟨(el_1 (i := (a1)) (by first | omega | (simp [upS]; done) | (simp [upS]; omega))).2, ?_⟩
        all_goals rfl
      refine Or.inl ⟨_, _, hD3, (el_1 (i := (a1)) (by first | omega | (simp [upS]; done) | (simp [upS]; omega))).2, ?_⟩
      clear hD3
      have hD6 : Dd 227 [(.inr (.inr (some 0))), (.inl a2)] σ (.inr 0, σ) := by
        refine b227 ?_
        have hD4 : Dd 145 [(.inr (.inr (some 1))), (.inl a2)] σ (.inl (some (.inr (.inr none))), σ) := by
          refine b145 ?_
          rw [if_pos (show (0 : Int) ≤ a2 by first | omega | (simp [upS]; done) | (simp [upS]; omega))]
          refine ⟨4, (by decide +kernel), (by decide), ?_⟩
          rw [if_neg (show ¬ (a2 < ((4 : Nat) : Int)) by first | omega | (simp [upS]; done) | (simp [upS]; omega))]
          all_goals rfl
        refine ⟨_, _, hD4, ?_⟩
        clear hD4
        refine ⟨fun _ => ?_, fun _ hz5 => (by cases hz5)⟩
        all_goals rfl
      refine Or.inr ⟨_, _, hD6, ?_⟩
      all_goals rfl
    exact Or.inr (Or.inl ⟨_, hD7, rfl⟩)
  have hB : Dd 277 [(.inr (.inr (some 682))), (.inl a1), (.inl a2), (.inl a3), (.inl a4)] σ (.inl (some (.inl 0)), (upS σ 682 0 1)) := by
    refine b277 ?_
    have hD9 : Dd 247 [(.inl a1)] σ (.inl (some (.inl 1)), σ) := by
      refine b247 ?_
      have hD8 : Dd 246 [(.inl a1), (.inl 4)] σ (.inl (some (.inl 1)), σ) := by
        refine b246 ?_
        try rw [if_pos (show (0 : Int) ≤ a1 by first | omega | (simp [upS]; done) | (simp [upS]; omega))]
        try rw [if_pos (show a1 < 4 by first | omega | (simp [upS]; done) | (simp [upS]; omega))]
        all_goals rfl
      refine ⟨_, _, hD8, ?_⟩
      clear hD8
      refine ⟨(show 1 = 0 ∨ 1 = 1 by first | omega | (simp [upS]; done) | (simp [upS]; omega)), ?_⟩
      all_goals rfl
    refine ⟨_, _, hD9, ?_⟩
    clear hD9
    rw [if_neg (show ¬ ((1 : Int) = 0) by first | omega | (simp [upS]; done) | (simp [upS]; omega))]
    have hD11 : Dd 247 [(.inl a2)] σ (.inl (some (.inl 0)), σ) := by
      refine b247 ?_
      have hD10 : Dd 246 [(.inl a2), (.inl 4)] σ (.inl (some (.inl 0)), σ) := by
        refine b246 ?_
        try rw [if_pos (show (0 : Int) ≤ a2 by first | omega | (simp [upS]; done) | (simp [upS]; omega))]
        try rw [if_neg (show ¬ (a2 < 4) by first | omega | (simp [upS]; done) | (simp [upS]; omega))]
        all_goals rfl
      refine ⟨_, _, hD10, ?_⟩
      clear hD10
      refine ⟨(show 0 = 0 ∨ 0 = 1 by first | omega | (simp [upS]; done) | (simp [upS]; omega)), ?_⟩
      all_goals rfl
    refine ⟨_, _, hD11, ?_⟩
    clear hD11
    rw [if_pos (show (0 : Int) = 0 by first | omega | (simp [upS]; done) | (simp [upS]; omega))]
    refine b277_32 ?_
    refine b277_33 ?_
    rw [if_pos (show (0 : Int) = 0 by first | omega | (simp [upS]; done) | (simp [upS]; omega))]
    refine b277_57 ?_
    have hD12 : Dd 245 [(.inr (.inr (some 682))), (.inl 1)] σ (.inl (some (.inl 0)), (upS σ 682 0 1)) := by
      refine b245 ?_
      try rw [if_neg (show ¬ ((1 : Int) = 0) by first | omega | (simp [upS]; done) | (simp [upS]; omega))]
      all_goals rfl
    refine ⟨_, _, hD12, ?_⟩
    clear hD12
    rw [if_pos (show (0 : Int) = 0 by first | omega | (simp [upS]; done) | (simp [upS]; omega))]
    all_goals rfl
  exact op_x H (by decide) hA hB
theorem x6_4 {σ : Sg} {c : Int} {a1 : Int} {a2 : Int} {a3 : Int} {a4 : Int} (H : Rel c σ) (h0 : 0 ≤ a1 ∧ a1 < 4) (h1 : 0 ≤ a2 ∧ a2 < 4) (h2 : a4 < 0) : OpR 396 277 [(.inr (.inr (some 0))), (.inl a1), (.inl a2), (.inl a3), (.inl a4), (.inr (.inr (some 726)))] [(.inr (.inr (some 682))), (.inl a1), (.inl a2), (.inl a3), (.inl a4)] σ (c + 1) := by
  obtain ⟨r1, r2, r3, r4, r5⟩ := rel_n H
  have t0 := rel_t H h0
  have t1 := rel_t H h1
  have hA : Dd 396 [(.inr (.inr (some 0))), (.inl a1), (.inl a2), (.inl a3), (.inl a4), (.inr (.inr (some 726)))] σ (.inl (some (.inl 1)), σ) := by
    refine b396 ?_
    have hD9 : Dd 178 [(.inr (.inr (some 0))), (.inl a1), (.inl a2), (.inl a3), (.inl a4)] σ (.inr 0, σ) := by
      refine b178 ?_
      have hD3 : Dd 227 [(.inr (.inr (some 0))), (.inl a1)] σ (.inl (some (.inr (.inr (some (2 + 2 * ((a1)).toNat))))), σ) := by
        refine b227 ?_
        have hD1 : Dd 145 [(.inr (.inr (some 1))), (.inl a1)] σ (.inl (some (.inr (.inr (some (2 + 2 * ((a1)).toNat))))), σ) := by
          refine b145 ?_
          rw [if_pos (show (0 : Int) ≤ a1 by first | omega | (simp [upS]; done) | (simp [upS]; omega))]
          refine ⟨4, (by decide +kernel), (by decide), ?_⟩
          rw [if_pos (show a1 < ((4 : Nat) : Int) by first | omega | (simp [upS]; done) | (simp [upS]; omega))]
          refine ⟨(show 0 ≤ a1 by first | omega | (simp [upS]; done) | (simp [upS]; omega)), ?_⟩
          refine ⟨(2 + 2 * ((a1)).toNat), (el_1 (i := (a1)) (by first | omega | (simp [upS]; done) | (simp [upS]; omega))).1, (el_1 (i := (a1)) (by first | omega | (simp [upS]; done) | (simp [upS]; omega))).2, ?_⟩
          all_goals rfl
        refine ⟨_, _, hD1, ?_⟩
        clear hD1
        refine ⟨fun hz2 => (by cases hz2), fun _ hz2 => ?_⟩
        cases hz2
        refine ⟨(el_1 (i := (a1)) (by first | omega | (simp [upS]; done) | (simp [upS]; omega))).2, ?_⟩
        all_goals rfl
      refine Or.inl ⟨_, _, hD3, (el_1 (i := (a1)) (by first | omega | (simp [upS]; done) | (simp [upS]; omega))).2, ?_⟩
      clear hD3
      have hD6 : Dd 227 [(.inr (.inr (some 0))), (.inl a2)] σ (.inl (some (.inr (.inr (some (2 + 2 * ((a2)).toNat))))), σ) := by
        refine b227 ?_
        have hD4 : Dd 145 [(.inr (.inr (some 1))), (.inl a2)] σ (.inl (some (.inr (.inr (some (2 + 2 * ((a2)).toNat))))), σ) := by
          refine b145 ?_
          rw [if_pos (show (0 : Int) ≤ a2 by first | omega | (simp [upS]; done) | (simp [upS]; omega))]
          refine ⟨4, (by decide +kernel), (by decide), ?_⟩
          rw [if_pos (show a2 < ((4 : Nat) : Int) by first | omega | (simp [upS]; done) | (simp [upS]; omega))]
          refine ⟨(show 0 ≤ a2 by first | omega | (simp [upS]; done) | (simp [upS]; omega)), ?_⟩
          refine ⟨(2 + 2 * ((a2)).toNat), (el_1 (i := (a2)) (by first | omega | (simp [upS]; done) | (simp [upS]; omega))).1, (el_1 (i := (a2)) (by first | omega | (simp [upS]; done) | (simp [upS]; omega))).2, ?_⟩
          all_goals rfl
        refine ⟨_, _, hD4, ?_⟩
        clear hD4
        refine ⟨fun hz5 => (by cases hz5), fun _ hz5 => ?_⟩
        cases hz5
        refine ⟨(el_1 (i := (a2)) (by first | omega | (simp [upS]; done) | (simp [upS]; omega))).2, ?_⟩
        all_goals rfl
      refine Or.inl ⟨_, _, hD6, (el_1 (i := (a2)) (by first | omega | (simp [upS]; done) | (simp [upS]; omega))).2, ?_⟩
      clear hD6
      have hD7 : Dd 146 [(.inr (.inr (some (2 + 2 * ((a1)).toNat))))] σ (.inl (some (.inl (σ (2 + 2 * ((a1)).toNat) 1))), σ) := by
        refine b146 (el_1 (i := (a1)) (by first | omega | (simp [upS]; done) | (simp [upS]; omega))).2 ?_
        all_goals rfl
      refine ⟨_, _, hD7, ?_⟩
      clear hD7
      have hD8 : Dd 232 [(.inr (.inr (some 0))), (.inl a4), (.inl (σ (2 + 2 * ((a1)).toNat) 1))] σ (.inr 0, σ) := by
        refine b232 ?_
        rw [if_neg (show ¬ ((0 : Int) ≤ a4) by first | omega | (simp [upS]; done) | (simp [upS]; omega))]
        refine b232_9 ?_
        all_goals rfl
      refine Or.inr ⟨_, _, hD8, ?_⟩
      all_goals rfl
    exact Or.inr (Or.inl ⟨_, hD9, rfl⟩)
  have hB : Dd 277 [(.inr (.inr (some 682))), (.inl a1), (.inl a2), (.inl a3), (.inl a4)] σ (.inl (some (.inl 0)), (upS σ 682 0 1)) := by
    refine b277 ?_
    have hD11 : Dd 247 [(.inl a1)] σ (.inl (some (.inl 1)), σ) := by
      refine b247 ?_
      have hD10 : Dd 246 [(.inl a1), (.inl 4)] σ (.inl (some (.inl 1)), σ) := by
        refine b246 ?_
        try rw [if_pos (show (0 : Int) ≤ a1 by first | omega | (simp [upS]; done) | (simp [upS]; omega))]
        try rw [if_pos (show a1 < 4 by first | omega | (simp [upS]; done) | (simp [upS]; omega))]
        all_goals rfl
      refine ⟨_, _, hD10, ?_⟩
      clear hD10
      refine ⟨(show 1 = 0 ∨ 1 = 1 by first | omega | (simp [upS]; done) | (simp [upS]; omega)), ?_⟩
      all_goals rfl
    refine ⟨_, _, hD11, ?_⟩
    clear hD11
    rw [if_neg (show ¬ ((1 : Int) = 0) by first | omega | (simp [upS]; done) | (simp [upS]; omega))]
    have hD13 : Dd 247 [(.inl a2)] σ (.inl (some (.inl 1)), σ) := by
      refine b247 ?_
      have hD12 : Dd 246 [(.inl a2), (.inl 4)] σ (.inl (some (.inl 1)), σ) := by
        refine b246 ?_
        try rw [if_pos (show (0 : Int) ≤ a2 by first | omega | (simp [upS]; done) | (simp [upS]; omega))]
        try rw [if_pos (show a2 < 4 by first | omega | (simp [upS]; done) | (simp [upS]; omega))]
        all_goals rfl
      refine ⟨_, _, hD12, ?_⟩
      clear hD12
      refine ⟨(show 1 = 0 ∨ 1 = 1 by first | omega | (simp [upS]; done) | (simp [upS]; omega)), ?_⟩
      all_goals rfl
    refine ⟨_, _, hD13, ?_⟩
    clear hD13
    rw [if_neg (show ¬ ((1 : Int) = 0) by first | omega | (simp [upS]; done) | (simp [upS]; omega))]
    refine ⟨(show 0 ≤ a1 ∧ a1 < 4 by first | omega | (simp [upS]; done) | (simp [upS]; omega)), ?_⟩
    rw [show (σ 684 (a1).toNat) = (σ 684 ((a1).toNat)) by (first | omega | (simp [upS]; done) | (simp [upS]; omega))]
    have hD14 : Dd 246 [(.inl a4), (.inl (σ 684 ((a1).toNat)))] σ (.inl (some (.inl 0)), σ) := by
      refine b246 ?_
      try rw [if_neg (show ¬ ((0 : Int) ≤ a4) by first | omega | (simp [upS]; done) | (simp [upS]; omega))]
      all_goals rfl
    refine ⟨_, _, hD14, ?_⟩
    clear hD14
    rw [if_pos (show (0 : Int) = 0 by first | omega | (simp [upS]; done) | (simp [upS]; omega))]
    refine b277_32 ?_
    refine b277_33 ?_
    rw [if_pos (show (0 : Int) = 0 by first | omega | (simp [upS]; done) | (simp [upS]; omega))]
    refine b277_57 ?_
    have hD15 : Dd 245 [(.inr (.inr (some 682))), (.inl 1)] σ (.inl (some (.inl 0)), (upS σ 682 0 1)) := by
      refine b245 ?_
      try rw [if_neg (show ¬ ((1 : Int) = 0) by first | omega | (simp [upS]; done) | (simp [upS]; omega))]
      all_goals rfl
    refine ⟨_, _, hD15, ?_⟩
    clear hD15
    rw [if_pos (show (0 : Int) = 0 by first | omega | (simp [upS]; done) | (simp [upS]; omega))]
    all_goals rfl
  exact op_x H (by decide) hA hB
theorem x6_5 {σ : Sg} {c : Int} {a1 : Int} {a2 : Int} {a3 : Int} {a4 : Int} (H : Rel c σ) (h0 : 0 ≤ a1 ∧ a1 < 4) (h1 : 0 ≤ a2 ∧ a2 < 4) (h2 : σ (2 + 2 * ((a1)).toNat) 1 ≤ a4) : OpR 396 277 [(.inr (.inr (some 0))), (.inl a1), (.inl a2), (.inl a3), (.inl a4), (.inr (.inr (some 726)))] [(.inr (.inr (some 682))), (.inl a1), (.inl a2), (.inl a3), (.inl a4)] σ (c + 1) := by
  obtain ⟨r1, r2, r3, r4, r5⟩ := rel_n H
  have t0 := rel_t H h0
  have t1 := rel_t H h1
  have hA : Dd 396 [(.inr (.inr (some 0))), (.inl a1), (.inl a2), (.inl a3), (.inl a4), (.inr (.inr (some 726)))] σ (.inl (some (.inl 1)), σ) := by
    refine b396 ?_
    have hD9 : Dd 178 [(.inr (.inr (some 0))), (.inl a1), (.inl a2), (.inl a3), (.inl a4)] σ (.inr 0, σ) := by
      refine b178 ?_
      have hD3 : Dd 227 [(.inr (.inr (some 0))), (.inl a1)] σ (.inl (some (.inr (.inr (some (2 + 2 * ((a1)).toNat))))), σ) := by
        refine b227 ?_
        have hD1 : Dd 145 [(.inr (.inr (some 1))), (.inl a1)] σ (.inl (some (.inr (.inr (some (2 + 2 * ((a1)).toNat))))), σ) := by
          refine b145 ?_
          rw [if_pos (show (0 : Int) ≤ a1 by first | omega | (simp [upS]; done) | (simp [upS]; omega))]
          refine ⟨4, (by decide +kernel), (by decide), ?_⟩
          rw [if_pos (show a1 < ((4 : Nat) : Int) by first | omega | (simp [upS]; done) | (simp [upS]; omega))]
          refine ⟨(show 0 ≤ a1 by first | omega | (simp [upS]; done) | (simp [upS]; omega)), ?_⟩
          refine ⟨(2 + 2 * ((a1)).toNat), (el_1 (i := (a1)) (by first | omega | (simp [upS]; done) | (simp [upS]; omega))).1, (el_1 (i := (a1)) (by first | omega | (simp [upS]; done) | (simp [upS]; omega))).2, ?_⟩
          all_goals rfl
        refine ⟨_, _, hD1, ?_⟩
        clear hD1
        refine ⟨fun hz2 => (by cases hz2), fun _ hz2 => ?_⟩
        cases hz2
        refine ⟨(el_1 (i := (a1)) (by first | omega | (simp [upS]; done) | (simp [upS]; omega))).2, ?_⟩
        all_goals rfl
      refine Or.inl ⟨_, _, hD3, (el_1 (i := (a1)) (by first | omega | (simp [upS]; done) | (simp [upS]; omega))).2, ?_⟩
      clear hD3
      have hD6 : Dd 227 [(.inr (.inr (some 0))), (.inl a2)] σ (.inl (some (.inr (.inr (some (2 + 2 * ((a2)).toNat))))), σ) := by
        refine b227 ?_
        have hD4 : Dd 145 [(.inr (.inr (some 1))), (.inl a2)] σ (.inl (some (.inr (.inr (some (2 + 2 * ((a2)).toNat))))), σ) := by
          refine b145 ?_
          rw [if_pos (show (0 : Int) ≤ a2 by first | omega | (simp [upS]; done) | (simp [upS]; omega))]
          refine ⟨4, (by decide +kernel), (by decide), ?_⟩
          rw [if_pos (show a2 < ((4 : Nat) : Int) by first | omega | (simp [upS]; done) | (simp [upS]; omega))]
          refine ⟨(show 0 ≤ a2 by first | omega | (simp [upS]; done) | (simp [upS]; omega)), ?_⟩
          refine ⟨(2 + 2 * ((a2)).toNat), (el_1 (i := (a2)) (by first | omega | (simp [upS]; done) | (simp [upS]; omega))).1, (el_1 (i := (a2)) (by first | omega | (simp [upS]; done) | (simp [upS]; omega))).2, ?_⟩
          all_goals rfl
        refine ⟨_, _, hD4, ?_⟩
        clear hD4
        refine ⟨fun hz5 => (by cases hz5), fun _ hz5 => ?_⟩
        cases hz5
        refine ⟨(el_1 (i := (a2)) (by first | omega | (simp [upS]; done) | (simp [upS]; omega))).2, ?_⟩
        all_goals rfl
      refine Or.inl ⟨_, _, hD6, (el_1 (i := (a2)) (by first | omega | (simp [upS]; done) | (simp [upS]; omega))).2, ?_⟩
      clear hD6
      have hD7 : Dd 146 [(.inr (.inr (some (2 + 2 * ((a1)).toNat))))] σ (.inl (some (.inl (σ (2 + 2 * ((a1)).toNat) 1))), σ) := by
        refine b146 (el_1 (i := (a1)) (by first | omega | (simp [upS]; done) | (simp [upS]; omega))).2 ?_
        all_goals rfl
      refine ⟨_, _, hD7, ?_⟩
      clear hD7
      have hD8 : Dd 232 [(.inr (.inr (some 0))), (.inl a4), (.inl (σ (2 + 2 * ((a1)).toNat) 1))] σ (.inr 0, σ) := by
        refine b232 ?_
        rw [if_pos (show (0 : Int) ≤ a4 by first | omega | (simp [upS]; done) | (simp [upS]; omega))]
        rw [if_pos (show (σ (2 + 2 * ((a1)).toNat) 1) ≤ a4 by first | omega | (simp [upS]; done) | (simp [upS]; omega))]
        refine b232_9 ?_
        all_goals rfl
      refine Or.inr ⟨_, _, hD8, ?_⟩
      all_goals rfl
    exact Or.inr (Or.inl ⟨_, hD9, rfl⟩)
  have hB : Dd 277 [(.inr (.inr (some 682))), (.inl a1), (.inl a2), (.inl a3), (.inl a4)] σ (.inl (some (.inl 0)), (upS σ 682 0 1)) := by
    refine b277 ?_
    have hD11 : Dd 247 [(.inl a1)] σ (.inl (some (.inl 1)), σ) := by
      refine b247 ?_
      have hD10 : Dd 246 [(.inl a1), (.inl 4)] σ (.inl (some (.inl 1)), σ) := by
        refine b246 ?_
        try rw [if_pos (show (0 : Int) ≤ a1 by first | omega | (simp [upS]; done) | (simp [upS]; omega))]
        try rw [if_pos (show a1 < 4 by first | omega | (simp [upS]; done) | (simp [upS]; omega))]
        all_goals rfl
      refine ⟨_, _, hD10, ?_⟩
      clear hD10
      refine ⟨(show 1 = 0 ∨ 1 = 1 by first | omega | (simp [upS]; done) | (simp [upS]; omega)), ?_⟩
      all_goals rfl
    refine ⟨_, _, hD11, ?_⟩
    clear hD11
    rw [if_neg (show ¬ ((1 : Int) = 0) by first | omega | (simp [upS]; done) | (simp [upS]; omega))]
    have hD13 : Dd 247 [(.inl a2)] σ (.inl (some (.inl 1)), σ) := by
      refine b247 ?_
      have hD12 : Dd 246 [(.inl a2), (.inl 4)] σ (.inl (some (.inl 1)), σ) := by
        refine b246 ?_
        try rw [if_pos (show (0 : Int) ≤ a2 by first | omega | (simp [upS]; done) | (simp [upS]; omega))]
        try rw [if_pos (show a2 < 4 by first | omega | (simp [upS]; done) | (simp [upS]; omega))]
        all_goals rfl
      refine ⟨_, _, hD12, ?_⟩
      clear hD12
      refine ⟨(show 1 = 0 ∨ 1 = 1 by first | omega | (simp [upS]; done) | (simp [upS]; omega)), ?_⟩
      all_goals rfl
    refine ⟨_, _, hD13, ?_⟩
    clear hD13
    rw [if_neg (show ¬ ((1 : Int) = 0) by first | omega | (simp [upS]; done) | (simp [upS]; omega))]
    refine ⟨(show 0 ≤ a1 ∧ a1 < 4 by first | omega | (simp [upS]; done) | (simp [upS]; omega)), ?_⟩
    rw [show (σ 684 (a1).toNat) = (σ 684 ((a1).toNat)) by (first | omega | (simp [upS]; done) | (simp [upS]; omega))]
    have hD14 : Dd 246 [(.inl a4), (.inl (σ 684 ((a1).toNat)))] σ (.inl (some (.inl 0)), σ) := by
      refine b246 ?_
      try rw [if_pos (show (0 : Int) ≤ a4 by first | omega | (simp [upS]; done) | (simp [upS]; omega))]
      try rw [if_neg (show ¬ (a4 < (σ 684 ((a1).toNat))) by first | omega | (simp [upS]; done) | (simp [upS]; omega))]
      all_goals rfl
    refine ⟨_, _, hD14, ?_⟩
    clear hD14
    rw [if_pos (show (0 : Int) = 0 by first | omega | (simp [upS]; done) | (simp [upS]; omega))]
    refine b277_32 ?_
    refine b277_33 ?_
    rw [if_pos (show (0 : Int) = 0 by first | omega | (simp [upS]; done) | (simp [upS]; omega))]
    refine b277_57 ?_
    have hD15 : Dd 245 [(.inr (.inr (some 682))), (.inl 1)] σ (.inl (some (.inl 0)), (upS σ 682 0 1)) := by
      refine b245 ?_
      try rw [if_neg (show ¬ ((1 : Int) = 0) by first | omega | (simp [upS]; done) | (simp [upS]; omega))]
      all_goals rfl
    refine ⟨_, _, hD15, ?_⟩
    clear hD15
    rw [if_pos (show (0 : Int) = 0 by first | omega | (simp [upS]; done) | (simp [upS]; omega))]
    all_goals rfl
  exact op_x H (by decide) hA hB
theorem x7_0 {σ : Sg} {c : Int} {a1 : Int} {a2 : Int} {a3 : Int} (H : Rel c σ) (h0 : a1 < 0) : OpR 397 278 [(.inr (.inr (some 0))), (.inl a1), (.inl a2), (.inl a3), (.inr (.inr (some 726)))] [(.inr (.inr (some 682))), (.inl a1), (.inl a2), (.inl a3)] σ (c + 1) := by
  obtain ⟨r1, r2, r3, r4, r5⟩ := rel_n H
  have hA : Dd 397 [(.inr (.inr (some 0))), (.inl a1), (.inl a2), (.inl a3), (.inr (.inr (some 726)))] σ (.inl (some (.inl 1)), σ) := by
    refine b397 ?_
    have hD4 : Dd 179 [(.inr (.inr (some 0))), (.inl a1), (.inl a2), (.inl a3)] σ (.inr 0, σ) := by
      refine b179 ?_
      have hD3 : Dd 227 [(.inr (.inr (some 0))), (.inl a1)] σ (.inr 0, σ) := by
        refine b227 ?_
        have hD1 : Dd 145 [(.inr (.inr (some 1))), (.inl a1)] σ (.inl (some (.inr (.inr none))), σ) := by
          refine b145 ?_
          rw [if_neg (show ¬ ((0 : Int) ≤ a1) by first | omega | (simp [upS]; done) | (simp [upS]; omega))]
          all_goals rfl
        refine ⟨_, _, hD1, ?_⟩
        clear hD1
        refine ⟨fun _ => ?_, fun _ hz2 => (by cases hz2)⟩
        all_goals rfl
      refine Or.inr ⟨_, _, hD3, ?_⟩
      all_goals rfl
    exact Or.inr (Or.inl ⟨_, hD4, rfl⟩)
  have hB : Dd 278 [(.inr (.inr (some 682))), (.inl a1), (.inl a2), (.inl a3)] σ (.inl (some (.inl 0)), (upS σ 682 0 1)) := by
    refine b278 ?_
    have hD6 : Dd 247 [(.inl a1)] σ (.inl (some (.inl 0)), σ) := by
      refine b247 ?_
      have hD5 : Dd 246 [(.inl a1), (.inl 4)] σ (.inl (some (.inl 0)), σ) := by
        refine b246 ?_
        try rw [if_neg (show ¬ ((0 : Int) ≤ a1) by first | omega | (simp [upS]; done) | (simp [upS]; omega))]
        all_goals rfl
      refine ⟨_, _, hD5, ?_⟩
      clear hD5
      refine ⟨(show 0 = 0 ∨ 0 = 1 by first | omega | (simp [upS]; done) | (simp [upS]; omega)), ?_⟩
      all_goals rfl
    refine ⟨_, _, hD6, ?_⟩
    clear hD6
    rw [if_pos (show (0 : Int) = 0 by first | omega | (simp [upS]; done) | (simp [upS]; omega))]
    refine b278_15 ?_
    refine b278_31 ?_
    have hD7 : Dd 245 [(.inr (.inr (some 682))), (.inl 1)] σ (.inl (some (.inl 0)), (upS σ 682 0 1)) := by
      refine b245 ?_
      try rw [if_neg (show ¬ ((1 : Int) = 0) by first | omega | (simp [upS]; done) | (simp [upS]; omega))]
      all_goals rfl
    refine ⟨_, _, hD7, ?_⟩
    clear hD7
    rw [if_pos (show (0 : Int) = 0 by first | omega | (simp [upS]; done) | (simp [upS]; omega))]
    all_goals rfl
  exact op_x H (by decide) hA hB
theorem x7_1 {σ : Sg} {c : Int} {a1 : Int} {a2 : Int} {a3 : Int} (H : Rel c σ) (h0 : 4 ≤ a1) : OpR 397 278 [(.inr (.inr (some 0))), (.inl a1), (.inl a2), (.inl a3), (.inr (.inr (some 726)))] [(.inr (.inr (some 682))), (.inl a1), (.inl a2), (.inl a3)] σ (c + 1) := by
  obtain ⟨r1, r2, r3, r4, r5⟩ := rel_n H
  have hA : Dd 397 [(.inr (.inr (some 0))), (.inl a1), (.inl a2), (.inl a3), (.inr (.inr (some 726)))] σ (.inl (some (.inl 1)), σ) := by
    refine b397 ?_
    have hD4 : Dd 179 [(.inr (.inr (some 0))), (.inl a1), (.inl a2), (.inl a3)] σ (.inr 0, σ) := by
      refine b179 ?_
      have hD3 : Dd 227 [(.inr (.inr (some 0))), (.inl a1)] σ (.inr 0, σ) := by
        refine b227 ?_
        have hD1 : Dd 145 [(.inr (.inr (some 1))), (.inl a1)] σ (.inl (some (.inr (.inr none))), σ) := by
          refine b145 ?_
          rw [if_pos (show (0 : Int) ≤ a1 by first | omega | (simp [upS]; done) | (simp [upS]; omega))]
          refine ⟨4, (by decide +kernel), (by decide), ?_⟩
          rw [if_neg (show ¬ (a1 < ((4 : Nat) : Int)) by first | omega | (simp [upS]; done) | (simp [upS]; omega))]
          all_goals rfl
        refine ⟨_, _, hD1, ?_⟩
        clear hD1
        refine ⟨fun _ => ?_, fun _ hz2 => (by cases hz2)⟩
        all_goals rfl
      refine Or.inr ⟨_, _, hD3, ?_⟩
      all_goals rfl
    exact Or.inr (Or.inl ⟨_, hD4, rfl⟩)
  have hB : Dd 278 [(.inr (.inr (some 682))), (.inl a1), (.inl a2), (.inl a3)] σ (.inl (some (.inl 0)), (upS σ 682 0 1)) := by
    refine b278 ?_
    have hD6 : Dd 247 [(.inl a1)] σ (.inl (some (.inl 0)), σ) := by
      refine b247 ?_
      have hD5 : Dd 246 [(.inl a1), (.inl 4)] σ (.inl (some (.inl 0)), σ) := by
        refine b246 ?_
        try rw [if_pos (show (0 : Int) ≤ a1 by first | omega | (simp [upS]; done) | (simp [upS]; omega))]
        try rw [if_neg (show ¬ (a1 < 4) by first | omega | (simp [upS]; done) | (simp [upS]; omega))]
        all_goals rfl
      refine ⟨_, _, hD5, ?_⟩
      clear hD5
      refine ⟨(show 0 = 0 ∨ 0 = 1 by first | omega | (simp [upS]; done) | (simp [upS]; omega)), ?_⟩
      all_goals rfl
    refine ⟨_, _, hD6, ?_⟩
    clear hD6
    rw [if_pos (show (0 : Int) = 0 by first | omega | (simp [upS]; done) | (simp [upS]; omega))]
    refine b278_15 ?_
    refine b278_31 ?_
    have hD7 : Dd 245 [(.inr (.inr (some 682))), (.inl 1)] σ (.inl (some (.inl 0)), (upS σ 682 0 1)) := by
      refine b245 ?_
      try rw [if_neg (show ¬ ((1 : Int) = 0) by first | omega | (simp [upS]; done) | (simp [upS]; omega))]
      all_goals rfl
    refine ⟨_, _, hD7, ?_⟩
    clear hD7
    rw [if_pos (show (0 : Int) = 0 by first | omega | (simp [upS]; done) | (simp [upS]; omega))]
    all_goals rfl
  exact op_x H (by decide) hA hB
theorem x7_2 {σ : Sg} {c : Int} {a1 : Int} {a2 : Int} {a3 : Int} (H : Rel c σ) (h0 : 0 ≤ a1 ∧ a1 < 4) (h1 : a2 < 0) : OpR 397 278 [(.inr (.inr (some 0))), (.inl a1), (.inl a2), (.inl a3), (.inr (.inr (some 726)))] [(.inr (.inr (some 682))), (.inl a1), (.inl a2), (.inl a3)] σ (c + 1) := by
  obtain ⟨r1, r2, r3, r4, r5⟩ := rel_n H
  have t0 := rel_t H h0
  have hA : Dd 397 [(.inr (.inr (some 0))), (.inl a1), (.inl a2), (.inl a3), (.inr (.inr (some 726)))] σ (.inl (some (.inl 1)), σ) := by
    refine b397 ?_
    have hD7 : Dd 179 [(.inr (.inr (some 0))), (.inl a1), (.inl a2), (.inl a3)] σ (.inr 0, σ) := by
      refine b179 ?_
      have hD3 : Dd 227 [(.inr (.inr (some 0))), (.inl a1)] σ (.inl (some (.inr (.inr (some (2 + 2 * ((a1)).toNat))))), σ) := by
        refine b227 ?_
        have hD1 : Dd 145 [(.inr (.inr (some 1))), (.inl a1)] σ (.inl (some (.inr (.inr (some (2 + 2 * ((a1)).toNat))))), σ) := by
          refine b145 ?_
          rw [if_pos (show (0 : Int) ≤ a1 by first | omega | (simp [upS]; done) | (simp [upS]; omega))]
          refine ⟨4, (by decide +kernel), (by decide), ?_⟩
          rw [if_pos (show a1 < ((4 : Nat) : Int) by first | omega | (simp [upS]; done) | (simp [upS]; omega))]
          refine ⟨(show 0 ≤ a1 by first | omega | (simp [upS]; done) | (simp [upS]; omega)), ?_⟩
          refine ⟨(2 + 2 * ((a1)).toNat), (el_1 (i := (a1)) (by first | omega | (simp [upS]; done) | (simp [upS]; omega))).1, (el_1 (i := (a1)) (by first | omega | (simp [upS]; done) | (simp [upS]; omega))).2, ?_⟩
          all_goals rfl
        refine ⟨_, _, hD1, ?_⟩
        clear hD1
        refine ⟨fun hz2 => (by cases hz2), fun _ hz2 => ?_⟩
        cases hz2
        refine ⟨(el_1 (i := (a1)) (by first | omega | (simp [upS]; done) | (simp [upS]; omega))).2, ?_⟩
        all_goals rfl
      refine Or.inl ⟨_, _, hD3, (el_1 (i := (a1)) (by first | omega | (simp [upS]; done) | (simp [upS]; omega))).2, ?_⟩
      clear hD3
      have hD6 : Dd 227 [(.inr (.inr (some 0))), (.inl a2)] σ (.inr 0, σ) := by
        refine b227 ?_
        have hD4 : Dd 145 [(.inr (.inr (some 1))), (.inl a2)] σ (.inl (some (.inr (.inr none))), σ) := by
          refine b145 ?_
          rw [if_neg (show ¬ ((0 : Int) ≤ a2) by first | omega | (simp [upS]; done) | (simp [upS]; omega))]
          all_goals rfl
        refine ⟨_, _, hD4, ?_⟩
        clear hD4
        refine ⟨fun _ => ?_, fun _ hz5 => (by cases hz5)⟩
        all_goals rfl
      refine Or.inr ⟨_, _, hD6, ?_⟩
      all_goals rfl
    exact Or.inr (Or.inl ⟨_, hD7, rfl⟩)
  have hB : Dd 278 [(.inr (.inr (some 682))), (.inl a1), (.inl a2), (.inl a3)] σ (.inl (some (.inl 0)), (upS σ 682 0 1)) := by
    refine b278 ?_
    have hD9 : Dd 247 [(.inl a1)] σ (.inl (some (.inl 1)), σ) := by
      refine b247 ?_
      have hD8 : Dd 246 [(.inl a1), (.inl 4)] σ (.inl (some (.inl 1)), σ) := by
        refine b246 ?_
        try rw [if_pos (show (0 : Int) ≤ a1 by first | omega | (simp [upS]; done) | (simp [upS]; omega))]
        try rw [if_pos (show a1 < 4 by first | omega | (simp [upS]; done) | (simp [upS]; omega))]
        all_goals rfl
      refine ⟨_, _, hD8, ?_⟩
      clear hD8
      refine ⟨(show 1 = 0 ∨ 1 = 1 by first | omega | (simp [upS]; done) | (simp [upS]; omega)), ?_⟩
      all_goals rfl
    refine ⟨_, _, hD9, ?_⟩
    clear hD9
    rw [if_neg (show ¬ ((1 : Int) = 0) by first | omega | (simp [upS]; done) | (simp [upS]; omega))]
    have hD11 : Dd 247 [(.inl a2)] σ (.inl (some (.inl 0)), σ) := by
      refine b247 ?_
      have hD10 : Dd 246 [(.inl a2), (.inl 4)] σ (.inl (some (.inl 0)), σ) := by
        refine b246 ?_
        try rw [if_neg (show ¬ ((0 : Int) ≤ a2) by first | omega | (simp [upS]; done) | (simp [upS]; omega))]
        all_goals rfl
      refine ⟨_, _, hD10, ?_⟩
      clear hD10
      refine ⟨(show 0 = 0 ∨ 0 = 1 by first | omega | (simp [upS]; done) | (simp [upS]; omega)), ?_⟩
      all_goals rfl
    refine ⟨_, _, hD11, ?_⟩
    clear hD11
    rw [if_pos (show (0 : Int) = 0 by first | omega | (simp [upS]; done) | (simp [upS]; omega))]
    refine b278_15 ?_
    refine b278_31 ?_
    have hD12 : Dd 245 [(.inr (.inr (some 682))), (.inl 1)] σ (.inl (some (.inl 0)), (upS σ 682 0 1)) := by
      refine b245 ?_
      try rw [if_neg (show ¬ ((1 : Int) = 0) by first | omega | (simp [upS]; done) | (simp [upS]; omega))]
      all_goals rfl
    refine ⟨_, _, hD12, ?_⟩
    clear hD12
    rw [if_pos (show (0 : Int) = 0 by first | omega | (simp [upS]; done) | (simp [upS]; omega))]
    all_goals rfl
  exact op_x H (by decide) hA hB
theorem x7_3 {σ : Sg} {c : Int} {a1 : Int} {a2 : Int} {a3 : Int} (H : Rel c σ) (h0 : 0 ≤ a1 ∧ a1 < 4) (h1 : 4 ≤ a2) : OpR 397 278 [(.inr (.inr (some 0))), (.inl a1), (.inl a2), (.inl a3), (.inr (.inr (some 726)))] [(.inr (.inr (some 682))), (.inl a1), (.inl a2), (.inl a3)] σ (c + 1) := by
  obtain ⟨r1, r2, r3, r4, r5⟩ := rel_n H
  have t0 := rel_t H h0
  have hA : Dd 397 [(.inr (.inr (some 0))), (.inl a1), (.inl a2), (.inl a3), (.inr (.inr (some 726)))] σ (.inl (some (.inl 1)), σ) := by
    refine b397 ?_
    have hD7 : Dd 179 [(.inr (.inr (some 0))), (.inl a1), (.inl a2), (.inl a3)] σ (.inr 0, σ) := by
      refine b179 ?_
      have hD3 : Dd 227 [(.inr (.inr (some 0))), (.inl a1)] σ (.inl (some (.inr (.inr (some (2 + 2 * ((a1)).toNat))))), σ) := by
        refine b227 ?_
        have hD1 : Dd 145 [(.inr (.inr (some 1))), (.inl a1)] σ (.inl (some (.inr (.inr (some (2 + 2 * ((a1)).toNat))))), σ) := by
          refine b145 ?_
          rw [if_pos (show (0 : Int) ≤ a1 by first | omega | (simp [upS]; done) | (simp [upS]; omega))]
          refine ⟨4, (by decide +kernel), (by decide), ?_⟩
          rw [if_pos (show a1 < ((4 : Nat) : Int) by first | omega | (simp [upS]; done) | (simp [upS]; omega))]
          refine ⟨(show 0 ≤ a1 by first | omega | (simp [upS]; done) | (simp [upS]; omega)), ?_⟩
          refine ⟨(2 + 2 * ((a1)).toNat), (el_1 (i := (a1)) (by first | omega | (simp [upS]; done) | (simp [upS]; omega))).1, (el_1 (i := (a1)) (by first | omega | (simp [upS]; done) | (simp [upS]; omega))).2, ?_⟩
          all_goals rfl
        refine ⟨_, _, hD1, ?_⟩
        clear hD1
        refine ⟨fun hz2 => (by cases hz2), fun _ hz2 => ?_⟩
        cases hz2
        refine ⟨(el_1 (i := (a1)) (by first | omega | (simp [upS]; done) | (simp [upS]; omega))).2, ?_⟩
        all_goals rfl
      refine Or.inl ⟨_, _, hD3, (el_1 (i := (a1)) (by first | omega | (simp [upS]; done) | (simp [upS]; omega))).2, ?_⟩
      clear hD3
      have hD6 : Dd 227 [(.inr (.inr (some 0))), (.inl a2)] σ (.inr 0, σ) := by
        refine b227 ?_
        have hD4 : Dd 145 [(.inr (.inr (some 1))), (.inl a2)] σ (.inl (some (.inr (.inr none))), σ) := by
          refine b145 ?_
          rw [if_pos (show (0 : Int) ≤ a2 by first | omega | (simp [upS]; done) | (simp [upS]; omega))]
          refine ⟨4, (by decide +kernel), (by decide), ?_⟩
          rw [if_neg (show ¬ (a2 < ((4 : Nat) : Int)) by first | omega | (simp [upS]; done) | (simp [upS]; omega))]
          all_goals rfl
        refine ⟨_, _, hD4, ?_⟩
        clear hD4
        refine ⟨fun _ => ?_, fun _ hz5 => (by cases hz5)⟩
        all_goals rfl
      refine Or.inr ⟨_, _, hD6, ?_⟩
      all_goals rfl
    exact Or.inr (Or.inl ⟨_, hD7, rfl⟩)
  have hB : Dd 278 [(.inr (.inr (some 682))), (.inl a1), (.inl a2), (.inl a3)] σ (.inl (some (.inl 0)), (upS σ 682 0 1)) := by
    refine b278 ?_
    have hD9 : Dd 247 [(.inl a1)] σ (.inl (some (.inl 1)), σ) := by
      refine b247 ?_
      have hD8 : Dd 246 [(.inl a1), (.inl 4)] σ (.inl (some (.inl 1)), σ) := by
        refine b246 ?_
        try rw [if_pos (show (0 : Int) ≤ a1 by first | omega | (simp [upS]; done) | (simp [upS]; omega))]
        try rw [if_pos (show a1 < 4 by first | omega | (simp [upS]; done) | (simp [upS]; omega))]
        all_goals rfl
      refine ⟨_, _, hD8, ?_⟩
      clear hD8
      refine ⟨(show 1 = 0 ∨ 1 = 1 by first | omega | (simp [upS]; done) | (simp [upS]; omega)), ?_⟩
      all_goals rfl
    refine ⟨_, _, hD9, ?_⟩
    clear hD9
    rw [if_neg (show ¬ ((1 : Int) = 0) by first | omega | (simp [upS]; done) | (simp [upS]; omega))]
    have hD11 : Dd 247 [(.inl a2)] σ (.inl (some (.inl 0)), σ) := by
      refine b247 ?_
      have hD10 : Dd 246 [(.inl a2), (.inl 4)] σ (.inl (some (.inl 0)), σ) := by
        refine b246 ?_
        try rw [if_pos (show (0 : Int) ≤ a2 by first | omega | (simp [upS]; done) | (simp [upS]; omega))]
        try rw [if_neg (show ¬ (a2 < 4) by first | omega | (simp [upS]; done) | (simp [upS]; omega))]
        all_goals rfl
      refine ⟨_, _, hD10, ?_⟩
      clear hD10
      refine ⟨(show 0 = 0 ∨ 0 = 1 by first | omega | (simp [upS]; done) | (simp [upS]; omega)), ?_⟩
      all_goals rfl
    refine ⟨_, _, hD11, ?_⟩
    clear hD11
    rw [if_pos (show (0 : Int) = 0 by first | omega | (simp [upS]; done) | (simp [upS]; omega))]
    refine b278_15 ?_
    refine b278_31 ?_
    have hD12 : Dd 245 [(.inr (.inr (some 682))), (.inl 1)] σ (.inl (some (.inl 0)), (upS σ 682 0 1)) := by
      refine b245 ?_
      try rw [if_neg (show ¬ ((1 : Int) = 0) by first | omega | (simp [upS]; done) | (simp [upS]; omega))]
      all_goals rfl
    refine ⟨_, _, hD12, ?_⟩
    clear hD12
    rw [if_pos (show (0 : Int) = 0 by first | omega | (simp [upS]; done) | (simp [upS]; omega))]
    all_goals rfl
  exact op_x H (by decide) hA hB
theorem x7_4 {σ : Sg} {c : Int} {a1 : Int} {a2 : Int} {a3 : Int} (H : Rel c σ) (h0 : 0 ≤ a1 ∧ a1 < 4) (h1 : 0 ≤ a2 ∧ a2 < 4) (h2 : a3 < 0) : OpR 397 278 [(.inr (.inr (some 0))), (.inl a1), (.inl a2), (.inl a3), (.inr (.inr (some 726)))] [(.inr (.inr (some 682))), (.inl a1), (.inl a2), (.inl a3)] σ (c + 1) := by
  obtain ⟨r1, r2, r3, r4, r5⟩ := rel_n H
  have t0 := rel_t H h0
  have t1 := rel_t H h1
  have hA : Dd 397 [(.inr (.inr (some 0))), (.inl a1), (.inl a2), (.inl a3), (.inr (.inr (some 726)))] σ (.inl (some (.inl 2)), σ) := by
    refine b397 ?_
    have hD8 : Dd 179 [(.inr (.inr (some 0))), (.inl a1), (.inl a2), (.inl a3)] σ (.inr 1, σ) := by
      refine b179 ?_
      have hD3 : Dd 227 [(.inr (.inr (some 0))), (.inl a1)] σ (.inl (some (.inr (.inr (some (2 + 2 * ((a1)).toNat))))), σ) := by
        refine b227 ?_
        have hD1 : Dd 145 [(.inr (.inr (some 1))), (.inl a1)] σ (.inl (some (.inr (.inr (some (2 + 2 * ((a1)).toNat))))), σ) := by
          refine b145 ?_
          rw [if_pos (show (0 : Int) ≤ a1 by first | omega | (simp [upS]; done) | (simp [upS]; omega))]
          refine ⟨4, (by decide +kernel), (by decide), ?_⟩
          rw [if_pos (show a1 < ((4 : Nat) : Int) by first | omega | (simp [upS]; done) | (simp [upS]; omega))]
          refine ⟨(show 0 ≤ a1 by first | omega | (simp [upS]; done) | (simp [upS]; omega)), ?_⟩
          refine ⟨(2 + 2 * ((a1)).toNat), (el_1 (i := (a1)) (by first | omega | (simp [upS]; done) | (simp [upS]; omega))).1, (el_1 (i := (a1)) (by first | omega | (simp [upS]; done) | (simp [upS]; omega))).2, ?_⟩
          all_goals rfl
        refine ⟨_, _, hD1, ?_⟩
        clear hD1
        refine ⟨fun hz2 => (by cases hz2), fun _ hz2 => ?_⟩
        cases hz2
        refine ⟨(el_1 (i := (a1)) (by first | omega | (simp [upS]; done) | (simp [upS]; omega))).2, ?_⟩
        all_goals rfl
      refine Or.inl ⟨_, _, hD3, (el_1 (i := (a1)) (by first | omega | (simp [upS]; done) | (simp [upS]; omega))).2, ?_⟩
      clear hD3
      have hD6 : Dd 227 [(.inr (.inr (some 0))), (.inl a2)] σ (.inl (some (.inr (.inr (some (2 + 2 * ((a2)).toNat))))), σ) := by
        refine b227 ?_
        have hD4 : Dd 145 [(.inr (.inr (some 1))), (.inl a2)] σ (.inl (some (.inr (.inr (some (2 + 2 * ((a2)).toNat))))), σ) := by
          refine b145 ?_
          rw [if_pos (show (0 : Int) ≤ a2 by first | omega | (simp [upS]; done) | (simp [upS]; omega))]
          refine ⟨4, (by decide +kernel), (by decide), ?_⟩
          rw [if_pos (show a2 < ((4 : Nat) : Int) by first | omega | (simp [upS]; done) | (simp [upS]; omega))]
          refine ⟨(show 0 ≤ a2 by first | omega | (simp [upS]; done) | (simp [upS]; omega)), ?_⟩
          refine ⟨(2 + 2 * ((a2)).toNat), (el_1 (i := (a2)) (by first | omega | (simp [upS]; done) | (simp [upS]; omega))).1, (el_1 (i := (a2)) (by first | omega | (simp [upS]; done) | (simp [upS]; omega))).2, ?_⟩
          all_goals rfl
        refine ⟨_, _, hD4, ?_⟩
        clear hD4
        refine ⟨fun hz5 => (by cases hz5), fun _ hz5 => ?_⟩
        cases hz5
        refine ⟨(el_1 (i := (a2)) (by first | omega | (simp [upS]; done) | (simp [upS]; omega))).2, ?_⟩
        all_goals rfl
      refine Or.inl ⟨_, _, hD6, (el_1 (i := (a2)) (by first | omega | (simp [upS]; done) | (simp [upS]; omega))).2, ?_⟩
      clear hD6
      have hD7 : Dd 236 [(.inr (.inr (some 0))), (.inl a3)] σ (.inr 1, σ) := by
        refine b236 ?_
        rw [if_neg (show ¬ (a3 = 0) by first | omega | (simp [upS]; done) | (simp [upS]; omega))]
        rw [if_neg (show ¬ (a3 = 1) by first | omega | (simp [upS]; done) | (simp [upS]; omega))]
        rw [if_neg (show ¬ (a3 = 2) by first | omega | (simp [upS]; done) | (simp [upS]; omega))]
        all_goals rfl
      refine Or.inr ⟨_, _, hD7, ?_⟩
      all_goals rfl
    exact Or.inr (Or.inr (⟨_, hD8, rfl⟩))
  have hB : Dd 278 [(.inr (.inr (some 682))), (.inl a1), (.inl a2), (.inl a3)] σ (.inl (some (.inl 0)), (upS σ 682 0 2)) := by
    refine b278 ?_
    have hD10 : Dd 247 [(.inl a1)] σ (.inl (some (.inl 1)), σ) := by
      refine b247 ?_
      have hD9 : Dd 246 [(.inl a1), (.inl 4)] σ (.inl (some (.inl 1)), σ) := by
        refine b246 ?_
        try rw [if_pos (show (0 : Int) ≤ a1 by first | omega | (simp [upS]; done) | (simp [upS]; omega))]
        try rw [if_pos (show a1 < 4 by first | omega | (simp [upS]; done) | (simp [upS]; omega))]
        all_goals rfl
      refine ⟨_, _, hD9, ?_⟩
      clear hD9
      refine ⟨(show 1 = 0 ∨ 1 = 1 by first | omega | (simp [upS]; done) | (simp [upS]; omega)), ?_⟩
      all_goals rfl
    refine ⟨_, _, hD10, ?_⟩
    clear hD10
    rw [if_neg (show ¬ ((1 : Int) = 0) by first | omega | (simp [upS]; done) | (simp [upS]; omega))]
    have hD12 : Dd 247 [(.inl a2)] σ (.inl (some (.inl 1)), σ) := by
      refine b247 ?_
      have hD11 : Dd 246 [(.inl a2), (.inl 4)] σ (.inl (some (.inl 1)), σ) := by
        refine b246 ?_
        try rw [if_pos (show (0 : Int) ≤ a2 by first | omega | (simp [upS]; done) | (simp [upS]; omega))]
        try rw [if_pos (show a2 < 4 by first | omega | (simp [upS]; done) | (simp [upS]; omega))]
        all_goals rfl
      refine ⟨_, _, hD11, ?_⟩
      clear hD11
      refine ⟨(show 1 = 0 ∨ 1 = 1 by first | omega | (simp [upS]; done) | (simp [upS]; omega)), ?_⟩
      all_goals rfl
    refine ⟨_, _, hD12, ?_⟩
    clear hD12
    rw [if_neg (show ¬ ((1 : Int) = 0) by first | omega | (simp [upS]; done) | (simp [upS]; omega))]
    have hD14 : Dd 275 [(.inl a3)] σ (.inl (some (.inl 0)), σ) := by
      refine b275 ?_
      have hD13 : Dd 246 [(.inl a3), (.inl 3)] σ (.inl (some (.inl 0)), σ) := by
        refine b246 ?_
        try rw [if_neg (show ¬ ((0 : Int) ≤ a3) by first | omega | (simp [upS]; done) | (simp [upS]; omega))]
        all_goals rfl
      refine ⟨_, _, hD13, ?_⟩
      clear hD13
      refine ⟨(show 0 = 0 ∨ 0 = 1 by first | omega | (simp [upS]; done) | (simp [upS]; omega)), ?_⟩
      all_goals rfl
    refine ⟨_, _, hD14, ?_⟩
    clear hD14
    try rw [if_pos (show (0 : Int) = 0 by first | omega | (simp [upS]; done) | (simp [upS]; omega))]
    refine b278_31 ?_
    have hD15 : Dd 245 [(.inr (.inr (some 682))), (.inl 2)] σ (.inl (some (.inl 0)), (upS σ 682 0 2)) := by
      refine b245 ?_
      try rw [if_neg (show ¬ ((2 : Int) = 0) by first | omega | (simp [upS]; done) | (simp [upS]; omega))]
      all_goals rfl
    refine ⟨_, _, hD15, ?_⟩
    clear hD15
    rw [if_pos (show (0 : Int) = 0 by first | omega | (simp [upS]; done) | (simp [upS]; omega))]
    all_goals rfl
  exact op_x H (by decide) hA hB
theorem x7_5 {σ : Sg} {c : Int} {a1 : Int} {a2 : Int} {a3 : Int} (H : Rel c σ) (h0 : 0 ≤ a1 ∧ a1 < 4) (h1 : 0 ≤ a2 ∧ a2 < 4) (h2 : 2 < a3) : OpR 397 278 [(.inr (.inr (some 0))), (.inl a1), (.inl a2), (.inl a3), (.inr (.inr (some 726)))] [(.inr (.inr (some 682))), (.inl a1), (.inl a2), (.inl a3)] σ (c + 1) := by
  obtain ⟨r1, r2, r3, r4, r5⟩ := rel_n H
  have t0 := rel_t H h0
  have t1 := rel_t H h1
  have hA : Dd 397 [(.inr (.inr (some 0))), (.inl a1), (.inl a2), (.inl a3), (.inr (.inr (some 726)))] σ (.inl (some (.inl 2)), σ) := by
    refine b397 ?_
    have hD8 : Dd 179 [(.inr (.inr (some 0))), (.inl a1), (.inl a2), (.inl a3)] σ (.inr 1, σ) := by
      refine b179 ?_
      have hD3 : Dd 227 [(.inr (.inr (some 0))), (.inl a1)] σ (.inl (some (.inr (.inr (some (2 + 2 * ((a1)).toNat))))), σ) := by
        refine b227 ?_
        have hD1 : Dd 145 [(.inr (.inr (some 1))), (.inl a1)] σ (.inl (some (.inr (.inr (some (2 + 2 * ((a1)).toNat))))), σ) := by
          refine b145 ?_
          rw [if_pos (show (0 : Int) ≤ a1 by first | omega | (simp [upS]; done) | (simp [upS]; omega))]
          refine ⟨4, (by decide +kernel), (by decide), ?_⟩
          rw [if_pos (show a1 < ((4 : Nat) : Int) by first | omega | (simp [upS]; done) | (simp [upS]; omega))]
          refine ⟨(show 0 ≤ a1 by first | omega | (simp [upS]; done) | (simp [upS]; omega)), ?_⟩
          refine ⟨(2 + 2 * ((a1)).toNat), (el_1 (i := (a1)) (by first | omega | (simp [upS]; done) | (simp [upS]; omega))).1, (el_1 (i := (a1)) (by first | omega | (simp [upS]; done) | (simp [upS]; omega))).2, ?_⟩
          all_goals rfl
        refine ⟨_, _, hD1, ?_⟩
        clear hD1
        refine ⟨fun hz2 => (by cases hz2), fun _ hz2 => ?_⟩
        cases hz2
        refine ⟨(el_1 (i := (a1)) (by first | omega | (simp [upS]; done) | (simp [upS]; omega))).2, ?_⟩
        all_goals rfl
      refine Or.inl ⟨_, _, hD3, (el_1 (i := (a1)) (by first | omega | (simp [upS]; done) | (simp [upS]; omega))).2, ?_⟩
      clear hD3
      have hD6 : Dd 227 [(.inr (.inr (some 0))), (.inl a2)] σ (.inl (some (.inr (.inr (some (2 + 2 * ((a2)).toNat))))), σ) := by
        refine b227 ?_
        have hD4 : Dd 145 [(.inr (.inr (some 1))), (.inl a2)] σ (.inl (some (.inr (.inr (some (2 + 2 * ((a2)).toNat))))), σ) := by
          refine b145 ?_
          rw [if_pos (show (0 : Int) ≤ a2 by first | omega | (simp [upS]; done) | (simp [upS]; omega))]
          refine ⟨4, (by decide +kernel), (by decide), ?_⟩
          rw [if_pos (show a2 < ((4 : Nat) : Int) by first | omega | (simp [upS]; done) | (simp [upS]; omega))]
          refine ⟨(show 0 ≤ a2 by first | omega | (simp [upS]; done) | (simp [upS]; omega)), ?_⟩
          refine ⟨(2 + 2 * ((a2)).toNat), (el_1 (i := (a2)) (by first | omega | (simp [upS]; done) | (simp [upS]; omega))).1, (el_1 (i := (a2)) (by first | omega | (simp [upS]; done) | (simp [upS]; omega))).2, ?_⟩
          all_goals rfl
        refine ⟨_, _, hD4, ?_⟩
        clear hD4
        refine ⟨fun hz5 => (by cases hz5), fun _ hz5 => ?_⟩
        cases hz5
        refine ⟨(el_1 (i := (a2)) (by first | omega | (simp [upS]; done) | (simp [upS]; omega))).2, ?_⟩
        all_goals rfl
      refine Or.inl ⟨_, _, hD6, (el_1 (i := (a2)) (by first | omega | (simp [upS]; done) | (simp [upS]; omega))).2, ?_⟩
      clear hD6
      have hD7 : Dd 236 [(.inr (.inr (some 0))), (.inl a3)] σ (.inr 1, σ) := by
        refine b236 ?_
        rw [if_neg (show ¬ (a3 = 0) by first | omega | (simp [upS]; done) | (simp [upS]; omega))]
        rw [if_neg (show ¬ (a3 = 1) by first | omega | (simp [upS]; done) | (simp [upS]; omega))]
        rw [if_neg (show ¬ (a3 = 2) by first | omega | (simp [upS]; done) | (simp [upS]; omega))]
        all_goals rfl
      refine Or.inr ⟨_, _, hD7, ?_⟩
      all_goals rfl
    exact Or.inr (Or.inr (⟨_, hD8, rfl⟩))
  have hB : Dd 278 [(.inr (.inr (some 682))), (.inl a1), (.inl a2), (.inl a3)] σ (.inl (some (.inl 0)), (upS σ 682 0 2)) := by
    refine b278 ?_
    have hD10 : Dd 247 [(.inl a1)] σ (.inl (some (.inl 1)), σ) := by
      refine b247 ?_
      have hD9 : Dd 246 [(.inl a1), (.inl 4)] σ (.inl (some (.inl 1)), σ) := by
        refine b246 ?_
        try rw [if_pos (show (0 : Int) ≤ a1 by first | omega | (simp [upS]; done) | (simp [upS]; omega))]
        try rw [if_pos (show a1 < 4 by first | omega | (simp [upS]; done) | (simp [upS]; omega))]
        all_goals rfl
      refine ⟨_, _, hD9, ?_⟩
      clear hD9
      refine ⟨(show 1 = 0 ∨ 1 = 1 by first | omega | (simp [upS]; done) | (simp [upS]; omega)), ?_⟩
      all_goals rfl
    refine ⟨_, _, hD10, ?_⟩
    clear hD10
    rw [if_neg (show ¬ ((1 : Int) = 0) by first | omega | (simp [upS]; done) | (simp [upS]; omega))]
    have hD12 : Dd 247 [(.inl a2)] σ (.inl (some (.inl 1)), σ) := by
      refine b247 ?_
      have hD11 : Dd 246 [(.inl a2), (.inl 4)] σ (.inl (some (.inl 1)), σ) := by
        refine b246 ?_
        try rw [if_pos (show (0 : Int) ≤ a2 by first | omega | (simp [upS]; done) | (simp [upS]; omega))]
        try rw [if_pos (show a2 < 4 by first | omega | (simp [upS]; done) | (simp [upS]; omega))]
        all_goals rfl
      refine ⟨_, _, hD11, ?_⟩
      clear hD11
      refine ⟨(show 1 = 0 ∨ 1 = 1 by first | omega | (simp [upS]; done) | (simp [upS]; omega)), ?_⟩
      all_goals rfl
    refine ⟨_, _, hD12, ?_⟩
    clear hD12
    rw [if_neg (show ¬ ((1 : Int) = 0) by first | omega | (simp [upS]; done) | (simp [upS]; omega))]
    have hD14 : Dd 275 [(.inl a3)] σ (.inl (some (.inl 0)), σ) := by
      refine b275 ?_
      have hD13 : Dd 246 [(.inl a3), (.inl 3)] σ (.inl (some (.inl 0)), σ) := by
        refine b246 ?_
        try rw [if_pos (show (0 : Int) ≤ a3 by first | omega | (simp [upS]; done) | (simp [upS]; omega))]
        try rw [if_neg (show ¬ (a3 < 3) by first | omega | (simp [upS]; done) | (simp [upS]; omega))]
        all_goals rfl
      refine ⟨_, _, hD13, ?_⟩
      clear hD13
      refine ⟨(show 0 = 0 ∨ 0 = 1 by first | omega | (simp [upS]; done) | (simp [upS]; omega)), ?_⟩
      all_goals rfl
    refine ⟨_, _, hD14, ?_⟩
    clear hD14
    try rw [if_pos (show (0 : Int) = 0 by first | omega | (simp [upS]; done) | (simp [upS]; omega))]
    refine b278_31 ?_
    have hD15 : Dd 245 [(.inr (.inr (some 682))), (.inl 2)] σ (.inl (some (.inl 0)), (upS σ 682 0 2)) := by
      refine b245 ?_
      try rw [if_neg (show ¬ ((2 : Int) = 0) by first | omega | (simp [upS]; done) | (simp [upS]; omega))]
      all_goals rfl
    refine ⟨_, _, hD15, ?_⟩
    clear hD15
    rw [if_pos (show (0 : Int) = 0 by first | omega | (simp [upS]; done) | (simp [upS]; omega))]
    all_goals rfl
  exact op_x H (by decide) hA hB
theorem x8_0 {σ : Sg} {c : Int} {a1 : Int} {a2 : Int} (H : Rel c σ) (h0 : a1 < 0) : OpR 398 279 [(.inr (.inr (some 0))), (.inl a1), (.inl a2), (.inr (.inr (some 726)))] [(.inr (.inr (some 682))), (.inl a1), (.inl a2)] σ (c + 1) := by
  obtain ⟨r1, r2, r3, r4, r5⟩ := rel_n H
  have hA : Dd 398 [(.inr (.inr (some 0))), (.inl a1), (.inl a2), (.inr (.inr (some 726)))] σ (.inl (some (.inl 1)), σ) := by
    refine b398 ?_
    have hD4 : Dd 180 [(.inr (.inr (some 0))), (.inl a1), (.inl a2)] σ (.inr 0, σ) := by
      refine b180 ?_
      have hD3 : Dd 227 [(.inr (.inr (some 0))), (.inl a1)] σ (.inr 0, σ) := by
        refine b227 ?_
        have hD1 : Dd 145 [(.inr (.inr (some 1))), (.inl a1)] σ (.inl (some (.inr (.inr none))), σ) := by
          refine b145 ?_
          rw [if_neg (show ¬ ((0 : Int) ≤ a1) by first | omega | (simp [upS]; done) | (simp [upS]; omega))]
          all_goals rfl
        refine ⟨_, _, hD1, ?_⟩
        clear hD1
        refine ⟨fun _ => ?_, fun _ hz2 => (by cases hz2)⟩
        all_goals rfl
      refine Or.inr ⟨_, _, hD3, ?_⟩
      all_goals rfl
    exact Or.inr (⟨_, hD4, rfl⟩)
  have hB : Dd 279 [(.inr (.inr (some 682))), (.inl a1), (.inl a2)] σ (.inl (some (.inl 0)), (upS σ 682 0 1)) := by
    refine b279 ?_
    have hD6 : Dd 247 [(.inl a1)] σ (.inl (some (.inl 0)), σ) := by
      refine b247 ?_
      have hD5 : Dd 246 [(.inl a1), (.inl 4)] σ (.inl (some (.inl 0)), σ) := by
        refine b246 ?_
        try rw [if_neg (show ¬ ((0 : Int) ≤ a1) by first | omega | (simp [upS]; done) | (simp [upS]; omega))]
        all_goals rfl
      refine ⟨_, _, hD5, ?_⟩
      clear hD5
      refine ⟨(show 0 = 0 ∨ 0 = 1 by first | omega | (simp [upS]; done) | (simp [upS]; omega)), ?_⟩
      all_goals rfl
    refine ⟨_, _, hD6, ?_⟩
    clear hD6
    rw [if_pos (show (0 : Int) = 0 by first | omega | (simp [upS]; done) | (simp [upS]; omega))]
    refine b279_19 ?_
    refine b279_20 ?_
    have hD7 : Dd 245 [(.inr (.inr (some 682))), (.inl 1)] σ (.inl (some (.inl 0)), (upS σ 682 0 1)) := by
      refine b245 ?_
      try rw [if_neg (show ¬ ((1 : Int) = 0) by first | omega | (simp [upS]; done) | (simp [upS]; omega))]
      all_goals rfl
    refine ⟨_, _, hD7, ?_⟩
    clear hD7
    rw [if_pos (show (0 : Int) = 0 by first | omega | (simp [upS]; done) | (simp [upS]; omega))]
    all_goals rfl
  exact op_x H (by decide) hA hB
theorem x8_1 {σ : Sg} {c : Int} {a1 : Int} {a2 : Int} (H : Rel c σ) (h0 : 4 ≤ a1) : OpR 398 279 [(.inr (.inr (some 0))), (.inl a1), (.inl a2), (.inr (.inr (some 726)))] [(.inr (.inr (some 682))), (.inl a1), (.inl a2)] σ (c + 1) := by
  obtain ⟨r1, r2, r3, r4, r5⟩ := rel_n H
  have hA : Dd 398 [(.inr (.inr (some 0))), (.inl a1), (.inl a2), (.inr (.inr (some 726)))] σ (.inl (some (.inl 1)), σ) := by
    refine b398 ?_
    have hD4 : Dd 180 [(.inr (.inr (some 0))), (.inl a1), (.inl a2)] σ (.inr 0, σ) := by
      refine b180 ?_
      have hD3 : Dd 227 [(.inr (.inr (some 0))), (.inl a1)] σ (.inr 0, σ) := by
        refine b227 ?_
        have hD1 : Dd 145 [(.inr (.inr (some 1))), (.inl a1)] σ (.inl (some (.inr (.inr none))), σ) := by
          refine b145 ?_
          rw [if_pos (show (0 : Int) ≤ a1 by first | omega | (simp [upS]; done) | (simp [upS]; omega))]
          refine ⟨4, (by decide +kernel), (by decide), ?_⟩
          rw [if_neg (show ¬ (a1 < ((4 : Nat) : Int)) by first | omega | (simp [upS]; done) | (simp [upS]; omega))]
          all_goals rfl
        refine ⟨_, _, hD1, ?_⟩
        clear hD1
        refine ⟨fun _ => ?_, fun _ hz2 => (by cases hz2)⟩
        all_goals rfl
      refine Or.inr ⟨_, _, hD3, ?_⟩
      all_goals rfl
    exact Or.inr (⟨_, hD4, rfl⟩)
  have hB : Dd 279 [(.inr (.inr (some 682))), (.inl a1), (.inl a2)] σ (.inl (some (.inl 0)), (upS σ 682 0 1)) := by
    refine b279 ?_
    have hD6 : Dd 247 [(.inl a1)] σ (.inl (some (.inl 0)), σ) := by
      refine b247 ?_
      have hD5 : Dd 246 [(.inl a1), (.inl 4)] σ (.inl (some (.inl 0)), σ) := by
        refine b246 ?_
        try rw [if_pos (show (0 : Int) ≤ a1 by first | omega | (simp [upS]; done) | (simp [upS]; omega))]
        try rw [if_neg (show ¬ (a1 < 4) by first | omega | (simp [upS]; done) | (simp [upS]; omega))]
        all_goals rfl
      refine ⟨_, _, hD5, ?_⟩
      clear hD5
      refine ⟨(show 0 = 0 ∨ 0 = 1 by first | omega | (simp [upS]; done) | (simp [upS]; omega)), ?_⟩
      all_goals rfl
    refine ⟨_, _, hD6, ?_⟩
    clear hD6
    rw [if_pos (show (0 : Int) = 0 by first | omega | (simp [upS]; done) | (simp [upS]; omega))]
    refine b279_19 ?_
    refine b279_20 ?_
    have hD7 : Dd 245 [(.inr (.inr (some 682))), (.inl 1)] σ (.inl (some (.inl 0)), (upS σ 682 0 1)) := by
      refine b245 ?_
      try rw [if_neg (show ¬ ((1 : Int) = 0) by first | omega | (simp [upS]; done) | (simp [upS]; omega))]
      all_goals rfl
    refine ⟨_, _, hD7, ?_⟩
    clear hD7
    rw [if_pos (show (0 : Int) = 0 by first | omega | (simp [upS]; done) | (simp [upS]; omega))]
    all_goals rfl
  exact op_x H (by decide) hA hB
theorem x8_2 {σ : Sg} {c : Int} {a1 : Int} {a2 : Int} (H : Rel c σ) (h0 : 0 ≤ a1 ∧ a1 < 4) (h1 : a2 < 0) : OpR 398 279 [(.inr (.inr (some 0))), (.inl a1), (.inl a2), (.inr (.inr (some 726)))] [(.inr (.inr (some 682))), (.inl a1), (.inl a2)] σ (c + 1) := by
  obtain ⟨r1, r2, r3, r4, r5⟩ := rel_n H
  have t0 := rel_t H h0
  have hA : Dd 398 [(.inr (.inr (some 0))), (.inl a1), (.inl a2), (.inr (.inr (some 726)))] σ (.inl (some (.inl 1)), σ) := by
    refine b398 ?_
    have hD7 : Dd 180 [(.inr (.inr (some 0))), (.inl a1), (.inl a2)] σ (.inr 0, σ) := by
      refine b180 ?_
      have hD3 : Dd 227 [(.inr (.inr (some 0))), (.inl a1)] σ (.inl (some (.inr (.inr (some (2 + 2 * ((a1)).toNat))))), σ) := by
        refine b227 ?_
        have hD1 : Dd 145 [(.inr (.inr (some 1))), (.inl a1)] σ (.inl (some (.inr (.inr (some (2 + 2 * ((a1)).toNat))))), σ) := by
          refine b145 ?_
          rw [if_pos (show (0 : Int) ≤ a1 by first | omega | (simp [upS]; done) | (simp [upS]; omega))]
          refine ⟨4, (by decide +kernel), (by decide), ?_⟩
          rw [if_pos (show a1 < ((4 : Nat) : Int) by first | omega | (simp [upS]; done) | (simp [upS]; omega))]
          refine ⟨(show 0 ≤ a1 by first | omega | (simp [upS]; done) | (simp [upS]; omega)), ?_⟩
          refine ⟨(2 + 2 * ((a1)).toNat), (el_1 (i := (a1)) (by first | omega | (simp [upS]; done) | (simp [upS]; omega))).1, (el_1 (i := (a1)) (by first | omega | (simp [upS]; done) | (simp [upS]; omega))).2, ?_⟩
          all_goals rfl
        refine ⟨_, _, hD1, ?_⟩
        clear hD1
        refine ⟨fun hz2 => (by cases hz2), fun _ hz2 => ?_⟩
        cases hz2
        refine ⟨(el_1 (i := (a1)) (by first | omega | (simp [upS]; done) | (simp [upS]; omega))).2, ?_⟩
        all_goals rfl
      refine Or.inl ⟨_, _, hD3, (el_1 (i := (a1)) (by first | omega | (simp [upS]; done) | (simp [upS]; omega))).2, ?_⟩
      clear hD3
      have hD6 : Dd 227 [(.inr (.inr (some 0))), (.inl a2)] σ (.inr 0, σ) := by
        refine b227 ?_
        have hD4 : Dd 145 [(.inr (.inr (some 1))), (.inl a2)] σ (.inl (some (.inr (.inr none))), σ) := by
          refine b145 ?_
          rw [if_neg (show ¬ ((0 : Int) ≤ a2) by first | omega | (simp [upS]; done) | (simp [upS]; omega))]
          all_goals rfl
        refine ⟨_, _, hD4, ?_⟩
        clear hD4
        refine ⟨fun _ => ?_, fun _ hz5 => (by cases hz5)⟩
        all_goals rfl
      refine Or.inr ⟨_, _, hD6, ?_⟩
      all_goals rfl
    exact Or.inr (⟨_, hD7, rfl⟩)
  have hB : Dd 279 [(.inr (.inr (some 682))), (.inl a1), (.inl a2)] σ (.inl (some (.inl 0)), (upS σ 682 0 1)) := by
    refine b279 ?_
    have hD9 : Dd 247 [(.inl a1)] σ (.inl (some (.inl 1)), σ) := by
      refine b247 ?_
      have hD8 : Dd 246 [(.inl a1), (.inl 4)] σ (.inl (some (.inl 1)), σ) := by
        refine b246 ?_
        try rw [if_pos (show (0 : Int) ≤ a1 by first | omega | (simp [upS]; done) | (simp [upS]; omega))]
        try rw [if_pos (show a1 < 4 by first | omega | (simp [upS]; done) | (simp [upS]; omega))]
        all_goals rfl
      refine ⟨_, _, hD8, ?_⟩
      clear hD8
      refine ⟨(show 1 = 0 ∨ 1 = 1 by first | omega | (simp [upS]; done) | (simp [upS]; omega)), ?_⟩
      all_goals rfl
    refine ⟨_, _, hD9, ?_⟩
    clear hD9
    rw [if_neg (show ¬ ((1 : Int) = 0) by first | omega | (simp [upS]; done) | (simp [upS]; omega))]
    have hD11 : Dd 247 [(.inl a2)] σ (.inl (some (.inl 0)), σ) := by
      refine b247 ?_
      have hD10 : Dd 246 [(.inl a2), (.inl 4)] σ (.inl (some (.inl 0)), σ) := by
        refine b246 ?_
        try rw [if_neg (show ¬ ((0 : Int) ≤ a2) by first | omega | (simp [upS]; done) | (simp [upS]; omega))]
        all_goals rfl
      refine ⟨_, _, hD10, ?_⟩
      clear hD10
      refine ⟨(show 0 = 0 ∨ 0 = 1 by first | omega | (simp [upS]; done) | (simp [upS]; omega)), ?_⟩
      all_goals rfl
    refine ⟨_, _, hD11, ?_⟩
    clear hD11
    rw [if_pos (show (0 : Int) = 0 by first | omega | (simp [upS]; done) | (simp [upS]; omega))]
    refine b279_19 ?_
    refine b279_20 ?_
    have hD12 : Dd 245 [(.inr (.inr (some 682))), (.inl 1)] σ (.inl (some (.inl 0)), (upS σ 682 0 1)) := by
      refine b245 ?_
      try rw [if_neg (show ¬ ((1 : Int) = 0) by first | omega | (simp [upS]; done) | (simp [upS]; omega))]
      all_goals rfl
    refine ⟨_, _, hD12, ?_⟩
    clear hD12
    rw [if_pos (show (0 : Int) = 0 by first | omega | (simp [upS]; done) | (simp [upS]; omega))]
    all_goals rfl
  exact op_x H (by decide) hA hB
theorem x8_3 {σ : Sg} {c : Int} {a1 : Int} {a2 : Int} (H : Rel c σ) (h0 : 0 ≤ a1 ∧ a1 < 4) (h1 : 4 ≤ a2) : OpR 398 279 [(.inr (.inr (some 0))), (.inl a1), (.inl a2), (.inr (.inr (some 726)))] [(.inr (.inr (some 682))), (.inl a1), (.inl a2)] σ (c + 1) := by
  obtain ⟨r1, r2, r3, r4, r5⟩ := rel_n H
  have t0 := rel_t H h0
  have hA : Dd 398 [(.inr (.inr (some 0))), (.inl a1), (.inl a2), (.inr (.inr (some 726)))] σ (.inl (some (.inl 1)), σ) := by
    refine b398 ?_
    have hD7 : Dd 180 [(.inr (.inr (some 0))), (.inl a1), (.inl a2)] σ (.inr 0, σ) := by
      refine b180 ?_
      have hD3 : Dd 227 [(.inr (.inr (some 0))), (.inl a1)] σ (.inl (some (.inr (.inr (some (2 + 2 * ((a1)).toNat))))), σ) := by
        refine b227 ?_
        have hD1 : Dd 145 [(.inr (.inr (some 1))), (.inl a1)] σ (.inl (some (.inr (.inr (some (2 + 2 * ((a1)).toNat))))), σ) := by
          refine b145 ?_
          rw [if_pos (show (0 : Int) ≤ a1 by first | omega | (simp [upS]; done) | (simp [upS]; omega))]
          refine ⟨4, (by decide +kernel), (by decide), ?_⟩
          rw [if_pos (show a1 < ((4 : Nat) : Int) by first | omega | (simp [upS]; done) | (simp [upS]; omega))]
          refine ⟨(show 0 ≤ a1 by first | omega | (simp [upS]; done) | (simp [upS]; omega)), ?_⟩
          refine ⟨(2 + 2 * ((a1)).toNat), (el_1 (i := (a1)) (by first | omega | (simp [upS]; done) | (simp [upS]; omega))).1, (el_1 (i := (a1)) (by first | omega | (simp [upS]; done) | (simp [upS]; omega))).2, ?_⟩
          all_goals rfl
        refine ⟨_, _, hD1, ?_⟩
        clear hD1
        refine ⟨fun hz2 => (by cases hz2), fun _ hz2 => ?_⟩
        cases hz2
        refine ⟨(el_1 (i := (a1)) (by first | omega | (simp [upS]; done) | (simp [upS]; omega))).2, ?_⟩
        all_goals rfl
      refine Or.inl ⟨_, _, hD3, (el_1 (i := (a1)) (by first | omega | (simp [upS]; done) | (simp [upS]; omega))).2, ?_⟩
      clear hD3
      have hD6 : Dd 227 [(.inr (.inr (some 0))), (.inl a2)] σ (.inr 0, σ) := by
        refine b227 ?_
        have hD4 : Dd 145 [(.inr (.inr (some 1))), (.inl a2)] σ (.inl (some (.inr (.inr none))), σ) := by
          refine b145 ?_
          rw [if_pos (show (0 : Int) ≤ a2 by first | omega | (simp [upS]; done) | (simp [upS]; omega))]
          refine ⟨4, (by decide +kernel), (by decide), ?_⟩
          rw [if_neg (show ¬ (a2 < ((4 : Nat) : Int)) by first | omega | (simp [upS]; done) | (simp [upS]; omega))]
          all_goals rfl
        refine ⟨_, _, hD4, ?_⟩
        clear hD4
        refine ⟨fun _ => ?_, fun _ hz5 => (by cases hz5)⟩
        all_goals rfl
      refine Or.inr ⟨_, _, hD6, ?_⟩
      all_goals rfl
    exact Or.inr (⟨_, hD7, rfl⟩)
  have hB : Dd 279 [(.inr (.inr (some 682))), (.inl a1), (.inl a2)] σ (.inl (some (.inl 0)), (upS σ 682 0 1)) := by
    refine b279 ?_
    have hD9 : Dd 247 [(.inl a1)] σ (.inl (some (.inl 1)), σ) := by
      refine b247 ?_
      have hD8 : Dd 246 [(.inl a1), (.inl 4)] σ (.inl (some (.inl 1)), σ) := by
        refine b246 ?_
        try rw [if_pos (show (0 : Int) ≤ a1 by first | omega | (simp [upS]; done) | (simp [upS]; omega))]
        try rw [if_pos (show a1 < 4 by first | omega | (simp [upS]; done) | (simp [upS]; omega))]
        all_goals rfl
      refine ⟨_, _, hD8, ?_⟩
      clear hD8
      refine ⟨(show 1 = 0 ∨ 1 = 1 by first | omega | (simp [upS]; done) | (simp [upS]; omega)), ?_⟩
      all_goals rfl
    refine ⟨_, _, hD9, ?_⟩
    clear hD9
    rw [if_neg (show ¬ ((1 : Int) = 0) by first | omega | (simp [upS]; done) | (simp [upS]; omega))]
    have hD11 : Dd 247 [(.inl a2)] σ (.inl (some (.inl 0)), σ) := by
      refine b247 ?_
      have hD10 : Dd 246 [(.inl a2), (.inl 4)] σ (.inl (some (.inl 0)), σ) := by
        refine b246 ?_
        try rw [if_pos (show (0 : Int) ≤ a2 by first | omega | (simp [upS]; done) | (simp [upS]; omega))]
        try rw [if_neg (show ¬ (a2 < 4) by first | omega | (simp [upS]; done) | (simp [upS]; omega))]
        all_goals rfl
      refine ⟨_, _, hD10, ?_⟩
      clear hD10
      refine ⟨(show 0 = 0 ∨ 0 = 1 by first | omega | (simp [upS]; done) | (simp [upS]; omega)), ?_⟩
      all_goals rfl
    refine ⟨_, _, hD11, ?_⟩
    clear hD11
    rw [if_pos (show (0 : Int) = 0 by first | omega | (simp [upS]; done) | (simp [upS]; omega))]
    refine b279_19 ?_
    refine b279_20 ?_
    have hD12 : Dd 245 [(.inr (.inr (some 682))), (.inl 1)] σ (.inl (some (.inl 0)), (upS σ 682 0 1)) := by
      refine b245 ?_
      try rw [if_neg (show ¬ ((1 : Int) = 0) by first | omega | (simp [upS]; done) | (simp [upS]; omega))]
      all_goals rfl
    refine ⟨_, _, hD12, ?_⟩
    clear hD12
    rw [if_pos (show (0 : Int) = 0 by first | omega | (simp [upS]; done) | (simp [upS]; omega))]
    all_goals rfl
  exact op_x H (by decide) hA hB
theorem x9_0 {σ : Sg} {c : Int} {a1 : Int} {a2 : Int} {a3 : Int} (H : Rel c σ) (h0 : a1 < 0) : OpR 399 299 [(.inr (.inr (some 0))), (.inl a1), (.inl a2), (.inl a3), (.inr (.inr (some 726)))] [(.inr (.inr (some 682))), (.inl a1), (.inl a2), (.inl a3)] σ (c + 1) := by
  obtain ⟨r1, r2, r3, r4, r5⟩ := rel_n H
  have hA : Dd 399 [(.inr (.inr (some 0))), (.inl a1), (.inl a2), (.inl a3), (.inr (.inr (some 726)))] σ (.inl (some (.inl 1)), σ) := by
    refine b399 ?_
    have hD4 : Dd 181 [(.inr (.inr (some 0))), (.inl a1), (.inl a2), (.inl a3)] σ (.inr 0, σ) := by
      refine b181 ?_
      have hD3 : Dd 227 [(.inr (.inr (some 0))), (.inl a1)] σ (.inr 0, σ) := by
        refine b227 ?_
        have hD1 : Dd 145 [(.inr (.inr (some 1))), (.inl a1)] σ (.inl (some (.inr (.inr none))), σ) := by
          refine b145 ?_
          rw [if_neg (show ¬ ((0 : Int) ≤ a1) by first | omega | (simp [upS]; done) | (simp [upS]; omega))]
          all_goals rfl
        refine ⟨_, _, hD1, ?_⟩
        clear hD1
        refine ⟨fun _ => ?_, fun _ hz2 => (by cases hz2)⟩
        all_goals rfl
      refine Or.inr ⟨_, _, hD3, ?_⟩
      all_goals rfl
    exact Or.inr (Or.inl ⟨_, hD4, rfl⟩)
  have hB : Dd 299 [(.inr (.inr (some 682))), (.inl a1), (.inl a2), (.inl a3)] σ (.inl (some (.inl 0)), (upS σ 682 0 1)) := by
    refine b299 ?_
    have hD6 : Dd 247 [(.inl a1)] σ (.inl (some (.inl 0)), σ) := by
      refine b247 ?_
      have hD5 : Dd 246 [(.inl a1), (.inl 4)] σ (.inl (some (.inl 0)), σ) := by
        refine b246 ?_
        try rw [if_neg (show ¬ ((0 : Int) ≤ a1) by first | omega | (simp [upS]; done) | (simp [upS]; omega))]
        all_goals rfl
      refine ⟨_, _, hD5, ?_⟩
      clear hD5
      refine ⟨(show 0 = 0 ∨ 0 = 1 by first | omega | (simp [upS]; done) | (simp [upS]; omega)), ?_⟩
      all_goals rfl
    refine ⟨_, _, hD6, ?_⟩
    clear hD6
    rw [if_pos (show (0 : Int) = 0 by first | omega | (simp [upS]; done) | (simp [upS]; omega))]
    refine b299_15 ?_
    refine b299_44 ?_
    have hD7 : Dd 245 [(.inr (.inr (some 682))), (.inl 1)] σ (.inl (some (.inl 0)), (upS σ 682 0 1)) := by
      refine b245 ?_
      try rw [if_neg (show ¬ ((1 : Int) = 0) by first | omega | (simp [upS]; done) | (simp [upS]; omega))]
      all_goals rfl
    refine ⟨_, _, hD7, ?_⟩
    clear hD7
    rw [if_pos (show (0 : Int) = 0 by first | omega | (simp [upS]; done) | (simp [upS]; omega))]
    all_goals rfl
  exact op_x H (by decide) hA hB
theorem x9_1 {σ : Sg} {c : Int} {a1 : Int} {a2 : Int} {a3 : Int} (H : Rel c σ) (h0 : 4 ≤ a1) : OpR 399 299 [(.inr (.inr (some 0))), (.inl a1), (.inl a2), (.inl a3), (.inr (.inr (some 726)))] [(.inr (.inr (some 682))), (.inl a1), (.inl a2), (.inl a3)] σ (c + 1) := by
  obtain ⟨r1, r2, r3, r4, r5⟩ := rel_n H
  have hA : Dd 399 [(.inr (.inr (some 0))), (.inl a1), (.inl a2), (.inl a3), (.inr (.inr (some 726)))] σ (.inl (some (.inl 1)), σ) := by
    refine b399 ?_
    have hD4 : Dd 181 [(.inr (.inr (some 0))), (.inl a1), (.inl a2), (.inl a3)] σ (.inr 0, σ) := by
      refine b181 ?_
      have hD3 : Dd 227 [(.inr (.inr (some 0))), (.inl a1)] σ (.inr 0, σ) := by
        refine b227 ?_
        have hD1 : Dd 145 [(.inr (.inr (some 1))), (.inl a1)] σ (.inl (some (.inr (.inr none))), σ) := by
          refine b145 ?_
          rw [if_pos (show (0 : Int) ≤ a1 by first | omega | (simp [upS]; done) | (simp [upS]; omega))]
          refine ⟨4, (by decide +kernel), (by decide), ?_⟩
          rw [if_neg (show ¬ (a1 < ((4 : Nat) : Int)) by first | omega | (simp [upS]; done) | (simp [upS]; omega))]
          all_goals rfl
        refine ⟨_, _, hD1, ?_⟩
        clear hD1
        refine ⟨fun _ => ?_, fun _ hz2 => (by cases hz2)⟩
        all_goals rfl
      refine Or.inr ⟨_, _, hD3, ?_⟩
      all_goals rfl
    exact Or.inr (Or.inl ⟨_, hD4, rfl⟩)
  have hB : Dd 299 [(.inr (.inr (some 682))), (.inl a1), (.inl a2), (.inl a3)] σ (.inl (some (.inl 0)), (upS σ 682 0 1)) := by
    refine b299 ?_
    have hD6 : Dd 247 [(.inl a1)] σ (.inl (some (.inl 0)), σ) := by
      refine b247 ?_
      have hD5 : Dd 246 [(.inl a1), (.inl 4)] σ (.inl (some (.inl 0)), σ) := by
        refine b246 ?_
        try rw [if_pos (show (0 : Int) ≤ a1 by first | omega | (simp [upS]; done) | (simp [upS]; omega))]
        try rw [if_neg (show ¬ (a1 < 4) by first | omega | (simp [upS]; done) | (simp [upS]; omega))]
        all_goals rfl
      refine ⟨_, _, hD5, ?_⟩
      clear hD5
      refine ⟨(show 0 = 0 ∨ 0 = 1 by first | omega | (simp [upS]; done) | (simp [upS]; omega)), ?_⟩
      all_goals rfl
    refine ⟨_, _, hD6, ?_⟩
    clear hD6
    rw [if_pos (show (0 : Int) = 0 by first | omega | (simp [upS]; done) | (simp [upS]; omega))]
    refine b299_15 ?_
    refine b299_44 ?_
    have hD7 : Dd 245 [(.inr (.inr (some 682))), (.inl 1)] σ (.inl (some (.inl 0)), (upS σ 682 0 1)) := by
      refine b245 ?_
      try rw [if_neg (show ¬ ((1 : Int) = 0) by first | omega | (simp [upS]; done) | (simp [upS]; omega))]
      all_goals rfl
    refine ⟨_, _, hD7, ?_⟩
    clear hD7
    rw [if_pos (show (0 : Int) = 0 by first | omega | (simp [upS]; done) | (simp [upS]; omega))]
    all_goals rfl
  exact op_x H (by decide) hA hB
theorem x9_2 {σ : Sg} {c : Int} {a1 : Int} {a2 : Int} {a3 : Int} (H : Rel c σ) (h0 : 0 ≤ a1 ∧ a1 < 4) (h1 : a2 < 0) : OpR 399 299 [(.inr (.inr (some 0))), (.inl a1), (.inl a2), (.inl a3), (.inr (.inr (some 726)))] [(.inr (.inr (some 682))), (.inl a1), (.inl a2), (.inl a3)] σ (c + 1) := by
  obtain ⟨r1, r2, r3, r4, r5⟩ := rel_n H
  have t0 := rel_t H h0
  have hA : Dd 399 [(.inr (.inr (some 0))), (.inl a1), (.inl a2), (.inl a3), (.inr (.inr (some 726)))] σ (.inl (some (.inl 1)), σ) := by
    refine b399 ?_
    have hD7 : Dd 181 [(.inr (.inr (some 0))), (.inl a1), (.inl a2), (.inl a3)] σ (.inr 0, σ) := by
      refine b181 ?_
      have hD3 : Dd 227 [(.inr (.inr (some 0))), (.inl a1)] σ (.inl (some (.inr (.inr (some (2 + 2 * ((a1)).toNat))))), σ) := by
        refine b227 ?_
        have hD1 : Dd 145 [(.inr (.inr (some 1))), (.inl a1)] σ (.inl (some (.inr (.inr (some (2 + 2 * ((a1)).toNat))))), σ) := by
          refine b145 ?_
          rw [if_pos (show (0 : Int) ≤ a1 by first | omega | (simp [upS]; done) | (simp [upS]; omega))]
          refine ⟨4, (by decide +kernel), (by decide), ?_⟩
          rw [if_pos (show a1 < ((4 : Nat) : Int) by first | omega | (simp [upS]; done) | (simp [upS]; omega))]
          refine ⟨(show 0 ≤ a1 by first | omega | (simp [upS]; done) | (simp [upS]; omega)), ?_⟩
          refine ⟨(2 + 2 * ((a1)).toNat), (el_1 (i := (a1)) (by first | omega | (simp [upS]; done) | (simp [upS]; omega))).1, (el_1 (i := (a1)) (by first | omega | (simp [upS]; done) | (simp [upS]; omega))).2, ?_⟩
          all_goals rfl
        refine ⟨_, _, hD1, ?_⟩
        clear hD1
        refine ⟨fun hz2 => (by cases hz2), fun _ hz2 => ?_⟩
        cases hz2
        refine ⟨(el_1 (i := (a1)) (by first | omega | (simp [upS]; done) | (simp [upS]; omega))).2, ?_⟩
        all_goals rfl
      refine Or.inl ⟨_, _, hD3, (el_1 (i := (a1)) (by first | omega | (simp [upS]; done) | (simp [upS]; omega))).2, ?_⟩
      clear hD3
      have hD6 : Dd 227 [(.inr (.inr (some 0))), (.inl a2)] σ (.inr 0, σ) := by
        refine b227 ?_
        have hD4 : Dd 145 [(.inr (.inr (some 1))), (.inl a2)] σ (.inl (some (.inr (.inr none))), σ) := by
          refine b145 ?_
          rw [if_neg (show ¬ ((0 : Int) ≤ a2) by first | omega | (simp [upS]; done) | (simp [upS]; omega))]
          all_goals rfl
        refine ⟨_, _, hD4, ?_⟩
        clear hD4
        refine ⟨fun _ => ?_, fun _ hz5 => (by cases hz5)⟩
        all_goals rfl
      refine Or.inr ⟨_, _, hD6, ?_⟩
      all_goals rfl
    exact Or.inr (Or.inl ⟨_, hD7, rfl⟩)
  have hB : Dd 299 [(.inr (.inr (some 682))), (.inl a1), (.inl a2), (.inl a3)] σ (.inl (some (.inl 0)), (upS σ 682 0 1)) := by
    refine b299 ?_
    have hD9 : Dd 247 [(.inl a1)] σ (.inl (some (.inl 1)), σ) := by
      refine b247 ?_
      have hD8 : Dd 246 [(.inl a1), (.inl 4)] σ (.inl (some (.inl 1)), σ) := by
        refine b246 ?_
        try rw [if_pos (show (0 : Int) ≤ a1 by first | omega | (simp [upS]; done) | (simp [upS]; omega))]
        try rw [if_pos (show a1 < 4 by first | omega | (simp [upS]; done) | (simp [upS]; omega))]
        all_goals rfl
      refine ⟨_, _, hD8, ?_⟩
      clear hD8
      refine ⟨(show 1 = 0 ∨ 1 = 1 by first | omega | (simp [upS]; done) | (simp [upS]; omega)), ?_⟩
      all_goals rfl
    refine ⟨_, _, hD9, ?_⟩
    clear hD9
    rw [if_neg (show ¬ ((1 : Int) = 0) by first | omega | (simp [upS]; done) | (simp [upS]; omega))]
    have hD11 : Dd 247 [(.inl a2)] σ (.inl (some (.inl 0)), σ) := by
      refine b247 ?_
      have hD10 : Dd 246 [(.inl a2), (.inl 4)] σ (.inl (some (.inl 0)), σ) := by
        refine b246 ?_
        try rw [if_neg (show ¬ ((0 : Int) ≤ a2) by first | omega | (simp [upS]; done) | (simp [upS]; omega))]
        all_goals rfl
      refine ⟨_, _, hD10, ?_⟩
      clear hD10
      refine ⟨(show 0 = 0 ∨ 0 = 1 by first | omega | (simp [upS]; done) | (simp [upS]; omega)), ?_⟩
      all_goals rfl
    refine ⟨_, _, hD11, ?_⟩
    clear hD11
    rw [if_pos (show (0 : Int) = 0 by first | omega | (simp [upS]; done) | (simp [upS]; omega))]
    refine b299_15 ?_
    refine b299_44 ?_
    have hD12 : Dd 245 [(.inr (.inr (some 682))), (.inl 1)] σ (.inl (some (.inl 0)), (upS σ 682 0 1)) := by
      refine b245 ?_
      try rw [if_neg (show ¬ ((1 : Int) = 0) by first | omega | (simp [upS]; done) | (simp [upS]; omega))]
      all_goals rfl
    refine ⟨_, _, hD12, ?_⟩
    clear hD12
    rw [if_pos (show (0 : Int) = 0 by first | omega | (simp [upS]; done) | (simp [upS]; omega))]
    all_goals rfl
  exact op_x H (by decide) hA hB
theorem x9_3 {σ : Sg} {c : Int} {a1 : Int} {a2 : Int} {a3 : Int} (H : Rel c σ) (h0 : 0 ≤ a1 ∧ a1 < 4) (h1 : 4 ≤ a2) : OpR 399 299 [(.inr (.inr (some 0))), (.inl a1), (.inl a2), (.inl a3), (.inr (.inr (some 726)))] [(.inr (.inr (some 682))), (.inl a1), (.inl a2), (.inl a3)] σ (c + 1) := by
  obtain ⟨r1, r2, r3, r4, r5⟩ := rel_n H
  have t0 := rel_t H h0
  have hA : Dd 399 [(.inr (.inr (some 0))), (.inl a1), (.inl a2), (.inl a3), (.inr (.inr (some 726)))] σ (.inl (some (.inl 1)), σ) := by
    refine b399 ?_
    have hD7 : Dd 181 [(.inr (.inr (some 0))), (.inl a1), (.inl a2), (.inl a3)] σ (.inr 0, σ) := by
      refine b181 ?_
      have hD3 : Dd 227 [(.inr (.inr (some 0))), (.inl a1)] σ (.inl (some (.inr (.inr (some (2 + 2 * ((a1)).toNat))))), σ) := by
        refine b227 ?_
        have hD1 : Dd 145 [(.inr (.inr (some 1))), (.inl a1)] σ (.inl (some (.inr (.inr (some (2 + 2 * ((a1)).toNat))))), σ) := by
          refine b145 ?_
          rw [if_pos (show (0 : Int) ≤ a1 by first | omega | (simp [upS]; done) | (simp [upS]; omega))]
          refine ⟨4, (by decide +kernel), (by decide), ?_⟩
          rw [if_pos (show a1 < ((4 : Nat) : Int) by first | omega | (simp [upS]; done) | (simp [upS]; omega))]
          refine ⟨(show 0 ≤ a1 by first | omega | (simp [upS]; done) | (simp [upS]; omega)), ?_⟩
          refine ⟨(2 + 2 * ((a1)).toNat), (el_1 (i := (a1)) (by first | omega | (simp [upS]; done) | (simp [upS]; omega))).1, (el_1 (i := (a1)) (by first | omega | (simp [upS]; done) | (simp [upS]; omega))).2, ?_⟩
          all_goals rfl
        refine ⟨_, _, hD1, ?_⟩
        clear hD1
        refine ⟨fun hz2 => (by cases hz2), fun _ hz2 => ?_⟩
        cases hz2
        refine ⟨(el_1 (i := (a1)) (by first | omega | (simp [upS]; done) | (simp [upS]; omega))).2, ?_⟩
        all_goals rfl
      refine Or.inl ⟨_, _, hD3, (el_1 (i := (a1)) (by first | omega | (simp [upS]; done) | (simp [upS]; omega))).2, ?_⟩
      clear hD3
      have hD6 : Dd 227 [(.inr (.inr (some 0))), (.inl a2)] σ (.inr 0, σ) := by
        refine b227 ?_
        have hD4 : Dd 145 [(.inr (.inr (some 1))), (.inl a2)] σ (.inl (some (.inr (.inr none))), σ) := by
          refine b145 ?_
          rw [if_pos (show (0 : Int) ≤ a2 by first | omega | (simp [upS]; done) | (simp [upS]; omega))]
          refine ⟨4, (by decide +kernel), (by decide), ?_⟩
          rw [if_neg (show ¬ (a2 < ((4 : Nat) : Int)) by first | omega | (simp [upS]; done) | (simp [upS]; omega))]
          all_goals rfl
        refine ⟨_, _, hD4, ?_⟩
        clear hD4
        refine ⟨fun _ => ?_, fun _ hz5 => (by cases hz5)⟩
        all_goals rfl
      refine Or.inr ⟨_, _, hD6, ?_⟩
      all_goals rfl
    exact Or.inr (Or.inl ⟨_, hD7, rfl⟩)
  have hB : Dd 299 [(.inr (.inr (some 682))), (.inl a1), (.inl a2), (.inl a3)] σ (.inl (some (.inl 0)), (upS σ 682 0 1)) := by
    refine b299 ?_
    have hD9 : Dd 247 [(.inl a1)] σ (.inl (some (.inl 1)), σ) := by
      refine b247 ?_
      have hD8 : Dd 246 [(.inl a1), (.inl 4)] σ (.inl (some (.inl 1)), σ) := by
        refine b246 ?_
        try rw [if_pos (show (0 : Int) ≤ a1 by first | omega | (simp [upS]; done) | (simp [upS]; omega))]
        try rw [if_pos (show a1 < 4 by first | omega | (simp [upS]; done) | (simp [upS]; omega))]
        all_goals rfl
      refine ⟨_, _, hD8, ?_⟩
      clear hD8
      refine ⟨(show 1 = 0 ∨ 1 = 1 by first | omega | (simp [upS]; done) | (simp [upS]; omega)), ?_⟩
      all_goals rfl
    refine ⟨_, _, hD9, ?_⟩
    clear hD9
    rw [if_neg (show ¬ ((1 : Int) = 0) by first | omega | (simp [upS]; done) | (simp [upS]; omega))]
    have hD11 : Dd 247 [(.inl a2)] σ (.inl (some (.inl 0)), σ) := by
      refine b247 ?_
      have hD10 : Dd 246 [(.inl a2), (.inl 4)] σ (.inl (some (.inl 0)), σ) := by
        refine b246 ?_
        try rw [if_pos (show (0 : Int) ≤ a2 by first | omega | (simp [upS]; done) | (simp [upS]; omega))]
        try rw [if_neg (show ¬ (a2 < 4) by first | omega | (simp [upS]; done) | (simp [upS]; omega))]
        all_goals rfl
      refine ⟨_, _, hD10, ?_⟩
      clear hD10
      refine ⟨(show 0 = 0 ∨ 0 = 1 by first | omega | (simp [upS]; done) | (simp [upS]; omega)), ?_⟩
      all_goals rfl
    refine ⟨_, _, hD11, ?_⟩
    clear hD11
    rw [if_pos (show (0 : Int) = 0 by first | omega | (simp [upS]; done) | (simp [upS]; omega))]
    refine b299_15 ?_
    refine b299_44 ?_
    have hD12 : Dd 245 [(.inr (.inr (some 682))), (.inl 1)] σ (.inl (some (.inl 0)), (upS σ 682 0 1)) := by
      refine b245 ?_
      try rw [if_neg (show ¬ ((1 : Int) = 0) by first | omega | (simp [upS]; done) | (simp [upS]; omega))]
      all_goals rfl
    refine ⟨_, _, hD12, ?_⟩
    clear hD12
    rw [if_pos (show (0 : Int) = 0 by first | omega | (simp [upS]; done) | (simp [upS]; omega))]
    all_goals rfl
  exact op_x H (by decide) hA hB
theorem x9_4 {σ : Sg} {c : Int} {a1 : Int} {a2 : Int} {a3 : Int} (H : Rel c σ) (h0 : 0 ≤ a1 ∧ a1 < 4) (h1 : 0 ≤ a2 ∧ a2 < 4) (h2 : a3 < 0) : OpR 399 299 [(.inr (.inr (some 0))), (.inl a1), (.inl a2), (.inl a3), (.inr (.inr (some 726)))] [(.inr (.inr (some 682))), (.inl a1), (.inl a2), (.inl a3)] σ (c + 1) := by
  obtain ⟨r1, r2, r3, r4, r5⟩ := rel_n H
  have t0 := rel_t H h0
  have t1 := rel_t H h1
  have hA : Dd 399 [(.inr (.inr (some 0))), (.inl a1), (.inl a2), (.inl a3), (.inr (.inr (some 726)))] σ (.inl (some (.inl 2)), σ) := by
    refine b399 ?_
    have hD8 : Dd 181 [(.inr (.inr (some 0))), (.inl a1), (.inl a2), (.inl a3)] σ (.inr 1, σ) := by
      refine b181 ?_
      have hD3 : Dd 227 [(.inr (.inr (some 0))), (.inl a1)] σ (.inl (some (.inr (.inr (some (2 + 2 * ((a1)).toNat))))), σ) := by
        refine b227 ?_
        have hD1 : Dd 145 [(.inr (.inr (some 1))), (.inl a1)] σ (.inl (some (.inr (.inr (some (2 + 2 * ((a1)).toNat))))), σ) := by
          refine b145 ?_
          rw [if_pos (show (0 : Int) ≤ a1 by first | omega | (simp [upS]; done) | (simp [upS]; omega))]
          refine ⟨4, (by decide +kernel), (by decide), ?_⟩
          rw [if_pos (show a1 < ((4 : Nat) : Int) by first | omega | (simp [upS]; done) | (simp [upS]; omega))]
          refine ⟨(show 0 ≤ a1 by first | omega | (simp [upS]; done) | (simp [upS]; omega)), ?_⟩
          refine ⟨(2 + 2 * ((a1)).toNat), (el_1 (i := (a1)) (by first | omega | (simp [upS]; done) | (simp [upS]; omega))).1, (el_1 (i := (a1)) (by first | omega | (simp [upS]; done) | (simp [upS]; omega))).2, ?_⟩
          all_goals rfl
        refine ⟨_, _, hD1, ?_⟩
        clear hD1
        refine ⟨fun hz2 => (by cases hz2), fun _ hz2 => ?_⟩
        cases hz2
        refine ⟨(el_1 (i := (a1)) (by first | omega | (simp [upS]; done) | (simp [upS]; omega))).2, ?_⟩
        all_goals rfl
      refine Or.inl ⟨_, _, hD3, (el_1 (i := (a1)) (by first | omega | (simp [upS]; done) | (simp [upS]; omega))).2, ?_⟩
      clear hD3
      have hD6 : Dd 227 [(.inr (.inr (some 0))), (.inl a2)] σ (.inl (some (.inr (.inr (some (2 + 2 * ((a2)).toNat))))), σ) := by
        refine b227 ?_
        have hD4 : Dd 145 [(.inr (.inr (some 1))), (.inl a2)] σ (.inl (some (.inr (.inr (some (2 + 2 * ((a2)).toNat))))), σ) := by
          refine b145 ?_
          rw [if_pos (show (0 : Int) ≤ a2 by first | omega | (simp [upS]; done) | (simp [upS]; omega))]
          refine ⟨4, (by decide +kernel), (by decide), ?_⟩
          rw [if_pos (show a2 < ((4 : Nat) : Int) by first | omega | (simp [upS]; done) | (simp [upS]; omega))]
          refine ⟨(show 0 ≤ a2 by first | omega | (simp [upS]; done) | (simp [upS]; omega)), ?_⟩
          refine ⟨(2 + 2 * ((a2)).toNat), (el_1 (i := (a2)) (by first | omega | (simp [upS]; done) | (simp [upS]; omega))).1, (el_1 (i := (a2)) (by first | omega | (simp [upS]; done) | (simp [upS]; omega))).2, ?_⟩
          all_goals rfl
        refine ⟨_, _, hD4, ?_⟩
        clear hD4
        refine ⟨fun hz5 => (by cases hz5), fun _ hz5 => ?_⟩
        cases hz5
        refine ⟨(el_1 (i := (a2)) (by first | omega | (simp [upS]; done) | (simp [upS]; omega))).2, ?_⟩
        all_goals rfl
      refine Or.inl ⟨_, _, hD6, (el_1 (i := (a2)) (by first | omega | (simp [upS]; done) | (simp [upS]; omega))).2, ?_⟩
      clear hD6
      have hD7 : Dd 236 [(.inr (.inr (some 0))), (.inl a3)] σ (.inr 1, σ) := by
        refine b236 ?_
        rw [if_neg (show ¬ (a3 = 0) by first | omega | (simp [upS]; done) | (simp [upS]; omega))]
        rw [if_neg (show ¬ (a3 = 1) by first | omega | (simp [upS]; done) | (simp [upS]; omega))]
        rw [if_neg (show ¬ (a3 = 2) by first | omega | (simp [upS]; done) | (simp [upS]; omega))]
        all_goals rfl
      refine Or.inr ⟨_, _, hD7, ?_⟩
      all_goals rfl
    exact Or.inr (Or.inr (Or.inl ⟨_, hD8, rfl⟩))
  have hB : Dd 299 [(.inr (.inr (some 682))), (.inl a1), (.inl a2), (.inl a3)] σ (.inl (some (.inl 0)), (upS σ 682 0 2)) := by
    refine b299 ?_
    have hD10 : Dd 247 [(.inl a1)] σ (.inl (some (.inl 1)), σ) := by
      refine b247 ?_
      have hD9 : Dd 246 [(.inl a1), (.inl 4)] σ (.inl (some (.inl 1)), σ) := by
        refine b246 ?_
        try rw [if_pos (show (0 : Int) ≤ a1 by first | omega | (simp [upS]; done) | (simp [upS]; omega))]
        try rw [if_pos (show a1 < 4 by first | omega | (simp [upS]; done) | (simp [upS]; omega))]
        all_goals rfl
      refine ⟨_, _, hD9, ?_⟩
      clear hD9
      refine ⟨(show 1 = 0 ∨ 1 = 1 by first | omega | (simp [upS]; done) | (simp [upS]; omega)), ?_⟩
      all_goals rfl
    refine ⟨_, _, hD10, ?_⟩
    clear hD10
    rw [if_neg (show ¬ ((1 : Int) = 0) by first | omega | (simp [upS]; done) | (simp [upS]; omega))]
    have hD12 : Dd 247 [(.inl a2)] σ (.inl (some (.inl 1)), σ) := by
      refine b247 ?_
      have hD11 : Dd 246 [(.inl a2), (.inl 4)] σ (.inl (some (.inl 1)), σ) := by
        refine b246 ?_
        try rw [if_pos (show (0 : Int) ≤ a2 by first | omega | (simp [upS]; done) | (simp [upS]; omega))]
        try rw [if_pos (show a2 < 4 by first | omega | (simp [upS]; done) | (simp [upS]; omega))]
        all_goals rfl
      refine ⟨_, _, hD11, ?_⟩
      clear hD11
      refine ⟨(show 1 = 0 ∨ 1 = 1 by first | omega | (simp [upS]; done) | (simp [upS]; omega)), ?_⟩
      all_goals rfl
    refine ⟨_, _, hD12, ?_⟩
    clear hD12
    rw [if_neg (show ¬ ((1 : Int) = 0) by first | omega | (simp [upS]; done) | (simp [upS]; omega))]
    have hD14 : Dd 275 [(.inl a3)] σ (.inl (some (.inl 0)), σ) := by
      refine b275 ?_
      have hD13 : Dd 246 [(.inl a3), (.inl 3)] σ (.inl (some (.inl 0)), σ) := by
        refine b246 ?_
        try rw [if_neg (show ¬ ((0 : Int) ≤ a3) by first | omega | (simp [upS]; done) | (simp [upS]; omega))]
        all_goals rfl
      refine ⟨_, _, hD13, ?_⟩
      clear hD13
      refine ⟨(show 0 = 0 ∨ 0 = 1 by first | omega | (simp [upS]; done) | (simp [upS]; omega)), ?_⟩
      all_goals rfl
    refine ⟨_, _, hD14, ?_⟩
    clear hD14
    try rw [if_pos (show (0 : Int) = 0 by first | omega | (simp [upS]; done) | (simp [upS]; omega))]
    refine b299_44 ?_
    have hD15 : Dd 245 [(.inr (.inr (some 682))), (.inl 2)] σ (.inl (some (.inl 0)), (upS σ 682 0 2)) := by
      refine b245 ?_
      try rw [if_neg (show ¬ ((2 : Int) = 0) by first | omega | (simp [upS]; done) | (simp [upS]; omega))]
      all_goals rfl
    refine ⟨_, _, hD15, ?_⟩
    clear hD15
    rw [if_pos (show (0 : Int) = 0 by first | omega | (simp [upS]; done) | (simp [upS]; omega))]
    all_goals rfl
  exact op_x H (by decide) hA hB
theorem x9_5 {σ : Sg} {c : Int} {a1 : Int} {a2 : Int} {a3 : Int} (H : Rel c σ) (h0 : 0 ≤ a1 ∧ a1 < 4) (h1 : 0 ≤ a2 ∧ a2 < 4) (h2 : 2 < a3) : OpR 399 299 [(.inr (.inr (some 0))), (.inl a1), (.inl a2), (.inl a3), (.inr (.inr (some 726)))] [(.inr (.inr (some 682))), (.inl a1), (.inl a2), (.inl a3)] σ (c + 1) := by
  obtain ⟨r1, r2, r3, r4, r5⟩ := rel_n H
  have t0 := rel_t H h0
  have t1 := rel_t H h1
  have hA : Dd 399 [(.inr (.inr (some 0))), (.inl a1), (.inl a2), (.inl a3), (.inr (.inr (some 726)))] σ (.inl (some (.inl 2)), σ) := by
    refine b399 ?_
    have hD8 : Dd 181 [(.inr (.inr (some 0))), (.inl a1), (.inl a2), (.inl a3)] σ (.inr 1, σ) := by
      refine b181 ?_
      have hD3 : Dd 227 [(.inr (.inr (some 0))), (.inl a1)] σ (.inl (some (.inr (.inr (some (2 + 2 * ((a1)).toNat))))), σ) := by
        refine b227 ?_
        have hD1 : Dd 145 [(.inr (.inr (some 1))), (.inl a1)] σ (.inl (some (.inr (.inr (some (2 + 2 * ((a1)).toNat))))), σ) := by
          refine b145 ?_
          rw [if_pos (show (0 : Int) ≤ a1 by first | omega | (simp [upS]; done) | (simp [upS]; omega))]
          refine ⟨4, (by decide +kernel), (by decide), ?_⟩
          rw [if_pos (show a1 < ((4 : Nat) : Int) by first | omega | (simp [upS]; done) | (simp [upS]; omega))]
          refine ⟨(show 0 ≤ a1 by first | omega | (simp [upS]; done) | (simp [upS]; omega)), ?_⟩
          refine ⟨(2 + 2 * ((a1)).toNat), (el_1 (i := (a1)) (by first | omega | (simp [upS]; done) | (simp [upS]; omega))).1, (el_1 (i := (a1)) (by first | omega | (simp [upS]; done) | (simp [upS]; omega))).2, ?_⟩
          all_goals rfl
        refine ⟨_, _, hD1, ?_⟩
        clear hD1
        refine ⟨fun hz2 => (by cases hz2), fun _ hz2 => ?_⟩
        cases hz2
        refine ⟨(el_1 (i := (a1)) (by first | omega | (simp [upS]; done) | (simp [upS]; omega))).2, ?_⟩
        all_goals rfl
      refine Or.inl ⟨_, _, hD3, (el_1 (i := (a1)) (by first | omega | (simp [upS]; done) | (simp [upS]; omega))).2, ?_⟩
      clear hD3
      have hD6 : Dd 227 [(.inr (.inr (some 0))), (.inl a2)] σ (.inl (some (.inr (.inr (some (2 + 2 * ((a2)).toNat))))), σ) := by
        refine b227 ?_
        have hD4 : Dd 145 [(.inr (.inr (some 1))), (.inl a2)] σ (.inl (some (.inr (.inr (some (2 + 2 * ((a2)).toNat))))), σ) := by
          refine b145 ?_
          rw [if_pos (show (0 : Int) ≤ a2 by first | omega | (simp [upS]; done) | (simp [upS]; omega))]
          refine ⟨4, (by decide +kernel), (by decide), ?_⟩
          rw [if_pos (show a2 < ((4 : Nat) : Int) by first | omega | (simp [upS]; done) | (simp [upS]; omega))]
          refine ⟨(show 0 ≤ a2 by first | omega | (simp [upS]; done) | (simp [upS]; omega)), ?_⟩
          refine ⟨(2 + 2 * ((a2)).toNat), (el_1 (i := (a2)) (by first | omega | (simp [upS]; done) | (simp [upS]; omega))).1, (el_1 (i := (a2)) (by first | omega | (simp [upS]; done) | (simp [upS]; omega))).2, ?_⟩
          all_goals rfl
        refine ⟨_, _, hD4, ?_⟩
        clear hD4
        refine ⟨fun hz5 => (by cases hz5), fun _ hz5 => ?_⟩
        cases hz5
        refine ⟨(el_1 (i := (a2)) (by first | omega | (simp [upS]; done) | (simp [upS]; omega))).2, ?_⟩
        all_goals rfl
      refine Or.inl ⟨_, _, hD6, (el_1 (i := (a2)) (by first | omega | (simp [upS]; done) | (simp [upS]; omega))).2, ?_⟩
      clear hD6
      have hD7 : Dd 236 [(.inr (.inr (some 0))), (.inl a3)] σ (.inr 1, σ) := by
        refine b236 ?_
        rw [if_neg (show ¬ (a3 = 0) by first | omega | (simp [upS]; done) | (simp [upS]; omega))]
        rw [if_neg (show ¬ (a3 = 1) by first | omega | (simp [upS]; done) | (simp [upS]; omega))]
        rw [if_neg (show ¬ (a3 = 2) by first | omega | (simp [upS]; done) | (simp [upS]; omega))]
        all_goals rfl
      refine Or.inr ⟨_, _, hD7, ?_⟩
      all_goals rfl
    exact Or.inr (Or.inr (Or.inl ⟨_, hD8, rfl⟩))
  have hB : Dd 299 [(.inr (.inr (some 682))), (.inl a1), (.inl a2), (.inl a3)] σ (.inl (some (.inl 0)), (upS σ 682 0 2)) := by
    refine b299 ?_
    have hD10 : Dd 247 [(.inl a1)] σ (.inl (some (.inl 1)), σ) := by
      refine b247 ?_
      have hD9 : Dd 246 [(.inl a1), (.inl 4)] σ (.inl (some (.inl 1)), σ) := by
        refine b246 ?_
        try rw [if_pos (show (0 : Int) ≤ a1 by first | omega | (simp [upS]; done) | (simp [upS]; omega))]
        try rw [if_pos (show a1 < 4 by first | omega | (simp [upS]; done) | (simp [upS]; omega))]
        all_goals rfl
      refine ⟨_, _, hD9, ?_⟩
      clear hD9
      refine ⟨(show 1 = 0 ∨ 1 = 1 by first | omega | (simp [upS]; done) | (simp [upS]; omega)), ?_⟩
      all_goals rfl
    refine ⟨_, _, hD10, ?_⟩
    clear hD10
    rw [if_neg (show ¬ ((1 : Int) = 0) by first | omega | (simp [upS]; done) | (simp [upS]; omega))]
    have hD12 : Dd 247 [(.inl a2)] σ (.inl (some (.inl 1)), σ) := by
      refine b247 ?_
      have hD11 : Dd 246 [(.inl a2), (.inl 4)] σ (.inl (some (.inl 1)), σ) := by
        refine b246 ?_
        try rw [if_pos (show (0 : Int) ≤ a2 by first | omega | (simp [upS]; done) | (simp [upS]; omega))]
        try rw [if_pos (show a2 < 4 by first | omega | (simp [upS]; done) | (simp [upS]; omega))]
        all_goals rfl
      refine ⟨_, _, hD11, ?_⟩
      clear hD11
      refine ⟨(show 1 = 0 ∨ 1 = 1 by first | omega | (simp [upS]; done) | (simp [upS]; omega)), ?_⟩
      all_goals rfl
    refine ⟨_, _, hD12, ?_⟩
    clear hD12
    rw [if_neg (show ¬ ((1 : Int) = 0) by first | omega | (simp [upS]; done) | (simp [upS]; omega))]
    have hD14 : Dd 275 [(.inl a3)] σ (.inl (some (.inl 0)), σ) := by
      refine b275 ?_
      have hD13 : Dd 246 [(.inl a3), (.inl 3)] σ (.inl (some (.inl 0)), σ) := by
        refine b246 ?_
        try rw [if_pos (show (0 : Int) ≤ a3 by first | omega | (simp [upS]; done) | (simp [upS]; omega))]
        try rw [if_neg (show ¬ (a3 < 3) by first | omega | (simp [upS]; done) | (simp [upS]; omega))]
        all_goals rfl
      refine ⟨_, _, hD13, ?_⟩
      clear hD13
      refine ⟨(show 0 = 0 ∨ 0 = 1 by first | omega | (simp [upS]; done) | (simp [upS]; omega)), ?_⟩
      all_goals rfl
    refine ⟨_, _, hD14, ?_⟩
    clear hD14
    try rw [if_pos (show (0 : Int) = 0 by first | omega | (simp [upS]; done) | (simp [upS]; omega))]
    refine b299_44 ?_
    have hD15 : Dd 245 [(.inr (.inr (some 682))), (.inl 2)] σ (.inl (some (.inl 0)), (upS σ 682 0 2)) := by
      refine b245 ?_
      try rw [if_neg (show ¬ ((2 : Int) = 0) by first | omega | (simp [upS]; done) | (simp [upS]; omega))]
      all_goals rfl
    refine ⟨_, _, hD15, ?_⟩
    clear hD15
    rw [if_pos (show (0 : Int) = 0 by first | omega | (simp [upS]; done) | (simp [upS]; omega))]
    all_goals rfl
  exact op_x H (by decide) hA hB
end
