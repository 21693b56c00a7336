noncomputable section
theorem q0_0 {σ : Sg} {a1 : Int} {a2 : Int} {a3 : Int} (hz : ∀ a i, a < 1000 → σ a i = 0) (h0 : a1 < 0) : ∃ (kx b : Int) (s1 s2 : Sg), Dd 390 [(.inr (.inr (some 0))), (.inl a1), (.inl a2), (.inl a3), (.inr (.inr (some 726)))] σ (.inl (some (.inl kx)), s1) ∧ Dd 256 [(.inr (.inr (some 682))), (.inl a1), (.inl a2), (.inl a3)] s1 (.inl (some (.inl b)), s2) ∧ s2 682 0 = kx ∧ (kx = 0 → s2 726 0 = b) ∧ (∀ i, s1 SCR i = σ SCR i) ∧ s1 (SCR + 1) 0 = σ (SCR + 1) 0 ∧ s2 (SCR + 1) 0 = σ (SCR + 1) 0 := by
  have hA : Dd 390 [(.inr (.inr (some 0))), (.inl a1), (.inl a2), (.inl a3), (.inr (.inr (some 726)))] σ (.inl (some (.inl 1)), σ) := by
    refine b390 ?_
    have hD4 : Dd 172 [(.inr (.inr (some 0))), (.inl a1), (.inl a2), (.inl a3)] σ (.inr 0, σ) := by
      refine b172 ?_
      have hD3 : Dd 227 [(.inr (.inr (some 0))), (.inl a1)] σ (.inr 0, σ) := by
        refine b227 ?_
        have hD1 : Dd 145 [(.inr (.inr (some 1))), (.inl a1)] σ (.inl (some (.inr (.inr none))), σ) := by
          refine b145 ?_
          rw [if_neg (show ¬ ((0 : Int) ≤ a1) by first | omega | (simp [upS, hz]; done) | (simp [upS, hz]; omega))]
          all_goals rfl
        refine ⟨_, _, hD1, ?_⟩
        clear hD1
        refine ⟨fun _ => ?_, fun _ hz2 => (by cases hz2)⟩
        all_goals rfl
      refine Or.inr ⟨_, _, hD3, ?_⟩
      all_goals rfl
    exact Or.inr (Or.inl ⟨_, hD4, rfl⟩)
  have hB : Dd 256 [(.inr (.inr (some 682))), (.inl a1), (.inl a2), (.inl a3)] σ (.inl (some (.inl 0)), (upS σ 682 0 1)) := by
    refine b256 ?_
    have hD6 : Dd 247 [(.inl a1)] σ (.inl (some (.inl 0)), σ) := by
      refine b247 ?_
      have hD5 : Dd 246 [(.inl a1), (.inl 4)] σ (.inl (some (.inl 0)), σ) := by
        refine b246 ?_
        try rw [if_neg (show ¬ ((0 : Int) ≤ a1) by first | omega | (simp [upS, hz]; done) | (simp [upS, hz]; omega))]
        all_goals rfl
      refine ⟨_, _, hD5, ?_⟩
      clear hD5
      refine ⟨(show 0 = 0 ∨ 0 = 1 by first | omega | (simp [upS, hz]; done) | (simp [upS, hz]; omega)), ?_⟩
      all_goals rfl
    refine ⟨_, _, hD6, ?_⟩
    clear hD6
    rw [if_pos (show (0 : Int) = 0 by first | omega | (simp [upS, hz]; done) | (simp [upS, hz]; omega))]
    refine b256_25 ?_
    refine b256_26 ?_
    rw [if_pos (show (0 : Int) = 0 by first | omega | (simp [upS, hz]; done) | (simp [upS, hz]; omega))]
    refine b256_65 ?_
    have hD7 : Dd 245 [(.inr (.inr (some 682))), (.inl 1)] σ (.inl (some (.inl 0)), (upS σ 682 0 1)) := by
      refine b245 ?_
      try rw [if_neg (show ¬ ((1 : Int) = 0) by first | omega | (simp [upS, hz]; done) | (simp [upS, hz]; omega))]
      all_goals rfl
    refine ⟨_, _, hD7, ?_⟩
    clear hD7
    rw [if_pos (show (0 : Int) = 0 by first | omega | (simp [upS, hz]; done) | (simp [upS, hz]; omega))]
    all_goals rfl
  refine ⟨_, _, _, _, hA, hB, ?_, ?_, ?_, ?_, ?_⟩
  · (first | rfl | (simp [upS, SCR, hz]; done) | (simp [upS, SCR, hz]; omega))
  · first | (intro h9; omega) | (intro _; first | rfl | (simp [upS, SCR, hz]; done) | (simp [upS, SCR, hz]; omega))
  · intro i; first | rfl | (unfold upS SCR; (repeat' split) <;> first | rfl | omega)
  · first | rfl | (unfold upS SCR; (repeat' split) <;> first | rfl | omega)
  · first | rfl | (unfold upS SCR; (repeat' split) <;> first | rfl | omega)
theorem q0_1 {σ : Sg} {a1 : Int} {a2 : Int} {a3 : Int} (hz : ∀ a i, a < 1000 → σ a i = 0) (h0 : 4 ≤ a1) : ∃ (kx b : Int) (s1 s2 : Sg), Dd 390 [(.inr (.inr (some 0))), (.inl a1), (.inl a2), (.inl a3), (.inr (.inr (some 726)))] σ (.inl (some (.inl kx)), s1) ∧ Dd 256 [(.inr (.inr (some 682))), (.inl a1), (.inl a2), (.inl a3)] s1 (.inl (some (.inl b)), s2) ∧ s2 682 0 = kx ∧ (kx = 0 → s2 726 0 = b) ∧ (∀ i, s1 SCR i = σ SCR i) ∧ s1 (SCR + 1) 0 = σ (SCR + 1) 0 ∧ s2 (SCR + 1) 0 = σ (SCR + 1) 0 := by
  have hA : Dd 390 [(.inr (.inr (some 0))), (.inl a1), (.inl a2), (.inl a3), (.inr (.inr (some 726)))] σ (.inl (some (.inl 1)), σ) := by
    refine b390 ?_
    have hD4 : Dd 172 [(.inr (.inr (some 0))), (.inl a1), (.inl a2), (.inl a3)] σ (.inr 0, σ) := by
      refine b172 ?_
      have hD3 : Dd 227 [(.inr (.inr (some 0))), (.inl a1)] σ (.inr 0, σ) := by
        refine b227 ?_
        have hD1 : Dd 145 [(.inr (.inr (some 1))), (.inl a1)] σ (.inl (some (.inr (.inr none))), σ) := by
          refine b145 ?_
          rw [if_pos (show (0 : Int) ≤ a1 by first | omega | (simp [upS, hz]; done) | (simp [upS, hz]; omega))]
          refine ⟨4, (by decide +kernel), (by decide), ?_⟩
          rw [if_neg (show ¬ (a1 < ((4 : Nat) : Int)) by first | omega | (simp [upS, hz]; done) | (simp [upS, hz]; omega))]
          all_goals rfl
        refine ⟨_, _, hD1, ?_⟩
        clear hD1
        refine ⟨fun _ => ?_, fun _ hz2 => (by cases hz2)⟩
        all_goals rfl
      refine Or.inr ⟨_, _, hD3, ?_⟩
      all_goals rfl
    exact Or.inr (Or.inl ⟨_, hD4, rfl⟩)
  have hB : Dd 256 [(.inr (.inr (some 682))), (.inl a1), (.inl a2), (.inl a3)] σ (.inl (some (.inl 0)), (upS σ 682 0 1)) := by
    refine b256 ?_
    have hD6 : Dd 247 [(.inl a1)] σ (.inl (some (.inl 0)), σ) := by
      refine b247 ?_
      have hD5 : Dd 246 [(.inl a1), (.inl 4)] σ (.inl (some (.inl 0)), σ) := by
        refine b246 ?_
        try rw [if_pos (show (0 : Int) ≤ a1 by first | omega | (simp [upS, hz]; done) | (simp [upS, hz]; omega))]
        try rw [if_neg (show ¬ (a1 < 4) by first | omega | (simp [upS, hz]; done) | (simp [upS, hz]; omega))]
        all_goals rfl
      refine ⟨_, _, hD5, ?_⟩
      clear hD5
      refine ⟨(show 0 = 0 ∨ 0 = 1 by first | omega | (simp [upS, hz]; done) | (simp [upS, hz]; omega)), ?_⟩
      all_goals rfl
    refine ⟨_, _, hD6, ?_⟩
    clear hD6
    rw [if_pos (show (0 : Int) = 0 by first | omega | (simp [upS, hz]; done) | (simp [upS, hz]; omega))]
    refine b256_25 ?_
    refine b256_26 ?_
    rw [if_pos (show (0 : Int) = 0 by first | omega | (simp [upS, hz]; done) | (simp [upS, hz]; omega))]
    refine b256_65 ?_
    have hD7 : Dd 245 [(.inr (.inr (some 682))), (.inl 1)] σ (.inl (some (.inl 0)), (upS σ 682 0 1)) := by
      refine b245 ?_
      try rw [if_neg (show ¬ ((1 : Int) = 0) by first | omega | (simp [upS, hz]; done) | (simp [upS, hz]; omega))]
      all_goals rfl
    refine ⟨_, _, hD7, ?_⟩
    clear hD7
    rw [if_pos (show (0 : Int) = 0 by first | omega | (simp [upS, hz]; done) | (simp [upS, hz]; omega))]
    all_goals rfl
  refine ⟨_, _, _, _, hA, hB, ?_, ?_, ?_, ?_, ?_⟩
  · (first | rfl | (simp [upS, SCR, hz]; done) | (simp [upS, SCR, hz]; omega))
  · first | (intro h9; omega) | (intro _; first | rfl | (simp [upS, SCR, hz]; done) | (simp [upS, SCR, hz]; omega))
  · intro i; first | rfl | (unfold upS SCR; (repeat' split) <;> first | rfl | omega)
  · first | rfl | (unfold upS SCR; (repeat' split) <;> first | rfl | omega)
  · first | rfl | (unfold upS SCR; (repeat' split) <;> first | rfl | omega)
theorem q0_2 {σ : Sg} {a1 : Int} {a2 : Int} {a3 : Int} (hz : ∀ a i, a < 1000 → σ a i = 0) (h0 : 0 ≤ a1 ∧ a1 < 4) (h1 : a2 < 0) : ∃ (kx b : Int) (s1 s2 : Sg), Dd 390 [(.inr (.inr (some 0))), (.inl a1), (.inl a2), (.inl a3), (.inr (.inr (some 726)))] σ (.inl (some (.inl kx)), s1) ∧ Dd 256 [(.inr (.inr (some 682))), (.inl a1), (.inl a2), (.inl a3)] s1 (.inl (some (.inl b)), s2) ∧ s2 682 0 = kx ∧ (kx = 0 → s2 726 0 = b) ∧ (∀ i, s1 SCR i = σ SCR i) ∧ s1 (SCR + 1) 0 = σ (SCR + 1) 0 ∧ s2 (SCR + 1) 0 = σ (SCR + 1) 0 := by
  have za1 : ∀ i, σ (2 + 2 * ((a1)).toNat) i = 0 := fun i => hz _ i (by omega)
  have z1a1 : ∀ i, σ ((2 + 2 * ((a1)).toNat) + 1) i = 0 := fun i => hz _ i (by omega)
  have ca1 : (cap (2 + 2 * ((a1)).toNat) : Int) = 16 := cp_1 (by omega)
  have hA : Dd 390 [(.inr (.inr (some 0))), (.inl a1), (.inl a2), (.inl a3), (.inr (.inr (some 726)))] σ (.inl (some (.inl 1)), σ) := by
    refine b390 ?_
    have hD6 : Dd 172 [(.inr (.inr (some 0))), (.inl a1), (.inl a2), (.inl a3)] σ (.inr 0, σ) := by
      refine b172 ?_
      have hD3 : Dd 227 [(.inr (.inr (some 0))), (.inl a1)] σ (.inl (some (.inr (.inr (some (2 + 2 * ((a1)).toNat))))), σ) := by
        refine b227 ?_
        have hD1 : Dd 145 [(.inr (.inr (some 1))), (.inl a1)] σ (.inl (some (.inr (.inr (some (2 + 2 * ((a1)).toNat))))), σ) := by
          refine b145 ?_
          rw [if_pos (show (0 : Int) ≤ a1 by first | omega | (simp [upS, hz, za1, z1a1, ca1]; done) | (simp [upS, hz, za1, z1a1, ca1]; omega))]
          refine ⟨4, (by decide +kernel), (by decide), ?_⟩
          rw [if_pos (show a1 < ((4 : Nat) : Int) by first | omega | (simp [upS, hz, za1, z1a1, ca1]; done) | (simp [upS, hz, za1, z1a1, ca1]; omega))]
          refine ⟨(show 0 ≤ a1 by first | omega | (simp [upS, hz, za1, z1a1, ca1]; done) | (simp [upS, hz, za1, z1a1, ca1]; omega)), ?_⟩
          refine ⟨(2 + 2 * ((a1)).toNat), (el_1 (i := (a1)) (by first | omega | (simp [upS, hz, za1, z1a1, ca1]; done) | (simp [upS, hz, za1, z1a1, ca1]; omega))).1, (el_1 (i := (a1)) (by first | omega | (simp [upS, hz, za1, z1a1, ca1]; done) | (simp [upS, hz, za1, z1a1, ca1]; omega))).2, ?_⟩
          all_goals rfl
        refine ⟨_, _, hD1, ?_⟩
        clear hD1
        refine ⟨fun hz2 => (by cases hz2), fun _ hz2 => ?_⟩
        cases hz2
        refine ⟨(el_1 (i := (a1)) (by first | omega | (simp [upS, hz, za1, z1a1, ca1]; done) | (simp [upS, hz, za1, z1a1, ca1]; omega))).2, ?_⟩
        all_goals rfl
      refine Or.inl ⟨_, _, hD3, (el_1 (i := (a1)) (by first | omega | (simp [upS, hz, za1, z1a1, ca1]; done) | (simp [upS, hz, za1, z1a1, ca1]; omega))).2, ?_⟩
      clear hD3
      have hD4 : Dd 146 [(.inr (.inr (some (2 + 2 * ((a1)).toNat))))] σ (.inl (some (.inl 0)), σ) := by
        refine b146 (el_1 (i := (a1)) (by first | omega | (simp [upS, hz, za1, z1a1, ca1]; done) | (simp [upS, hz, za1, z1a1, ca1]; omega))).2 ?_
        rw [show (σ (2 + 2 * ((a1)).toNat) 1) = 0 by (first | omega | (simp [upS, hz, za1, z1a1, ca1]; done) | (simp [upS, hz, za1, z1a1, ca1]; omega))]
        all_goals rfl
      refine ⟨_, _, hD4, ?_⟩
      clear hD4
      refine ⟨(show (-2147483648 : Int) ≤ (0 + 1) ∧ ((0 + 1) : Int) ≤ 2147483647 by first | omega | (simp [upS, hz, za1, z1a1, ca1]; done) | (simp [upS, hz, za1, z1a1, ca1]; omega)), ?_⟩
      rw [show ((0 + 1) : Int) = 1 by (first | omega | (simp [upS, hz, za1, z1a1, ca1]; done) | (simp [upS, hz, za1, z1a1, ca1]; omega))]
      have hD5 : Dd 232 [(.inr (.inr (some 0))), (.inl a2), (.inl 1)] σ (.inr 0, σ) := by
        refine b232 ?_
        rw [if_neg (show ¬ ((0 : Int) ≤ a2) by first | omega | (simp [upS, hz, za1, z1a1, ca1]; done) | (simp [upS, hz, za1, z1a1, ca1]; omega))]
        refine b232_9 ?_
        all_goals rfl
      refine Or.inr ⟨_, _, hD5, ?_⟩
      all_goals rfl
    exact Or.inr (Or.inl ⟨_, hD6, rfl⟩)
  have hB : Dd 256 [(.inr (.inr (some 682))), (.inl a1), (.inl a2), (.inl a3)] σ (.inl (some (.inl 0)), (upS σ 682 0 1)) := by
    refine b256 ?_
    have hD8 : Dd 247 [(.inl a1)] σ (.inl (some (.inl 1)), σ) := by
      refine b247 ?_
      have hD7 : Dd 246 [(.inl a1), (.inl 4)] σ (.inl (some (.inl 1)), σ) := by
        refine b246 ?_
        try rw [if_pos (show (0 : Int) ≤ a1 by first | omega | (simp [upS, hz, za1, z1a1, ca1]; done) | (simp [upS, hz, za1, z1a1, ca1]; omega))]
        try rw [if_pos (show a1 < 4 by first | omega | (simp [upS, hz, za1, z1a1, ca1]; done) | (simp [upS, hz, za1, z1a1, ca1]; omega))]
        all_goals rfl
      refine ⟨_, _, hD7, ?_⟩
      clear hD7
      refine ⟨(show 1 = 0 ∨ 1 = 1 by first | omega | (simp [upS, hz, za1, z1a1, ca1]; done) | (simp [upS, hz, za1, z1a1, ca1]; omega)), ?_⟩
      all_goals rfl
    refine ⟨_, _, hD8, ?_⟩
    clear hD8
    rw [if_neg (show ¬ ((1 : Int) = 0) by first | omega | (simp [upS, hz, za1, z1a1, ca1]; done) | (simp [upS, hz, za1, z1a1, ca1]; omega))]
    rw [if_neg (show ¬ ((0 : Int) ≤ a2) by first | omega | (simp [upS, hz, za1, z1a1, ca1]; done) | (simp [upS, hz, za1, z1a1, ca1]; omega))]
    refine b256_25 ?_
    refine b256_26 ?_
    rw [if_pos (show (0 : Int) = 0 by first | omega | (simp [upS, hz, za1, z1a1, ca1]; done) | (simp [upS, hz, za1, z1a1, ca1]; omega))]
    refine b256_65 ?_
    have hD9 : Dd 245 [(.inr (.inr (some 682))), (.inl 1)] σ (.inl (some (.inl 0)), (upS σ 682 0 1)) := by
      refine b245 ?_
      try rw [if_neg (show ¬ ((1 : Int) = 0) by first | omega | (simp [upS, hz, za1, z1a1, ca1]; done) | (simp [upS, hz, za1, z1a1, ca1]; omega))]
      all_goals rfl
    refine ⟨_, _, hD9, ?_⟩
    clear hD9
    rw [if_pos (show (0 : Int) = 0 by first | omega | (simp [upS, hz, za1, z1a1, ca1]; done) | (simp [upS, hz, za1, z1a1, ca1]; omega))]
    all_goals rfl
  refine ⟨_, _, _, _, hA, hB, ?_, ?_, ?_, ?_, ?_⟩
  · (first | rfl | (simp [upS, SCR, hz, za1, z1a1, ca1]; done) | (simp [upS, SCR, hz, za1, z1a1, ca1]; omega))
  · first | (intro h9; omega) | (intro _; first | rfl | (simp [upS, SCR, hz, za1, z1a1, ca1]; done) | (simp [upS, SCR, hz, za1, z1a1, ca1]; omega))
  · intro i; first | rfl | (unfold upS SCR; (repeat' split) <;> first | rfl | omega)
  · first | rfl | (unfold upS SCR; (repeat' split) <;> first | rfl | omega)
  · first | rfl | (unfold upS SCR; (repeat' split) <;> first | rfl | omega)
theorem q0_3 {σ : Sg} {a1 : Int} {a2 : Int} {a3 : Int} (hz : ∀ a i, a < 1000 → σ a i = 0) (h0 : 0 ≤ a1 ∧ a1 < 4) (h1 : 0 < a2) : ∃ (kx b : Int) (s1 s2 : Sg), Dd 390 [(.inr (.inr (some 0))), (.inl a1), (.inl a2), (.inl a3), (.inr (.inr (some 726)))] σ (.inl (some (.inl kx)), s1) ∧ Dd 256 [(.inr (.inr (some 682))), (.inl a1), (.inl a2), (.inl a3)] s1 (.inl (some (.inl b)), s2) ∧ s2 682 0 = kx ∧ (kx = 0 → s2 726 0 = b) ∧ (∀ i, s1 SCR i = σ SCR i) ∧ s1 (SCR + 1) 0 = σ (SCR + 1) 0 ∧ s2 (SCR + 1) 0 = σ (SCR + 1) 0 := by
  have za1 : ∀ i, σ (2 + 2 * ((a1)).toNat) i = 0 := fun i => hz _ i (by omega)
  have z1a1 : ∀ i, σ ((2 + 2 * ((a1)).toNat) + 1) i = 0 := fun i => hz _ i (by omega)
  have ca1 : (cap (2 + 2 * ((a1)).toNat) : Int) = 16 := cp_1 (by omega)
  have hA : Dd 390 [(.inr (.inr (some 0))), (.inl a1), (.inl a2), (.inl a3), (.inr (.inr (some 726)))] σ (.inl (some (.inl 1)), σ) := by
    refine b390 ?_
    have hD6 : Dd 172 [(.inr (.inr (some 0))), (.inl a1), (.inl a2), (.inl a3)] σ (.inr 0, σ) := by
      refine b172 ?_
      have hD3 : Dd 227 [(.inr (.inr (some 0))), (.inl a1)] σ (.inl (some (.inr (.inr (some (2 + 2 * ((a1)).toNat))))), σ) := by
        refine b227 ?_
        have hD1 : Dd 145 [(.inr (.inr (some 1))), (.inl a1)] σ (.inl (some (.inr (.inr (some (2 + 2 * ((a1)).toNat))))), σ) := by
          refine b145 ?_
          rw [if_pos (show (0 : Int) ≤ a1 by first | omega | (simp [upS, hz, za1, z1a1, ca1]; done) | (simp [upS, hz, za1, z1a1, ca1]; omega))]
          refine ⟨4, (by decide +kernel), (by decide), ?_⟩
          rw [if_pos (show a1 < ((4 : Nat) : Int) by first | omega | (simp [upS, hz, za1, z1a1, ca1]; done) | (simp [upS, hz, za1, z1a1, ca1]; omega))]
          refine ⟨(show 0 ≤ a1 by first | omega | (simp [upS, hz, za1, z1a1, ca1]; done) | (simp [upS, hz, za1, z1a1, ca1]; omega)), ?_⟩
          refine ⟨(2 + 2 * ((a1)).toNat), (el_1 (i := (a1)) (by first | omega | (simp [upS, hz, za1, z1a1, ca1]; done) | (simp [upS, hz, za1, z1a1, ca1]; omega))).1, (el_1 (i := (a1)) (by first | omega | (simp [upS, hz, za1, z1a1, ca1]; done) | (simp [upS, hz, za1, z1a1, ca1]; omega))).2, ?_⟩
          all_goals rfl
        refine ⟨_, _, hD1, ?_⟩
        clear hD1
        refine ⟨fun hz2 => (by cases hz2), fun _ hz2 => ?_⟩
        cases hz2
        refine ⟨(el_1 (i := (a1)) (by first | omega | (simp [upS, hz, za1, z1a1, ca1]; done) | (simp [upS, hz, za1, z1a1, ca1]; omega))).2, ?_⟩
        all_goals rfl
      refine Or.inl ⟨_, _, hD3, (el_1 (i := (a1)) (by first | omega | (simp [upS, hz, za1, z1a1, ca1]; done) | (simp [upS, hz, za1, z1a1, ca1]; omega))).2, ?_⟩
      clear hD3
      have hD4 : Dd 146 [(.inr (.inr (some (2 + 2 * ((a1)).toNat))))] σ (.inl (some (.inl 0)), σ) := by
        refine b146 (el_1 (i := (a1)) (by first | omega | (simp [upS, hz, za1, z1a1, ca1]; done) | (simp [upS, hz, za1, z1a1, ca1]; omega))).2 ?_
        rw [show (σ (2 + 2 * ((a1)).toNat) 1) = 0 by (first | omega | (simp [upS, hz, za1, z1a1, ca1]; done) | (simp [upS, hz, za1, z1a1, ca1]; omega))]
        all_goals rfl
      refine ⟨_, _, hD4, ?_⟩
      clear hD4
      refine ⟨(show (-2147483648 : Int) ≤ (0 + 1) ∧ ((0 + 1) : Int) ≤ 2147483647 by first | omega | (simp [upS, hz, za1, z1a1, ca1]; done) | (simp [upS, hz, za1, z1a1, ca1]; omega)), ?_⟩
      rw [show ((0 + 1) : Int) = 1 by (first | omega | (simp [upS, hz, za1, z1a1, ca1]; done) | (simp [upS, hz, za1, z1a1, ca1]; omega))]
      have hD5 : Dd 232 [(.inr (.inr (some 0))), (.inl a2), (.inl 1)] σ (.inr 0, σ) := by
        refine b232 ?_
        rw [if_pos (show (0 : Int) ≤ a2 by first | omega | (simp [upS, hz, za1, z1a1, ca1]; done) | (simp [upS, hz, za1, z1a1, ca1]; omega))]
        rw [if_pos (show (1 : Int) ≤ a2 by first | omega | (simp [upS, hz, za1, z1a1, ca1]; done) | (simp [upS, hz, za1, z1a1, ca1]; omega))]
        refine b232_9 ?_
        all_goals rfl
      refine Or.inr ⟨_, _, hD5, ?_⟩
      all_goals rfl
    exact Or.inr (Or.inl ⟨_, hD6, rfl⟩)
  have hB : Dd 256 [(.inr (.inr (some 682))), (.inl a1), (.inl a2), (.inl a3)] σ (.inl (some (.inl 0)), (upS σ 682 0 1)) := by
    refine b256 ?_
    have hD8 : Dd 247 [(.inl a1)] σ (.inl (some (.inl 1)), σ) := by
      refine b247 ?_
      have hD7 : Dd 246 [(.inl a1), (.inl 4)] σ (.inl (some (.inl 1)), σ) := by
        refine b246 ?_
        try rw [if_pos (show (0 : Int) ≤ a1 by first | omega | (simp [upS, hz, za1, z1a1, ca1]; done) | (simp [upS, hz, za1, z1a1, ca1]; omega))]
        try rw [if_pos (show a1 < 4 by first | omega | (simp [upS, hz, za1, z1a1, ca1]; done) | (simp [upS, hz, za1, z1a1, ca1]; omega))]
        all_goals rfl
      refine ⟨_, _, hD7, ?_⟩
      clear hD7
      refine ⟨(show 1 = 0 ∨ 1 = 1 by first | omega | (simp [upS, hz, za1, z1a1, ca1]; done) | (simp [upS, hz, za1, z1a1, ca1]; omega)), ?_⟩
      all_goals rfl
    refine ⟨_, _, hD8, ?_⟩
    clear hD8
    rw [if_neg (show ¬ ((1 : Int) = 0) by first | omega | (simp [upS, hz, za1, z1a1, ca1]; done) | (simp [upS, hz, za1, z1a1, ca1]; omega))]
    rw [if_pos (show (0 : Int) ≤ a2 by first | omega | (simp [upS, hz, za1, z1a1, ca1]; done) | (simp [upS, hz, za1, z1a1, ca1]; omega))]
    refine ⟨(show 0 ≤ a1 ∧ a1 < 4 by first | omega | (simp [upS, hz, za1, z1a1, ca1]; done) | (simp [upS, hz, za1, z1a1, ca1]; omega)), ?_⟩
    rw [if_neg (show ¬ (a2 ≤ (σ 684 (a1).toNat)) by first | omega | (simp [upS, hz, za1, z1a1, ca1]; done) | (simp [upS, hz, za1, z1a1, ca1]; omega))]
    refine b256_25 ?_
    refine b256_26 ?_
    rw [if_pos (show (0 : Int) = 0 by first | omega | (simp [upS, hz, za1, z1a1, ca1]; done) | (simp [upS, hz, za1, z1a1, ca1]; omega))]
    refine b256_65 ?_
    have hD9 : Dd 245 [(.inr (.inr (some 682))), (.inl 1)] σ (.inl (some (.inl 0)), (upS σ 682 0 1)) := by
      refine b245 ?_
      try rw [if_neg (show ¬ ((1 : Int) = 0) by first | omega | (simp [upS, hz, za1, z1a1, ca1]; done) | (simp [upS, hz, za1, z1a1, ca1]; omega))]
      all_goals rfl
    refine ⟨_, _, hD9, ?_⟩
    clear hD9
    rw [if_pos (show (0 : Int) = 0 by first | omega | (simp [upS, hz, za1, z1a1, ca1]; done) | (simp [upS, hz, za1, z1a1, ca1]; omega))]
    all_goals rfl
  refine ⟨_, _, _, _, hA, hB, ?_, ?_, ?_, ?_, ?_⟩
  · (first | rfl | (simp [upS, SCR, hz, za1, z1a1, ca1]; done) | (simp [upS, SCR, hz, za1, z1a1, ca1]; omega))
  · first | (intro h9; omega) | (intro _; first | rfl | (simp [upS, SCR, hz, za1, z1a1, ca1]; done) | (simp [upS, SCR, hz, za1, z1a1, ca1]; omega))
  · intro i; first | rfl | (unfold upS SCR; (repeat' split) <;> first | rfl | omega)
  · first | rfl | (unfold upS SCR; (repeat' split) <;> first | rfl | omega)
  · first | rfl | (unfold upS SCR; (repeat' split) <;> first | rfl | omega)
theorem q0_4 {σ : Sg} {a1 : Int} {a2 : Int} {a3 : Int} (hz : ∀ a i, a < 1000 → σ a i = 0) (h0 : 0 ≤ a1 ∧ a1 < 4) (h1 : a2 = 0) (h2 : isLn a3 = false) : ∃ (kx b : Int) (s1 s2 : Sg), Dd 390 [(.inr (.inr (some 0))), (.inl a1), (.inl a2), (.inl a3), (.inr (.inr (some 726)))] σ (.inl (some (.inl kx)), s1) ∧ Dd 256 [(.inr (.inr (some 682))), (.inl a1), (.inl a2), (.inl a3)] s1 (.inl (some (.inl b)), s2) ∧ s2 682 0 = kx ∧ (kx = 0 → s2 726 0 = b) ∧ (∀ i, s1 SCR i = σ SCR i) ∧ s1 (SCR + 1) 0 = σ (SCR + 1) 0 ∧ s2 (SCR + 1) 0 = σ (SCR + 1) 0 := by
  have za1 : ∀ i, σ (2 + 2 * ((a1)).toNat) i = 0 := fun i => hz _ i (by omega)
  have z1a1 : ∀ i, σ ((2 + 2 * ((a1)).toNat) + 1) i = 0 := fun i => hz _ i (by omega)
  have ca1 : (cap (2 + 2 * ((a1)).toNat) : Int) = 16 := cp_1 (by omega)
  have hA : Dd 390 [(.inr (.inr (some 0))), (.inl a1), (.inl a2), (.inl a3), (.inr (.inr (some 726)))] σ (.inl (some (.inl 2)), σ) := by
    refine b390 ?_
    have hD8 : Dd 172 [(.inr (.inr (some 0))), (.inl a1), (.inl a2), (.inl a3)] σ (.inr 1, σ) := by
      refine b172 ?_
      have hD3 : Dd 227 [(.inr (.inr (some 0))), (.inl a1)] σ (.inl (some (.inr (.inr (some (2 + 2 * ((a1)).toNat))))), σ) := by
        refine b227 ?_
        have hD1 : Dd 145 [(.inr (.inr (some 1))), (.inl a1)] σ (.inl (some (.inr (.inr (some (2 + 2 * ((a1)).toNat))))), σ) := by
          refine b145 ?_
          rw [if_pos (show (0 : Int) ≤ a1 by first | omega | (simp [upS, hz, za1, z1a1, ca1, h2]; done) | (simp [upS, hz, za1, z1a1, ca1, h2]; omega))]
          refine ⟨4, (by decide +kernel), (by decide), ?_⟩
          rw [if_pos (show a1 < ((4 : Nat) : Int) by first | omega | (simp [upS, hz, za1, z1a1, ca1, h2]; done) | (simp [upS, hz, za1, z1a1, ca1, h2]; omega))]
          refine ⟨(show 0 ≤ a1 by first | omega | (simp [upS, hz, za1, z1a1, ca1, h2]; done) | (simp [upS, hz, za1, z1a1, ca1, h2]; omega)), ?_⟩
          refine ⟨(2 + 2 * ((a1)).toNat), (el_1 (i := (a1)) (by first | omega | (simp [upS, hz, za1, z1a1, ca1, h2]; done) | (simp [upS, hz, za1, z1a1, ca1, h2]; omega))).1, (el_1 (i := (a1)) (by first | omega | (simp [upS, hz, za1, z1a1, ca1, h2]; done) | (simp [upS, hz, za1, z1a1, ca1, h2]; omega))).2, ?_⟩
          all_goals rfl
        refine ⟨_, _, hD1, ?_⟩
        clear hD1
        refine ⟨fun hz2 => (by cases hz2), fun _ hz2 => ?_⟩
        cases hz2
        refine ⟨(el_1 (i := (a1)) (by first | omega | (simp [upS, hz, za1, z1a1, ca1, h2]; done) | (simp [upS, hz, za1, z1a1, ca1, h2]; omega))).2, ?_⟩
        all_goals rfl
      refine Or.inl ⟨_, _, hD3, (el_1 (i := (a1)) (by first | omega | (simp [upS, hz, za1, z1a1, ca1, h2]; done) | (simp [upS, hz, za1, z1a1, ca1, h2]; omega))).2, ?_⟩
      clear hD3
      have hD4 : Dd 146 [(.inr (.inr (some (2 + 2 * ((a1)).toNat))))] σ (.inl (some (.inl 0)), σ) := by
        refine b146 (el_1 (i := (a1)) (by first | omega | (simp [upS, hz, za1, z1a1, ca1, h2]; done) | (simp [upS, hz, za1, z1a1, ca1, h2]; omega))).2 ?_
        rw [show (σ (2 + 2 * ((a1)).toNat) 1) = 0 by (first | omega | (simp [upS, hz, za1, z1a1, ca1, h2]; done) | (simp [upS, hz, za1, z1a1, ca1, h2]; omega))]
        all_goals rfl
      refine ⟨_, _, hD4, ?_⟩
      clear hD4
      refine ⟨(show (-2147483648 : Int) ≤ (0 + 1) ∧ ((0 + 1) : Int) ≤ 2147483647 by first | omega | (simp [upS, hz, za1, z1a1, ca1, h2]; done) | (simp [upS, hz, za1, z1a1, ca1, h2]; omega)), ?_⟩
      rw [show ((0 + 1) : Int) = 1 by (first | omega | (simp [upS, hz, za1, z1a1, ca1, h2]; done) | (simp [upS, hz, za1, z1a1, ca1, h2]; omega))]
      have hD5 : Dd 232 [(.inr (.inr (some 0))), (.inl a2), (.inl 1)] σ (.inl none, σ) := by
        refine b232 ?_
        rw [if_pos (show (0 : Int) ≤ a2 by first | omega | (simp [upS, hz, za1, z1a1, ca1, h2]; done) | (simp [upS, hz, za1, z1a1, ca1, h2]; omega))]
        rw [if_neg (show ¬ ((1 : Int) ≤ a2) by first | omega | (simp [upS, hz, za1, z1a1, ca1, h2]; done) | (simp [upS, hz, za1, z1a1, ca1, h2]; omega))]
        all_goals rfl
      refine Or.inl ⟨_, hD5, ?_⟩
      clear hD5
      have hD7 : Dd 235 [(.inr (.inr (some 0))), (.inl a3)] σ (.inr 1, σ) := by
        refine b235 ?_
        have hD6 : Dd 68 [(.inl a3)] σ (.inl (some (.inl (if isLn a3 = true then (1 : Int) else 0))), σ) := d68
        refine ⟨_, _, hD6, ?_⟩
        clear hD6
        rw [if_pos (show (if isLn a3 = true then (1 : Int) else 0) = 0 by first | omega | (simp [upS, hz, za1, z1a1, ca1, h2]; done) | (simp [upS, hz, za1, z1a1, ca1, h2]; omega))]
        all_goals rfl
      refine Or.inr ⟨_, _, hD7, ?_⟩
      all_goals rfl
    exact Or.inr (Or.inr (Or.inl ⟨_, hD8, rfl⟩))
  have hB : Dd 256 [(.inr (.inr (some 682))), (.inl a1), (.inl a2), (.inl a3)] σ (.inl (some (.inl 0)), (upS σ 682 0 2)) := by
    refine b256 ?_
    have hD10 : Dd 247 [(.inl a1)] σ (.inl (some (.inl 1)), σ) := by
      refine b247 ?_
      have hD9 : Dd 246 [(.inl a1), (.inl 4)] σ (.inl (some (.inl 1)), σ) := by
        refine b246 ?_
        try rw [if_pos (show (0 : Int) ≤ a1 by first | omega | (simp [upS, hz, za1, z1a1, ca1, h2]; done) | (simp [upS, hz, za1, z1a1, ca1, h2]; omega))]
        try rw [if_pos (show a1 < 4 by first | omega | (simp [upS, hz, za1, z1a1, ca1, h2]; done) | (simp [upS, hz, za1, z1a1, ca1, h2]; omega))]
        all_goals rfl
      refine ⟨_, _, hD9, ?_⟩
      clear hD9
      refine ⟨(show 1 = 0 ∨ 1 = 1 by first | omega | (simp [upS, hz, za1, z1a1, ca1, h2]; done) | (simp [upS, hz, za1, z1a1, ca1, h2]; omega)), ?_⟩
      all_goals rfl
    refine ⟨_, _, hD10, ?_⟩
    clear hD10
    rw [if_neg (show ¬ ((1 : Int) = 0) by first | omega | (simp [upS, hz, za1, z1a1, ca1, h2]; done) | (simp [upS, hz, za1, z1a1, ca1, h2]; omega))]
    rw [if_pos (show (0 : Int) ≤ a2 by first | omega | (simp [upS, hz, za1, z1a1, ca1, h2]; done) | (simp [upS, hz, za1, z1a1, ca1, h2]; omega))]
    refine ⟨(show 0 ≤ a1 ∧ a1 < 4 by first | omega | (simp [upS, hz, za1, z1a1, ca1, h2]; done) | (simp [upS, hz, za1, z1a1, ca1, h2]; omega)), ?_⟩
    rw [if_pos (show a2 ≤ (σ 684 (a1).toNat) by first | omega | (simp [upS, hz, za1, z1a1, ca1, h2]; done) | (simp [upS, hz, za1, z1a1, ca1, h2]; omega))]
    refine b256_26 ?_
    rw [if_neg (show ¬ ((1 : Int) = 0) by first | omega | (simp [upS, hz, za1, z1a1, ca1, h2]; done) | (simp [upS, hz, za1, z1a1, ca1, h2]; omega))]
    have hD11 : Dd 250 [(.inl a3)] σ (.inl (some (.inl (if isLn a3 = true then (1 : Int) else 0))), σ) := d250
    refine ⟨_, _, hD11, ?_⟩
    clear hD11
    refine ⟨(show ¬ ((if isLn a3 = true then (1 : Int) else 0) = 0) → 0 ≤ a1 ∧ a1 < 4 by (first | (intros; first | omega | (simp [upS, hz, za1, z1a1, ca1, h2]; done) | (simp [upS, hz, za1, z1a1, ca1, h2]; omega)) | (intros; simp_all [upS, hz, za1, z1a1, ca1, h2]; done) | (intros; simp_all [upS, hz, za1, z1a1, ca1, h2]; omega))), ?_⟩
    try rw [if_pos (show (if isLn a3 = true then (1 : Int) else 0) = 0 by first | omega | (simp [upS, hz, za1, z1a1, ca1, h2]; done) | (simp [upS, hz, za1, z1a1, ca1, h2]; omega))]
    refine b256_65 ?_
    have hD12 : Dd 245 [(.inr (.inr (some 682))), (.inl 2)] σ (.inl (some (.inl 0)), (upS σ 682 0 2)) := by
      refine b245 ?_
      try rw [if_neg (show ¬ ((2 : Int) = 0) by first | omega | (simp [upS, hz, za1, z1a1, ca1, h2]; done) | (simp [upS, hz, za1, z1a1, ca1, h2]; omega))]
      all_goals rfl
    refine ⟨_, _, hD12, ?_⟩
    clear hD12
    rw [if_pos (show (0 : Int) = 0 by first | omega | (simp [upS, hz, za1, z1a1, ca1, h2]; done) | (simp [upS, hz, za1, z1a1, ca1, h2]; omega))]
    all_goals rfl
  refine ⟨_, _, _, _, hA, hB, ?_, ?_, ?_, ?_, ?_⟩
  · (first | rfl | (simp [upS, SCR, hz, za1, z1a1, ca1, h2]; done) | (simp [upS, SCR, hz, za1, z1a1, ca1, h2]; omega))
  · first | (intro h9; omega) | (intro _; first | rfl | (simp [upS, SCR, hz, za1, z1a1, ca1, h2]; done) | (simp [upS, SCR, hz, za1, z1a1, ca1, h2]; omega))
  · intro i; first | rfl | (unfold upS SCR; (repeat' split) <;> first | rfl | omega)
  · first | rfl | (unfold upS SCR; (repeat' split) <;> first | rfl | omega)
  · first | rfl | (unfold upS SCR; (repeat' split) <;> first | rfl | omega)
theorem q0_5 {σ : Sg} {a1 : Int} {a2 : Int} {a3 : Int} (hz : ∀ a i, a < 1000 → σ a i = 0) (h0 : 0 ≤ a1 ∧ a1 < 4) (h1 : a2 = 0) (h2 : isLn a3 = true) : ∃ (kx b : Int) (s1 s2 : Sg), Dd 390 [(.inr (.inr (some 0))), (.inl a1), (.inl a2), (.inl a3), (.inr (.inr (some 726)))] σ (.inl (some (.inl kx)), s1) ∧ Dd 256 [(.inr (.inr (some 682))), (.inl a1), (.inl a2), (.inl a3)] s1 (.inl (some (.inl b)), s2) ∧ s2 682 0 = kx ∧ (kx = 0 → s2 726 0 = b) ∧ (∀ i, s1 SCR i = σ SCR i) ∧ s1 (SCR + 1) 0 = σ (SCR + 1) 0 ∧ s2 (SCR + 1) 0 = σ (SCR + 1) 0 := by
  have za1 : ∀ i, σ (2 + 2 * ((a1)).toNat) i = 0 := fun i => hz _ i (by omega)
  have z1a1 : ∀ i, σ ((2 + 2 * ((a1)).toNat) + 1) i = 0 := fun i => hz _ i (by omega)
  have ca1 : (cap (2 + 2 * ((a1)).toNat) : Int) = 16 := cp_1 (by omega)
  have hA : Dd 390 [(.inr (.inr (some 0))), (.inl a1), (.inl a2), (.inl a3), (.inr (.inr (some 726)))] σ (.inl (some (.inl 0)), (upS (upS (upS σ ((2 + 2 * ((a1)).toNat) + 1) ((a2).toNat) a3) (2 + 2 * ((a1)).toNat) 1 1) 726 0 1)) := by
    refine b390 ?_
    have hD11 : Dd 172 [(.inr (.inr (some 0))), (.inl a1), (.inl a2), (.inl a3)] σ (.inl (some (.inl 1)), (upS (upS σ ((2 + 2 * ((a1)).toNat) + 1) ((a2).toNat) a3) (2 + 2 * ((a1)).toNat) 1 1)) := by
      refine b172 ?_
      have hD3 : Dd 227 [(.inr (.inr (some 0))), (.inl a1)] σ (.inl (some (.inr (.inr (some (2 + 2 * ((a1)).toNat))))), σ) := by
        refine b227 ?_
        have hD1 : Dd 145 [(.inr (.inr (some 1))), (.inl a1)] σ (.inl (some (.inr (.inr (some (2 + 2 * ((a1)).toNat))))), σ) := by
          refine b145 ?_
          rw [if_pos (show (0 : Int) ≤ a1 by first | omega | (simp [upS, hz, za1, z1a1, ca1, h2]; done) | (simp [upS, hz, za1, z1a1, ca1, h2]; omega))]
          refine ⟨4, (by decide +kernel), (by decide), ?_⟩
          rw [if_pos (show a1 < ((4 : Nat) : Int) by first | omega | (simp [upS, hz, za1, z1a1, ca1, h2]; done) | (simp [upS, hz, za1, z1a1, ca1, h2]; omega))]
          refine ⟨(show 0 ≤ a1 by first | omega | (simp [upS, hz, za1, z1a1, ca1, h2]; done) | (simp [upS, hz, za1, z1a1, ca1, h2]; omega)), ?_⟩
          refine ⟨(2 + 2 * ((a1)).toNat), (el_1 (i := (a1)) (by first | omega | (simp [upS, hz, za1, z1a1, ca1, h2]; done) | (simp [upS, hz, za1, z1a1, ca1, h2]; omega))).1, (el_1 (i := (a1)) (by first | omega | (simp [upS, hz, za1, z1a1, ca1, h2]; done) | (simp [upS, hz, za1, z1a1, ca1, h2]; omega))).2, ?_⟩
          all_goals rfl
        refine ⟨_, _, hD1, ?_⟩
        clear hD1
        refine ⟨fun hz2 => (by cases hz2), fun _ hz2 => ?_⟩
        cases hz2
        refine ⟨(el_1 (i := (a1)) (by first | omega | (simp [upS, hz, za1, z1a1, ca1, h2]; done) | (simp [upS, hz, za1, z1a1, ca1, h2]; omega))).2, ?_⟩
        all_goals rfl
      refine Or.inl ⟨_, _, hD3, (el_1 (i := (a1)) (by first | omega | (simp [upS, hz, za1, z1a1, ca1, h2]; done) | (simp [upS, hz, za1, z1a1, ca1, h2]; omega))).2, ?_⟩
      clear hD3
      have hD4 : Dd 146 [(.inr (.inr (some (2 + 2 * ((a1)).toNat))))] σ (.inl (some (.inl 0)), σ) := by
        refine b146 (el_1 (i := (a1)) (by first | omega | (simp [upS, hz, za1, z1a1, ca1, h2]; done) | (simp [upS, hz, za1, z1a1, ca1, h2]; omega))).2 ?_
        rw [show (σ (2 + 2 * ((a1)).toNat) 1) = 0 by (first | omega | (simp [upS, hz, za1, z1a1, ca1, h2]; done) | (simp [upS, hz, za1, z1a1, ca1, h2]; omega))]
        all_goals rfl
      refine ⟨_, _, hD4, ?_⟩
      clear hD4
      refine ⟨(show (-2147483648 : Int) ≤ (0 + 1) ∧ ((0 + 1) : Int) ≤ 2147483647 by first | omega | (simp [upS, hz, za1, z1a1, ca1, h2]; done) | (simp [upS, hz, za1, z1a1, ca1, h2]; omega)), ?_⟩
      rw [show ((0 + 1) : Int) = 1 by (first | omega | (simp [upS, hz, za1, z1a1, ca1, h2]; done) | (simp [upS, hz, za1, z1a1, ca1, h2]; omega))]
      have hD5 : Dd 232 [(.inr (.inr (some 0))), (.inl a2), (.inl 1)] σ (.inl none, σ) := by
        refine b232 ?_
        rw [if_pos (show (0 : Int) ≤ a2 by first | omega | (simp [upS, hz, za1, z1a1, ca1, h2]; done) | (simp [upS, hz, za1, z1a1, ca1, h2]; omega))]
        rw [if_neg (show ¬ ((1 : Int) ≤ a2) by first | omega | (simp [upS, hz, za1, z1a1, ca1, h2]; done) | (simp [upS, hz, za1, z1a1, ca1, h2]; omega))]
        all_goals rfl
      refine Or.inl ⟨_, hD5, ?_⟩
      clear hD5
      have hD7 : Dd 235 [(.inr (.inr (some 0))), (.inl a3)] σ (.inl none, σ) := by
        refine b235 ?_
        have hD6 : Dd 68 [(.inl a3)] σ (.inl (some (.inl (if isLn a3 = true then (1 : Int) else 0))), σ) := d68
        refine ⟨_, _, hD6, ?_⟩
        clear hD6
        rw [if_neg (show ¬ ((if isLn a3 = true then (1 : Int) else 0) = 0) by first | omega | (simp [upS, hz, za1, z1a1, ca1, h2]; done) | (simp [upS, hz, za1, z1a1, ca1, h2]; omega))]
        all_goals rfl
      refine Or.inl ⟨_, hD7, ?_⟩
      clear hD7
      have hD8 : Dd 146 [(.inr (.inr (some (2 + 2 * ((a1)).toNat))))] σ (.inl (some (.inl 0)), σ) := by
        refine b146 (el_1 (i := (a1)) (by first | omega | (simp [upS, hz, za1, z1a1, ca1, h2]; done) | (simp [upS, hz, za1, z1a1, ca1, h2]; omega))).2 ?_
        rw [show (σ (2 + 2 * ((a1)).toNat) 1) = 0 by (first | omega | (simp [upS, hz, za1, z1a1, ca1, h2]; done) | (simp [upS, hz, za1, z1a1, ca1, h2]; omega))]
        all_goals rfl
      refine ⟨_, _, hD8, ?_⟩
      clear hD8
      rw [if_neg (show ¬ ((16 : Int) ≤ 0) by first | omega | (simp [upS, hz, za1, z1a1, ca1, h2]; done) | (simp [upS, hz, za1, z1a1, ca1, h2]; omega))]
      have hD9 : Dd 150 [(.inr (.inr (some (2 + 2 * ((a1)).toNat)))), (.inl a2), (.inl a3)] σ (.inl none, (upS (upS σ ((2 + 2 * ((a1)).toNat) + 1) ((a2).toNat) a3) (2 + 2 * ((a1)).toNat) 1 1)) := by
        refine b150 (el_1 (i := (a1)) (by first | omega | (simp [upS, hz, za1, z1a1, ca1, h2]; done) | (simp [upS, hz, za1, z1a1, ca1, h2]; omega))).2 ?_
        rw [if_pos (show (0 : Int) ≤ a2 by first | omega | (simp [upS, hz, za1, z1a1, ca1, h2]; done) | (simp [upS, hz, za1, z1a1, ca1, h2]; omega))]
        rw [if_pos (show a2 ≤ (σ (2 + 2 * ((a1)).toNat) 1) by first | omega | (simp [upS, hz, za1, z1a1, ca1, h2]; done) | (simp [upS, hz, za1, z1a1, ca1, h2]; omega))]
        refine ⟨(show -2147483648 ≤ ((cap (2 + 2 * ((a1)).toNat)) : Int) ∧ ((cap (2 + 2 * ((a1)).toNat)) : Int) ≤ 2147483647 by have ec1 : (cap (2 + 2 * ((a1)).toNat) : Int) = 16 := cp_1 (by omega); first | omega | (simp [upS, hz, za1, z1a1, ca1, h2]; done) | (simp [upS, hz, za1, z1a1, ca1, h2]; omega)), ?_⟩
        rw [if_neg (show ¬ (((cap (2 + 2 * ((a1)).toNat)) : Int) ≤ (σ (2 + 2 * ((a1)).toNat) 1)) by have ec1 : (cap (2 + 2 * ((a1)).toNat) : Int) = 16 := cp_1 (by omega); first | omega | (simp [upS, hz, za1, z1a1, ca1, h2]; done) | (simp [upS, hz, za1, z1a1, ca1, h2]; omega))]
        rw [show (σ (2 + 2 * ((a1)).toNat) 1) = 0 by (first | omega | (simp [upS, hz, za1, z1a1, ca1, h2]; done) | (simp [upS, hz, za1, z1a1, ca1, h2]; omega))]
        refine b150_30 (el_1 (i := (a1)) (by first | omega | (simp [upS, hz, za1, z1a1, ca1, h2]; done) | (simp [upS, hz, za1, z1a1, ca1, h2]; omega))).2 ?_
        rw [if_neg (show ¬ (a2 < 0) by first | omega | (simp [upS, hz, za1, z1a1, ca1, h2]; done) | (simp [upS, hz, za1, z1a1, ca1, h2]; omega))]
        refine ⟨(show 0 ≤ a2 ∧ a2 < ((cap (2 + 2 * ((a1)).toNat)) : Int) by have ec1 : (cap (2 + 2 * ((a1)).toNat) : Int) = 16 := cp_1 (by omega); first | omega | (simp [upS, hz, za1, z1a1, ca1, h2]; done) | (simp [upS, hz, za1, z1a1, ca1, h2]; omega)), ?_⟩
        refine ⟨(show -2147483648 ≤ (((upS σ ((2 + 2 * ((a1)).toNat) + 1) ((a2).toNat) a3) (2 + 2 * ((a1)).toNat) 1) + 1) ∧ (((upS σ ((2 + 2 * ((a1)).toNat) + 1) ((a2).toNat) a3) (2 + 2 * ((a1)).toNat) 1) + 1) ≤ 2147483647 by first | omega | (simp [upS, hz, za1, z1a1, ca1, h2]; done) | (simp [upS, hz, za1, z1a1, ca1, h2]; omega)), ?_⟩
        rw [(show (upS (upS σ ((2 + 2 * ((a1)).toNat) + 1) ((a2).toNat) a3) (2 + 2 * ((a1)).toNat) 1 (((upS σ ((2 + 2 * ((a1)).toNat) + 1) ((a2).toNat) a3) (2 + 2 * ((a1)).toNat) 1) + 1)) = (upS (upS σ ((2 + 2 * ((a1)).toNat) + 1) ((a2).toNat) a3) (2 + 2 * ((a1)).toNat) 1 1) from by rw [show (((upS σ ((2 + 2 * ((a1)).toNat) + 1) ((a2).toNat) a3) (2 + 2 * ((a1)).toNat) 1) + 1) = 1 by (first | omega | (simp [upS, hz, za1, z1a1, ca1, h2]; done) | (simp [upS, hz, za1, z1a1, ca1, h2]; omega))])]
        all_goals rfl
      refine ⟨_, hD9, ?_⟩
      clear hD9
      have hD10 : Dd 146 [(.inr (.inr (some (2 + 2 * ((a1)).toNat))))] (upS (upS σ ((2 + 2 * ((a1)).toNat) + 1) ((a2).toNat) a3) (2 + 2 * ((a1)).toNat) 1 1) (.inl (some (.inl 1)), (upS (upS σ ((2 + 2 * ((a1)).toNat) + 1) ((a2).toNat) a3) (2 + 2 * ((a1)).toNat) 1 1)) := by
        refine b146 (el_1 (i := (a1)) (by first | omega | (simp [upS, hz, za1, z1a1, ca1, h2]; done) | (simp [upS, hz, za1, z1a1, ca1, h2]; omega))).2 ?_
        rw [show ((upS (upS σ ((2 + 2 * ((a1)).toNat) + 1) ((a2).toNat) a3) (2 + 2 * ((a1)).toNat) 1 1) (2 + 2 * ((a1)).toNat) 1) = 1 by (first | omega | (simp [upS, hz, za1, z1a1, ca1, h2]; done) | (simp [upS, hz, za1, z1a1, ca1, h2]; omega))]
        all_goals rfl
      refine ⟨_, _, hD10, ?_⟩
      clear hD10
      all_goals rfl
    refine Or.inl ⟨_, _, hD11, ?_⟩
    clear hD11
    rw [(show (upS (upS (upS σ ((2 + 2 * ((a1)).toNat) + 1) ((a2).toNat) a3) (2 + 2 * ((a1)).toNat) 1 1) 726 ((0 : Int).toNat) 1) = (upS (upS (upS σ ((2 + 2 * ((a1)).toNat) + 1) ((a2).toNat) a3) (2 + 2 * ((a1)).toNat) 1 1) 726 0 1) from by rw [show ((0 : Int).toNat) = 0 by (first | omega | (simp [upS, hz, za1, z1a1, ca1, h2]; done) | (simp [upS, hz, za1, z1a1, ca1, h2]; omega))])]
    all_goals rfl
  obtain ⟨S900, E900⟩ : ∃ s : Sg, s = (upS (upS (upS σ ((2 + 2 * ((a1)).toNat) + 1) ((a2).toNat) a3) (2 + 2 * ((a1)).toNat) 1 1) 726 0 1) := ⟨_, rfl⟩
  rw [← E900] at hA
  have hB : Dd 256 [(.inr (.inr (some 682))), (.inl a1), (.inl a2), (.inl a3)] S900 (.inl (some (.inl 1)), (upS (upS (upS S900 682 0 0) 683 ((((16 * a1) + a2)).toNat) a3) 684 ((a1).toNat) 1)) := by
    refine b256 ?_
    have hD13 : Dd 247 [(.inl a1)] S900 (.inl (some (.inl 1)), S900) := by
      refine b247 ?_
      have hD12 : Dd 246 [(.inl a1), (.inl 4)] S900 (.inl (some (.inl 1)), S900) := by
        refine b246 ?_
        try rw [if_pos (show (0 : Int) ≤ a1 by first | omega | (simp [upS, hz, za1, z1a1, ca1, h2, E900]; done) | (simp [upS, hz, za1, z1a1, ca1, h2, E900]; omega))]
        try rw [if_pos (show a1 < 4 by first | omega | (simp [upS, hz, za1, z1a1, ca1, h2, E900]; done) | (simp [upS, hz, za1, z1a1, ca1, h2, E900]; omega))]
        all_goals rfl
      refine ⟨_, _, hD12, ?_⟩
      clear hD12
      refine ⟨(show 1 = 0 ∨ 1 = 1 by first | omega | (simp [upS, hz, za1, z1a1, ca1, h2, E900]; done) | (simp [upS, hz, za1, z1a1, ca1, h2, E900]; omega)), ?_⟩
      all_goals rfl
    refine ⟨_, _, hD13, ?_⟩
    clear hD13
    rw [if_neg (show ¬ ((1 : Int) = 0) by first | omega | (simp [upS, hz, za1, z1a1, ca1, h2, E900]; done) | (simp [upS, hz, za1, z1a1, ca1, h2, E900]; omega))]
    rw [if_pos (show (0 : Int) ≤ a2 by first | omega | (simp [upS, hz, za1, z1a1, ca1, h2, E900]; done) | (simp [upS, hz, za1, z1a1, ca1, h2, E900]; omega))]
    refine ⟨(show 0 ≤ a1 ∧ a1 < 4 by first | omega | (simp [upS, hz, za1, z1a1, ca1, h2, E900]; done) | (simp [upS, hz, za1, z1a1, ca1, h2, E900]; omega)), ?_⟩
    rw [if_pos (show a2 ≤ (S900 684 (a1).toNat) by first | omega | (simp [upS, hz, za1, z1a1, ca1, h2, E900]; done) | (simp [upS, hz, za1, z1a1, ca1, h2, E900]; omega))]
    refine b256_26 ?_
    rw [if_neg (show ¬ ((1 : Int) = 0) by first | omega | (simp [upS, hz, za1, z1a1, ca1, h2, E900]; done) | (simp [upS, hz, za1, z1a1, ca1, h2, E900]; omega))]
    have hD14 : Dd 250 [(.inl a3)] S900 (.inl (some (.inl (if isLn a3 = true then (1 : Int) else 0))), S900) := d250
    refine ⟨_, _, hD14, ?_⟩
    clear hD14
    refine ⟨(show ¬ ((if isLn a3 = true then (1 : Int) else 0) = 0) → 0 ≤ a1 ∧ a1 < 4 by (first | (intros; first | omega | (simp [upS, hz, za1, z1a1, ca1, h2, E900]; done) | (simp [upS, hz, za1, z1a1, ca1, h2, E900]; omega)) | (intros; simp_all [upS, hz, za1, z1a1, ca1, h2, E900]; done) | (intros; simp_all [upS, hz, za1, z1a1, ca1, h2, E900]; omega))), ?_⟩
    try rw [if_neg (show ¬ ((if isLn a3 = true then (1 : Int) else 0) = 0) by first | omega | (simp [upS, hz, za1, z1a1, ca1, h2, E900]; done) | (simp [upS, hz, za1, z1a1, ca1, h2, E900]; omega))]
    try rw [if_neg (show ¬ ((S900 684 (a1).toNat) = 16) by first | omega | (simp [upS, hz, za1, z1a1, ca1, h2, E900]; done) | (simp [upS, hz, za1, z1a1, ca1, h2, E900]; omega))]
    refine b256_65 ?_
    have hD15 : Dd 245 [(.inr (.inr (some 682))), (.inl 0)] S900 (.inl (some (.inl 1)), (upS S900 682 0 0)) := by
      refine b245 ?_
      try rw [if_pos (show (0 : Int) = 0 by first | omega | (simp [upS, hz, za1, z1a1, ca1, h2, E900]; done) | (simp [upS, hz, za1, z1a1, ca1, h2, E900]; omega))]
      all_goals rfl
    refine ⟨_, _, hD15, ?_⟩
    clear hD15
    rw [if_neg (show ¬ ((1 : Int) = 0) by first | omega | (simp [upS, hz, za1, z1a1, ca1, h2, E900]; done) | (simp [upS, hz, za1, z1a1, ca1, h2, E900]; omega))]
    refine ⟨(show 0 ≤ a1 ∧ a1 < 4 by first | omega | (simp [upS, hz, za1, z1a1, ca1, h2, E900]; done) | (simp [upS, hz, za1, z1a1, ca1, h2, E900]; omega)), ?_⟩
    rw [show ((upS S900 682 0 0) 684 (a1).toNat) = 0 by (first | omega | (simp [upS, hz, za1, z1a1, ca1, h2, E900]; done) | (simp [upS, hz, za1, z1a1, ca1, h2, E900]; omega))]
    refine b256_81 ?_
    rw [if_neg (show ¬ (a2 < 0) by first | omega | (simp [upS, hz, za1, z1a1, ca1, h2, E900]; done) | (simp [upS, hz, za1, z1a1, ca1, h2, E900]; omega))]
    refine ⟨(show -2147483648 ≤ (16 * a1) ∧ (16 * a1) ≤ 2147483647 by first | omega | (simp [upS, hz, za1, z1a1, ca1, h2, E900]; done) | (simp [upS, hz, za1, z1a1, ca1, h2, E900]; omega)), ?_⟩
    refine ⟨(show -2147483648 ≤ ((16 * a1) + a2) ∧ ((16 * a1) + a2) ≤ 2147483647 by first | omega | (simp [upS, hz, za1, z1a1, ca1, h2, E900]; done) | (simp [upS, hz, za1, z1a1, ca1, h2, E900]; omega)), ?_⟩
    refine ⟨(show 0 ≤ ((16 * a1) + a2) ∧ ((16 * a1) + a2) < 64 by first | omega | (simp [upS, hz, za1, z1a1, ca1, h2, E900]; done) | (simp [upS, hz, za1, z1a1, ca1, h2, E900]; omega)), ?_⟩
    refine ⟨(show 0 ≤ a1 ∧ a1 < 4 by first | omega | (simp [upS, hz, za1, z1a1, ca1, h2, E900]; done) | (simp [upS, hz, za1, z1a1, ca1, h2, E900]; omega)), ?_⟩
    refine ⟨(show -2147483648 ≤ (((upS (upS S900 682 0 0) 683 ((((16 * a1) + a2)).toNat) a3) 684 (a1).toNat) + 1) ∧ (((upS (upS S900 682 0 0) 683 ((((16 * a1) + a2)).toNat) a3) 684 (a1).toNat) + 1) ≤ 2147483647 by first | omega | (simp [upS, hz, za1, z1a1, ca1, h2, E900]; done) | (simp [upS, hz, za1, z1a1, ca1, h2, E900]; omega)), ?_⟩
    refine ⟨(show 0 ≤ a1 ∧ a1 < 4 by first | omega | (simp [upS, hz, za1, z1a1, ca1, h2, E900]; done) | (simp [upS, hz, za1, z1a1, ca1, h2, E900]; omega)), ?_⟩
    refine ⟨(show 0 ≤ a1 ∧ a1 < 4 by first | omega | (simp [upS, hz, za1, z1a1, ca1, h2, E900]; done) | (simp [upS, hz, za1, z1a1, ca1, h2, E900]; omega)), ?_⟩
    rw [(show (upS (upS (upS S900 682 0 0) 683 ((((16 * a1) + a2)).toNat) a3) 684 ((a1).toNat) (((upS (upS S900 682 0 0) 683 ((((16 * a1) + a2)).toNat) a3) 684 (a1).toNat) + 1)) = (upS (upS (upS S900 682 0 0) 683 ((((16 * a1) + a2)).toNat) a3) 684 ((a1).toNat) 1) from by rw [show (((upS (upS S900 682 0 0) 683 ((((16 * a1) + a2)).toNat) a3) 684 (a1).toNat) + 1) = 1 by (first | omega | (simp [upS, hz, za1, z1a1, ca1, h2, E900]; done) | (simp [upS, hz, za1, z1a1, ca1, h2, E900]; omega))])]
    rw [show ((upS (upS (upS S900 682 0 0) 683 ((((16 * a1) + a2)).toNat) a3) 684 ((a1).toNat) 1) 684 (a1).toNat) = 1 by (first | omega | (simp [upS, hz, za1, z1a1, ca1, h2, E900]; done) | (simp [upS, hz, za1, z1a1, ca1, h2, E900]; omega))]
    all_goals rfl
  refine ⟨_, _, _, _, hA, hB, ?_, ?_, ?_, ?_, ?_⟩
  all_goals subst E900
  · (first | rfl | (simp [upS, SCR, hz, za1, z1a1, ca1, h2]; done) | (simp [upS, SCR, hz, za1, z1a1, ca1, h2]; omega))
  · first | (intro h9; omega) | (intro _; first | rfl | (simp [upS, SCR, hz, za1, z1a1, ca1, h2]; done) | (simp [upS, SCR, hz, za1, z1a1, ca1, h2]; omega))
  · intro i; first | rfl | (unfold upS SCR; (repeat' split) <;> first | rfl | omega)
  · first | rfl | (unfold upS SCR; (repeat' split) <;> first | rfl | omega)
  · first | rfl | (unfold upS SCR; (repeat' split) <;> first | rfl | omega)
theorem q1_0 {σ : Sg} {a1 : Int} {a2 : Int} (hz : ∀ a i, a < 1000 → σ a i = 0) (h0 : a1 < 0) : ∃ (kx b : Int) (s1 s2 : Sg), Dd 391 [(.inr (.inr (some 0))), (.inl a1), (.inl a2), (.inr (.inr (some 726)))] σ (.inl (some (.inl kx)), s1) ∧ Dd 258 [(.inr (.inr (some 682))), (.inl a1), (.inl a2)] s1 (.inl (some (.inl b)), s2) ∧ s2 682 0 = kx ∧ (kx = 0 → s2 726 0 = b) ∧ (∀ i, s1 SCR i = σ SCR i) ∧ s1 (SCR + 1) 0 = σ (SCR + 1) 0 ∧ s2 (SCR + 1) 0 = σ (SCR + 1) 0 := by
  have hA : Dd 391 [(.inr (.inr (some 0))), (.inl a1), (.inl a2), (.inr (.inr (some 726)))] σ (.inl (some (.inl 1)), σ) := by
    refine b391 ?_
    have hD4 : Dd 173 [(.inr (.inr (some 0))), (.inl a1), (.inl a2)] σ (.inr 0, σ) := by
      refine b173 ?_
      have hD3 : Dd 227 [(.inr (.inr (some 0))), (.inl a1)] σ (.inr 0, σ) := by
        refine b227 ?_
        have hD1 : Dd 145 [(.inr (.inr (some 1))), (.inl a1)] σ (.inl (some (.inr (.inr none))), σ) := by
          refine b145 ?_
          rw [if_neg (show ¬ ((0 : Int) ≤ a1) by first | omega | (simp [upS, hz]; done) | (simp [upS, hz]; omega))]
          all_goals rfl
        refine ⟨_, _, hD1, ?_⟩
        clear hD1
        refine ⟨fun _ => ?_, fun _ hz2 => (by cases hz2)⟩
        all_goals rfl
      refine Or.inr ⟨_, _, hD3, ?_⟩
      all_goals rfl
    exact Or.inr (⟨_, hD4, rfl⟩)
  have hB : Dd 258 [(.inr (.inr (some 682))), (.inl a1), (.inl a2)] σ (.inl (some (.inl 0)), (upS σ 682 0 1)) := by
    refine b258 ?_
    have hD8 : Dd 257 [(.inr (.inr (some 682))), (.inl a1), (.inl a2)] σ (.inl (some (.inl 0)), (upS σ 682 0 1)) := by
      refine b257 ?_
      have hD6 : Dd 247 [(.inl a1)] σ (.inl (some (.inl 0)), σ) := by
        refine b247 ?_
        have hD5 : Dd 246 [(.inl a1), (.inl 4)] σ (.inl (some (.inl 0)), σ) := by
          refine b246 ?_
          try rw [if_neg (show ¬ ((0 : Int) ≤ a1) by first | omega | (simp [upS, hz]; done) | (simp [upS, hz]; omega))]
          all_goals rfl
        refine ⟨_, _, hD5, ?_⟩
        clear hD5
        refine ⟨(show 0 = 0 ∨ 0 = 1 by first | omega | (simp [upS, hz]; done) | (simp [upS, hz]; omega)), ?_⟩
        all_goals rfl
      refine ⟨_, _, hD6, ?_⟩
      clear hD6
      rw [if_pos (show (0 : Int) = 0 by first | omega | (simp [upS, hz]; done) | (simp [upS, hz]; omega))]
      refine b257_25 ?_
      refine b257_26 ?_
      have hD7 : Dd 245 [(.inr (.inr (some 682))), (.inl 1)] σ (.inl (some (.inl 0)), (upS σ 682 0 1)) := by
        refine b245 ?_
        try rw [if_neg (show ¬ ((1 : Int) = 0) by first | omega | (simp [upS, hz]; done) | (simp [upS, hz]; omega))]
        all_goals rfl
      refine ⟨_, _, hD7, ?_⟩
      clear hD7
      refine ⟨(show 0 = 0 ∨ 0 = 1 by first | omega | (simp [upS, hz]; done) | (simp [upS, hz]; omega)), ?_⟩
      all_goals rfl
    refine ⟨_, _, hD8, ?_⟩
    clear hD8
    rw [if_pos (show (0 : Int) = 0 by first | omega | (simp [upS, hz]; done) | (simp [upS, hz]; omega))]
    all_goals rfl
  refine ⟨_, _, _, _, hA, hB, ?_, ?_, ?_, ?_, ?_⟩
  · (first | rfl | (simp [upS, SCR, hz]; done) | (simp [upS, SCR, hz]; omega))
  · first | (intro h9; omega) | (intro _; first | rfl | (simp [upS, SCR, hz]; done) | (simp [upS, SCR, hz]; omega))
  · intro i; first | rfl | (unfold upS SCR; (repeat' split) <;> first | rfl | omega)
  · first | rfl | (unfold upS SCR; (repeat' split) <;> first | rfl | omega)
  · first | rfl | (unfold upS SCR; (repeat' split) <;> first | rfl | omega)
theorem q1_1 {σ : Sg} {a1 : Int} {a2 : Int} (hz : ∀ a i, a < 1000 → σ a i = 0) (h0 : 4 ≤ a1) : ∃ (kx b : Int) (s1 s2 : Sg), Dd 391 [(.inr (.inr (some 0))), (.inl a1), (.inl a2), (.inr (.inr (some 726)))] σ (.inl (some (.inl kx)), s1) ∧ Dd 258 [(.inr (.inr (some 682))), (.inl a1), (.inl a2)] s1 (.inl (some (.inl b)), s2) ∧ s2 682 0 = kx ∧ (kx = 0 → s2 726 0 = b) ∧ (∀ i, s1 SCR i = σ SCR i) ∧ s1 (SCR + 1) 0 = σ (SCR + 1) 0 ∧ s2 (SCR + 1) 0 = σ (SCR + 1) 0 := by
  have hA : Dd 391 [(.inr (.inr (some 0))), (.inl a1), (.inl a2), (.inr (.inr (some 726)))] σ (.inl (some (.inl 1)), σ) := by
    refine b391 ?_
    have hD4 : Dd 173 [(.inr (.inr (some 0))), (.inl a1), (.inl a2)] σ (.inr 0, σ) := by
      refine b173 ?_
      have hD3 : Dd 227 [(.inr (.inr (some 0))), (.inl a1)] σ (.inr 0, σ) := by
        refine b227 ?_
        have hD1 : Dd 145 [(.inr (.inr (some 1))), (.inl a1)] σ (.inl (some (.inr (.inr none))), σ) := by
          refine b145 ?_
          rw [if_pos (show (0 : Int) ≤ a1 by first | omega | (simp [upS, hz]; done) | (simp [upS, hz]; omega))]
          refine ⟨4, (by decide +kernel), (by decide), ?_⟩
          rw [if_neg (show ¬ (a1 < ((4 : Nat) : Int)) by first | omega | (simp [upS, hz]; done) | (simp [upS, hz]; omega))]
          all_goals rfl
        refine ⟨_, _, hD1, ?_⟩
        clear hD1
        refine ⟨fun _ => ?_, fun _ hz2 => (by cases hz2)⟩
        all_goals rfl
      refine Or.inr ⟨_, _, hD3, ?_⟩
      all_goals rfl
    exact Or.inr (⟨_, hD4, rfl⟩)
  have hB : Dd 258 [(.inr (.inr (some 682))), (.inl a1), (.inl a2)] σ (.inl (some (.inl 0)), (upS σ 682 0 1)) := by
    refine b258 ?_
    have hD8 : Dd 257 [(.inr (.inr (some 682))), (.inl a1), (.inl a2)] σ (.inl (some (.inl 0)), (upS σ 682 0 1)) := by
      refine b257 ?_
      have hD6 : Dd 247 [(.inl a1)] σ (.inl (some (.inl 0)), σ) := by
        refine b247 ?_
        have hD5 : Dd 246 [(.inl a1), (.inl 4)] σ (.inl (some (.inl 0)), σ) := by
          refine b246 ?_
          try rw [if_pos (show (0 : Int) ≤ a1 by first | omega | (simp [upS, hz]; done) | (simp [upS, hz]; omega))]
          try rw [if_neg (show ¬ (a1 < 4) by first | omega | (simp [upS, hz]; done) | (simp [upS, hz]; omega))]
          all_goals rfl
        refine ⟨_, _, hD5, ?_⟩
        clear hD5
        refine ⟨(show 0 = 0 ∨ 0 = 1 by first | omega | (simp [upS, hz]; done) | (simp [upS, hz]; omega)), ?_⟩
        all_goals rfl
      refine ⟨_, _, hD6, ?_⟩
      clear hD6
      rw [if_pos (show (0 : Int) = 0 by first | omega | (simp [upS, hz]; done) | (simp [upS, hz]; omega))]
      refine b257_25 ?_
      refine b257_26 ?_
      have hD7 : Dd 245 [(.inr (.inr (some 682))), (.inl 1)] σ (.inl (some (.inl 0)), (upS σ 682 0 1)) := by
        refine b245 ?_
        try rw [if_neg (show ¬ ((1 : Int) = 0) by first | omega | (simp [upS, hz]; done) | (simp [upS, hz]; omega))]
        all_goals rfl
      refine ⟨_, _, hD7, ?_⟩
      clear hD7
      refine ⟨(show 0 = 0 ∨ 0 = 1 by first | omega | (simp [upS, hz]; done) | (simp [upS, hz]; omega)), ?_⟩
      all_goals rfl
    refine ⟨_, _, hD8, ?_⟩
    clear hD8
    rw [if_pos (show (0 : Int) = 0 by first | omega | (simp [upS, hz]; done) | (simp [upS, hz]; omega))]
    all_goals rfl
  refine ⟨_, _, _, _, hA, hB, ?_, ?_, ?_, ?_, ?_⟩
  · (first | rfl | (simp [upS, SCR, hz]; done) | (simp [upS, SCR, hz]; omega))
  · first | (intro h9; omega) | (intro _; first | rfl | (simp [upS, SCR, hz]; done) | (simp [upS, SCR, hz]; omega))
  · intro i; first | rfl | (unfold upS SCR; (repeat' split) <;> first | rfl | omega)
  · first | rfl | (unfold upS SCR; (repeat' split) <;> first | rfl | omega)
  · first | rfl | (unfold upS SCR; (repeat' split) <;> first | rfl | omega)
theorem q1_2 {σ : Sg} {a1 : Int} {a2 : Int} (hz : ∀ a i, a < 1000 → σ a i = 0) (h0 : 0 ≤ a1 ∧ a1 < 4) (h1 : a2 < 0) : ∃ (kx b : Int) (s1 s2 : Sg), Dd 391 [(.inr (.inr (some 0))), (.inl a1), (.inl a2), (.inr (.inr (some 726)))] σ (.inl (some (.inl kx)), s1) ∧ Dd 258 [(.inr (.inr (some 682))), (.inl a1), (.inl a2)] s1 (.inl (some (.inl b)), s2) ∧ s2 682 0 = kx ∧ (kx = 0 → s2 726 0 = b) ∧ (∀ i, s1 SCR i = σ SCR i) ∧ s1 (SCR + 1) 0 = σ (SCR + 1) 0 ∧ s2 (SCR + 1) 0 = σ (SCR + 1) 0 := by
  have za1 : ∀ i, σ (2 + 2 * ((a1)).toNat) i = 0 := fun i => hz _ i (by omega)
  have z1a1 : ∀ i, σ ((2 + 2 * ((a1)).toNat) + 1) i = 0 := fun i => hz _ i (by omega)
  have ca1 : (cap (2 + 2 * ((a1)).toNat) : Int) = 16 := cp_1 (by omega)
  have hA : Dd 391 [(.inr (.inr (some 0))), (.inl a1), (.inl a2), (.inr (.inr (some 726)))] σ (.inl (some (.inl 1)), σ) := by
    refine b391 ?_
    have hD6 : Dd 173 [(.inr (.inr (some 0))), (.inl a1), (.inl a2)] σ (.inr 0, σ) := by
      refine b173 ?_
      have hD3 : Dd 227 [(.inr (.inr (some 0))), (.inl a1)] σ (.inl (some (.inr (.inr (some (2 + 2 * ((a1)).toNat))))), σ) := by
        refine b227 ?_
        have hD1 : Dd 145 [(.inr (.inr (some 1))), (.inl a1)] σ (.inl (some (.inr (.inr (some (2 + 2 * ((a1)).toNat))))), σ) := by
          refine b145 ?_
          rw [if_pos (show (0 : Int) ≤ a1 by first | omega | (simp [upS, hz, za1, z1a1, ca1]; done) | (simp [upS, hz, za1, z1a1, ca1]; omega))]
          refine ⟨4, (by decide +kernel), (by decide), ?_⟩
          rw [if_pos (show a1 < ((4 : Nat) : Int) by first | omega | (simp [upS, hz, za1, z1a1, ca1]; done) | (simp [upS, hz, za1, z1a1, ca1]; omega))]
          refine ⟨(show 0 ≤ a1 by first | omega | (simp [upS, hz, za1, z1a1, ca1]; done) | (simp [upS, hz, za1, z1a1, ca1]; omega)), ?_⟩
          refine ⟨(2 + 2 * ((a1)).toNat), (el_1 (i := (a1)) (by first | omega | (simp [upS, hz, za1, z1a1, ca1]; done) | (simp [upS, hz, za1, z1a1, ca1]; omega))).1, (el_1 (i := (a1)) (by first | omega | (simp [upS, hz, za1, z1a1, ca1]; done) | (simp [upS, hz, za1, z1a1, ca1]; omega))).2, ?_⟩
          all_goals rfl
        refine ⟨_, _, hD1, ?_⟩
        clear hD1
        refine ⟨fun hz2 => (by cases hz2), fun _ hz2 => ?_⟩
        cases hz2
        refine ⟨(el_1 (i := (a1)) (by first | omega | (simp [upS, hz, za1, z1a1, ca1]; done) | (simp [upS, hz, za1, z1a1, ca1]; omega))).2, ?_⟩
        all_goals rfl
      refine Or.inl ⟨_, _, hD3, (el_1 (i := (a1)) (by first | omega | (simp [upS, hz, za1, z1a1, ca1]; done) | (simp [upS, hz, za1, z1a1, ca1]; omega))).2, ?_⟩
      clear hD3
      have hD4 : Dd 146 [(.inr (.inr (some (2 + 2 * ((a1)).toNat))))] σ (.inl (some (.inl 0)), σ) := by
        refine b146 (el_1 (i := (a1)) (by first | omega | (simp [upS, hz, za1, z1a1, ca1]; done) | (simp [upS, hz, za1, z1a1, ca1]; omega))).2 ?_
        rw [show (σ (2 + 2 * ((a1)).toNat) 1) = 0 by (first | omega | (simp [upS, hz, za1, z1a1, ca1]; done) | (simp [upS, hz, za1, z1a1, ca1]; omega))]
        all_goals rfl
      refine ⟨_, _, hD4, ?_⟩
      clear hD4
      have hD5 : Dd 232 [(.inr (.inr (some 0))), (.inl a2), (.inl 0)] σ (.inr 0, σ) := by
        refine b232 ?_
        rw [if_neg (show ¬ ((0 : Int) ≤ a2) by first | omega | (simp [upS, hz, za1, z1a1, ca1]; done) | (simp [upS, hz, za1, z1a1, ca1]; omega))]
        refine b232_9 ?_
        all_goals rfl
      refine Or.inr ⟨_, _, hD5, ?_⟩
      all_goals rfl
    exact Or.inr (⟨_, hD6, rfl⟩)
  have hB : Dd 258 [(.inr (.inr (some 682))), (.inl a1), (.inl a2)] σ (.inl (some (.inl 0)), (upS σ 682 0 1)) := by
    refine b258 ?_
    have hD11 : Dd 257 [(.inr (.inr (some 682))), (.inl a1), (.inl a2)] σ (.inl (some (.inl 0)), (upS σ 682 0 1)) := by
      refine b257 ?_
      have hD8 : Dd 247 [(.inl a1)] σ (.inl (some (.inl 1)), σ) := by
        refine b247 ?_
        have hD7 : Dd 246 [(.inl a1), (.inl 4)] σ (.inl (some (.inl 1)), σ) := by
          refine b246 ?_
          try rw [if_pos (show (0 : Int) ≤ a1 by first | omega | (simp [upS, hz, za1, z1a1, ca1]; done) | (simp [upS, hz, za1, z1a1, ca1]; omega))]
          try rw [if_pos (show a1 < 4 by first | omega | (simp [upS, hz, za1, z1a1, ca1]; done) | (simp [upS, hz, za1, z1a1, ca1]; omega))]
          all_goals rfl
        refine ⟨_, _, hD7, ?_⟩
        clear hD7
        refine ⟨(show 1 = 0 ∨ 1 = 1 by first | omega | (simp [upS, hz, za1, z1a1, ca1]; done) | (simp [upS, hz, za1, z1a1, ca1]; omega)), ?_⟩
        all_goals rfl
      refine ⟨_, _, hD8, ?_⟩
      clear hD8
      rw [if_neg (show ¬ ((1 : Int) = 0) by first | omega | (simp [upS, hz, za1, z1a1, ca1]; done) | (simp [upS, hz, za1, z1a1, ca1]; omega))]
      refine ⟨(show 0 ≤ a1 ∧ a1 < 4 by first | omega | (simp [upS, hz, za1, z1a1, ca1]; done) | (simp [upS, hz, za1, z1a1, ca1]; omega)), ?_⟩
      rw [show (σ 684 (a1).toNat) = 0 by (first | omega | (simp [upS, hz, za1, z1a1, ca1]; done) | (simp [upS, hz, za1, z1a1, ca1]; omega))]
      have hD9 : Dd 246 [(.inl a2), (.inl 0)] σ (.inl (some (.inl 0)), σ) := by
        refine b246 ?_
        try rw [if_neg (show ¬ ((0 : Int) ≤ a2) by first | omega | (simp [upS, hz, za1, z1a1, ca1]; done) | (simp [upS, hz, za1, z1a1, ca1]; omega))]
        all_goals rfl
      refine ⟨_, _, hD9, ?_⟩
      clear hD9
      rw [if_pos (show (0 : Int) = 0 by first | omega | (simp [upS, hz, za1, z1a1, ca1]; done) | (simp [upS, hz, za1, z1a1, ca1]; omega))]
      refine b257_25 ?_
      refine b257_26 ?_
      have hD10 : Dd 245 [(.inr (.inr (some 682))), (.inl 1)] σ (.inl (some (.inl 0)), (upS σ 682 0 1)) := by
        refine b245 ?_
        try rw [if_neg (show ¬ ((1 : Int) = 0) by first | omega | (simp [upS, hz, za1, z1a1, ca1]; done) | (simp [upS, hz, za1, z1a1, ca1]; omega))]
        all_goals rfl
      refine ⟨_, _, hD10, ?_⟩
      clear hD10
      refine ⟨(show 0 = 0 ∨ 0 = 1 by first | omega | (simp [upS, hz, za1, z1a1, ca1]; done) | (simp [upS, hz, za1, z1a1, ca1]; omega)), ?_⟩
      all_goals rfl
    refine ⟨_, _, hD11, ?_⟩
    clear hD11
    rw [if_pos (show (0 : Int) = 0 by first | omega | (simp [upS, hz, za1, z1a1, ca1]; done) | (simp [upS, hz, za1, z1a1, ca1]; omega))]
    all_goals rfl
  refine ⟨_, _, _, _, hA, hB, ?_, ?_, ?_, ?_, ?_⟩
  · (first | rfl | (simp [upS, SCR, hz, za1, z1a1, ca1]; done) | (simp [upS, SCR, hz, za1, z1a1, ca1]; omega))
  · first | (intro h9; omega) | (intro _; first | rfl | (simp [upS, SCR, hz, za1, z1a1, ca1]; done) | (simp [upS, SCR, hz, za1, z1a1, ca1]; omega))
  · intro i; first | rfl | (unfold upS SCR; (repeat' split) <;> first | rfl | omega)
  · first | rfl | (unfold upS SCR; (repeat' split) <;> first | rfl | omega)
  · first | rfl | (unfold upS SCR; (repeat' split) <;> first | rfl | omega)
theorem q1_3 {σ : Sg} {a1 : Int} {a2 : Int} (hz : ∀ a i, a < 1000 → σ a i = 0) (h0 : 0 ≤ a1 ∧ a1 < 4) (h1 : 0 ≤ a2) : ∃ (kx b : Int) (s1 s2 : Sg), Dd 391 [(.inr (.inr (some 0))), (.inl a1), (.inl a2), (.inr (.inr (some 726)))] σ (.inl (some (.inl kx)), s1) ∧ Dd 258 [(.inr (.inr (some 682))), (.inl a1), (.inl a2)] s1 (.inl (some (.inl b)), s2) ∧ s2 682 0 = kx ∧ (kx = 0 → s2 726 0 = b) ∧ (∀ i, s1 SCR i = σ SCR i) ∧ s1 (SCR + 1) 0 = σ (SCR + 1) 0 ∧ s2 (SCR + 1) 0 = σ (SCR + 1) 0 := by
  have za1 : ∀ i, σ (2 + 2 * ((a1)).toNat) i = 0 := fun i => hz _ i (by omega)
  have z1a1 : ∀ i, σ ((2 + 2 * ((a1)).toNat) + 1) i = 0 := fun i => hz _ i (by omega)
  have ca1 : (cap (2 + 2 * ((a1)).toNat) : Int) = 16 := cp_1 (by omega)
  have hA : Dd 391 [(.inr (.inr (some 0))), (.inl a1), (.inl a2), (.inr (.inr (some 726)))] σ (.inl (some (.inl 1)), σ) := by
    refine b391 ?_
    have hD6 : Dd 173 [(.inr (.inr (some 0))), (.inl a1), (.inl a2)] σ (.inr 0, σ) := by
      refine b173 ?_
      have hD3 : Dd 227 [(.inr (.inr (some 0))), (.inl a1)] σ (.inl (some (.inr (.inr (some (2 + 2 * ((a1)).toNat))))), σ) := by
        refine b227 ?_
        have hD1 : Dd 145 [(.inr (.inr (some 1))), (.inl a1)] σ (.inl (some (.inr (.inr (some (2 + 2 * ((a1)).toNat))))), σ) := by
          refine b145 ?_
          rw [if_pos (show (0 : Int) ≤ a1 by first | omega | (simp [upS, hz, za1, z1a1, ca1]; done) | (simp [upS, hz, za1, z1a1, ca1]; omega))]
          refine ⟨4, (by decide +kernel), (by decide), ?_⟩
          rw [if_pos (show a1 < ((4 : Nat) : Int) by first | omega | (simp [upS, hz, za1, z1a1, ca1]; done) | (simp [upS, hz, za1, z1a1, ca1]; omega))]
          refine ⟨(show 0 ≤ a1 by first | omega | (simp [upS, hz, za1, z1a1, ca1]; done) | (simp [upS, hz, za1, z1a1, ca1]; omega)), ?_⟩
          refine ⟨(2 + 2 * ((a1)).toNat), (el_1 (i := (a1)) (by first | omega | (simp [upS, hz, za1, z1a1, ca1]; done) | (simp [upS, hz, za1, z1a1, ca1]; omega))).1, (el_1 (i := (a1)) (by first | omega | (simp [upS, hz, za1, z1a1, ca1]; done) | (simp [upS, hz, za1, z1a1, ca1]; omega))).2, ?_⟩
          all_goals rfl
        refine ⟨_, _, hD1, ?_⟩
        clear hD1
        refine ⟨fun hz2 => (by cases hz2), fun _ hz2 => ?_⟩
        cases hz2
        refine ⟨(el_1 (i := (a1)) (by first | omega | (simp [upS, hz, za1, z1a1, ca1]; done) | (simp [upS, hz, za1, z1a1, ca1]; omega))).2, ?_⟩
        all_goals rfl
      refine Or.inl ⟨_, _, hD3, (el_1 (i := (a1)) (by first | omega | (simp [upS, hz, za1, z1a1, ca1]; done) | (simp [upS, hz, za1, z1a1, ca1]; omega))).2, ?_⟩
      clear hD3
      have hD4 : Dd 146 [(.inr (.inr (some (2 + 2 * ((a1)).toNat))))] σ (.inl (some (.inl 0)), σ) := by
        refine b146 (el_1 (i := (a1)) (by first | omega | (simp [upS, hz, za1, z1a1, ca1]; done) | (simp [upS, hz, za1, z1a1, ca1]; omega))).2 ?_
        rw [show (σ (2 + 2 * ((a1)).toNat) 1) = 0 by (first | omega | (simp [upS, hz, za1, z1a1, ca1]; done) | (simp [upS, hz, za1, z1a1, ca1]; omega))]
        all_goals rfl
      refine ⟨_, _, hD4, ?_⟩
      clear hD4
      have hD5 : Dd 232 [(.inr (.inr (some 0))), (.inl a2), (.inl 0)] σ (.inr 0, σ) := by
        refine b232 ?_
        rw [if_pos (show (0 : Int) ≤ a2 by first | omega | (simp [upS, hz, za1, z1a1, ca1]; done) | (simp [upS, hz, za1, z1a1, ca1]; omega))]
        rw [if_pos (show (0 : Int) ≤ a2 by first | omega | (simp [upS, hz, za1, z1a1, ca1]; done) | (simp [upS, hz, za1, z1a1, ca1]; omega))]
        refine b232_9 ?_
        all_goals rfl
      refine Or.inr ⟨_, _, hD5, ?_⟩
      all_goals rfl
    exact Or.inr (⟨_, hD6, rfl⟩)
  have hB : Dd 258 [(.inr (.inr (some 682))), (.inl a1), (.inl a2)] σ (.inl (some (.inl 0)), (upS σ 682 0 1)) := by
    refine b258 ?_
    have hD11 : Dd 257 [(.inr (.inr (some 682))), (.inl a1), (.inl a2)] σ (.inl (some (.inl 0)), (upS σ 682 0 1)) := by
      refine b257 ?_
      have hD8 : Dd 247 [(.inl a1)] σ (.inl (some (.inl 1)), σ) := by
        refine b247 ?_
        have hD7 : Dd 246 [(.inl a1), (.inl 4)] σ (.inl (some (.inl 1)), σ) := by
          refine b246 ?_
          try rw [if_pos (show (0 : Int) ≤ a1 by first | omega | (simp [upS, hz, za1, z1a1, ca1]; done) | (simp [upS, hz, za1, z1a1, ca1]; omega))]
          try rw [if_pos (show a1 < 4 by first | omega | (simp [upS, hz, za1, z1a1, ca1]; done) | (simp [upS, hz, za1, z1a1, ca1]; omega))]
          all_goals rfl
        refine ⟨_, _, hD7, ?_⟩
        clear hD7
        refine ⟨(show 1 = 0 ∨ 1 = 1 by first | omega | (simp [upS, hz, za1, z1a1, ca1]; done) | (simp [upS, hz, za1, z1a1, ca1]; omega)), ?_⟩
        all_goals rfl
      refine ⟨_, _, hD8, ?_⟩
      clear hD8
      rw [if_neg (show ¬ ((1 : Int) = 0) by first | omega | (simp [upS, hz, za1, z1a1, ca1]; done) | (simp [upS, hz, za1, z1a1, ca1]; omega))]
      refine ⟨(show 0 ≤ a1 ∧ a1 < 4 by first | omega | (simp [upS, hz, za1, z1a1, ca1]; done) | (simp [upS, hz, za1, z1a1, ca1]; omega)), ?_⟩
      rw [show (σ 684 (a1).toNat) = 0 by (first | omega | (simp [upS, hz, za1, z1a1, ca1]; done) | (simp [upS, hz, za1, z1a1, ca1]; omega))]
      have hD9 : Dd 246 [(.inl a2), (.inl 0)] σ (.inl (some (.inl 0)), σ) := by
        refine b246 ?_
        try rw [if_pos (show (0 : Int) ≤ a2 by first | omega | (simp [upS, hz, za1, z1a1, ca1]; done) | (simp [upS, hz, za1, z1a1, ca1]; omega))]
        try rw [if_neg (show ¬ (a2 < 0) by first | omega | (simp [upS, hz, za1, z1a1, ca1]; done) | (simp [upS, hz, za1, z1a1, ca1]; omega))]
        all_goals rfl
      refine ⟨_, _, hD9, ?_⟩
      clear hD9
      rw [if_pos (show (0 : Int) = 0 by first | omega | (simp [upS, hz, za1, z1a1, ca1]; done) | (simp [upS, hz, za1, z1a1, ca1]; omega))]
      refine b257_25 ?_
      refine b257_26 ?_
      have hD10 : Dd 245 [(.inr (.inr (some 682))), (.inl 1)] σ (.inl (some (.inl 0)), (upS σ 682 0 1)) := by
        refine b245 ?_
        try rw [if_neg (show ¬ ((1 : Int) = 0) by first | omega | (simp [upS, hz, za1, z1a1, ca1]; done) | (simp [upS, hz, za1, z1a1, ca1]; omega))]
        all_goals rfl
      refine ⟨_, _, hD10, ?_⟩
      clear hD10
      refine ⟨(show 0 = 0 ∨ 0 = 1 by first | omega | (simp [upS, hz, za1, z1a1, ca1]; done) | (simp [upS, hz, za1, z1a1, ca1]; omega)), ?_⟩
      all_goals rfl
    refine ⟨_, _, hD11, ?_⟩
    clear hD11
    rw [if_pos (show (0 : Int) = 0 by first | omega | (simp [upS, hz, za1, z1a1, ca1]; done) | (simp [upS, hz, za1, z1a1, ca1]; omega))]
    all_goals rfl
  refine ⟨_, _, _, _, hA, hB, ?_, ?_, ?_, ?_, ?_⟩
  · (first | rfl | (simp [upS, SCR, hz, za1, z1a1, ca1]; done) | (simp [upS, SCR, hz, za1, z1a1, ca1]; omega))
  · first | (intro h9; omega) | (intro _; first | rfl | (simp [upS, SCR, hz, za1, z1a1, ca1]; done) | (simp [upS, SCR, hz, za1, z1a1, ca1]; omega))
  · intro i; first | rfl | (unfold upS SCR; (repeat' split) <;> first | rfl | omega)
  · first | rfl | (unfold upS SCR; (repeat' split) <;> first | rfl | omega)
  · first | rfl | (unfold upS SCR; (repeat' split) <;> first | rfl | omega)
theorem q2_0 {σ : Sg} {a1 : Int} {a2 : Int} (hz : ∀ a i, a < 1000 → σ a i = 0) (h0 : a1 < 0) : ∃ (kx b : Int) (s1 s2 : Sg), Dd 392 [(.inr (.inr (some 0))), (.inl a1), (.inl a2), (.inr (.inr (some 726)))] σ (.inl (some (.inl kx)), s1) ∧ Dd 259 [(.inr (.inr (some 682))), (.inl a1), (.inl a2)] s1 (.inl (some (.inl b)), s2) ∧ s2 682 0 = kx ∧ (kx = 0 → s2 726 0 = b) ∧ (∀ i, s1 SCR i = σ SCR i) ∧ s1 (SCR + 1) 0 = σ (SCR + 1) 0 ∧ s2 (SCR + 1) 0 = σ (SCR + 1) 0 := by
  have hA : Dd 392 [(.inr (.inr (some 0))), (.inl a1), (.inl a2), (.inr (.inr (some 726)))] σ (.inl (some (.inl 1)), σ) := by
    refine b392 ?_
    have hD4 : Dd 174 [(.inr (.inr (some 0))), (.inl a1), (.inl a2)] σ (.inr 0, σ) := by
      refine b174 ?_
      have hD3 : Dd 227 [(.inr (.inr (some 0))), (.inl a1)] σ (.inr 0, σ) := by
        refine b227 ?_
        have hD1 : Dd 145 [(.inr (.inr (some 1))), (.inl a1)] σ (.inl (some (.inr (.inr none))), σ) := by
          refine b145 ?_
          rw [if_neg (show ¬ ((0 : Int) ≤ a1) by first | omega | (simp [upS, hz]; done) | (simp [upS, hz]; omega))]
          all_goals rfl
        refine ⟨_, _, hD1, ?_⟩
        clear hD1
        refine ⟨fun _ => ?_, fun _ hz2 => (by cases hz2)⟩
        all_goals rfl
      refine Or.inr ⟨_, _, hD3, ?_⟩
      all_goals rfl
    exact Or.inr (⟨_, hD4, rfl⟩)
  have hB : Dd 259 [(.inr (.inr (some 682))), (.inl a1), (.inl a2)] σ (.inl (some (.inl 0)), (upS σ 682 0 1)) := by
    refine b259 ?_
    have hD6 : Dd 247 [(.inl a1)] σ (.inl (some (.inl 0)), σ) := by
      refine b247 ?_
      have hD5 : Dd 246 [(.inl a1), (.inl 4)] σ (.inl (some (.inl 0)), σ) := by
        refine b246 ?_
        try rw [if_neg (show ¬ ((0 : Int) ≤ a1) by first | omega | (simp [upS, hz]; done) | (simp [upS, hz]; omega))]
        all_goals rfl
      refine ⟨_, _, hD5, ?_⟩
      clear hD5
      refine ⟨(show 0 = 0 ∨ 0 = 1 by first | omega | (simp [upS, hz]; done) | (simp [upS, hz]; omega)), ?_⟩
      all_goals rfl
    refine ⟨_, _, hD6, ?_⟩
    clear hD6
    rw [if_pos (show (0 : Int) = 0 by first | omega | (simp [upS, hz]; done) | (simp [upS, hz]; omega))]
    refine b259_19 ?_
    refine b259_20 ?_
    have hD7 : Dd 245 [(.inr (.inr (some 682))), (.inl 1)] σ (.inl (some (.inl 0)), (upS σ 682 0 1)) := by
      refine b245 ?_
      try rw [if_neg (show ¬ ((1 : Int) = 0) by first | omega | (simp [upS, hz]; done) | (simp [upS, hz]; omega))]
      all_goals rfl
    refine ⟨_, _, hD7, ?_⟩
    clear hD7
    rw [if_pos (show (0 : Int) = 0 by first | omega | (simp [upS, hz]; done) | (simp [upS, hz]; omega))]
    all_goals rfl
  refine ⟨_, _, _, _, hA, hB, ?_, ?_, ?_, ?_, ?_⟩
  · (first | rfl | (simp [upS, SCR, hz]; done) | (simp [upS, SCR, hz]; omega))
  · first | (intro h9; omega) | (intro _; first | rfl | (simp [upS, SCR, hz]; done) | (simp [upS, SCR, hz]; omega))
  · intro i; first | rfl | (unfold upS SCR; (repeat' split) <;> first | rfl | omega)
  · first | rfl | (unfold upS SCR; (repeat' split) <;> first | rfl | omega)
  · first | rfl | (unfold upS SCR; (repeat' split) <;> first | rfl | omega)
theorem q2_1 {σ : Sg} {a1 : Int} {a2 : Int} (hz : ∀ a i, a < 1000 → σ a i = 0) (h0 : 4 ≤ a1) : ∃ (kx b : Int) (s1 s2 : Sg), Dd 392 [(.inr (.inr (some 0))), (.inl a1), (.inl a2), (.inr (.inr (some 726)))] σ (.inl (some (.inl kx)), s1) ∧ Dd 259 [(.inr (.inr (some 682))), (.inl a1), (.inl a2)] s1 (.inl (some (.inl b)), s2) ∧ s2 682 0 = kx ∧ (kx = 0 → s2 726 0 = b) ∧ (∀ i, s1 SCR i = σ SCR i) ∧ s1 (SCR + 1) 0 = σ (SCR + 1) 0 ∧ s2 (SCR + 1) 0 = σ (SCR + 1) 0 := by
  have hA : Dd 392 [(.inr (.inr (some 0))), (.inl a1), (.inl a2), (.inr (.inr (some 726)))] σ (.inl (some (.inl 1)), σ) := by
    refine b392 ?_
    have hD4 : Dd 174 [(.inr (.inr (some 0))), (.inl a1), (.inl a2)] σ (.inr 0, σ) := by
      refine b174 ?_
      have hD3 : Dd 227 [(.inr (.inr (some 0))), (.inl a1)] σ (.inr 0, σ) := by
        refine b227 ?_
        have hD1 : Dd 145 [(.inr (.inr (some 1))), (.inl a1)] σ (.inl (some (.inr (.inr none))), σ) := by
          refine b145 ?_
          rw [if_pos (show (0 : Int) ≤ a1 by first | omega | (simp [upS, hz]; done) | (simp [upS, hz]; omega))]
          refine ⟨4, (by decide +kernel), (by decide), ?_⟩
          rw [if_neg (show ¬ (a1 < ((4 : Nat) : Int)) by first | omega | (simp [upS, hz]; done) | (simp [upS, hz]; omega))]
          all_goals rfl
        refine ⟨_, _, hD1, ?_⟩
        clear hD1
        refine ⟨fun _ => ?_, fun _ hz2 => (by cases hz2)⟩
        all_goals rfl
      refine Or.inr ⟨_, _, hD3, ?_⟩
      all_goals rfl
    exact Or.inr (⟨_, hD4, rfl⟩)
  have hB : Dd 259 [(.inr (.inr (some 682))), (.inl a1), (.inl a2)] σ (.inl (some (.inl 0)), (upS σ 682 0 1)) := by
    refine b259 ?_
    have hD6 : Dd 247 [(.inl a1)] σ (.inl (some (.inl 0)), σ) := by
      refine b247 ?_
      have hD5 : Dd 246 [(.inl a1), (.inl 4)] σ (.inl (some (.inl 0)), σ) := by
        refine b246 ?_
        try rw [if_pos (show (0 : Int) ≤ a1 by first | omega | (simp [upS, hz]; done) | (simp [upS, hz]; omega))]
        try rw [if_neg (show ¬ (a1 < 4) by first | omega | (simp [upS, hz]; done) | (simp [upS, hz]; omega))]
        all_goals rfl
      refine ⟨_, _, hD5, ?_⟩
      clear hD5
      refine ⟨(show 0 = 0 ∨ 0 = 1 by first | omega | (simp [upS, hz]; done) | (simp [upS, hz]; omega)), ?_⟩
      all_goals rfl
    refine ⟨_, _, hD6, ?_⟩
    clear hD6
    rw [if_pos (show (0 : Int) = 0 by first | omega | (simp [upS, hz]; done) | (simp [upS, hz]; omega))]
    refine b259_19 ?_
    refine b259_20 ?_
    have hD7 : Dd 245 [(.inr (.inr (some 682))), (.inl 1)] σ (.inl (some (.inl 0)), (upS σ 682 0 1)) := by
      refine b245 ?_
      try rw [if_neg (show ¬ ((1 : Int) = 0) by first | omega | (simp [upS, hz]; done) | (simp [upS, hz]; omega))]
      all_goals rfl
    refine ⟨_, _, hD7, ?_⟩
    clear hD7
    rw [if_pos (show (0 : Int) = 0 by first | omega | (simp [upS, hz]; done) | (simp [upS, hz]; omega))]
    all_goals rfl
  refine ⟨_, _, _, _, hA, hB, ?_, ?_, ?_, ?_, ?_⟩
  · (first | rfl | (simp [upS, SCR, hz]; done) | (simp [upS, SCR, hz]; omega))
  · first | (intro h9; omega) | (intro _; first | rfl | (simp [upS, SCR, hz]; done) | (simp [upS, SCR, hz]; omega))
  · intro i; first | rfl | (unfold upS SCR; (repeat' split) <;> first | rfl | omega)
  · first | rfl | (unfold upS SCR; (repeat' split) <;> first | rfl | omega)
  · first | rfl | (unfold upS SCR; (repeat' split) <;> first | rfl | omega)
theorem q2_2 {σ : Sg} {a1 : Int} {a2 : Int} (hz : ∀ a i, a < 1000 → σ a i = 0) (h0 : 0 ≤ a1 ∧ a1 < 4) (h1 : a2 < 0) : ∃ (kx b : Int) (s1 s2 : Sg), Dd 392 [(.inr (.inr (some 0))), (.inl a1), (.inl a2), (.inr (.inr (some 726)))] σ (.inl (some (.inl kx)), s1) ∧ Dd 259 [(.inr (.inr (some 682))), (.inl a1), (.inl a2)] s1 (.inl (some (.inl b)), s2) ∧ s2 682 0 = kx ∧ (kx = 0 → s2 726 0 = b) ∧ (∀ i, s1 SCR i = σ SCR i) ∧ s1 (SCR + 1) 0 = σ (SCR + 1) 0 ∧ s2 (SCR + 1) 0 = σ (SCR + 1) 0 := by
  have za1 : ∀ i, σ (2 + 2 * ((a1)).toNat) i = 0 := fun i => hz _ i (by omega)
  have z1a1 : ∀ i, σ ((2 + 2 * ((a1)).toNat) + 1) i = 0 := fun i => hz _ i (by omega)
  have ca1 : (cap (2 + 2 * ((a1)).toNat) : Int) = 16 := cp_1 (by omega)
  have hA : Dd 392 [(.inr (.inr (some 0))), (.inl a1), (.inl a2), (.inr (.inr (some 726)))] σ (.inl (some (.inl 1)), σ) := by
    refine b392 ?_
    have hD7 : Dd 174 [(.inr (.inr (some 0))), (.inl a1), (.inl a2)] σ (.inr 0, σ) := by
      refine b174 ?_
      have hD3 : Dd 227 [(.inr (.inr (some 0))), (.inl a1)] σ (.inl (some (.inr (.inr (some (2 + 2 * ((a1)).toNat))))), σ) := by
        refine b227 ?_
        have hD1 : Dd 145 [(.inr (.inr (some 1))), (.inl a1)] σ (.inl (some (.inr (.inr (some (2 + 2 * ((a1)).toNat))))), σ) := by
          refine b145 ?_
          rw [if_pos (show (0 : Int) ≤ a1 by first | omega | (simp [upS, hz, za1, z1a1, ca1]; done) | (simp [upS, hz, za1, z1a1, ca1]; omega))]
          refine ⟨4, (by decide +kernel), (by decide), ?_⟩
          rw [if_pos (show a1 < ((4 : Nat) : Int) by first | omega | (simp [upS, hz, za1, z1a1, ca1]; done) | (simp [upS, hz, za1, z1a1, ca1]; omega))]
          refine ⟨(show 0 ≤ a1 by first | omega | (simp [upS, hz, za1, z1a1, ca1]; done) | (simp [upS, hz, za1, z1a1, ca1]; omega)), ?_⟩
          refine ⟨(2 + 2 * ((a1)).toNat), (el_1 (i := (a1)) (by first | omega | (simp [upS, hz, za1, z1a1, ca1]; done) | (simp [upS, hz, za1, z1a1, ca1]; omega))).1, (el_1 (i := (a1)) (by first | omega | (simp [upS, hz, za1, z1a1, ca1]; done) | (simp [upS, hz, za1, z1a1, ca1]; omega))).2, ?_⟩
          all_goals rfl
        refine ⟨_, _, hD1, ?_⟩
        clear hD1
        refine ⟨fun hz2 => (by cases hz2), fun _ hz2 => ?_⟩
        cases hz2
        refine ⟨(el_1 (i := (a1)) (by first | omega | (simp [upS, hz, za1, z1a1, ca1]; done) | (simp [upS, hz, za1, z1a1, ca1]; omega))).2, ?_⟩
        all_goals rfl
      refine Or.inl ⟨_, _, hD3, (el_1 (i := (a1)) (by first | omega | (simp [upS, hz, za1, z1a1, ca1]; done) | (simp [upS, hz, za1, z1a1, ca1]; omega))).2, ?_⟩
      clear hD3
      have hD6 : Dd 227 [(.inr (.inr (some 0))), (.inl a2)] σ (.inr 0, σ) := by
        refine b227 ?_
        have hD4 : Dd 145 [(.inr (.inr (some 1))), (.inl a2)] σ (.inl (some (.inr (.inr none))), σ) := by
          refine b145 ?_
          rw [if_neg (show ¬ ((0 : Int) ≤ a2) by first | omega | (simp [upS, hz, za1, z1a1, ca1]; done) | (simp [upS, hz, za1, z1a1, ca1]; omega))]
          all_goals rfl
        refine ⟨_, _, hD4, ?_⟩
        clear hD4
        refine ⟨fun _ => ?_, fun _ hz5 => (by cases hz5)⟩
        all_goals rfl
      refine Or.inr ⟨_, _, hD6, ?_⟩
      all_goals rfl
    exact Or.inr (⟨_, hD7, rfl⟩)
  have hB : Dd 259 [(.inr (.inr (some 682))), (.inl a1), (.inl a2)] σ (.inl (some (.inl 0)), (upS σ 682 0 1)) := by
    refine b259 ?_
    have hD9 : Dd 247 [(.inl a1)] σ (.inl (some (.inl 1)), σ) := by
      refine b247 ?_
      have hD8 : Dd 246 [(.inl a1), (.inl 4)] σ (.inl (some (.inl 1)), σ) := by
        refine b246 ?_
        try rw [if_pos (show (0 : Int) ≤ a1 by first | omega | (simp [upS, hz, za1, z1a1, ca1]; done) | (simp [upS, hz, za1, z1a1, ca1]; omega))]
        try rw [if_pos (show a1 < 4 by first | omega | (simp [upS, hz, za1, z1a1, ca1]; done) | (simp [upS, hz, za1, z1a1, ca1]; omega))]
        all_goals rfl
      refine ⟨_, _, hD8, ?_⟩
      clear hD8
      refine ⟨(show 1 = 0 ∨ 1 = 1 by first | omega | (simp [upS, hz, za1, z1a1, ca1]; done) | (simp [upS, hz, za1, z1a1, ca1]; omega)), ?_⟩
      all_goals rfl
    refine ⟨_, _, hD9, ?_⟩
    clear hD9
    rw [if_neg (show ¬ ((1 : Int) = 0) by first | omega | (simp [upS, hz, za1, z1a1, ca1]; done) | (simp [upS, hz, za1, z1a1, ca1]; omega))]
    have hD11 : Dd 247 [(.inl a2)] σ (.inl (some (.inl 0)), σ) := by
      refine b247 ?_
      have hD10 : Dd 246 [(.inl a2), (.inl 4)] σ (.inl (some (.inl 0)), σ) := by
        refine b246 ?_
        try rw [if_neg (show ¬ ((0 : Int) ≤ a2) by first | omega | (simp [upS, hz, za1, z1a1, ca1]; done) | (simp [upS, hz, za1, z1a1, ca1]; omega))]
        all_goals rfl
      refine ⟨_, _, hD10, ?_⟩
      clear hD10
      refine ⟨(show 0 = 0 ∨ 0 = 1 by first | omega | (simp [upS, hz, za1, z1a1, ca1]; done) | (simp [upS, hz, za1, z1a1, ca1]; omega)), ?_⟩
      all_goals rfl
    refine ⟨_, _, hD11, ?_⟩
    clear hD11
    rw [if_pos (show (0 : Int) = 0 by first | omega | (simp [upS, hz, za1, z1a1, ca1]; done) | (simp [upS, hz, za1, z1a1, ca1]; omega))]
    refine b259_19 ?_
    refine b259_20 ?_
    have hD12 : Dd 245 [(.inr (.inr (some 682))), (.inl 1)] σ (.inl (some (.inl 0)), (upS σ 682 0 1)) := by
      refine b245 ?_
      try rw [if_neg (show ¬ ((1 : Int) = 0) by first | omega | (simp [upS, hz, za1, z1a1, ca1]; done) | (simp [upS, hz, za1, z1a1, ca1]; omega))]
      all_goals rfl
    refine ⟨_, _, hD12, ?_⟩
    clear hD12
    rw [if_pos (show (0 : Int) = 0 by first | omega | (simp [upS, hz, za1, z1a1, ca1]; done) | (simp [upS, hz, za1, z1a1, ca1]; omega))]
    all_goals rfl
  refine ⟨_, _, _, _, hA, hB, ?_, ?_, ?_, ?_, ?_⟩
  · (first | rfl | (simp [upS, SCR, hz, za1, z1a1, ca1]; done) | (simp [upS, SCR, hz, za1, z1a1, ca1]; omega))
  · first | (intro h9; omega) | (intro _; first | rfl | (simp [upS, SCR, hz, za1, z1a1, ca1]; done) | (simp [upS, SCR, hz, za1, z1a1, ca1]; omega))
  · intro i; first | rfl | (unfold upS SCR; (repeat' split) <;> first | rfl | omega)
  · first | rfl | (unfold upS SCR; (repeat' split) <;> first | rfl | omega)
  · first | rfl | (unfold upS SCR; (repeat' split) <;> first | rfl | omega)
theorem q2_3 {σ : Sg} {a1 : Int} {a2 : Int} (hz : ∀ a i, a < 1000 → σ a i = 0) (h0 : 0 ≤ a1 ∧ a1 < 4) (h1 : 4 ≤ a2) : ∃ (kx b : Int) (s1 s2 : Sg), Dd 392 [(.inr (.inr (some 0))), (.inl a1), (.inl a2), (.inr (.inr (some 726)))] σ (.inl (some (.inl kx)), s1) ∧ Dd 259 [(.inr (.inr (some 682))), (.inl a1), (.inl a2)] s1 (.inl (some (.inl b)), s2) ∧ s2 682 0 = kx ∧ (kx = 0 → s2 726 0 = b) ∧ (∀ i, s1 SCR i = σ SCR i) ∧ s1 (SCR + 1) 0 = σ (SCR + 1) 0 ∧ s2 (SCR + 1) 0 = σ (SCR + 1) 0 := by
  have za1 : ∀ i, σ (2 + 2 * ((a1)).toNat) i = 0 := fun i => hz _ i (by omega)
  have z1a1 : ∀ i, σ ((2 + 2 * ((a1)).toNat) + 1) i = 0 := fun i => hz _ i (by omega)
  have ca1 : (cap (2 + 2 * ((a1)).toNat) : Int) = 16 := cp_1 (by omega)
  have hA : Dd 392 [(.inr (.inr (some 0))), (.inl a1), (.inl a2), (.inr (.inr (some 726)))] σ (.inl (some (.inl 1)), σ) := by
    refine b392 ?_
    have hD7 : Dd 174 [(.inr (.inr (some 0))), (.inl a1), (.inl a2)] σ (.inr 0, σ) := by
      refine b174 ?_
      have hD3 : Dd 227 [(.inr (.inr (some 0))), (.inl a1)] σ (.inl (some (.inr (.inr (some (2 + 2 * ((a1)).toNat))))), σ) := by
        refine b227 ?_
        have hD1 : Dd 145 [(.inr (.inr (some 1))), (.inl a1)] σ (.inl (some (.inr (.inr (some (2 + 2 * ((a1)).toNat))))), σ) := by
          refine b145 ?_
          rw [if_pos (show (0 : Int) ≤ a1 by first | omega | (simp [upS, hz, za1, z1a1, ca1]; done) | (simp [upS, hz, za1, z1a1, ca1]; omega))]
          refine ⟨4, (by decide +kernel), (by decide), ?_⟩
          rw [if_pos (show a1 < ((4 : Nat) : Int) by first | omega | (simp [upS, hz, za1, z1a1, ca1]; done) | (simp [upS, hz, za1, z1a1, ca1]; omega))]
          refine ⟨(show 0 ≤ a1 by first | omega | (simp [upS, hz, za1, z1a1, ca1]; done) | (simp [upS, hz, za1, z1a1, ca1]; omega)), ?_⟩
          refine ⟨(2 + 2 * ((a1)).toNat), (el_1 (i := (a1)) (by first | omega | (simp [upS, hz, za1, z1a1, ca1]; done) | (simp [upS, hz, za1, z1a1, ca1]; omega))).1, (el_1 (i := (a1)) (by first | omega | (simp [upS, hz, za1, z1a1, ca1]; done) | (simp [upS, hz, za1, z1a1, ca1]; omega))).2, ?_⟩
          all_goals rfl
        refine ⟨_, _, hD1, ?_⟩
        clear hD1
        refine ⟨fun hz2 => (by cases hz2), fun _ hz2 => ?_⟩
        cases hz2
        refine ⟨(el_1 (i := (a1)) (by first | omega | (simp [upS, hz, za1, z1a1, ca1]; done) | (simp [upS, hz, za1, z1a1, ca1]; omega))).2, ?_⟩
        all_goals rfl
      refine Or.inl ⟨_, _, hD3, (el_1 (i := (a1)) (by first | omega | (simp [upS, hz, za1, z1a1, ca1]; done) | (simp [upS, hz, za1, z1a1, ca1]; omega))).2, ?_⟩
      clear hD3
      have hD6 : Dd 227 [(.inr (.inr (some 0))), (.inl a2)] σ (.inr 0, σ) := by
        refine b227 ?_
        have hD4 : Dd 145 [(.inr (.inr (some 1))), (.inl a2)] σ (.inl (some (.inr (.inr none))), σ) := by
          refine b145 ?_
          rw [if_pos (show (0 : Int) ≤ a2 by first | omega | (simp [upS, hz, za1, z1a1, ca1]; done) | (simp [upS, hz, za1, z1a1, ca1]; omega))]
          refine ⟨4, (by decide +kernel), (by decide), ?_⟩
          rw [if_neg (show ¬ (a2 < ((4 : Nat) : Int)) by first | omega | (simp [upS, hz, za1, z1a1, ca1]; done) | (simp [upS, hz, za1, z1a1, ca1]; omega))]
          all_goals rfl
        refine ⟨_, _, hD4, ?_⟩
        clear hD4
        refine ⟨fun _ => ?_, fun _ hz5 => (by cases hz5)⟩
        all_goals rfl
      refine Or.inr ⟨_, _, hD6, ?_⟩
      all_goals rfl
    exact Or.inr (⟨_, hD7, rfl⟩)
  have hB : Dd 259 [(.inr (.inr (some 682))), (.inl a1), (.inl a2)] σ (.inl (some (.inl 0)), (upS σ 682 0 1)) := by
    refine b259 ?_
    have hD9 : Dd 247 [(.inl a1)] σ (.inl (some (.inl 1)), σ) := by
      refine b247 ?_
      have hD8 : Dd 246 [(.inl a1), (.inl 4)] σ (.inl (some (.inl 1)), σ) := by
        refine b246 ?_
        try rw [if_pos (show (0 : Int) ≤ a1 by first | omega | (simp [upS, hz, za1, z1a1, ca1]; done) | (simp [upS, hz, za1, z1a1, ca1]; omega))]
        try rw [if_pos (show a1 < 4 by first | omega | (simp [upS, hz, za1, z1a1, ca1]; done) | (simp [upS, hz, za1, z1a1, ca1]; omega))]
        all_goals rfl
      refine ⟨_, _, hD8, ?_⟩
      clear hD8
      refine ⟨(show 1 = 0 ∨ 1 = 1 by first | omega | (simp [upS, hz, za1, z1a1, ca1]; done) | (simp [upS, hz, za1, z1a1, ca1]; omega)), ?_⟩
      all_goals rfl
    refine ⟨_, _, hD9, ?_⟩
    clear hD9
    rw [if_neg (show ¬ ((1 : Int) = 0) by first | omega | (simp [upS, hz, za1, z1a1, ca1]; done) | (simp [upS, hz, za1, z1a1, ca1]; omega))]
    have hD11 : Dd 247 [(.inl a2)] σ (.inl (some (.inl 0)), σ) := by
      refine b247 ?_
      have hD10 : Dd 246 [(.inl a2), (.inl 4)] σ (.inl (some (.inl 0)), σ) := by
        refine b246 ?_
        try rw [if_pos (show (0 : Int) ≤ a2 by first | omega | (simp [upS, hz, za1, z1a1, ca1]; done) | (simp [upS, hz, za1, z1a1, ca1]; omega))]
        try rw [if_neg (show ¬ (a2 < 4) by first | omega | (simp [upS, hz, za1, z1a1, ca1]; done) | (simp [upS, hz, za1, z1a1, ca1]; omega))]
        all_goals rfl
      refine ⟨_, _, hD10, ?_⟩
      clear hD10
      refine ⟨(show 0 = 0 ∨ 0 = 1 by first | omega | (simp [upS, hz, za1, z1a1, ca1]; done) | (simp [upS, hz, za1, z1a1, ca1]; omega)), ?_⟩
      all_goals rfl
    refine ⟨_, _, hD11, ?_⟩
    clear hD11
    rw [if_pos (show (0 : Int) = 0 by first | omega | (simp [upS, hz, za1, z1a1, ca1]; done) | (simp [upS, hz, za1, z1a1, ca1]; omega))]
    refine b259_19 ?_
    refine b259_20 ?_
    have hD12 : Dd 245 [(.inr (.inr (some 682))), (.inl 1)] σ (.inl (some (.inl 0)), (upS σ 682 0 1)) := by
      refine b245 ?_
      try rw [if_neg (show ¬ ((1 : Int) = 0) by first | omega | (simp [upS, hz, za1, z1a1, ca1]; done) | (simp [upS, hz, za1, z1a1, ca1]; omega))]
      all_goals rfl
    refine ⟨_, _, hD12, ?_⟩
    clear hD12
    rw [if_pos (show (0 : Int) = 0 by first | omega | (simp [upS, hz, za1, z1a1, ca1]; done) | (simp [upS, hz, za1, z1a1, ca1]; omega))]
    all_goals rfl
  refine ⟨_, _, _, _, hA, hB, ?_, ?_, ?_, ?_, ?_⟩
  · (first | rfl | (simp [upS, SCR, hz, za1, z1a1, ca1]; done) | (simp [upS, SCR, hz, za1, z1a1, ca1]; omega))
  · first | (intro h9; omega) | (intro _; first | rfl | (simp [upS, SCR, hz, za1, z1a1, ca1]; done) | (simp [upS, SCR, hz, za1, z1a1, ca1]; omega))
  · intro i; first | rfl | (unfold upS SCR; (repeat' split) <;> first | rfl | omega)
  · first | rfl | (unfold upS SCR; (repeat' split) <;> first | rfl | omega)
  · first | rfl | (unfold upS SCR; (repeat' split) <;> first | rfl | omega)
theorem q2_4 {σ : Sg} {a1 : Int} {a2 : Int} (hz : ∀ a i, a < 1000 → σ a i = 0) (h0 : 0 ≤ a1 ∧ a1 < 4) (h1 : 0 ≤ a2 ∧ a2 < 4) : ∃ (kx b : Int) (s1 s2 : Sg), Dd 392 [(.inr (.inr (some 0))), (.inl a1), (.inl a2), (.inr (.inr (some 726)))] σ (.inl (some (.inl kx)), s1) ∧ Dd 259 [(.inr (.inr (some 682))), (.inl a1), (.inl a2)] s1 (.inl (some (.inl b)), s2) ∧ s2 682 0 = kx ∧ (kx = 0 → s2 726 0 = b) ∧ (∀ i, s1 SCR i = σ SCR i) ∧ s1 (SCR + 1) 0 = σ (SCR + 1) 0 ∧ s2 (SCR + 1) 0 = σ (SCR + 1) 0 := by
  have za1 : ∀ i, σ (2 + 2 * ((a1)).toNat) i = 0 := fun i => hz _ i (by omega)
  have z1a1 : ∀ i, σ ((2 + 2 * ((a1)).toNat) + 1) i = 0 := fun i => hz _ i (by omega)
  have ca1 : (cap (2 + 2 * ((a1)).toNat) : Int) = 16 := cp_1 (by omega)
  have za2 : ∀ i, σ (2 + 2 * ((a2)).toNat) i = 0 := fun i => hz _ i (by omega)
  have z1a2 : ∀ i, σ ((2 + 2 * ((a2)).toNat) + 1) i = 0 := fun i => hz _ i (by omega)
  have ca2 : (cap (2 + 2 * ((a2)).toNat) : Int) = 16 := cp_1 (by omega)
  have hA : Dd 392 [(.inr (.inr (some 0))), (.inl a1), (.inl a2), (.inr (.inr (some 726)))] σ (.inl (some (.inl 0)), (upS (upS σ (2 + 2 * ((a2)).toNat) 1 0) 726 0 0)) := by
    refine b392 ?_
    have hD9 : Dd 174 [(.inr (.inr (some 0))), (.inl a1), (.inl a2)] σ (.inl (some (.inl 0)), (upS σ (2 + 2 * ((a2)).toNat) 1 0)) := by
      refine b174 ?_
      have hD3 : Dd 227 [(.inr (.inr (some 0))), (.inl a1)] σ (.inl (some (.inr (.inr (some (2 + 2 * ((a1)).toNat))))), σ) := by
        refine b227 ?_
        have hD1 : Dd 145 [(.inr (.inr (some 1))), (.inl a1)] σ (.inl (some (.inr (.inr (some (2 + 2 * ((a1)).toNat))))), σ) := by
          refine b145 ?_
          rw [if_pos (show (0 : Int) ≤ a1 by first | omega | (simp [upS, hz, za1, z1a1, ca1, za2, z1a2, ca2]; done) | (simp [upS, hz, za1, z1a1, ca1, za2, z1a2, ca2]; omega))]
          refine ⟨4, (by decide +kernel), (by decide), ?_⟩
          rw [if_pos (show a1 < ((4 : Nat) : Int) by first | omega | (simp [upS, hz, za1, z1a1, ca1, za2, z1a2, ca2]; done) | (simp [upS, hz, za1, z1a1, ca1, za2, z1a2, ca2]; omega))]
          refine ⟨(show 0 ≤ a1 by first | omega | (simp [upS, hz, za1, z1a1, ca1, za2, z1a2, ca2]; done) | (simp [upS, hz, za1, z1a1, ca1, za2, z1a2, ca2]; omega)), ?_⟩
          refine ⟨(2 + 2 * ((a1)).toNat), (el_1 (i := (a1)) (by first | omega | (simp [upS, hz, za1, z1a1, ca1, za2, z1a2, ca2]; done) | (simp [upS, hz, za1, z1a1, ca1, za2, z1a2, ca2]; omega))).1, (el_1 (i := (a1)) (by first | omega | (simp [upS, hz, za1, z1a1, ca1, za2, z1a2, ca2]; done) | (simp [upS, hz, za1, z1a1, ca1, za2, z1a2, ca2]; omega))).2, ?_⟩
          all_goals rfl
        refine ⟨_, _, hD1, ?_⟩
        clear hD1
        refine ⟨fun hz2 => (by cases hz2), fun _ hz2 => ?_⟩
        cases hz2
        refine ⟨(el_1 (i := (a1)) (by first | omega | (simp [upS, hz, za1, z1a1, ca1, za2, z1a2, ca2]; done) | (simp [upS, hz, za1, z1a1, ca1, za2, z1a2, ca2]; omega))).2, ?_⟩
        all_goals rfl
      refine Or.inl ⟨_, _, hD3, (el_1 (i := (a1)) (by first | omega | (simp [upS, hz, za1, z1a1, ca1, za2, z1a2, ca2]; done) | (simp [upS, hz, za1, z1a1, ca1, za2, z1a2, ca2]; omega))).2, ?_⟩
      clear hD3
      have hD6 : Dd 227 [(.inr (.inr (some 0))), (.inl a2)] σ (.inl (some (.inr (.inr (some (2 + 2 * ((a2)).toNat))))), σ) := by
        refine b227 ?_
        have hD4 : Dd 145 [(.inr (.inr (some 1))), (.inl a2)] σ (.inl (some (.inr (.inr (some (2 + 2 * ((a2)).toNat))))), σ) := by
          refine b145 ?_
          rw [if_pos (show (0 : Int) ≤ a2 by first | omega | (simp [upS, hz, za1, z1a1, ca1, za2, z1a2, ca2]; done) | (simp [upS, hz, za1, z1a1, ca1, za2, z1a2, ca2]; omega))]
          refine ⟨4, (by decide +kernel), (by decide), ?_⟩
          rw [if_pos (show a2 < ((4 : Nat) : Int) by first | omega | (simp [upS, hz, za1, z1a1, ca1, za2, z1a2, ca2]; done) | (simp [upS, hz, za1, z1a1, ca1, za2, z1a2, ca2]; omega))]
          refine ⟨(show 0 ≤ a2 by first | omega | (simp [upS, hz, za1, z1a1, ca1, za2, z1a2, ca2]; done) | (simp [upS, hz, za1, z1a1, ca1, za2, z1a2, ca2]; omega)), ?_⟩
          refine ⟨(2 + 2 * ((a2)).toNat), (el_1 (i := (a2)) (by first | omega | (simp [upS, hz, za1, z1a1, ca1, za2, z1a2, ca2]; done) | (simp [upS, hz, za1, z1a1, ca1, za2, z1a2, ca2]; omega))).1, (el_1 (i := (a2)) (by first | omega | (simp [upS, hz, za1, z1a1, ca1, za2, z1a2, ca2]; done) | (simp [upS, hz, za1, z1a1, ca1, za2, z1a2, ca2]; omega))).2, ?_⟩
          all_goals rfl
        refine ⟨_, _, hD4, ?_⟩
        clear hD4
        refine ⟨fun hz5 => (by cases hz5), fun _ hz5 => ?_⟩
        cases hz5
        refine ⟨(el_1 (i := (a2)) (by first | omega | (simp [upS, hz, za1, z1a1, ca1, za2, z1a2, ca2]; done) | (simp [upS, hz, za1, z1a1, ca1, za2, z1a2, ca2]; omega))).2, ?_⟩
        all_goals rfl
      refine Or.inl ⟨_, _, hD6, (el_1 (i := (a2)) (by first | omega | (simp [upS, hz, za1, z1a1, ca1, za2, z1a2, ca2]; done) | (simp [upS, hz, za1, z1a1, ca1, za2, z1a2, ca2]; omega))).2, ?_⟩
      clear hD6
      have hD7 : Dd 155 [(.inr (.inr (some (2 + 2 * ((a2)).toNat)))), (.inr (.inr (some (2 + 2 * ((a1)).toNat))))] σ (.inl none, (upS σ (2 + 2 * ((a2)).toNat) 1 0)) := by
        refine b155 (el_1 (i := (a1)) (by first | omega | (simp [upS, hz, za1, z1a1, ca1, za2, z1a2, ca2]; done) | (simp [upS, hz, za1, z1a1, ca1, za2, z1a2, ca2]; omega))).2 (el_1 (i := (a2)) (by first | omega | (simp [upS, hz, za1, z1a1, ca1, za2, z1a2, ca2]; done) | (simp [upS, hz, za1, z1a1, ca1, za2, z1a2, ca2]; omega))).2 ?_
        refine ⟨(show -2147483648 ≤ ((cap (2 + 2 * ((a2)).toNat)) : Int) ∧ ((cap (2 + 2 * ((a2)).toNat)) : Int) ≤ 2147483647 by have ec1 : (cap (2 + 2 * ((a2)).toNat) : Int) = 16 := cp_1 (by omega); first | omega | (simp [upS, hz, za1, z1a1, ca1, za2, z1a2, ca2]; done) | (simp [upS, hz, za1, z1a1, ca1, za2, z1a2, ca2]; omega)), ?_⟩
        rw [(show (upS σ (2 + 2 * ((a2)).toNat) 1 (if ((cap (2 + 2 * ((a2)).toNat)) : Int) < (σ (2 + 2 * ((a1)).toNat) 1) then ((cap (2 + 2 * ((a2)).toNat)) : Int) else (σ (2 + 2 * ((a1)).toNat) 1))) = (upS σ (2 + 2 * ((a2)).toNat) 1 0) from by rw [show (if ((cap (2 + 2 * ((a2)).toNat)) : Int) < (σ (2 + 2 * ((a1)).toNat) 1) then ((cap (2 + 2 * ((a2)).toNat)) : Int) else (σ (2 + 2 * ((a1)).toNat) 1)) = 0 by (have ec1 : (cap (2 + 2 * ((a2)).toNat) : Int) = 16 := cp_1 (by omega); first | omega | (simp [upS, hz, za1, z1a1, ca1, za2, z1a2, ca2]; done) | (simp [upS, hz, za1, z1a1, ca1, za2, z1a2, ca2]; omega))])]
        refine b155_18 (el_1 (i := (a2)) (by first | omega | (simp [upS, hz, za1, z1a1, ca1, za2, z1a2, ca2]; done) | (simp [upS, hz, za1, z1a1, ca1, za2, z1a2, ca2]; omega))).2 (el_1 (i := (a1)) (by first | omega | (simp [upS, hz, za1, z1a1, ca1, za2, z1a2, ca2]; done) | (simp [upS, hz, za1, z1a1, ca1, za2, z1a2, ca2]; omega))).2 ?_
        rw [if_neg (show ¬ ((0 : Int) < ((upS σ (2 + 2 * ((a2)).toNat) 1 0) (2 + 2 * ((a2)).toNat) 1)) by first | omega | (simp [upS, hz, za1, z1a1, ca1, za2, z1a2, ca2]; done) | (simp [upS, hz, za1, z1a1, ca1, za2, z1a2, ca2]; omega))]
        all_goals rfl
      refine ⟨_, hD7, ?_⟩
      clear hD7
      have hD8 : Dd 146 [(.inr (.inr (some (2 + 2 * ((a2)).toNat))))] (upS σ (2 + 2 * ((a2)).toNat) 1 0) (.inl (some (.inl 0)), (upS σ (2 + 2 * ((a2)).toNat) 1 0)) := by
        refine b146 (el_1 (i := (a2)) (by first | omega | (simp [upS, hz, za1, z1a1, ca1, za2, z1a2, ca2]; done) | (simp [upS, hz, za1, z1a1, ca1, za2, z1a2, ca2]; omega))).2 ?_
        rw [show ((upS σ (2 + 2 * ((a2)).toNat) 1 0) (2 + 2 * ((a2)).toNat) 1) = 0 by (first | omega | (simp [upS, hz, za1, z1a1, ca1, za2, z1a2, ca2]; done) | (simp [upS, hz, za1, z1a1, ca1, za2, z1a2, ca2]; omega))]
        all_goals rfl
      refine ⟨_, _, hD8, ?_⟩
      clear hD8
      all_goals rfl
    refine Or.inl ⟨_, _, hD9, ?_⟩
    clear hD9
    rw [(show (upS (upS σ (2 + 2 * ((a2)).toNat) 1 0) 726 ((0 : Int).toNat) 0) = (upS (upS σ (2 + 2 * ((a2)).toNat) 1 0) 726 0 0) from by rw [show ((0 : Int).toNat) = 0 by (first | omega | (simp [upS, hz, za1, z1a1, ca1, za2, z1a2, ca2]; done) | (simp [upS, hz, za1, z1a1, ca1, za2, z1a2, ca2]; omega))])]
    all_goals rfl
  have hB : Dd 259 [(.inr (.inr (some 682))), (.inl a1), (.inl a2)] (upS (upS σ (2 + 2 * ((a2)).toNat) 1 0) 726 0 0) (.inl (some (.inl 0)), (upS (upS (upS (upS σ (2 + 2 * ((a2)).toNat) 1 0) 726 0 0) 682 0 0) 684 ((a2).toNat) 0)) := by
    refine b259 ?_
    have hD11 : Dd 247 [(.inl a1)] (upS (upS σ (2 + 2 * ((a2)).toNat) 1 0) 726 0 0) (.inl (some (.inl 1)), (upS (upS σ (2 + 2 * ((a2)).toNat) 1 0) 726 0 0)) := by
      refine b247 ?_
      have hD10 : Dd 246 [(.inl a1), (.inl 4)] (upS (upS σ (2 + 2 * ((a2)).toNat) 1 0) 726 0 0) (.inl (some (.inl 1)), (upS (upS σ (2 + 2 * ((a2)).toNat) 1 0) 726 0 0)) := by
        refine b246 ?_
        try rw [if_pos (show (0 : Int) ≤ a1 by first | omega | (simp [upS, hz, za1, z1a1, ca1, za2, z1a2, ca2]; done) | (simp [upS, hz, za1, z1a1, ca1, za2, z1a2, ca2]; omega))]
        try rw [if_pos (show a1 < 4 by first | omega | (simp [upS, hz, za1, z1a1, ca1, za2, z1a2, ca2]; done) | (simp [upS, hz, za1, z1a1, ca1, za2, z1a2, ca2]; omega))]
        all_goals rfl
      refine ⟨_, _, hD10, ?_⟩
      clear hD10
      refine ⟨(show 1 = 0 ∨ 1 = 1 by first | omega | (simp [upS, hz, za1, z1a1, ca1, za2, z1a2, ca2]; done) | (simp [upS, hz, za1, z1a1, ca1, za2, z1a2, ca2]; omega)), ?_⟩
      all_goals rfl
    refine ⟨_, _, hD11, ?_⟩
    clear hD11
    rw [if_neg (show ¬ ((1 : Int) = 0) by first | omega | (simp [upS, hz, za1, z1a1, ca1, za2, z1a2, ca2]; done) | (simp [upS, hz, za1, z1a1, ca1, za2, z1a2, ca2]; omega))]
    have hD13 : Dd 247 [(.inl a2)] (upS (upS σ (2 + 2 * ((a2)).toNat) 1 0) 726 0 0) (.inl (some (.inl 1)), (upS (upS σ (2 + 2 * ((a2)).toNat) 1 0) 726 0 0)) := by
      refine b247 ?_
      have hD12 : Dd 246 [(.inl a2), (.inl 4)] (upS (upS σ (2 + 2 * ((a2)).toNat) 1 0) 726 0 0) (.inl (some (.inl 1)), (upS (upS σ (2 + 2 * ((a2)).toNat) 1 0) 726 0 0)) := by
        refine b246 ?_
        try rw [if_pos (show (0 : Int) ≤ a2 by first | omega | (simp [upS, hz, za1, z1a1, ca1, za2, z1a2, ca2]; done) | (simp [upS, hz, za1, z1a1, ca1, za2, z1a2, ca2]; omega))]
        try rw [if_pos (show a2 < 4 by first | omega | (simp [upS, hz, za1, z1a1, ca1, za2, z1a2, ca2]; done) | (simp [upS, hz, za1, z1a1, ca1, za2, z1a2, ca2]; omega))]
        all_goals rfl
      refine ⟨_, _, hD12, ?_⟩
      clear hD12
      refine ⟨(show 1 = 0 ∨ 1 = 1 by first | omega | (simp [upS, hz, za1, z1a1, ca1, za2, z1a2, ca2]; done) | (simp [upS, hz, za1, z1a1, ca1, za2, z1a2, ca2]; omega)), ?_⟩
      all_goals rfl
    refine ⟨_, _, hD13, ?_⟩
    clear hD13
    rw [if_neg (show ¬ ((1 : Int) = 0) by first | omega | (simp [upS, hz, za1, z1a1, ca1, za2, z1a2, ca2]; done) | (simp [upS, hz, za1, z1a1, ca1, za2, z1a2, ca2]; omega))]
    refine b259_20 ?_
    have hD14 : Dd 245 [(.inr (.inr (some 682))), (.inl 0)] (upS (upS σ (2 + 2 * ((a2)).toNat) 1 0) 726 0 0) (.inl (some (.inl 1)), (upS (upS (upS σ (2 + 2 * ((a2)).toNat) 1 0) 726 0 0) 682 0 0)) := by
      refine b245 ?_
      try rw [if_pos (show (0 : Int) = 0 by first | omega | (simp [upS, hz, za1, z1a1, ca1, za2, z1a2, ca2]; done) | (simp [upS, hz, za1, z1a1, ca1, za2, z1a2, ca2]; omega))]
      all_goals rfl
    refine ⟨_, _, hD14, ?_⟩
    clear hD14
    rw [if_neg (show ¬ ((1 : Int) = 0) by first | omega | (simp [upS, hz, za1, z1a1, ca1, za2, z1a2, ca2]; done) | (simp [upS, hz, za1, z1a1, ca1, za2, z1a2, ca2]; omega))]
    refine b259_30 ?_
    refine ⟨(show 0 ≤ a1 ∧ a1 < 4 by first | omega | (simp [upS, hz, za1, z1a1, ca1, za2, z1a2, ca2]; done) | (simp [upS, hz, za1, z1a1, ca1, za2, z1a2, ca2]; omega)), ?_⟩
    rw [if_neg (show ¬ ((0 : Int) < ((upS (upS (upS σ (2 + 2 * ((a2)).toNat) 1 0) 726 0 0) 682 0 0) 684 (a1).toNat)) by first | omega | (simp [upS, hz, za1, z1a1, ca1, za2, z1a2, ca2]; done) | (simp [upS, hz, za1, z1a1, ca1, za2, z1a2, ca2]; omega))]
    refine ⟨(show 0 ≤ a1 ∧ a1 < 4 by first | omega | (simp [upS, hz, za1, z1a1, ca1, za2, z1a2, ca2]; done) | (simp [upS, hz, za1, z1a1, ca1, za2, z1a2, ca2]; omega)), ?_⟩
    refine ⟨(show 0 ≤ a2 ∧ a2 < 4 by first | omega | (simp [upS, hz, za1, z1a1, ca1, za2, z1a2, ca2]; done) | (simp [upS, hz, za1, z1a1, ca1, za2, z1a2, ca2]; omega)), ?_⟩
    refine ⟨(show 0 ≤ a1 ∧ a1 < 4 by first | omega | (simp [upS, hz, za1, z1a1, ca1, za2, z1a2, ca2]; done) | (simp [upS, hz, za1, z1a1, ca1, za2, z1a2, ca2]; omega)), ?_⟩
    rw [(show (upS (upS (upS (upS σ (2 + 2 * ((a2)).toNat) 1 0) 726 0 0) 682 0 0) 684 ((a2).toNat) ((upS (upS (upS σ (2 + 2 * ((a2)).toNat) 1 0) 726 0 0) 682 0 0) 684 (a1).toNat)) = (upS (upS (upS (upS σ (2 + 2 * ((a2)).toNat) 1 0) 726 0 0) 682 0 0) 684 ((a2).toNat) 0) from by rw [show ((upS (upS (upS σ (2 + 2 * ((a2)).toNat) 1 0) 726 0 0) 682 0 0) 684 (a1).toNat) = 0 by (first | omega | (simp [upS, hz, za1, z1a1, ca1, za2, z1a2, ca2]; done) | (simp [upS, hz, za1, z1a1, ca1, za2, z1a2, ca2]; omega))])]
    rw [show ((upS (upS (upS (upS σ (2 + 2 * ((a2)).toNat) 1 0) 726 0 0) 682 0 0) 684 ((a2).toNat) 0) 684 (a1).toNat) = 0 by (first | omega | (simp [upS, hz, za1, z1a1, ca1, za2, z1a2, ca2]; done) | (simp [upS, hz, za1, z1a1, ca1, za2, z1a2, ca2]; omega))]
    all_goals rfl
  refine ⟨_, _, _, _, hA, hB, ?_, ?_, ?_, ?_, ?_⟩
  · (first | rfl | (simp [upS, SCR, hz, za1, z1a1, ca1, za2, z1a2, ca2]; done) | (simp [upS, SCR, hz, za1, z1a1, ca1, za2, z1a2, ca2]; omega))
  · first | (intro h9; omega) | (intro _; first | rfl | (simp [upS, SCR, hz, za1, z1a1, ca1, za2, z1a2, ca2]; done) | (simp [upS, SCR, hz, za1, z1a1, ca1, za2, z1a2, ca2]; omega))
  · intro i; first | rfl | (unfold upS SCR; (repeat' split) <;> first | rfl | omega)
  · first | rfl | (unfold upS SCR; (repeat' split) <;> first | rfl | omega)
  · first | rfl | (unfold upS SCR; (repeat' split) <;> first | rfl | omega)
end
