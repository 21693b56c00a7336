noncomputable section
theorem q7_0 {σ : Sg} {a1 : Int} {a2 : Int} {a3 : Int} (hz : ∀ a i, a < 1000 → σ a i = 0) (h0 : a1 < 0) : ∃ (kx b : Int) (s1 s2 : Sg), Dd 397 [(.inr (.inr (some 0))), (.inl a1), (.inl a2), (.inl a3), (.inr (.inr (some 726)))] σ (.inl (some (.inl kx)), s1) ∧ Dd 278 [(.inr (.inr (some 682))), (.inl a1), (.inl a2), (.inl a3)] s1 (.inl (some (.inl b)), s2) ∧ s2 682 0 = kx ∧ (kx = 0 → s2 726 0 = b) ∧ (∀ i, s1 SCR i = σ SCR i) ∧ s1 (SCR + 1) 0 = σ (SCR + 1) 0 ∧ s2 (SCR + 1) 0 = σ (SCR + 1) 0 := by
  have hA : Dd 397 [(.inr (.inr (some 0))), (.inl a1), (.inl a2), (.inl a3), (.inr (.inr (some 726)))] σ (.inl (some (.inl 1)), σ) := by
    refine b397 ?_
    have hD4 : Dd 179 [(.inr (.inr (some 0))), (.inl a1), (.inl a2), (.inl a3)] σ (.inr 0, σ) := by
      refine b179 ?_
      have hD3 : Dd 227 [(.inr (.inr (some 0))), (.inl a1)] σ (.inr 0, σ) := by
        refine b227 ?_
        have hD1 : Dd 145 [(.inr (.inr (some 1))), (.inl a1)] σ (.inl (some (.inr (.inr none))), σ) := by
          refine b145 ?_
          rw [if_neg (show ¬ ((0 : Int) ≤ a1) by first | omega | (simp [upS, hz]; done) | (simp [upS, hz]; omega))]
          all_goals rfl
        refine ⟨_, _, hD1, ?_⟩
        clear hD1
        refine ⟨fun _ => ?_, fun _ hz2 => (by cases hz2)⟩
        all_goals rfl
      refine Or.inr ⟨_, _, hD3, ?_⟩
      all_goals rfl
    exact Or.inr (Or.inl ⟨_, hD4, rfl⟩)
  have hB : Dd 278 [(.inr (.inr (some 682))), (.inl a1), (.inl a2), (.inl a3)] σ (.inl (some (.inl 0)), (upS σ 682 0 1)) := by
    refine b278 ?_
    have hD6 : Dd 247 [(.inl a1)] σ (.inl (some (.inl 0)), σ) := by
      refine b247 ?_
      have hD5 : Dd 246 [(.inl a1), (.inl 4)] σ (.inl (some (.inl 0)), σ) := by
        refine b246 ?_
        try rw [if_neg (show ¬ ((0 : Int) ≤ a1) by first | omega | (simp [upS, hz]; done) | (simp [upS, hz]; omega))]
        all_goals rfl
      refine ⟨_, _, hD5, ?_⟩
      clear hD5
      refine ⟨(show 0 = 0 ∨ 0 = 1 by first | omega | (simp [upS, hz]; done) | (simp [upS, hz]; omega)), ?_⟩
      all_goals rfl
    refine ⟨_, _, hD6, ?_⟩
    clear hD6
    rw [if_pos (show (0 : Int) = 0 by first | omega | (simp [upS, hz]; done) | (simp [upS, hz]; omega))]
    refine b278_15 ?_
    refine b278_31 ?_
    have hD7 : Dd 245 [(.inr (.inr (some 682))), (.inl 1)] σ (.inl (some (.inl 0)), (upS σ 682 0 1)) := by
      refine b245 ?_
      try rw [if_neg (show ¬ ((1 : Int) = 0) by first | omega | (simp [upS, hz]; done) | (simp [upS, hz]; omega))]
      all_goals rfl
    refine ⟨_, _, hD7, ?_⟩
    clear hD7
    rw [if_pos (show (0 : Int) = 0 by first | omega | (simp [upS, hz]; done) | (simp [upS, hz]; omega))]
    all_goals rfl
  refine ⟨_, _, _, _, hA, hB, ?_, ?_, ?_, ?_, ?_⟩
  · (first | rfl | (simp [upS, SCR, hz]; done) | (simp [upS, SCR, hz]; omega))
  · first | (intro h9; omega) | (intro _; first | rfl | (simp [upS, SCR, hz]; done) | (simp [upS, SCR, hz]; omega))
  · intro i; first | rfl | (unfold upS SCR; (repeat' split) <;> first | rfl | omega)
  · first | rfl | (unfold upS SCR; (repeat' split) <;> first | rfl | omega)
  · first | rfl | (unfold upS SCR; (repeat' split) <;> first | rfl | omega)
theorem q7_1 {σ : Sg} {a1 : Int} {a2 : Int} {a3 : Int} (hz : ∀ a i, a < 1000 → σ a i = 0) (h0 : 4 ≤ a1) : ∃ (kx b : Int) (s1 s2 : Sg), Dd 397 [(.inr (.inr (some 0))), (.inl a1), (.inl a2), (.inl a3), (.inr (.inr (some 726)))] σ (.inl (some (.inl kx)), s1) ∧ Dd 278 [(.inr (.inr (some 682))), (.inl a1), (.inl a2), (.inl a3)] s1 (.inl (some (.inl b)), s2) ∧ s2 682 0 = kx ∧ (kx = 0 → s2 726 0 = b) ∧ (∀ i, s1 SCR i = σ SCR i) ∧ s1 (SCR + 1) 0 = σ (SCR + 1) 0 ∧ s2 (SCR + 1) 0 = σ (SCR + 1) 0 := by
  have hA : Dd 397 [(.inr (.inr (some 0))), (.inl a1), (.inl a2), (.inl a3), (.inr (.inr (some 726)))] σ (.inl (some (.inl 1)), σ) := by
    refine b397 ?_
    have hD4 : Dd 179 [(.inr (.inr (some 0))), (.inl a1), (.inl a2), (.inl a3)] σ (.inr 0, σ) := by
      refine b179 ?_
      have hD3 : Dd 227 [(.inr (.inr (some 0))), (.inl a1)] σ (.inr 0, σ) := by
        refine b227 ?_
        have hD1 : Dd 145 [(.inr (.inr (some 1))), (.inl a1)] σ (.inl (some (.inr (.inr none))), σ) := by
          refine b145 ?_
          rw [if_pos (show (0 : Int) ≤ a1 by first | omega | (simp [upS, hz]; done) | (simp [upS, hz]; omega))]
          refine ⟨4, (by decide +kernel), (by decide), ?_⟩
          rw [if_neg (show ¬ (a1 < ((4 : Nat) : Int)) by first | omega | (simp [upS, hz]; done) | (simp [upS, hz]; omega))]
          all_goals rfl
        refine ⟨_, _, hD1, ?_⟩
        clear hD1
        refine ⟨fun _ => ?_, fun _ hz2 => (by cases hz2)⟩
        all_goals rfl
      refine Or.inr ⟨_, _, hD3, ?_⟩
      all_goals rfl
    exact Or.inr (Or.inl ⟨_, hD4, rfl⟩)
  have hB : Dd 278 [(.inr (.inr (some 682))), (.inl a1), (.inl a2), (.inl a3)] σ (.inl (some (.inl 0)), (upS σ 682 0 1)) := by
    refine b278 ?_
    have hD6 : Dd 247 [(.inl a1)] σ (.inl (some (.inl 0)), σ) := by
      refine b247 ?_
      have hD5 : Dd 246 [(.inl a1), (.inl 4)] σ (.inl (some (.inl 0)), σ) := by
        refine b246 ?_
        try rw [if_pos (show (0 : Int) ≤ a1 by first | omega | (simp [upS, hz]; done) | (simp [upS, hz]; omega))]
        try rw [if_neg (show ¬ (a1 < 4) by first | omega | (simp [upS, hz]; done) | (simp [upS, hz]; omega))]
        all_goals rfl
      refine ⟨_, _, hD5, ?_⟩
      clear hD5
      refine ⟨(show 0 = 0 ∨ 0 = 1 by first | omega | (simp [upS, hz]; done) | (simp [upS, hz]; omega)), ?_⟩
      all_goals rfl
    refine ⟨_, _, hD6, ?_⟩
    clear hD6
    rw [if_pos (show (0 : Int) = 0 by first | omega | (simp [upS, hz]; done) | (simp [upS, hz]; omega))]
    refine b278_15 ?_
    refine b278_31 ?_
    have hD7 : Dd 245 [(.inr (.inr (some 682))), (.inl 1)] σ (.inl (some (.inl 0)), (upS σ 682 0 1)) := by
      refine b245 ?_
      try rw [if_neg (show ¬ ((1 : Int) = 0) by first | omega | (simp [upS, hz]; done) | (simp [upS, hz]; omega))]
      all_goals rfl
    refine ⟨_, _, hD7, ?_⟩
    clear hD7
    rw [if_pos (show (0 : Int) = 0 by first | omega | (simp [upS, hz]; done) | (simp [upS, hz]; omega))]
    all_goals rfl
  refine ⟨_, _, _, _, hA, hB, ?_, ?_, ?_, ?_, ?_⟩
  · (first | rfl | (simp [upS, SCR, hz]; done) | (simp [upS, SCR, hz]; omega))
  · first | (intro h9; omega) | (intro _; first | rfl | (simp [upS, SCR, hz]; done) | (simp [upS, SCR, hz]; omega))
  · intro i; first | rfl | (unfold upS SCR; (repeat' split) <;> first | rfl | omega)
  · first | rfl | (unfold upS SCR; (repeat' split) <;> first | rfl | omega)
  · first | rfl | (unfold upS SCR; (repeat' split) <;> first | rfl | omega)
theorem q7_2 {σ : Sg} {a1 : Int} {a2 : Int} {a3 : Int} (hz : ∀ a i, a < 1000 → σ a i = 0) (h0 : 0 ≤ a1 ∧ a1 < 4) (h1 : a2 < 0) : ∃ (kx b : Int) (s1 s2 : Sg), Dd 397 [(.inr (.inr (some 0))), (.inl a1), (.inl a2), (.inl a3), (.inr (.inr (some 726)))] σ (.inl (some (.inl kx)), s1) ∧ Dd 278 [(.inr (.inr (some 682))), (.inl a1), (.inl a2), (.inl a3)] s1 (.inl (some (.inl b)), s2) ∧ s2 682 0 = kx ∧ (kx = 0 → s2 726 0 = b) ∧ (∀ i, s1 SCR i = σ SCR i) ∧ s1 (SCR + 1) 0 = σ (SCR + 1) 0 ∧ s2 (SCR + 1) 0 = σ (SCR + 1) 0 := by
  have za1 : ∀ i, σ (2 + 2 * ((a1)).toNat) i = 0 := fun i => hz _ i (by omega)
  have z1a1 : ∀ i, σ ((2 + 2 * ((a1)).toNat) + 1) i = 0 := fun i => hz _ i (by omega)
  have ca1 : (cap (2 + 2 * ((a1)).toNat) : Int) = 16 := cp_1 (by omega)
  have hA : Dd 397 [(.inr (.inr (some 0))), (.inl a1), (.inl a2), (.inl a3), (.inr (.inr (some 726)))] σ (.inl (some (.inl 1)), σ) := by
    refine b397 ?_
    have hD7 : Dd 179 [(.inr (.inr (some 0))), (.inl a1), (.inl a2), (.inl a3)] σ (.inr 0, σ) := by
      refine b179 ?_
      have hD3 : Dd 227 [(.inr (.inr (some 0))), (.inl a1)] σ (.inl (some (.inr (.inr (some (2 + 2 * ((a1)).toNat))))), σ) := by
        refine b227 ?_
        have hD1 : Dd 145 [(.inr (.inr (some 1))), (.inl a1)] σ (.inl (some (.inr (.inr (some (2 + 2 * ((a1)).toNat))))), σ) := by
          refine b145 ?_
          rw [if_pos (show (0 : Int) ≤ a1 by first | omega | (simp [upS, hz, za1, z1a1, ca1]; done) | (simp [upS, hz, za1, z1a1, ca1]; omega))]
          refine ⟨4, (by decide +kernel), (by decide), ?_⟩
          rw [if_pos (show a1 < ((4 : Nat) : Int) by first | omega | (simp [upS, hz, za1, z1a1, ca1]; done) | (simp [upS, hz, za1, z1a1, ca1]; omega))]
          refine ⟨(show 0 ≤ a1 by first | omega | (simp [upS, hz, za1, z1a1, ca1]; done) | (simp [upS, hz, za1, z1a1, ca1]; omega)), ?_⟩
          refine ⟨(2 + 2 * ((a1)).toNat), (el_1 (i := (a1)) (by first | omega | (simp [upS, hz, za1, z1a1, ca1]; done) | (simp [upS, hz, za1, z1a1, ca1]; omega))).1, (el_1 (i := (a1)) (by first | omega | (simp [upS, hz, za1, z1a1, ca1]; done) | (simp [upS, hz, za1, z1a1, ca1]; omega))).2, ?_⟩
          all_goals rfl
        refine ⟨_, _, hD1, ?_⟩
        clear hD1
        refine ⟨fun hz2 => (by cases hz2), fun _ hz2 => ?_⟩
        cases hz2
        refine ⟨(el_1 (i := (a1)) (by first | omega | (simp [upS, hz, za1, z1a1, ca1]; done) | (simp [upS, hz, za1, z1a1, ca1]; omega))).2, ?_⟩
        all_goals rfl
      refine Or.inl ⟨_, _, hD3, (el_1 (i := (a1)) (by first | omega | (simp [upS, hz, za1, z1a1, ca1]; done) | (simp [upS, hz, za1, z1a1, ca1]; omega))).2, ?_⟩
      clear hD3
      have hD6 : Dd 227 [(.inr (.inr (some 0))), (.inl a2)] σ (.inr 0, σ) := by
        refine b227 ?_
        have hD4 : Dd 145 [(.inr (.inr (some 1))), (.inl a2)] σ (.inl (some (.inr (.inr none))), σ) := by
          refine b145 ?_
          rw [if_neg (show ¬ ((0 : Int) ≤ a2) by first | omega | (simp [upS, hz, za1, z1a1, ca1]; done) | (simp [upS, hz, za1, z1a1, ca1]; omega))]
          all_goals rfl
        refine ⟨_, _, hD4, ?_⟩
        clear hD4
        refine ⟨fun _ => ?_, fun _ hz5 => (by cases hz5)⟩
        all_goals rfl
      refine Or.inr ⟨_, _, hD6, ?_⟩
      all_goals rfl
    exact Or.inr (Or.inl ⟨_, hD7, rfl⟩)
  have hB : Dd 278 [(.inr (.inr (some 682))), (.inl a1), (.inl a2), (.inl a3)] σ (.inl (some (.inl 0)), (upS σ 682 0 1)) := by
    refine b278 ?_
    have hD9 : Dd 247 [(.inl a1)] σ (.inl (some (.inl 1)), σ) := by
      refine b247 ?_
      have hD8 : Dd 246 [(.inl a1), (.inl 4)] σ (.inl (some (.inl 1)), σ) := by
        refine b246 ?_
        try rw [if_pos (show (0 : Int) ≤ a1 by first | omega | (simp [upS, hz, za1, z1a1, ca1]; done) | (simp [upS, hz, za1, z1a1, ca1]; omega))]
        try rw [if_pos (show a1 < 4 by first | omega | (simp [upS, hz, za1, z1a1, ca1]; done) | (simp [upS, hz, za1, z1a1, ca1]; omega))]
        all_goals rfl
      refine ⟨_, _, hD8, ?_⟩
      clear hD8
      refine ⟨(show 1 = 0 ∨ 1 = 1 by first | omega | (simp [upS, hz, za1, z1a1, ca1]; done) | (simp [upS, hz, za1, z1a1, ca1]; omega)), ?_⟩
      all_goals rfl
    refine ⟨_, _, hD9, ?_⟩
    clear hD9
    rw [if_neg (show ¬ ((1 : Int) = 0) by first | omega | (simp [upS, hz, za1, z1a1, ca1]; done) | (simp [upS, hz, za1, z1a1, ca1]; omega))]
    have hD11 : Dd 247 [(.inl a2)] σ (.inl (some (.inl 0)), σ) := by
      refine b247 ?_
      have hD10 : Dd 246 [(.inl a2), (.inl 4)] σ (.inl (some (.inl 0)), σ) := by
        refine b246 ?_
        try rw [if_neg (show ¬ ((0 : Int) ≤ a2) by first | omega | (simp [upS, hz, za1, z1a1, ca1]; done) | (simp [upS, hz, za1, z1a1, ca1]; omega))]
        all_goals rfl
      refine ⟨_, _, hD10, ?_⟩
      clear hD10
      refine ⟨(show 0 = 0 ∨ 0 = 1 by first | omega | (simp [upS, hz, za1, z1a1, ca1]; done) | (simp [upS, hz, za1, z1a1, ca1]; omega)), ?_⟩
      all_goals rfl
    refine ⟨_, _, hD11, ?_⟩
    clear hD11
    rw [if_pos (show (0 : Int) = 0 by first | omega | (simp [upS, hz, za1, z1a1, ca1]; done) | (simp [upS, hz, za1, z1a1, ca1]; omega))]
    refine b278_15 ?_
    refine b278_31 ?_
    have hD12 : Dd 245 [(.inr (.inr (some 682))), (.inl 1)] σ (.inl (some (.inl 0)), (upS σ 682 0 1)) := by
      refine b245 ?_
      try rw [if_neg (show ¬ ((1 : Int) = 0) by first | omega | (simp [upS, hz, za1, z1a1, ca1]; done) | (simp [upS, hz, za1, z1a1, ca1]; omega))]
      all_goals rfl
    refine ⟨_, _, hD12, ?_⟩
    clear hD12
    rw [if_pos (show (0 : Int) = 0 by first | omega | (simp [upS, hz, za1, z1a1, ca1]; done) | (simp [upS, hz, za1, z1a1, ca1]; omega))]
    all_goals rfl
  refine ⟨_, _, _, _, hA, hB, ?_, ?_, ?_, ?_, ?_⟩
  · (first | rfl | (simp [upS, SCR, hz, za1, z1a1, ca1]; done) | (simp [upS, SCR, hz, za1, z1a1, ca1]; omega))
  · first | (intro h9; omega) | (intro _; first | rfl | (simp [upS, SCR, hz, za1, z1a1, ca1]; done) | (simp [upS, SCR, hz, za1, z1a1, ca1]; omega))
  · intro i; first | rfl | (unfold upS SCR; (repeat' split) <;> first | rfl | omega)
  · first | rfl | (unfold upS SCR; (repeat' split) <;> first | rfl | omega)
  · first | rfl | (unfold upS SCR; (repeat' split) <;> first | rfl | omega)
theorem q7_3 {σ : Sg} {a1 : Int} {a2 : Int} {a3 : Int} (hz : ∀ a i, a < 1000 → σ a i = 0) (h0 : 0 ≤ a1 ∧ a1 < 4) (h1 : 4 ≤ a2) : ∃ (kx b : Int) (s1 s2 : Sg), Dd 397 [(.inr (.inr (some 0))), (.inl a1), (.inl a2), (.inl a3), (.inr (.inr (some 726)))] σ (.inl (some (.inl kx)), s1) ∧ Dd 278 [(.inr (.inr (some 682))), (.inl a1), (.inl a2), (.inl a3)] s1 (.inl (some (.inl b)), s2) ∧ s2 682 0 = kx ∧ (kx = 0 → s2 726 0 = b) ∧ (∀ i, s1 SCR i = σ SCR i) ∧ s1 (SCR + 1) 0 = σ (SCR + 1) 0 ∧ s2 (SCR + 1) 0 = σ (SCR + 1) 0 := by
  have za1 : ∀ i, σ (2 + 2 * ((a1)).toNat) i = 0 := fun i => hz _ i (by omega)
  have z1a1 : ∀ i, σ ((2 + 2 * ((a1)).toNat) + 1) i = 0 := fun i => hz _ i (by omega)
  have ca1 : (cap (2 + 2 * ((a1)).toNat) : Int) = 16 := cp_1 (by omega)
  have hA : Dd 397 [(.inr (.inr (some 0))), (.inl a1), (.inl a2), (.inl a3), (.inr (.inr (some 726)))] σ (.inl (some (.inl 1)), σ) := by
    refine b397 ?_
    have hD7 : Dd 179 [(.inr (.inr (some 0))), (.inl a1), (.inl a2), (.inl a3)] σ (.inr 0, σ) := by
      refine b179 ?_
      have hD3 : Dd 227 [(.inr (.inr (some 0))), (.inl a1)] σ (.inl (some (.inr (.inr (some (2 + 2 * ((a1)).toNat))))), σ) := by
        refine b227 ?_
        have hD1 : Dd 145 [(.inr (.inr (some 1))), (.inl a1)] σ (.inl (some (.inr (.inr (some (2 + 2 * ((a1)).toNat))))), σ) := by
          refine b145 ?_
          rw [if_pos (show (0 : Int) ≤ a1 by first | omega | (simp [upS, hz, za1, z1a1, ca1]; done) | (simp [upS, hz, za1, z1a1, ca1]; omega))]
          refine ⟨4, (by decide +kernel), (by decide), ?_⟩
          rw [if_pos (show a1 < ((4 : Nat) : Int) by first | omega | (simp [upS, hz, za1, z1a1, ca1]; done) | (simp [upS, hz, za1, z1a1, ca1]; omega))]
          refine ⟨(show 0 ≤ a1 by first | omega | (simp [upS, hz, za1, z1a1, ca1]; done) | (simp [upS, hz, za1, z1a1, ca1]; omega)), ?_⟩
          refine ⟨(2 + 2 * ((a1)).toNat), (el_1 (i := (a1)) (by first | omega | (simp [upS, hz, za1, z1a1, ca1]; done) | (simp [upS, hz, za1, z1a1, ca1]; omega))).1, (el_1 (i := (a1)) (by first | omega | (simp [upS, hz, za1, z1a1, ca1]; done) | (simp [upS, hz, za1, z1a1, ca1]; omega))).2, ?_⟩
          all_goals rfl
        refine ⟨_, _, hD1, ?_⟩
        clear hD1
        refine ⟨fun hz2 => (by cases hz2), fun _ hz2 => ?_⟩
        cases hz2
        refine ⟨(el_1 (i := (a1)) (by first | omega | (simp [upS, hz, za1, z1a1, ca1]; done) | (simp [upS, hz, za1, z1a1, ca1]; omega))).2, ?_⟩
        all_goals rfl
      refine Or.inl ⟨_, _, hD3, (el_1 (i := (a1)) (by first | omega | (simp [upS, hz, za1, z1a1, ca1]; done) | (simp [upS, hz, za1, z1a1, ca1]; omega))).2, ?_⟩
      clear hD3
      have hD6 : Dd 227 [(.inr (.inr (some 0))), (.inl a2)] σ (.inr 0, σ) := by
        refine b227 ?_
        have hD4 : Dd 145 [(.inr (.inr (some 1))), (.inl a2)] σ (.inl (some (.inr (.inr none))), σ) := by
          refine b145 ?_
          rw [if_pos (show (0 : Int) ≤ a2 by first | omega | (simp [upS, hz, za1, z1a1, ca1]; done) | (simp [upS, hz, za1, z1a1, ca1]; omega))]
          refine ⟨4, (by decide +kernel), (by decide), ?_⟩
          rw [if_neg (show ¬ (a2 < ((4 : Nat) : Int)) by first | omega | (simp [upS, hz, za1, z1a1, ca1]; done) | (simp [upS, hz, za1, z1a1, ca1]; omega))]
          all_goals rfl
        refine ⟨_, _, hD4, ?_⟩
        clear hD4
        refine ⟨fun _ => ?_, fun _ hz5 => (by cases hz5)⟩
        all_goals rfl
      refine Or.inr ⟨_, _, hD6, ?_⟩
      all_goals rfl
    exact Or.inr (Or.inl ⟨_, hD7, rfl⟩)
  have hB : Dd 278 [(.inr (.inr (some 682))), (.inl a1), (.inl a2), (.inl a3)] σ (.inl (some (.inl 0)), (upS σ 682 0 1)) := by
    refine b278 ?_
    have hD9 : Dd 247 [(.inl a1)] σ (.inl (some (.inl 1)), σ) := by
      refine b247 ?_
      have hD8 : Dd 246 [(.inl a1), (.inl 4)] σ (.inl (some (.inl 1)), σ) := by
        refine b246 ?_
        try rw [if_pos (show (0 : Int) ≤ a1 by first | omega | (simp [upS, hz, za1, z1a1, ca1]; done) | (simp [upS, hz, za1, z1a1, ca1]; omega))]
        try rw [if_pos (show a1 < 4 by first | omega | (simp [upS, hz, za1, z1a1, ca1]; done) | (simp [upS, hz, za1, z1a1, ca1]; omega))]
        all_goals rfl
      refine ⟨_, _, hD8, ?_⟩
      clear hD8
      refine ⟨(show 1 = 0 ∨ 1 = 1 by first | omega | (simp [upS, hz, za1, z1a1, ca1]; done) | (simp [upS, hz, za1, z1a1, ca1]; omega)), ?_⟩
      all_goals rfl
    refine ⟨_, _, hD9, ?_⟩
    clear hD9
    rw [if_neg (show ¬ ((1 : Int) = 0) by first | omega | (simp [upS, hz, za1, z1a1, ca1]; done) | (simp [upS, hz, za1, z1a1, ca1]; omega))]
    have hD11 : Dd 247 [(.inl a2)] σ (.inl (some (.inl 0)), σ) := by
      refine b247 ?_
      have hD10 : Dd 246 [(.inl a2), (.inl 4)] σ (.inl (some (.inl 0)), σ) := by
        refine b246 ?_
        try rw [if_pos (show (0 : Int) ≤ a2 by first | omega | (simp [upS, hz, za1, z1a1, ca1]; done) | (simp [upS, hz, za1, z1a1, ca1]; omega))]
        try rw [if_neg (show ¬ (a2 < 4) by first | omega | (simp [upS, hz, za1, z1a1, ca1]; done) | (simp [upS, hz, za1, z1a1, ca1]; omega))]
        all_goals rfl
      refine ⟨_, _, hD10, ?_⟩
      clear hD10
      refine ⟨(show 0 = 0 ∨ 0 = 1 by first | omega | (simp [upS, hz, za1, z1a1, ca1]; done) | (simp [upS, hz, za1, z1a1, ca1]; omega)), ?_⟩
      all_goals rfl
    refine ⟨_, _, hD11, ?_⟩
    clear hD11
    rw [if_pos (show (0 : Int) = 0 by first | omega | (simp [upS, hz, za1, z1a1, ca1]; done) | (simp [upS, hz, za1, z1a1, ca1]; omega))]
    refine b278_15 ?_
    refine b278_31 ?_
    have hD12 : Dd 245 [(.inr (.inr (some 682))), (.inl 1)] σ (.inl (some (.inl 0)), (upS σ 682 0 1)) := by
      refine b245 ?_
      try rw [if_neg (show ¬ ((1 : Int) = 0) by first | omega | (simp [upS, hz, za1, z1a1, ca1]; done) | (simp [upS, hz, za1, z1a1, ca1]; omega))]
      all_goals rfl
    refine ⟨_, _, hD12, ?_⟩
    clear hD12
    rw [if_pos (show (0 : Int) = 0 by first | omega | (simp [upS, hz, za1, z1a1, ca1]; done) | (simp [upS, hz, za1, z1a1, ca1]; omega))]
    all_goals rfl
  refine ⟨_, _, _, _, hA, hB, ?_, ?_, ?_, ?_, ?_⟩
  · (first | rfl | (simp [upS, SCR, hz, za1, z1a1, ca1]; done) | (simp [upS, SCR, hz, za1, z1a1, ca1]; omega))
  · first | (intro h9; omega) | (intro _; first | rfl | (simp [upS, SCR, hz, za1, z1a1, ca1]; done) | (simp [upS, SCR, hz, za1, z1a1, ca1]; omega))
  · intro i; first | rfl | (unfold upS SCR; (repeat' split) <;> first | rfl | omega)
  · first | rfl | (unfold upS SCR; (repeat' split) <;> first | rfl | omega)
  · first | rfl | (unfold upS SCR; (repeat' split) <;> first | rfl | omega)
theorem q7_4 {σ : Sg} {a1 : Int} {a2 : Int} {a3 : Int} (hz : ∀ a i, a < 1000 → σ a i = 0) (h0 : 0 ≤ a1 ∧ a1 < 4) (h1 : 0 ≤ a2 ∧ a2 < 4) (h2 : a3 < 0) : ∃ (kx b : Int) (s1 s2 : Sg), Dd 397 [(.inr (.inr (some 0))), (.inl a1), (.inl a2), (.inl a3), (.inr (.inr (some 726)))] σ (.inl (some (.inl kx)), s1) ∧ Dd 278 [(.inr (.inr (some 682))), (.inl a1), (.inl a2), (.inl a3)] s1 (.inl (some (.inl b)), s2) ∧ s2 682 0 = kx ∧ (kx = 0 → s2 726 0 = b) ∧ (∀ i, s1 SCR i = σ SCR i) ∧ s1 (SCR + 1) 0 = σ (SCR + 1) 0 ∧ s2 (SCR + 1) 0 = σ (SCR + 1) 0 := by
  have za1 : ∀ i, σ (2 + 2 * ((a1)).toNat) i = 0 := fun i => hz _ i (by omega)
  have z1a1 : ∀ i, σ ((2 + 2 * ((a1)).toNat) + 1) i = 0 := fun i => hz _ i (by omega)
  have ca1 : (cap (2 + 2 * ((a1)).toNat) : Int) = 16 := cp_1 (by omega)
  have za2 : ∀ i, σ (2 + 2 * ((a2)).toNat) i = 0 := fun i => hz _ i (by omega)
  have z1a2 : ∀ i, σ ((2 + 2 * ((a2)).toNat) + 1) i = 0 := fun i => hz _ i (by omega)
  have ca2 : (cap (2 + 2 * ((a2)).toNat) : Int) = 16 := cp_1 (by omega)
  have hA : Dd 397 [(.inr (.inr (some 0))), (.inl a1), (.inl a2), (.inl a3), (.inr (.inr (some 726)))] σ (.inl (some (.inl 2)), σ) := by
    refine b397 ?_
    have hD8 : Dd 179 [(.inr (.inr (some 0))), (.inl a1), (.inl a2), (.inl a3)] σ (.inr 1, σ) := by
      refine b179 ?_
      have hD3 : Dd 227 [(.inr (.inr (some 0))), (.inl a1)] σ (.inl (some (.inr (.inr (some (2 + 2 * ((a1)).toNat))))), σ) := by
        refine b227 ?_
        have hD1 : Dd 145 [(.inr (.inr (some 1))), (.inl a1)] σ (.inl (some (.inr (.inr (some (2 + 2 * ((a1)).toNat))))), σ) := by
          refine b145 ?_
          rw [if_pos (show (0 : Int) ≤ a1 by first | omega | (simp [upS, hz, za1, z1a1, ca1, za2, z1a2, ca2]; done) | (simp [upS, hz, za1, z1a1, ca1, za2, z1a2, ca2]; omega))]
          refine ⟨4, (by decide +kernel), (by decide), ?_⟩
          rw [if_pos (show a1 < ((4 : Nat) : Int) by first | omega | (simp [upS, hz, za1, z1a1, ca1, za2, z1a2, ca2]; done) | (simp [upS, hz, za1, z1a1, ca1, za2, z1a2, ca2]; omega))]
          refine ⟨(show 0 ≤ a1 by first | omega | (simp [upS, hz, za1, z1a1, ca1, za2, z1a2, ca2]; done) | (simp [upS, hz, za1, z1a1, ca1, za2, z1a2, ca2]; omega)), ?_⟩
          refine ⟨(2 + 2 * ((a1)).toNat), (el_1 (i := (a1)) (by first | omega | (simp [upS, hz, za1, z1a1, ca1, za2, z1a2, ca2]; done) | (simp [upS, hz, za1, z1a1, ca1, za2, z1a2, ca2]; omega))).1, (el_1 (i := (a1)) (by first | omega | (simp [upS, hz, za1, z1a1, ca1, za2, z1a2, ca2]; done) | (simp [upS, hz, za1, z1a1, ca1, za2, z1a2, ca2]; omega))).2, ?_⟩
          all_goals rfl
        refine ⟨_, _, hD1, ?_⟩
        clear hD1
        refine ⟨fun hz2 => (by cases hz2), fun _ hz2 => ?_⟩
        cases hz2
        refine ⟨(el_1 (i := (a1)) (by first | omega | (simp [upS, hz, za1, z1a1, ca1, za2, z1a2, ca2]; done) | (simp [upS, hz, za1, z1a1, ca1, za2, z1a2, ca2]; omega))).2, ?_⟩
        all_goals rfl
      refine Or.inl ⟨_, _, hD3, (el_1 (i := (a1)) (by first | omega | (simp [upS, hz, za1, z1a1, ca1, za2, z1a2, ca2]; done) | (simp [upS, hz, za1, z1a1, ca1, za2, z1a2, ca2]; omega))).2, ?_⟩
      clear hD3
      have hD6 : Dd 227 [(.inr (.inr (some 0))), (.inl a2)] σ (.inl (some (.inr (.inr (some (2 + 2 * ((a2)).toNat))))), σ) := by
        refine b227 ?_
        have hD4 : Dd 145 [(.inr (.inr (some 1))), (.inl a2)] σ (.inl (some (.inr (.inr (some (2 + 2 * ((a2)).toNat))))), σ) := by
          refine b145 ?_
          rw [if_pos (show (0 : Int) ≤ a2 by first | omega | (simp [upS, hz, za1, z1a1, ca1, za2, z1a2, ca2]; done) | (simp [upS, hz, za1, z1a1, ca1, za2, z1a2, ca2]; omega))]
          refine ⟨4, (by decide +kernel), (by decide), ?_⟩
          rw [if_pos (show a2 < ((4 : Nat) : Int) by first | omega | (simp [upS, hz, za1, z1a1, ca1, za2, z1a2, ca2]; done) | (simp [upS, hz, za1, z1a1, ca1, za2, z1a2, ca2]; omega))]
          refine ⟨(show 0 ≤ a2 by first | omega | (simp [upS, hz, za1, z1a1, ca1, za2, z1a2, ca2]; done) | (simp [upS, hz, za1, z1a1, ca1, za2, z1a2, ca2]; omega)), ?_⟩
          refine ⟨(2 + 2 * ((a2)).toNat), (el_1 (i := (a2)) (by first | omega | (simp [upS, hz, za1, z1a1, ca1, za2, z1a2, ca2]; done) | (simp [upS, hz, za1, z1a1, ca1, za2, z1a2, ca2]; omega))).1, (el_1 (i := (a2)) (by first | omega | (simp [upS, hz, za1, z1a1, ca1, za2, z1a2, ca2]; done) | (simp [upS, hz, za1, z1a1, ca1, za2, z1a2, ca2]; omega))).2, ?_⟩
          all_goals rfl
        refine ⟨_, _, hD4, ?_⟩
        clear hD4
        refine ⟨fun hz5 => (by cases hz5), fun _ hz5 => ?_⟩
        cases hz5
        refine ⟨(el_1 (i := (a2)) (by first | omega | (simp [upS, hz, za1, z1a1, ca1, za2, z1a2, ca2]; done) | (simp [upS, hz, za1, z1a1, ca1, za2, z1a2, ca2]; omega))).2, ?_⟩
        all_goals rfl
      refine Or.inl ⟨_, _, hD6, (el_1 (i := (a2)) (by first | omega | (simp [upS, hz, za1, z1a1, ca1, za2, z1a2, ca2]; done) | (simp [upS, hz, za1, z1a1, ca1, za2, z1a2, ca2]; omega))).2, ?_⟩
      clear hD6
      have hD7 : Dd 236 [(.inr (.inr (some 0))), (.inl a3)] σ (.inr 1, σ) := by
        refine b236 ?_
        rw [if_neg (show ¬ (a3 = 0) by first | omega | (simp [upS, hz, za1, z1a1, ca1, za2, z1a2, ca2]; done) | (simp [upS, hz, za1, z1a1, ca1, za2, z1a2, ca2]; omega))]
        rw [if_neg (show ¬ (a3 = 1) by first | omega | (simp [upS, hz, za1, z1a1, ca1, za2, z1a2, ca2]; done) | (simp [upS, hz, za1, z1a1, ca1, za2, z1a2, ca2]; omega))]
        rw [if_neg (show ¬ (a3 = 2) by first | omega | (simp [upS, hz, za1, z1a1, ca1, za2, z1a2, ca2]; done) | (simp [upS, hz, za1, z1a1, ca1, za2, z1a2, ca2]; omega))]
        all_goals rfl
      refine Or.inr ⟨_, _, hD7, ?_⟩
      all_goals rfl
    exact Or.inr (Or.inr (⟨_, hD8, rfl⟩))
  have hB : Dd 278 [(.inr (.inr (some 682))), (.inl a1), (.inl a2), (.inl a3)] σ (.inl (some (.inl 0)), (upS σ 682 0 2)) := by
    refine b278 ?_
    have hD10 : Dd 247 [(.inl a1)] σ (.inl (some (.inl 1)), σ) := by
      refine b247 ?_
      have hD9 : Dd 246 [(.inl a1), (.inl 4)] σ (.inl (some (.inl 1)), σ) := by
        refine b246 ?_
        try rw [if_pos (show (0 : Int) ≤ a1 by first | omega | (simp [upS, hz, za1, z1a1, ca1, za2, z1a2, ca2]; done) | (simp [upS, hz, za1, z1a1, ca1, za2, z1a2, ca2]; omega))]
        try rw [if_pos (show a1 < 4 by first | omega | (simp [upS, hz, za1, z1a1, ca1, za2, z1a2, ca2]; done) | (simp [upS, hz, za1, z1a1, ca1, za2, z1a2, ca2]; omega))]
        all_goals rfl
      refine ⟨_, _, hD9, ?_⟩
      clear hD9
      refine ⟨(show 1 = 0 ∨ 1 = 1 by first | omega | (simp [upS, hz, za1, z1a1, ca1, za2, z1a2, ca2]; done) | (simp [upS, hz, za1, z1a1, ca1, za2, z1a2, ca2]; omega)), ?_⟩
      all_goals rfl
    refine ⟨_, _, hD10, ?_⟩
    clear hD10
    rw [if_neg (show ¬ ((1 : Int) = 0) by first | omega | (simp [upS, hz, za1, z1a1, ca1, za2, z1a2, ca2]; done) | (simp [upS, hz, za1, z1a1, ca1, za2, z1a2, ca2]; omega))]
    have hD12 : Dd 247 [(.inl a2)] σ (.inl (some (.inl 1)), σ) := by
      refine b247 ?_
      have hD11 : Dd 246 [(.inl a2), (.inl 4)] σ (.inl (some (.inl 1)), σ) := by
        refine b246 ?_
        try rw [if_pos (show (0 : Int) ≤ a2 by first | omega | (simp [upS, hz, za1, z1a1, ca1, za2, z1a2, ca2]; done) | (simp [upS, hz, za1, z1a1, ca1, za2, z1a2, ca2]; omega))]
        try rw [if_pos (show a2 < 4 by first | omega | (simp [upS, hz, za1, z1a1, ca1, za2, z1a2, ca2]; done) | (simp [upS, hz, za1, z1a1, ca1, za2, z1a2, ca2]; omega))]
        all_goals rfl
      refine ⟨_, _, hD11, ?_⟩
      clear hD11
      refine ⟨(show 1 = 0 ∨ 1 = 1 by first | omega | (simp [upS, hz, za1, z1a1, ca1, za2, z1a2, ca2]; done) | (simp [upS, hz, za1, z1a1, ca1, za2, z1a2, ca2]; omega)), ?_⟩
      all_goals rfl
    refine ⟨_, _, hD12, ?_⟩
    clear hD12
    rw [if_neg (show ¬ ((1 : Int) = 0) by first | omega | (simp [upS, hz, za1, z1a1, ca1, za2, z1a2, ca2]; done) | (simp [upS, hz, za1, z1a1, ca1, za2, z1a2, ca2]; omega))]
    have hD14 : Dd 275 [(.inl a3)] σ (.inl (some (.inl 0)), σ) := by
      refine b275 ?_
      have hD13 : Dd 246 [(.inl a3), (.inl 3)] σ (.inl (some (.inl 0)), σ) := by
        refine b246 ?_
        try rw [if_neg (show ¬ ((0 : Int) ≤ a3) by first | omega | (simp [upS, hz, za1, z1a1, ca1, za2, z1a2, ca2]; done) | (simp [upS, hz, za1, z1a1, ca1, za2, z1a2, ca2]; omega))]
        all_goals rfl
      refine ⟨_, _, hD13, ?_⟩
      clear hD13
      refine ⟨(show 0 = 0 ∨ 0 = 1 by first | omega | (simp [upS, hz, za1, z1a1, ca1, za2, z1a2, ca2]; done) | (simp [upS, hz, za1, z1a1, ca1, za2, z1a2, ca2]; omega)), ?_⟩
      all_goals rfl
    refine ⟨_, _, hD14, ?_⟩
    clear hD14
    try rw [if_pos (show (0 : Int) = 0 by first | omega | (simp [upS, hz, za1, z1a1, ca1, za2, z1a2, ca2]; done) | (simp [upS, hz, za1, z1a1, ca1, za2, z1a2, ca2]; omega))]
    refine b278_31 ?_
    have hD15 : Dd 245 [(.inr (.inr (some 682))), (.inl 2)] σ (.inl (some (.inl 0)), (upS σ 682 0 2)) := by
      refine b245 ?_
      try rw [if_neg (show ¬ ((2 : Int) = 0) by first | omega | (simp [upS, hz, za1, z1a1, ca1, za2, z1a2, ca2]; done) | (simp [upS, hz, za1, z1a1, ca1, za2, z1a2, ca2]; omega))]
      all_goals rfl
    refine ⟨_, _, hD15, ?_⟩
    clear hD15
    rw [if_pos (show (0 : Int) = 0 by first | omega | (simp [upS, hz, za1, z1a1, ca1, za2, z1a2, ca2]; done) | (simp [upS, hz, za1, z1a1, ca1, za2, z1a2, ca2]; omega))]
    all_goals rfl
  refine ⟨_, _, _, _, hA, hB, ?_, ?_, ?_, ?_, ?_⟩
  · (first | rfl | (simp [upS, SCR, hz, za1, z1a1, ca1, za2, z1a2, ca2]; done) | (simp [upS, SCR, hz, za1, z1a1, ca1, za2, z1a2, ca2]; omega))
  · first | (intro h9; omega) | (intro _; first | rfl | (simp [upS, SCR, hz, za1, z1a1, ca1, za2, z1a2, ca2]; done) | (simp [upS, SCR, hz, za1, z1a1, ca1, za2, z1a2, ca2]; omega))
  · intro i; first | rfl | (unfold upS SCR; (repeat' split) <;> first | rfl | omega)
  · first | rfl | (unfold upS SCR; (repeat' split) <;> first | rfl | omega)
  · first | rfl | (unfold upS SCR; (repeat' split) <;> first | rfl | omega)
theorem q7_5 {σ : Sg} {a1 : Int} {a2 : Int} {a3 : Int} (hz : ∀ a i, a < 1000 → σ a i = 0) (h0 : 0 ≤ a1 ∧ a1 < 4) (h1 : 0 ≤ a2 ∧ a2 < 4) (h2 : 2 < a3) : ∃ (kx b : Int) (s1 s2 : Sg), Dd 397 [(.inr (.inr (some 0))), (.inl a1), (.inl a2), (.inl a3), (.inr (.inr (some 726)))] σ (.inl (some (.inl kx)), s1) ∧ Dd 278 [(.inr (.inr (some 682))), (.inl a1), (.inl a2), (.inl a3)] s1 (.inl (some (.inl b)), s2) ∧ s2 682 0 = kx ∧ (kx = 0 → s2 726 0 = b) ∧ (∀ i, s1 SCR i = σ SCR i) ∧ s1 (SCR + 1) 0 = σ (SCR + 1) 0 ∧ s2 (SCR + 1) 0 = σ (SCR + 1) 0 := by
  have za1 : ∀ i, σ (2 + 2 * ((a1)).toNat) i = 0 := fun i => hz _ i (by omega)
  have z1a1 : ∀ i, σ ((2 + 2 * ((a1)).toNat) + 1) i = 0 := fun i => hz _ i (by omega)
  have ca1 : (cap (2 + 2 * ((a1)).toNat) : Int) = 16 := cp_1 (by omega)
  have za2 : ∀ i, σ (2 + 2 * ((a2)).toNat) i = 0 := fun i => hz _ i (by omega)
  have z1a2 : ∀ i, σ ((2 + 2 * ((a2)).toNat) + 1) i = 0 := fun i => hz _ i (by omega)
  have ca2 : (cap (2 + 2 * ((a2)).toNat) : Int) = 16 := cp_1 (by omega)
  have hA : Dd 397 [(.inr (.inr (some 0))), (.inl a1), (.inl a2), (.inl a3), (.inr (.inr (some 726)))] σ (.inl (some (.inl 2)), σ) := by
    refine b397 ?_
    have hD8 : Dd 179 [(.inr (.inr (some 0))), (.inl a1), (.inl a2), (.inl a3)] σ (.inr 1, σ) := by
      refine b179 ?_
      have hD3 : Dd 227 [(.inr (.inr (some 0))), (.inl a1)] σ (.inl (some (.inr (.inr (some (2 + 2 * ((a1)).toNat))))), σ) := by
        refine b227 ?_
        have hD1 : Dd 145 [(.inr (.inr (some 1))), (.inl a1)] σ (.inl (some (.inr (.inr (some (2 + 2 * ((a1)).toNat))))), σ) := by
          refine b145 ?_
          rw [if_pos (show (0 : Int) ≤ a1 by first | omega | (simp [upS, hz, za1, z1a1, ca1, za2, z1a2, ca2]; done) | (simp [upS, hz, za1, z1a1, ca1, za2, z1a2, ca2]; omega))]
          refine ⟨4, (by decide +kernel), (by decide), ?_⟩
          rw [if_pos (show a1 < ((4 : Nat) : Int) by first | omega | (simp [upS, hz, za1, z1a1, ca1, za2, z1a2, ca2]; done) | (simp [upS, hz, za1, z1a1, ca1, za2, z1a2, ca2]; omega))]
          refine ⟨(show 0 ≤ a1 by first | omega | (simp [upS, hz, za1, z1a1, ca1, za2, z1a2, ca2]; done) | (simp [upS, hz, za1, z1a1, ca1, za2, z1a2, ca2]; omega)), ?_⟩
          refine ⟨(2 + 2 * ((a1)).toNat), (el_1 (i := (a1)) (by first | omega | (simp [upS, hz, za1, z1a1, ca1, za2, z1a2, ca2]; done) | (simp [upS, hz, za1, z1a1, ca1, za2, z1a2, ca2]; omega))).1, (el_1 (i := (a1)) (by first | omega | (simp [upS, hz, za1, z1a1, ca1, za2, z1a2, ca2]; done) | (simp [upS, hz, za1, z1a1, ca1, za2, z1a2, ca2]; omega))).2, ?_⟩
          all_goals rfl
        refine ⟨_, _, hD1, ?_⟩
        clear hD1
        refine ⟨fun hz2 => (by cases hz2), fun _ hz2 => ?_⟩
        cases hz2
        refine ⟨(el_1 (i := (a1)) (by first | omega | (simp [upS, hz, za1, z1a1, ca1, za2, z1a2, ca2]; done) | (simp [upS, hz, za1, z1a1, ca1, za2, z1a2, ca2]; omega))).2, ?_⟩
        all_goals rfl
      refine Or.inl ⟨_, _, hD3, (el_1 (i := (a1)) (by first | omega | (simp [upS, hz, za1, z1a1, ca1, za2, z1a2, ca2]; done) | (simp [upS, hz, za1, z1a1, ca1, za2, z1a2, ca2]; omega))).2, ?_⟩
      clear hD3
      have hD6 : Dd 227 [(.inr (.inr (some 0))), (.inl a2)] σ (.inl (some (.inr (.inr (some (2 + 2 * ((a2)).toNat))))), σ) := by
        refine b227 ?_
        have hD4 : Dd 145 [(.inr (.inr (some 1))), (.inl a2)] σ (.inl (some (.inr (.inr (some (2 + 2 * ((a2)).toNat))))), σ) := by
          refine b145 ?_
          rw [if_pos (show (0 : Int) ≤ a2 by first | omega | (simp [upS, hz, za1, z1a1, ca1, za2, z1a2, ca2]; done) | (simp [upS, hz, za1, z1a1, ca1, za2, z1a2, ca2]; omega))]
          refine ⟨4, (by decide +kernel), (by decide), ?_⟩
          rw [if_pos (show a2 < ((4 : Nat) : Int) by first | omega | (simp [upS, hz, za1, z1a1, ca1, za2, z1a2, ca2]; done) | (simp [upS, hz, za1, z1a1, ca1, za2, z1a2, ca2]; omega))]
          refine ⟨(show 0 ≤ a2 by first | omega | (simp [upS, hz, za1, z1a1, ca1, za2, z1a2, ca2]; done) | (simp [upS, hz, za1, z1a1, ca1, za2, z1a2, ca2]; omega)), ?_⟩
          refine ⟨(2 + 2 * ((a2)).toNat), (el_1 (i := (a2)) (by first | omega | (simp [upS, hz, za1, z1a1, ca1, za2, z1a2, ca2]; done) | (simp [upS, hz, za1, z1a1, ca1, za2, z1a2, ca2]; omega))).1, (el_1 (i := (a2)) (by first | omega | (simp [upS, hz, za1, z1a1, ca1, za2, z1a2, ca2]; done) | (simp [upS, hz, za1, z1a1, ca1, za2, z1a2, ca2]; omega))).2, ?_⟩
          all_goals rfl
        refine ⟨_, _, hD4, ?_⟩
        clear hD4
        refine ⟨fun hz5 => (by cases hz5), fun _ hz5 => ?_⟩
        cases hz5
        refine ⟨(el_1 (i := (a2)) (by first | omega | (simp [upS, hz, za1, z1a1, ca1, za2, z1a2, ca2]; done) | (simp [upS, hz, za1, z1a1, ca1, za2, z1a2, ca2]; omega))).2, ?_⟩
        all_goals rfl
      refine Or.inl ⟨_, _, hD6, (el_1 (i := (a2)) (by first | omega | (simp [upS, hz, za1, z1a1, ca1, za2, z1a2, ca2]; done) | (simp [upS, hz, za1, z1a1, ca1, za2, z1a2, ca2]; omega))).2, ?_⟩
      clear hD6
      have hD7 : Dd 236 [(.inr (.inr (some 0))), (.inl a3)] σ (.inr 1, σ) := by
        refine b236 ?_
        rw [if_neg (show ¬ (a3 = 0) by first | omega | (simp [upS, hz, za1, z1a1, ca1, za2, z1a2, ca2]; done) | (simp [upS, hz, za1, z1a1, ca1, za2, z1a2, ca2]; omega))]
        rw [if_neg (show ¬ (a3 = 1) by first | omega | (simp [upS, hz, za1, z1a1, ca1, za2, z1a2, ca2]; done) | (simp [upS, hz, za1, z1a1, ca1, za2, z1a2, ca2]; omega))]
        rw [if_neg (show ¬ (a3 = 2) by first | omega | (simp [upS, hz, za1, z1a1, ca1, za2, z1a2, ca2]; done) | (simp [upS, hz, za1, z1a1, ca1, za2, z1a2, ca2]; omega))]
        all_goals rfl
      refine Or.inr ⟨_, _, hD7, ?_⟩
      all_goals rfl
    exact Or.inr (Or.inr (⟨_, hD8, rfl⟩))
  have hB : Dd 278 [(.inr (.inr (some 682))), (.inl a1), (.inl a2), (.inl a3)] σ (.inl (some (.inl 0)), (upS σ 682 0 2)) := by
    refine b278 ?_
    have hD10 : Dd 247 [(.inl a1)] σ (.inl (some (.inl 1)), σ) := by
      refine b247 ?_
      have hD9 : Dd 246 [(.inl a1), (.inl 4)] σ (.inl (some (.inl 1)), σ) := by
        refine b246 ?_
        try rw [if_pos (show (0 : Int) ≤ a1 by first | omega | (simp [upS, hz, za1, z1a1, ca1, za2, z1a2, ca2]; done) | (simp [upS, hz, za1, z1a1, ca1, za2, z1a2, ca2]; omega))]
        try rw [if_pos (show a1 < 4 by first | omega | (simp [upS, hz, za1, z1a1, ca1, za2, z1a2, ca2]; done) | (simp [upS, hz, za1, z1a1, ca1, za2, z1a2, ca2]; omega))]
        all_goals rfl
      refine ⟨_, _, hD9, ?_⟩
      clear hD9
      refine ⟨(show 1 = 0 ∨ 1 = 1 by first | omega | (simp [upS, hz, za1, z1a1, ca1, za2, z1a2, ca2]; done) | (simp [upS, hz, za1, z1a1, ca1, za2, z1a2, ca2]; omega)), ?_⟩
      all_goals rfl
    refine ⟨_, _, hD10, ?_⟩
    clear hD10
    rw [if_neg (show ¬ ((1 : Int) = 0) by first | omega | (simp [upS, hz, za1, z1a1, ca1, za2, z1a2, ca2]; done) | (simp [upS, hz, za1, z1a1, ca1, za2, z1a2, ca2]; omega))]
    have hD12 : Dd 247 [(.inl a2)] σ (.inl (some (.inl 1)), σ) := by
      refine b247 ?_
      have hD11 : Dd 246 [(.inl a2), (.inl 4)] σ (.inl (some (.inl 1)), σ) := by
        refine b246 ?_
        try rw [if_pos (show (0 : Int) ≤ a2 by first | omega | (simp [upS, hz, za1, z1a1, ca1, za2, z1a2, ca2]; done) | (simp [upS, hz, za1, z1a1, ca1, za2, z1a2, ca2]; omega))]
        try rw [if_pos (show a2 < 4 by first | omega | (simp [upS, hz, za1, z1a1, ca1, za2, z1a2, ca2]; done) | (simp [upS, hz, za1, z1a1, ca1, za2, z1a2, ca2]; omega))]
        all_goals rfl
      refine ⟨_, _, hD11, ?_⟩
      clear hD11
      refine ⟨(show 1 = 0 ∨ 1 = 1 by first | omega | (simp [upS, hz, za1, z1a1, ca1, za2, z1a2, ca2]; done) | (simp [upS, hz, za1, z1a1, ca1, za2, z1a2, ca2]; omega)), ?_⟩
      all_goals rfl
    refine ⟨_, _, hD12, ?_⟩
    clear hD12
    rw [if_neg (show ¬ ((1 : Int) = 0) by first | omega | (simp [upS, hz, za1, z1a1, ca1, za2, z1a2, ca2]; done) | (simp [upS, hz, za1, z1a1, ca1, za2, z1a2, ca2]; omega))]
    have hD14 : Dd 275 [(.inl a3)] σ (.inl (some (.inl 0)), σ) := by
      refine b275 ?_
      have hD13 : Dd 246 [(.inl a3), (.inl 3)] σ (.inl (some (.inl 0)), σ) := by
        refine b246 ?_
        try rw [if_pos (show (0 : Int) ≤ a3 by first | omega | (simp [upS, hz, za1, z1a1, ca1, za2, z1a2, ca2]; done) | (simp [upS, hz, za1, z1a1, ca1, za2, z1a2, ca2]; omega))]
        try rw [if_neg (show ¬ (a3 < 3) by first | omega | (simp [upS, hz, za1, z1a1, ca1, za2, z1a2, ca2]; done) | (simp [upS, hz, za1, z1a1, ca1, za2, z1a2, ca2]; omega))]
        all_goals rfl
      refine ⟨_, _, hD13, ?_⟩
      clear hD13
      refine ⟨(show 0 = 0 ∨ 0 = 1 by first | omega | (simp [upS, hz, za1, z1a1, ca1, za2, z1a2, ca2]; done) | (simp [upS, hz, za1, z1a1, ca1, za2, z1a2, ca2]; omega)), ?_⟩
      all_goals rfl
    refine ⟨_, _, hD14, ?_⟩
    clear hD14
    try rw [if_pos (show (0 : Int) = 0 by first | omega | (simp [upS, hz, za1, z1a1, ca1, za2, z1a2, ca2]; done) | (simp [upS, hz, za1, z1a1, ca1, za2, z1a2, ca2]; omega))]
    refine b278_31 ?_
    have hD15 : Dd 245 [(.inr (.inr (some 682))), (.inl 2)] σ (.inl (some (.inl 0)), (upS σ 682 0 2)) := by
      refine b245 ?_
      try rw [if_neg (show ¬ ((2 : Int) = 0) by first | omega | (simp [upS, hz, za1, z1a1, ca1, za2, z1a2, ca2]; done) | (simp [upS, hz, za1, z1a1, ca1, za2, z1a2, ca2]; omega))]
      all_goals rfl
    refine ⟨_, _, hD15, ?_⟩
    clear hD15
    rw [if_pos (show (0 : Int) = 0 by first | omega | (simp [upS, hz, za1, z1a1, ca1, za2, z1a2, ca2]; done) | (simp [upS, hz, za1, z1a1, ca1, za2, z1a2, ca2]; omega))]
    all_goals rfl
  refine ⟨_, _, _, _, hA, hB, ?_, ?_, ?_, ?_, ?_⟩
  · (first | rfl | (simp [upS, SCR, hz, za1, z1a1, ca1, za2, z1a2, ca2]; done) | (simp [upS, SCR, hz, za1, z1a1, ca1, za2, z1a2, ca2]; omega))
  · first | (intro h9; omega) | (intro _; first | rfl | (simp [upS, SCR, hz, za1, z1a1, ca1, za2, z1a2, ca2]; done) | (simp [upS, SCR, hz, za1, z1a1, ca1, za2, z1a2, ca2]; omega))
  · intro i; first | rfl | (unfold upS SCR; (repeat' split) <;> first | rfl | omega)
  · first | rfl | (unfold upS SCR; (repeat' split) <;> first | rfl | omega)
  · first | rfl | (unfold upS SCR; (repeat' split) <;> first | rfl | omega)
theorem q7_6 {σ : Sg} {a1 : Int} {a2 : Int} {a3 : Int} (hz : ∀ a i, a < 1000 → σ a i = 0) (h0 : 0 ≤ a1 ∧ a1 < 4) (h1 : 0 ≤ a2 ∧ a2 < 4) (h2 : a3 = 0) : ∃ (kx b : Int) (s1 s2 : Sg), Dd 397 [(.inr (.inr (some 0))), (.inl a1), (.inl a2), (.inl a3), (.inr (.inr (some 726)))] σ (.inl (some (.inl kx)), s1) ∧ Dd 278 [(.inr (.inr (some 682))), (.inl a1), (.inl a2), (.inl a3)] s1 (.inl (some (.inl b)), s2) ∧ s2 682 0 = kx ∧ (kx = 0 → s2 726 0 = b) ∧ (∀ i, s1 SCR i = σ SCR i) ∧ s1 (SCR + 1) 0 = σ (SCR + 1) 0 ∧ s2 (SCR + 1) 0 = σ (SCR + 1) 0 := by
  have za1 : ∀ i, σ (2 + 2 * ((a1)).toNat) i = 0 := fun i => hz _ i (by omega)
  have z1a1 : ∀ i, σ ((2 + 2 * ((a1)).toNat) + 1) i = 0 := fun i => hz _ i (by omega)
  have ca1 : (cap (2 + 2 * ((a1)).toNat) : Int) = 16 := cp_1 (by omega)
  have za2 : ∀ i, σ (2 + 2 * ((a2)).toNat) i = 0 := fun i => hz _ i (by omega)
  have z1a2 : ∀ i, σ ((2 + 2 * ((a2)).toNat) + 1) i = 0 := fun i => hz _ i (by omega)
  have ca2 : (cap (2 + 2 * ((a2)).toNat) : Int) = 16 := cp_1 (by omega)
  have hA : Dd 397 [(.inr (.inr (some 0))), (.inl a1), (.inl a2), (.inl a3), (.inr (.inr (some 726)))] σ (.inl (some (.inl 0)), (upS (upS (upS (upS (upS σ 333 1 0) 335 1 0) 337 1 0) 343 1 0) 726 0 0)) := by
    refine b397 ?_
    have hD22 : Dd 179 [(.inr (.inr (some 0))), (.inl a1), (.inl a2), (.inl a3)] σ (.inl (some (.inl 0)), (upS (upS (upS (upS σ 333 1 0) 335 1 0) 337 1 0) 343 1 0)) := by
      refine b179 ?_
      have hD3 : Dd 227 [(.inr (.inr (some 0))), (.inl a1)] σ (.inl (some (.inr (.inr (some (2 + 2 * ((a1)).toNat))))), σ) := by
        refine b227 ?_
        have hD1 : Dd 145 [(.inr (.inr (some 1))), (.inl a1)] σ (.inl (some (.inr (.inr (some (2 + 2 * ((a1)).toNat))))), σ) := by
          refine b145 ?_
          rw [if_pos (show (0 : Int) ≤ a1 by first | omega | (simp [upS, hz, za1, z1a1, ca1, za2, z1a2, ca2]; done) | (simp [upS, hz, za1, z1a1, ca1, za2, z1a2, ca2]; omega))]
          refine ⟨4, (by decide +kernel), (by decide), ?_⟩
          rw [if_pos (show a1 < ((4 : Nat) : Int) by first | omega | (simp [upS, hz, za1, z1a1, ca1, za2, z1a2, ca2]; done) | (simp [upS, hz, za1, z1a1, ca1, za2, z1a2, ca2]; omega))]
          refine ⟨(show 0 ≤ a1 by first | omega | (simp [upS, hz, za1, z1a1, ca1, za2, z1a2, ca2]; done) | (simp [upS, hz, za1, z1a1, ca1, za2, z1a2, ca2]; omega)), ?_⟩
          refine ⟨(2 + 2 * ((a1)).toNat), (el_1 (i := (a1)) (by first | omega | (simp [upS, hz, za1, z1a1, ca1, za2, z1a2, ca2]; done) | (simp [upS, hz, za1, z1a1, ca1, za2, z1a2, ca2]; omega))).1, (el_1 (i := (a1)) (by first | omega | (simp [upS, hz, za1, z1a1, ca1, za2, z1a2, ca2]; done) | (simp [upS, hz, za1, z1a1, ca1, za2, z1a2, ca2]; omega))).2, ?_⟩
          all_goals rfl
        refine ⟨_, _, hD1, ?_⟩
        clear hD1
        refine ⟨fun hz2 => (by cases hz2), fun _ hz2 => ?_⟩
        cases hz2
        refine ⟨(el_1 (i := (a1)) (by first | omega | (simp [upS, hz, za1, z1a1, ca1, za2, z1a2, ca2]; done) | (simp [upS, hz, za1, z1a1, ca1, za2, z1a2, ca2]; omega))).2, ?_⟩
        all_goals rfl
      refine Or.inl ⟨_, _, hD3, (el_1 (i := (a1)) (by first | omega | (simp [upS, hz, za1, z1a1, ca1, za2, z1a2, ca2]; done) | (simp [upS, hz, za1, z1a1, ca1, za2, z1a2, ca2]; omega))).2, ?_⟩
      clear hD3
      have hD6 : Dd 227 [(.inr (.inr (some 0))), (.inl a2)] σ (.inl (some (.inr (.inr (some (2 + 2 * ((a2)).toNat))))), σ) := by
        refine b227 ?_
        have hD4 : Dd 145 [(.inr (.inr (some 1))), (.inl a2)] σ (.inl (some (.inr (.inr (some (2 + 2 * ((a2)).toNat))))), σ) := by
          refine b145 ?_
          rw [if_pos (show (0 : Int) ≤ a2 by first | omega | (simp [upS, hz, za1, z1a1, ca1, za2, z1a2, ca2]; done) | (simp [upS, hz, za1, z1a1, ca1, za2, z1a2, ca2]; omega))]
          refine ⟨4, (by decide +kernel), (by decide), ?_⟩
          rw [if_pos (show a2 < ((4 : Nat) : Int) by first | omega | (simp [upS, hz, za1, z1a1, ca1, za2, z1a2, ca2]; done) | (simp [upS, hz, za1, z1a1, ca1, za2, z1a2, ca2]; omega))]
          refine ⟨(show 0 ≤ a2 by first | omega | (simp [upS, hz, za1, z1a1, ca1, za2, z1a2, ca2]; done) | (simp [upS, hz, za1, z1a1, ca1, za2, z1a2, ca2]; omega)), ?_⟩
          refine ⟨(2 + 2 * ((a2)).toNat), (el_1 (i := (a2)) (by first | omega | (simp [upS, hz, za1, z1a1, ca1, za2, z1a2, ca2]; done) | (simp [upS, hz, za1, z1a1, ca1, za2, z1a2, ca2]; omega))).1, (el_1 (i := (a2)) (by first | omega | (simp [upS, hz, za1, z1a1, ca1, za2, z1a2, ca2]; done) | (simp [upS, hz, za1, z1a1, ca1, za2, z1a2, ca2]; omega))).2, ?_⟩
          all_goals rfl
        refine ⟨_, _, hD4, ?_⟩
        clear hD4
        refine ⟨fun hz5 => (by cases hz5), fun _ hz5 => ?_⟩
        cases hz5
        refine ⟨(el_1 (i := (a2)) (by first | omega | (simp [upS, hz, za1, z1a1, ca1, za2, z1a2, ca2]; done) | (simp [upS, hz, za1, z1a1, ca1, za2, z1a2, ca2]; omega))).2, ?_⟩
        all_goals rfl
      refine Or.inl ⟨_, _, hD6, (el_1 (i := (a2)) (by first | omega | (simp [upS, hz, za1, z1a1, ca1, za2, z1a2, ca2]; done) | (simp [upS, hz, za1, z1a1, ca1, za2, z1a2, ca2]; omega))).2, ?_⟩
      clear hD6
      have hD7 : Dd 236 [(.inr (.inr (some 0))), (.inl a3)] σ (.inl none, σ) := by
        refine b236 ?_
        rw [if_pos (show a3 = 0 by first | omega | (simp [upS, hz, za1, z1a1, ca1, za2, z1a2, ca2]; done) | (simp [upS, hz, za1, z1a1, ca1, za2, z1a2, ca2]; omega))]
        all_goals rfl
      refine Or.inl ⟨_, hD7, ?_⟩
      clear hD7
      have hD18 : Dd 15 [(.inr (.inr (some 332))), (.inr (.inr (some (2 + 2 * ((a1)).toNat)))), (.inr (.inr (some (2 + 2 * ((a2)).toNat)))), (.inl a3)] σ (.inl (some (.inr (.inr (some 337)))), (upS (upS (upS (upS σ 333 1 0) 335 1 0) 337 1 0) 343 1 0)) := by
        refine b15 ?_
        have hD13 : Dd 19 [(.inr (.inr (some 332))), (.inr (.inr (some (2 + 2 * ((a1)).toNat)))), (.inr (.inr (some (2 + 2 * ((a2)).toNat))))] σ (.inl none, (upS (upS (upS (upS σ 333 1 0) 335 1 0) 337 1 0) 343 1 0)) := by
          refine b19 ?_
          have hD8 : Dd 155 [(.inr (.inr (some 333))), (.inr (.inr (some (2 + 2 * ((a1)).toNat))))] σ (.inl none, (upS σ 333 1 0)) := by
            refine b155 (el_1 (i := (a1)) (by first | omega | (simp [upS, hz, za1, z1a1, ca1, za2, z1a2, ca2]; done) | (simp [upS, hz, za1, z1a1, ca1, za2, z1a2, ca2]; omega))).2 (by decide +kernel) ?_
            refine ⟨(show -2147483648 ≤ ((cap 333) : Int) ∧ ((cap 333) : Int) ≤ 2147483647 by have e333 : (cap 333 : Int) = 40 := (by decide +kernel); first | omega | (simp [upS, hz, za1, z1a1, ca1, za2, z1a2, ca2]; done) | (simp [upS, hz, za1, z1a1, ca1, za2, z1a2, ca2]; omega)), ?_⟩
            rw [(show (upS σ 333 1 (if ((cap 333) : Int) < (σ (2 + 2 * ((a1)).toNat) 1) then ((cap 333) : Int) else (σ (2 + 2 * ((a1)).toNat) 1))) = (upS σ 333 1 0) from by rw [show (if ((cap 333) : Int) < (σ (2 + 2 * ((a1)).toNat) 1) then ((cap 333) : Int) else (σ (2 + 2 * ((a1)).toNat) 1)) = 0 by (have e333 : (cap 333 : Int) = 40 := (by decide +kernel); first | omega | (simp [upS, hz, za1, z1a1, ca1, za2, z1a2, ca2]; done) | (simp [upS, hz, za1, z1a1, ca1, za2, z1a2, ca2]; omega))])]
            refine b155_18 (by decide +kernel) (el_1 (i := (a1)) (by first | omega | (simp [upS, hz, za1, z1a1, ca1, za2, z1a2, ca2]; done) | (simp [upS, hz, za1, z1a1, ca1, za2, z1a2, ca2]; omega))).2 ?_
            rw [if_neg (show ¬ ((0 : Int) < ((upS σ 333 1 0) 333 1)) by first | omega | (simp [upS, hz, za1, z1a1, ca1, za2, z1a2, ca2]; done) | (simp [upS, hz, za1, z1a1, ca1, za2, z1a2, ca2]; omega))]
            all_goals rfl
          refine ⟨_, hD8, ?_⟩
          clear hD8
          have hD9 : Dd 155 [(.inr (.inr (some 335))), (.inr (.inr (some (2 + 2 * ((a2)).toNat))))] (upS σ 333 1 0) (.inl none, (upS (upS σ 333 1 0) 335 1 0)) := by
            refine b155 (el_1 (i := (a2)) (by first | omega | (simp [upS, hz, za1, z1a1, ca1, za2, z1a2, ca2]; done) | (simp [upS, hz, za1, z1a1, ca1, za2, z1a2, ca2]; omega))).2 (by decide +kernel) ?_
            refine ⟨(show -2147483648 ≤ ((cap 335) : Int) ∧ ((cap 335) : Int) ≤ 2147483647 by have e335 : (cap 335 : Int) = 40 := (by decide +kernel); first | omega | (simp [upS, hz, za1, z1a1, ca1, za2, z1a2, ca2]; done) | (simp [upS, hz, za1, z1a1, ca1, za2, z1a2, ca2]; omega)), ?_⟩
            rw [(show (upS (upS σ 333 1 0) 335 1 (if ((cap 335) : Int) < ((upS σ 333 1 0) (2 + 2 * ((a2)).toNat) 1) then ((cap 335) : Int) else ((upS σ 333 1 0) (2 + 2 * ((a2)).toNat) 1))) = (upS (upS σ 333 1 0) 335 1 0) from by rw [show (if ((cap 335) : Int) < ((upS σ 333 1 0) (2 + 2 * ((a2)).toNat) 1) then ((cap 335) : Int) else ((upS σ 333 1 0) (2 + 2 * ((a2)).toNat) 1)) = 0 by (have e335 : (cap 335 : Int) = 40 := (by decide +kernel); first | omega | (simp [upS, hz, za1, z1a1, ca1, za2, z1a2, ca2]; done) | (simp [upS, hz, za1, z1a1, ca1, za2, z1a2, ca2]; omega))])]
            refine b155_18 (by decide +kernel) (el_1 (i := (a2)) (by first | omega | (simp [upS, hz, za1, z1a1, ca1, za2, z1a2, ca2]; done) | (simp [upS, hz, za1, z1a1, ca1, za2, z1a2, ca2]; omega))).2 ?_
            rw [if_neg (show ¬ ((0 : Int) < ((upS (upS σ 333 1 0) 335 1 0) 335 1)) by first | omega | (simp [upS, hz, za1, z1a1, ca1, za2, z1a2, ca2]; done) | (simp [upS, hz, za1, z1a1, ca1, za2, z1a2, ca2]; omega))]
            all_goals rfl
          refine ⟨_, hD9, ?_⟩
          clear hD9
          have hD10 : Dd 146 [(.inr (.inr (some 333)))] (upS (upS σ 333 1 0) 335 1 0) (.inl (some (.inl 0)), (upS (upS σ 333 1 0) 335 1 0)) := by
            refine b146 (by decide +kernel) ?_
            rw [show ((upS (upS σ 333 1 0) 335 1 0) 333 1) = 0 by (first | omega | (simp [upS, hz, za1, z1a1, ca1, za2, z1a2, ca2]; done) | (simp [upS, hz, za1, z1a1, ca1, za2, z1a2, ca2]; omega))]
            all_goals rfl
          refine ⟨_, _, hD10, ?_⟩
          clear hD10
          have hD11 : Dd 153 [(.inr (.inr (some 337))), (.inl 0), (.inl (-1))] (upS (upS σ 333 1 0) 335 1 0) (.inl none, (upS (upS (upS σ 333 1 0) 335 1 0) 337 1 0)) := by
            refine b153 (by decide +kernel) ?_
            refine ⟨(show -2147483648 ≤ ((cap 337) : Int) ∧ ((cap 337) : Int) ≤ 2147483647 by have e337 : (cap 337 : Int) = 40 := (by decide +kernel); first | omega | (simp [upS, hz, za1, z1a1, ca1, za2, z1a2, ca2]; done) | (simp [upS, hz, za1, z1a1, ca1, za2, z1a2, ca2]; omega)), ?_⟩
            rw [(show (upS (upS (upS σ 333 1 0) 335 1 0) 337 1 (if 0 < (if ((cap 337) : Int) < 0 then ((cap 337) : Int) else 0) then (if ((cap 337) : Int) < 0 then ((cap 337) : Int) else 0) else 0)) = (upS (upS (upS σ 333 1 0) 335 1 0) 337 1 0) from by rw [show (if (0 : Int) < (if ((cap 337) : Int) < 0 then ((cap 337) : Int) else 0) then (if ((cap 337) : Int) < 0 then ((cap 337) : Int) else 0) else 0) = 0 by (have e337 : (cap 337 : Int) = 40 := (by decide +kernel); first | omega | (simp [upS, hz, za1, z1a1, ca1, za2, z1a2, ca2]; done) | (simp [upS, hz, za1, z1a1, ca1, za2, z1a2, ca2]; omega))])]
            refine b153_19 (by decide +kernel) ?_
            rw [if_neg (show ¬ ((0 : Int) < ((upS (upS (upS σ 333 1 0) 335 1 0) 337 1 0) 337 1)) by first | omega | (simp [upS, hz, za1, z1a1, ca1, za2, z1a2, ca2]; done) | (simp [upS, hz, za1, z1a1, ca1, za2, z1a2, ca2]; omega))]
            all_goals rfl
          refine ⟨_, hD11, ?_⟩
          clear hD11
          have hD12 : Dd 152 [(.inr (.inr (some 343)))] (upS (upS (upS σ 333 1 0) 335 1 0) 337 1 0) (.inl none, (upS (upS (upS (upS σ 333 1 0) 335 1 0) 337 1 0) 343 1 0)) := by
            refine b152 (by decide +kernel) ?_
            all_goals rfl
          refine ⟨_, hD12, ?_⟩
          clear hD12
          all_goals rfl
        refine ⟨_, hD13, ?_⟩
        clear hD13
        have hD14 : Dd 146 [(.inr (.inr (some 333)))] (upS (upS (upS (upS σ 333 1 0) 335 1 0) 337 1 0) 343 1 0) (.inl (some (.inl 0)), (upS (upS (upS (upS σ 333 1 0) 335 1 0) 337 1 0) 343 1 0)) := by
          refine b146 (by decide +kernel) ?_
          rw [show ((upS (upS (upS (upS σ 333 1 0) 335 1 0) 337 1 0) 343 1 0) 333 1) = 0 by (first | omega | (simp [upS, hz, za1, z1a1, ca1, za2, z1a2, ca2]; done) | (simp [upS, hz, za1, z1a1, ca1, za2, z1a2, ca2]; omega))]
          all_goals rfl
        refine ⟨_, _, hD14, ?_⟩
        clear hD14
        have hD15 : Dd 146 [(.inr (.inr (some 335)))] (upS (upS (upS (upS σ 333 1 0) 335 1 0) 337 1 0) 343 1 0) (.inl (some (.inl 0)), (upS (upS (upS (upS σ 333 1 0) 335 1 0) 337 1 0) 343 1 0)) := by
          refine b146 (by decide +kernel) ?_
          rw [show ((upS (upS (upS (upS σ 333 1 0) 335 1 0) 337 1 0) 343 1 0) 335 1) = 0 by (first | omega | (simp [upS, hz, za1, z1a1, ca1, za2, z1a2, ca2]; done) | (simp [upS, hz, za1, z1a1, ca1, za2, z1a2, ca2]; omega))]
          all_goals rfl
        refine ⟨_, _, hD15, ?_⟩
        clear hD15
        have hD16 : Dd 20 [(.inr (.inr (some 332))), (.inl 0), (.inl 0), (.inl 0), (.inl 0)] (upS (upS (upS (upS σ 333 1 0) 335 1 0) 337 1 0) 343 1 0) (.inl none, (upS (upS (upS (upS σ 333 1 0) 335 1 0) 337 1 0) 343 1 0)) := by
          refine b20 ?_
          rw [if_neg (show ¬ ((0 : Int) < 0) by first | omega | (simp [upS, hz, za1, z1a1, ca1, za2, z1a2, ca2]; done) | (simp [upS, hz, za1, z1a1, ca1, za2, z1a2, ca2]; omega))]
          all_goals rfl
        refine ⟨_, hD16, ?_⟩
        clear hD16
        refine b15_29 ?_
        rw [if_pos (show (0 : Int) < 160 by first | omega | (simp [upS, hz, za1, z1a1, ca1, za2, z1a2, ca2]; done) | (simp [upS, hz, za1, z1a1, ca1, za2, z1a2, ca2]; omega))]
        refine ⟨(show (-2147483648 : Int) ≤ (4 * 0) ∧ ((4 * 0) : Int) ≤ 2147483647 by first | omega | (simp [upS, hz, za1, z1a1, ca1, za2, z1a2, ca2]; done) | (simp [upS, hz, za1, z1a1, ca1, za2, z1a2, ca2]; omega)), ?_⟩
        have hD17 : Dd 146 [(.inr (.inr (some 343)))] (upS (upS (upS (upS σ 333 1 0) 335 1 0) 337 1 0) 343 1 0) (.inl (some (.inl 0)), (upS (upS (upS (upS σ 333 1 0) 335 1 0) 337 1 0) 343 1 0)) := by
          refine b146 (by decide +kernel) ?_
          rw [show ((upS (upS (upS (upS σ 333 1 0) 335 1 0) 337 1 0) 343 1 0) 343 1) = 0 by (first | omega | (simp [upS, hz, za1, z1a1, ca1, za2, z1a2, ca2]; done) | (simp [upS, hz, za1, z1a1, ca1, za2, z1a2, ca2]; omega))]
          all_goals rfl
        refine ⟨_, _, hD17, ?_⟩
        clear hD17
        rw [if_neg (show ¬ (((4 * 0) : Int) < 0) by first | omega | (simp [upS, hz, za1, z1a1, ca1, za2, z1a2, ca2]; done) | (simp [upS, hz, za1, z1a1, ca1, za2, z1a2, ca2]; omega))]
        refine b15_147 ?_
        all_goals rfl
      refine ⟨_, _, hD18, (by decide +kernel), ?_⟩
      clear hD18
      have hD19 : Dd 146 [(.inr (.inr (some 337)))] (upS (upS (upS (upS σ 333 1 0) 335 1 0) 337 1 0) 343 1 0) (.inl (some (.inl 0)), (upS (upS (upS (upS σ 333 1 0) 335 1 0) 337 1 0) 343 1 0)) := by
        refine b146 (by decide +kernel) ?_
        rw [show ((upS (upS (upS (upS σ 333 1 0) 335 1 0) 337 1 0) 343 1 0) 337 1) = 0 by (first | omega | (simp [upS, hz, za1, z1a1, ca1, za2, z1a2, ca2]; done) | (simp [upS, hz, za1, z1a1, ca1, za2, z1a2, ca2]; omega))]
        all_goals rfl
      refine ⟨_, _, hD19, ?_⟩
      clear hD19
      have hD20 : Dd 146 [(.inr (.inr (some 337)))] (upS (upS (upS (upS σ 333 1 0) 335 1 0) 337 1 0) 343 1 0) (.inl (some (.inl 0)), (upS (upS (upS (upS σ 333 1 0) 335 1 0) 337 1 0) 343 1 0)) := by
        refine b146 (by decide +kernel) ?_
        rw [show ((upS (upS (upS (upS σ 333 1 0) 335 1 0) 337 1 0) 343 1 0) 337 1) = 0 by (first | omega | (simp [upS, hz, za1, z1a1, ca1, za2, z1a2, ca2]; done) | (simp [upS, hz, za1, z1a1, ca1, za2, z1a2, ca2]; omega))]
        all_goals rfl
      refine ⟨_, _, hD20, ?_⟩
      clear hD20
      have hD21 : Dd 157 [(.inr (.inr (some 337))), (.inl (-1)), (.inl 0), (.inl 0)] (upS (upS (upS (upS σ 333 1 0) 335 1 0) 337 1 0) 343 1 0) (.inl (some (.inl 0)), (upS (upS (upS (upS σ 333 1 0) 335 1 0) 337 1 0) 343 1 0)) := by
        refine b157 ?_
        try rw [show (if (0 : Int) < 0 then (0 : Int) else 0) = 0 by (first | omega | (simp [upS, hz, za1, z1a1, ca1, za2, z1a2, ca2]; done) | (simp [upS, hz, za1, z1a1, ca1, za2, z1a2, ca2]; omega))]
        refine b157_10 (by decide +kernel) ?_
        rw [if_neg (show ¬ ((0 : Int) < 0) by first | omega | (simp [upS, hz, za1, z1a1, ca1, za2, z1a2, ca2]; done) | (simp [upS, hz, za1, z1a1, ca1, za2, z1a2, ca2]; omega))]
        all_goals rfl
      refine ⟨_, _, hD21, ?_⟩
      clear hD21
      refine ⟨(show (-2147483648 : Int) ≤ (0 - 0) ∧ ((0 - 0) : Int) ≤ 2147483647 by first | omega | (simp [upS, hz, za1, z1a1, ca1, za2, z1a2, ca2]; done) | (simp [upS, hz, za1, z1a1, ca1, za2, z1a2, ca2]; omega)), ?_⟩
      rw [show ((0 - 0) : Int) = 0 by (first | omega | (simp [upS, hz, za1, z1a1, ca1, za2, z1a2, ca2]; done) | (simp [upS, hz, za1, z1a1, ca1, za2, z1a2, ca2]; omega))]
      all_goals rfl
    refine Or.inl ⟨_, _, hD22, ?_⟩
    clear hD22
    rw [(show (upS (upS (upS (upS (upS σ 333 1 0) 335 1 0) 337 1 0) 343 1 0) 726 ((0 : Int).toNat) 0) = (upS (upS (upS (upS (upS σ 333 1 0) 335 1 0) 337 1 0) 343 1 0) 726 0 0) from by rw [show ((0 : Int).toNat) = 0 by (first | omega | (simp [upS, hz, za1, z1a1, ca1, za2, z1a2, ca2]; done) | (simp [upS, hz, za1, z1a1, ca1, za2, z1a2, ca2]; omega))])]
    all_goals rfl
  obtain ⟨S900, E900⟩ : ∃ s : Sg, s = (upS (upS (upS (upS (upS σ 333 1 0) 335 1 0) 337 1 0) 343 1 0) 726 0 0) := ⟨_, rfl⟩
  rw [← E900] at hA
  have hB : Dd 278 [(.inr (.inr (some 682))), (.inl a1), (.inl a2), (.inl a3)] S900 (.inl (some (.inl 0)), (upS (upS (upS (upS (upS (upS (upS (upS (upS (upS (upS (upS (upS (upS (upS S900 682 0 0) 682 12 0) 682 13 0) 682 22 0) 696 0 0) 696 1 0) 696 2 0) 696 3 0) 682 22 1) 682 22 0) 682 17 0) 682 18 0) 682 19 0) 682 20 0) 694 0 0)) := by
    refine b278 ?_
    have hD24 : Dd 247 [(.inl a1)] S900 (.inl (some (.inl 1)), S900) := by
      refine b247 ?_
      have hD23 : Dd 246 [(.inl a1), (.inl 4)] S900 (.inl (some (.inl 1)), S900) := by
        refine b246 ?_
        try rw [if_pos (show (0 : Int) ≤ a1 by first | omega | (simp [upS, hz, za1, z1a1, ca1, za2, z1a2, ca2, E900]; done) | (simp [upS, hz, za1, z1a1, ca1, za2, z1a2, ca2, E900]; omega))]
        try rw [if_pos (show a1 < 4 by first | omega | (simp [upS, hz, za1, z1a1, ca1, za2, z1a2, ca2, E900]; done) | (simp [upS, hz, za1, z1a1, ca1, za2, z1a2, ca2, E900]; omega))]
        all_goals rfl
      refine ⟨_, _, hD23, ?_⟩
      clear hD23
      refine ⟨(show 1 = 0 ∨ 1 = 1 by first | omega | (simp [upS, hz, za1, z1a1, ca1, za2, z1a2, ca2, E900]; done) | (simp [upS, hz, za1, z1a1, ca1, za2, z1a2, ca2, E900]; omega)), ?_⟩
      all_goals rfl
    refine ⟨_, _, hD24, ?_⟩
    clear hD24
    rw [if_neg (show ¬ ((1 : Int) = 0) by first | omega | (simp [upS, hz, za1, z1a1, ca1, za2, z1a2, ca2, E900]; done) | (simp [upS, hz, za1, z1a1, ca1, za2, z1a2, ca2, E900]; omega))]
    have hD26 : Dd 247 [(.inl a2)] S900 (.inl (some (.inl 1)), S900) := by
      refine b247 ?_
      have hD25 : Dd 246 [(.inl a2), (.inl 4)] S900 (.inl (some (.inl 1)), S900) := by
        refine b246 ?_
        try rw [if_pos (show (0 : Int) ≤ a2 by first | omega | (simp [upS, hz, za1, z1a1, ca1, za2, z1a2, ca2, E900]; done) | (simp [upS, hz, za1, z1a1, ca1, za2, z1a2, ca2, E900]; omega))]
        try rw [if_pos (show a2 < 4 by first | omega | (simp [upS, hz, za1, z1a1, ca1, za2, z1a2, ca2, E900]; done) | (simp [upS, hz, za1, z1a1, ca1, za2, z1a2, ca2, E900]; omega))]
        all_goals rfl
      refine ⟨_, _, hD25, ?_⟩
      clear hD25
      refine ⟨(show 1 = 0 ∨ 1 = 1 by first | omega | (simp [upS, hz, za1, z1a1, ca1, za2, z1a2, ca2, E900]; done) | (simp [upS, hz, za1, z1a1, ca1, za2, z1a2, ca2, E900]; omega)), ?_⟩
      all_goals rfl
    refine ⟨_, _, hD26, ?_⟩
    clear hD26
    rw [if_neg (show ¬ ((1 : Int) = 0) by first | omega | (simp [upS, hz, za1, z1a1, ca1, za2, z1a2, ca2, E900]; done) | (simp [upS, hz, za1, z1a1, ca1, za2, z1a2, ca2, E900]; omega))]
    have hD28 : Dd 275 [(.inl a3)] S900 (.inl (some (.inl 1)), S900) := by
      refine b275 ?_
      have hD27 : Dd 246 [(.inl a3), (.inl 3)] S900 (.inl (some (.inl 1)), S900) := by
        refine b246 ?_
        try rw [if_pos (show (0 : Int) ≤ a3 by first | omega | (simp [upS, hz, za1, z1a1, ca1, za2, z1a2, ca2, E900]; done) | (simp [upS, hz, za1, z1a1, ca1, za2, z1a2, ca2, E900]; omega))]
        try rw [if_pos (show a3 < 3 by first | omega | (simp [upS, hz, za1, z1a1, ca1, za2, z1a2, ca2, E900]; done) | (simp [upS, hz, za1, z1a1, ca1, za2, z1a2, ca2, E900]; omega))]
        all_goals rfl
      refine ⟨_, _, hD27, ?_⟩
      clear hD27
      refine ⟨(show 1 = 0 ∨ 1 = 1 by first | omega | (simp [upS, hz, za1, z1a1, ca1, za2, z1a2, ca2, E900]; done) | (simp [upS, hz, za1, z1a1, ca1, za2, z1a2, ca2, E900]; omega)), ?_⟩
      all_goals rfl
    refine ⟨_, _, hD28, ?_⟩
    clear hD28
    try rw [if_neg (show ¬ ((1 : Int) = 0) by first | omega | (simp [upS, hz, za1, z1a1, ca1, za2, z1a2, ca2, E900]; done) | (simp [upS, hz, za1, z1a1, ca1, za2, z1a2, ca2, E900]; omega))]
    refine b278_31 ?_
    have hD29 : Dd 245 [(.inr (.inr (some 682))), (.inl 0)] S900 (.inl (some (.inl 1)), (upS S900 682 0 0)) := by
      refine b245 ?_
      try rw [if_pos (show (0 : Int) = 0 by first | omega | (simp [upS, hz, za1, z1a1, ca1, za2, z1a2, ca2, E900]; done) | (simp [upS, hz, za1, z1a1, ca1, za2, z1a2, ca2, E900]; omega))]
      all_goals rfl
    refine ⟨_, _, hD29, ?_⟩
    clear hD29
    rw [if_neg (show ¬ ((1 : Int) = 0) by first | omega | (simp [upS, hz, za1, z1a1, ca1, za2, z1a2, ca2, E900]; done) | (simp [upS, hz, za1, z1a1, ca1, za2, z1a2, ca2, E900]; omega))]
    have hD32 : Dd 276 [(.inr (.inr (some 682))), (.inl a1), (.inl a2)] (upS S900 682 0 0) (.inl none, (upS (upS (upS S900 682 0 0) 682 12 0) 682 13 0)) := by
      refine b276 ?_
      refine ⟨(show -2147483648 ≤ (16 * a1) ∧ (16 * a1) ≤ 2147483647 by first | omega | (simp [upS, hz, za1, z1a1, ca1, za2, z1a2, ca2, E900]; done) | (simp [upS, hz, za1, z1a1, ca1, za2, z1a2, ca2, E900]; omega)), ?_⟩
      refine ⟨(show 0 ≤ a1 ∧ a1 < 4 by first | omega | (simp [upS, hz, za1, z1a1, ca1, za2, z1a2, ca2, E900]; done) | (simp [upS, hz, za1, z1a1, ca1, za2, z1a2, ca2, E900]; omega)), ?_⟩
      rw [show ((upS S900 682 0 0) 684 (a1).toNat) = 0 by (first | omega | (simp [upS, hz, za1, z1a1, ca1, za2, z1a2, ca2, E900]; done) | (simp [upS, hz, za1, z1a1, ca1, za2, z1a2, ca2, E900]; omega))]
      have hD30 : Dd 263 [(.inr (.inr (some 682))), (.inr (.inr (some 683))), (.inl (16 * a1)), (.inl 0)] (upS S900 682 0 0) (.inl none, (upS (upS S900 682 0 0) 682 12 0)) := by
        refine b263 ?_
        refine b263_8 (show qA 683 0 64 = true by decide +kernel) ?_
        rw [if_neg (show ¬ ((0 : Int) < 0) by first | omega | (simp [upS, hz, za1, z1a1, ca1, za2, z1a2, ca2, E900]; done) | (simp [upS, hz, za1, z1a1, ca1, za2, z1a2, ca2, E900]; omega))]
        all_goals rfl
      refine ⟨_, hD30, ?_⟩
      clear hD30
      refine ⟨(show -2147483648 ≤ (16 * a2) ∧ (16 * a2) ≤ 2147483647 by first | omega | (simp [upS, hz, za1, z1a1, ca1, za2, z1a2, ca2, E900]; done) | (simp [upS, hz, za1, z1a1, ca1, za2, z1a2, ca2, E900]; omega)), ?_⟩
      refine ⟨(show 0 ≤ a2 ∧ a2 < 4 by first | omega | (simp [upS, hz, za1, z1a1, ca1, za2, z1a2, ca2, E900]; done) | (simp [upS, hz, za1, z1a1, ca1, za2, z1a2, ca2, E900]; omega)), ?_⟩
      rw [show ((upS (upS S900 682 0 0) 682 12 0) 684 (a2).toNat) = 0 by (first | omega | (simp [upS, hz, za1, z1a1, ca1, za2, z1a2, ca2, E900]; done) | (simp [upS, hz, za1, z1a1, ca1, za2, z1a2, ca2, E900]; omega))]
      have hD31 : Dd 264 [(.inr (.inr (some 682))), (.inr (.inr (some 683))), (.inl (16 * a2)), (.inl 0)] (upS (upS S900 682 0 0) 682 12 0) (.inl none, (upS (upS (upS S900 682 0 0) 682 12 0) 682 13 0)) := by
        refine b264 ?_
        refine b264_8 (show qA 683 0 64 = true by decide +kernel) ?_
        rw [if_neg (show ¬ ((0 : Int) < 0) by first | omega | (simp [upS, hz, za1, z1a1, ca1, za2, z1a2, ca2, E900]; done) | (simp [upS, hz, za1, z1a1, ca1, za2, z1a2, ca2, E900]; omega))]
        all_goals rfl
      refine ⟨_, hD31, ?_⟩
      clear hD31
      all_goals rfl
    refine ⟨_, hD32, ?_⟩
    clear hD32
    have hD40 : Dd 274 [(.inr (.inr (some 682))), (.inl a3)] (upS (upS (upS S900 682 0 0) 682 12 0) 682 13 0) (.inl (some (.inl 0)), (upS (upS (upS (upS (upS (upS (upS (upS (upS (upS (upS (upS (upS (upS (upS S900 682 0 0) 682 12 0) 682 13 0) 682 22 0) 696 0 0) 696 1 0) 696 2 0) 696 3 0) 682 22 1) 682 22 0) 682 17 0) 682 18 0) 682 19 0) 682 20 0) 694 0 0)) := by
      refine b274 ?_
      refine b274_2 ?_
      rw [if_neg (show ¬ ((0 : Int) < ((upS (upS (upS S900 682 0 0) 682 12 0) 682 13 0) 682 12)) by first | omega | (simp [upS, hz, za1, z1a1, ca1, za2, z1a2, ca2, E900]; done) | (simp [upS, hz, za1, z1a1, ca1, za2, z1a2, ca2, E900]; omega))]
      rw [show ((upS (upS (upS (upS S900 682 0 0) 682 12 0) 682 13 0) 682 22 0) 682 12) = 0 by (first | omega | (simp [upS, hz, za1, z1a1, ca1, za2, z1a2, ca2, E900]; done) | (simp [upS, hz, za1, z1a1, ca1, za2, z1a2, ca2, E900]; omega))]
      rw [show ((upS (upS (upS (upS S900 682 0 0) 682 12 0) 682 13 0) 682 22 0) 682 13) = 0 by (first | omega | (simp [upS, hz, za1, z1a1, ca1, za2, z1a2, ca2, E900]; done) | (simp [upS, hz, za1, z1a1, ca1, za2, z1a2, ca2, E900]; omega))]
      have hD33 : Dd 267 [(.inr (.inr (some 682))), (.inl 0), (.inl 0), (.inl 0), (.inl 0)] (upS (upS (upS (upS S900 682 0 0) 682 12 0) 682 13 0) 682 22 0) (.inl none, (upS (upS (upS (upS (upS (upS (upS (upS (upS S900 682 0 0) 682 12 0) 682 13 0) 682 22 0) 696 0 0) 696 1 0) 696 2 0) 696 3 0) 682 22 1)) := by
        refine b267 ?_
        refine ⟨(show -2147483648 ≤ (4 * ((upS (upS (upS (upS S900 682 0 0) 682 12 0) 682 13 0) 682 22 0) 682 22)) ∧ (4 * ((upS (upS (upS (upS S900 682 0 0) 682 12 0) 682 13 0) 682 22 0) 682 22)) ≤ 2147483647 by first | omega | (simp [upS, hz, za1, z1a1, ca1, za2, z1a2, ca2, E900]; done) | (simp [upS, hz, za1, z1a1, ca1, za2, z1a2, ca2, E900]; omega)), ?_⟩
        refine ⟨(show 0 ≤ (4 * ((upS (upS (upS (upS S900 682 0 0) 682 12 0) 682 13 0) 682 22 0) 682 22)) ∧ (4 * ((upS (upS (upS (upS S900 682 0 0) 682 12 0) 682 13 0) 682 22 0) 682 22)) < 512 by first | omega | (simp [upS, hz, za1, z1a1, ca1, za2, z1a2, ca2, E900]; done) | (simp [upS, hz, za1, z1a1, ca1, za2, z1a2, ca2, E900]; omega)), ?_⟩
        refine ⟨(show -2147483648 ≤ (4 * ((upS (upS (upS (upS (upS S900 682 0 0) 682 12 0) 682 13 0) 682 22 0) 696 (((4 * ((upS (upS (upS (upS S900 682 0 0) 682 12 0) 682 13 0) 682 22 0) 682 22))).toNat) 0) 682 22)) ∧ (4 * ((upS (upS (upS (upS (upS S900 682 0 0) 682 12 0) 682 13 0) 682 22 0) 696 (((4 * ((upS (upS (upS (upS S900 682 0 0) 682 12 0) 682 13 0) 682 22 0) 682 22))).toNat) 0) 682 22)) ≤ 2147483647 by first | omega | (simp [upS, hz, za1, z1a1, ca1, za2, z1a2, ca2, E900]; done) | (simp [upS, hz, za1, z1a1, ca1, za2, z1a2, ca2, E900]; omega)), ?_⟩
        refine ⟨(show -2147483648 ≤ ((4 * ((upS (upS (upS (upS (upS S900 682 0 0) 682 12 0) 682 13 0) 682 22 0) 696 (((4 * ((upS (upS (upS (upS S900 682 0 0) 682 12 0) 682 13 0) 682 22 0) 682 22))).toNat) 0) 682 22)) + 1) ∧ ((4 * ((upS (upS (upS (upS (upS S900 682 0 0) 682 12 0) 682 13 0) 682 22 0) 696 (((4 * ((upS (upS (upS (upS S900 682 0 0) 682 12 0) 682 13 0) 682 22 0) 682 22))).toNat) 0) 682 22)) + 1) ≤ 2147483647 by first | omega | (simp [upS, hz, za1, z1a1, ca1, za2, z1a2, ca2, E900]; done) | (simp [upS, hz, za1, z1a1, ca1, za2, z1a2, ca2, E900]; omega)), ?_⟩
        refine ⟨(show 0 ≤ ((4 * ((upS (upS (upS (upS (upS S900 682 0 0) 682 12 0) 682 13 0) 682 22 0) 696 (((4 * ((upS (upS (upS (upS S900 682 0 0) 682 12 0) 682 13 0) 682 22 0) 682 22))).toNat) 0) 682 22)) + 1) ∧ ((4 * ((upS (upS (upS (upS (upS S900 682 0 0) 682 12 0) 682 13 0) 682 22 0) 696 (((4 * ((upS (upS (upS (upS S900 682 0 0) 682 12 0) 682 13 0) 682 22 0) 682 22))).toNat) 0) 682 22)) + 1) < 512 by first | omega | (simp [upS, hz, za1, z1a1, ca1, za2, z1a2, ca2, E900]; done) | (simp [upS, hz, za1, z1a1, ca1, za2, z1a2, ca2, E900]; omega)), ?_⟩
        refine ⟨(show -2147483648 ≤ (4 * ((upS (upS (upS (upS (upS (upS S900 682 0 0) 682 12 0) 682 13 0) 682 22 0) 696 (((4 * ((upS (upS (upS (upS S900 682 0 0) 682 12 0) 682 13 0) 682 22 0) 682 22))).toNat) 0) 696 ((((4 * ((upS (upS (upS (upS (upS S900 682 0 0) 682 12 0) 682 13 0) 682 22 0) 696 (((4 * ((upS (upS (upS (upS S900 682 0 0) 682 12 0) 682 13 0) 682 22 0) 682 22))).toNat) 0) 682 22)) + 1)).toNat) 0) 682 22)) ∧ (4 * ((upS (upS (upS (upS (upS (upS S900 682 0 0) 682 12 0) 682 13 0) 682 22 0) 696 (((4 * ((upS (upS (upS (upS S900 682 0 0) 682 12 0) 682 13 0) 682 22 0) 682 22))).toNat) 0) 696 ((((4 * ((upS (upS (upS (upS (upS S900 682 0 0) 682 12 0) 682 13 0) 682 22 0) 696 (((4 * ((upS (upS (upS (upS S900 682 0 0) 682 12 0) 682 13 0) 682 22 0) 682 22))).toNat) 0) 682 22)) + 1)).toNat) 0) 682 22)) ≤ 2147483647 by first | omega | (simp [upS, hz, za1, z1a1, ca1, za2, z1a2, ca2, E900]; done) | (simp [upS, hz, za1, z1a1, ca1, za2, z1a2, ca2, E900]; omega)), ?_⟩
        refine ⟨(show -2147483648 ≤ ((4 * ((upS (upS (upS (upS (upS (upS S900 682 0 0) 682 12 0) 682 13 0) 682 22 0) 696 (((4 * ((upS (upS (upS (upS S900 682 0 0) 682 12 0) 682 13 0) 682 22 0) 682 22))).toNat) 0) 696 ((((4 * ((upS (upS (upS (upS (upS S900 682 0 0) 682 12 0) 682 13 0) 682 22 0) 696 (((4 * ((upS (upS (upS (upS S900 682 0 0) 682 12 0) 682 13 0) 682 22 0) 682 22))).toNat) 0) 682 22)) + 1)).toNat) 0) 682 22)) + 2) ∧ ((4 * ((upS (upS (upS (upS (upS (upS S900 682 0 0) 682 12 0) 682 13 0) 682 22 0) 696 (((4 * ((upS (upS (upS (upS S900 682 0 0) 682 12 0) 682 13 0) 682 22 0) 682 22))).toNat) 0) 696 ((((4 * ((upS (upS (upS (upS (upS S900 682 0 0) 682 12 0) 682 13 0) 682 22 0) 696 (((4 * ((upS (upS (upS (upS S900 682 0 0) 682 12 0) 682 13 0) 682 22 0) 682 22))).toNat) 0) 682 22)) + 1)).toNat) 0) 682 22)) + 2) ≤ 2147483647 by first | omega | (simp [upS, hz, za1, z1a1, ca1, za2, z1a2, ca2, E900]; done) | (simp [upS, hz, za1, z1a1, ca1, za2, z1a2, ca2, E900]; omega)), ?_⟩
        refine ⟨(show 0 ≤ ((4 * ((upS (upS (upS (upS (upS (upS S900 682 0 0) 682 12 0) 682 13 0) 682 22 0) 696 (((4 * ((upS (upS (upS (upS S900 682 0 0) 682 12 0) 682 13 0) 682 22 0) 682 22))).toNat) 0) 696 ((((4 * ((upS (upS (upS (upS (upS S900 682 0 0) 682 12 0) 682 13 0) 682 22 0) 696 (((4 * ((upS (upS (upS (upS S900 682 0 0) 682 12 0) 682 13 0) 682 22 0) 682 22))).toNat) 0) 682 22)) + 1)).toNat) 0) 682 22)) + 2) ∧ ((4 * ((upS (upS (upS (upS (upS (upS S900 682 0 0) 682 12 0) 682 13 0) 682 22 0) 696 (((4 * ((upS (upS (upS (upS S900 682 0 0) 682 12 0) 682 13 0) 682 22 0) 682 22))).toNat) 0) 696 ((((4 * ((upS (upS (upS (upS (upS S900 682 0 0) 682 12 0) 682 13 0) 682 22 0) 696 (((4 * ((upS (upS (upS (upS S900 682 0 0) 682 12 0) 682 13 0) 682 22 0) 682 22))).toNat) 0) 682 22)) + 1)).toNat) 0) 682 22)) + 2) < 512 by first | omega | (simp [upS, hz, za1, z1a1, ca1, za2, z1a2, ca2, E900]; done) | (simp [upS, hz, za1, z1a1, ca1, za2, z1a2, ca2, E900]; omega)), ?_⟩
        refine ⟨(show -2147483648 ≤ (4 * ((upS (upS (upS (upS (upS (upS (upS S900 682 0 0) 682 12 0) 682 13 0) 682 22 0) 696 (((4 * ((upS (upS (upS (upS S900 682 0 0) 682 12 0) 682 13 0) 682 22 0) 682 22))).toNat) 0) 696 ((((4 * ((upS (upS (upS (upS (upS S900 682 0 0) 682 12 0) 682 13 0) 682 22 0) 696 (((4 * ((upS (upS (upS (upS S900 682 0 0) 682 12 0) 682 13 0) 682 22 0) 682 22))).toNat) 0) 682 22)) + 1)).toNat) 0) 696 ((((4 * ((upS (upS (upS (upS (upS (upS S900 682 0 0) 682 12 0) 682 13 0) 682 22 0) 696 (((4 * ((upS (upS (upS (upS S900 682 0 0) 682 12 0) 682 13 0) 682 22 0) 682 22))).toNat) 0) 696 ((((4 * ((upS (upS (upS (upS (upS S900 682 0 0) 682 12 0) 682 13 0) 682 22 0) 696 (((4 * ((upS (upS (upS (upS S900 682 0 0) 682 12 0) 682 13 0) 682 22 0) 682 22))).toNat) 0) 682 22)) + 1)).toNat) 0) 682 22)) + 2)).toNat) 0) 682 22)) ∧ (4 * ((upS (upS (upS (upS (upS (upS (upS S900 682 0 0) 682 12 0) 682 13 0) 682 22 0) 696 (((4 * ((upS (upS (upS (upS S900 682 0 0) 682 12 0) 682 13 0) 682 22 0) 682 22))).toNat) 0) 696 ((((4 * ((upS (upS (upS (upS (upS S900 682 0 0) 682 12 0) 682 13 0) 682 22 0) 696 (((4 * ((upS (upS (upS (upS S900 682 0 0) 682 12 0) 682 13 0) 682 22 0) 682 22))).toNat) 0) 682 22)) + 1)).toNat) 0) 696 ((((4 * ((upS (upS (upS (upS (upS (upS S900 682 0 0) 682 12 0) 682 13 0) 682 22 0) 696 (((4 * ((upS (upS (upS (upS S900 682 0 0) 682 12 0) 682 13 0) 682 22 0) 682 22))).toNat) 0) 696 ((((4 * ((upS (upS (upS (upS (upS S900 682 0 0) 682 12 0) 682 13 0) 682 22 0) 696 (((4 * ((upS (upS (upS (upS S900 682 0 0) 682 12 0) 682 13 0) 682 22 0) 682 22))).toNat) 0) 682 22)) + 1)).toNat) 0) 682 22)) + 2)).toNat) 0) 682 22)) ≤ 2147483647 by first | omega | (simp [upS, hz, za1, z1a1, ca1, za2, z1a2, ca2, E900]; done) | (simp [upS, hz, za1, z1a1, ca1, za2, z1a2, ca2, E900]; omega)), ?_⟩
        refine ⟨(show -2147483648 ≤ ((4 * ((upS (upS (upS (upS (upS (upS (upS S900 682 0 0) 682 12 0) 682 13 0) 682 22 0) 696 (((4 * ((upS (upS (upS (upS S900 682 0 0) 682 12 0) 682 13 0) 682 22 0) 682 22))).toNat) 0) 696 ((((4 * ((upS (upS (upS (upS (upS S900 682 0 0) 682 12 0) 682 13 0) 682 22 0) 696 (((4 * ((upS (upS (upS (upS S900 682 0 0) 682 12 0) 682 13 0) 682 22 0) 682 22))).toNat) 0) 682 22)) + 1)).toNat) 0) 696 ((((4 * ((upS (upS (upS (upS (upS (upS S900 682 0 0) 682 12 0) 682 13 0) 682 22 0) 696 (((4 * ((upS (upS (upS (upS S900 682 0 0) 682 12 0) 682 13 0) 682 22 0) 682 22))).toNat) 0) 696 ((((4 * ((upS (upS (upS (upS (upS S900 682 0 0) 682 12 0) 682 13 0) 682 22 0) 696 (((4 * ((upS (upS (upS (upS S900 682 0 0) 682 12 0) 682 13 0) 682 22 0) 682 22))).toNat) 0) 682 22)) + 1)).toNat) 0) 682 22)) + 2)).toNat) 0) 682 22)) + 3) ∧ ((4 * ((upS (upS (upS (upS (upS (upS (upS S900 682 0 0) 682 12 0) 682 13 0) 682 22 0) 696 (((4 * ((upS (upS (upS (upS S900 682 0 0) 682 12 0) 682 13 0) 682 22 0) 682 22))).toNat) 0) 696 ((((4 * ((upS (upS (upS (upS (upS S900 682 0 0) 682 12 0) 682 13 0) 682 22 0) 696 (((4 * ((upS (upS (upS (upS S900 682 0 0) 682 12 0) 682 13 0) 682 22 0) 682 22))).toNat) 0) 682 22)) + 1)).toNat) 0) 696 ((((4 * ((upS (upS (upS (upS (upS (upS S900 682 0 0) 682 12 0) 682 13 0) 682 22 0) 696 (((4 * ((upS (upS (upS (upS S900 682 0 0) 682 12 0) 682 13 0) 682 22 0) 682 22))).toNat) 0) 696 ((((4 * ((upS (upS (upS (upS (upS S900 682 0 0) 682 12 0) 682 13 0) 682 22 0) 696 (((4 * ((upS (upS (upS (upS S900 682 0 0) 682 12 0) 682 13 0) 682 22 0) 682 22))).toNat) 0) 682 22)) + 1)).toNat) 0) 682 22)) + 2)).toNat) 0) 682 22)) + 3) ≤ 2147483647 by first | omega | (simp [upS, hz, za1, z1a1, ca1, za2, z1a2, ca2, E900]; done) | (simp [upS, hz, za1, z1a1, ca1, za2, z1a2, ca2, E900]; omega)), ?_⟩
        refine ⟨(show 0 ≤ ((4 * ((upS (upS (upS (upS (upS (upS (upS S900 682 0 0) 682 12 0) 682 13 0) 682 22 0) 696 (((4 * ((upS (upS (upS (upS S900 682 0 0) 682 12 0) 682 13 0) 682 22 0) 682 22))).toNat) 0) 696 ((((4 * ((upS (upS (upS (upS (upS S900 682 0 0) 682 12 0) 682 13 0) 682 22 0) 696 (((4 * ((upS (upS (upS (upS S900 682 0 0) 682 12 0) 682 13 0) 682 22 0) 682 22))).toNat) 0) 682 22)) + 1)).toNat) 0) 696 ((((4 * ((upS (upS (upS (upS (upS (upS S900 682 0 0) 682 12 0) 682 13 0) 682 22 0) 696 (((4 * ((upS (upS (upS (upS S900 682 0 0) 682 12 0) 682 13 0) 682 22 0) 682 22))).toNat) 0) 696 ((((4 * ((upS (upS (upS (upS (upS S900 682 0 0) 682 12 0) 682 13 0) 682 22 0) 696 (((4 * ((upS (upS (upS (upS S900 682 0 0) 682 12 0) 682 13 0) 682 22 0) 682 22))).toNat) 0) 682 22)) + 1)).toNat) 0) 682 22)) + 2)).toNat) 0) 682 22)) + 3) ∧ ((4 * ((upS (upS (upS (upS (upS (upS (upS S900 682 0 0) 682 12 0) 682 13 0) 682 22 0) 696 (((4 * ((upS (upS (upS (upS S900 682 0 0) 682 12 0) 682 13 0) 682 22 0) 682 22))).toNat) 0) 696 ((((4 * ((upS (upS (upS (upS (upS S900 682 0 0) 682 12 0) 682 13 0) 682 22 0) 696 (((4 * ((upS (upS (upS (upS S900 682 0 0) 682 12 0) 682 13 0) 682 22 0) 682 22))).toNat) 0) 682 22)) + 1)).toNat) 0) 696 ((((4 * ((upS (upS (upS (upS (upS (upS S900 682 0 0) 682 12 0) 682 13 0) 682 22 0) 696 (((4 * ((upS (upS (upS (upS S900 682 0 0) 682 12 0) 682 13 0) 682 22 0) 682 22))).toNat) 0) 696 ((((4 * ((upS (upS (upS (upS (upS S900 682 0 0) 682 12 0) 682 13 0) 682 22 0) 696 (((4 * ((upS (upS (upS (upS S900 682 0 0) 682 12 0) 682 13 0) 682 22 0) 682 22))).toNat) 0) 682 22)) + 1)).toNat) 0) 682 22)) + 2)).toNat) 0) 682 22)) + 3) < 512 by first | omega | (simp [upS, hz, za1, z1a1, ca1, za2, z1a2, ca2, E900]; done) | (simp [upS, hz, za1, z1a1, ca1, za2, z1a2, ca2, E900]; omega)), ?_⟩
        refine ⟨(show -2147483648 ≤ (((upS (upS (upS (upS (upS (upS (upS (upS S900 682 0 0) 682 12 0) 682 13 0) 682 22 0) 696 (((4 * ((upS (upS (upS (upS S900 682 0 0) 682 12 0) 682 13 0) 682 22 0) 682 22))).toNat) 0) 696 ((((4 * ((upS (upS (upS (upS (upS S900 682 0 0) 682 12 0) 682 13 0) 682 22 0) 696 (((4 * ((upS (upS (upS (upS S900 682 0 0) 682 12 0) 682 13 0) 682 22 0) 682 22))).toNat) 0) 682 22)) + 1)).toNat) 0) 696 ((((4 * ((upS (upS (upS (upS (upS (upS S900 682 0 0) 682 12 0) 682 13 0) 682 22 0) 696 (((4 * ((upS (upS (upS (upS S900 682 0 0) 682 12 0) 682 13 0) 682 22 0) 682 22))).toNat) 0) 696 ((((4 * ((upS (upS (upS (upS (upS S900 682 0 0) 682 12 0) 682 13 0) 682 22 0) 696 (((4 * ((upS (upS (upS (upS S900 682 0 0) 682 12 0) 682 13 0) 682 22 0) 682 22))).toNat) 0) 682 22)) + 1)).toNat) 0) 682 22)) + 2)).toNat) 0) 696 ((((4 * ((upS (upS (upS (upS (upS (upS (upS S900 682 0 0) 682 12 0) 682 13 0) 682 22 0) 696 (((4 * ((upS (upS (upS (upS S900 682 0 0) 682 12 0) 682 13 0) 682 22 0) 682 22))).toNat) 0) 696 ((((4 * ((upS (upS (upS (upS (upS S900 682 0 0) 682 12 0) 682 13 0) 682 22 0) 696 (((4 * ((upS (upS (upS (upS S900 682 0 0) 682 12 0) 682 13 0) 682 22 0) 682 22))).toNat) 0) 682 22)) + 1)).toNat) 0) 696 ((((4 * ((upS (upS (upS (upS (upS (upS S900 682 0 0) 682 12 0) 682 13 0) 682 22 0) 696 (((4 * ((upS (upS (upS (upS S900 682 0 0) 682 12 0) 682 13 0) 682 22 0) 682 22))).toNat) 0) 696 ((((4 * ((upS (upS (upS (upS (upS S900 682 0 0) 682 12 0) 682 13 0) 682 22 0) 696 (((4 * ((upS (upS (upS (upS S900 682 0 0) 682 12 0) 682 13 0) 682 22 0) 682 22))).toNat) 0) 682 22)) + 1)).toNat) 0) 682 22)) + 2)).toNat) 0) 682 22)) + 3)).toNat) 0) 682 22) + 1) ∧ (((upS (upS (upS (upS (upS (upS (upS (upS S900 682 0 0) 682 12 0) 682 13 0) 682 22 0) 696 (((4 * ((upS (upS (upS (upS S900 682 0 0) 682 12 0) 682 13 0) 682 22 0) 682 22))).toNat) 0) 696 ((((4 * ((upS (upS (upS (upS (upS S900 682 0 0) 682 12 0) 682 13 0) 682 22 0) 696 (((4 * ((upS (upS (upS (upS S900 682 0 0) 682 12 0) 682 13 0) 682 22 0) 682 22))).toNat) 0) 682 22)) + 1)).toNat) 0) 696 ((((4 * ((upS (upS (upS (upS (upS (upS S900 682 0 0) 682 12 0) 682 13 0) 682 22 0) 696 (((4 * ((upS (upS (upS (upS S900 682 0 0) 682 12 0) 682 13 0) 682 22 0) 682 22))).toNat) 0) 696 ((((4 * ((upS (upS (upS (upS (upS S900 682 0 0) 682 12 0) 682 13 0) 682 22 0) 696 (((4 * ((upS (upS (upS (upS S900 682 0 0) 682 12 0) 682 13 0) 682 22 0) 682 22))).toNat) 0) 682 22)) + 1)).toNat) 0) 682 22)) + 2)).toNat) 0) 696 ((((4 * ((upS (upS (upS (upS (upS (upS (upS S900 682 0 0) 682 12 0) 682 13 0) 682 22 0) 696 (((4 * ((upS (upS (upS (upS S900 682 0 0) 682 12 0) 682 13 0) 682 22 0) 682 22))).toNat) 0) 696 ((((4 * ((upS (upS (upS (upS (upS S900 682 0 0) 682 12 0) 682 13 0) 682 22 0) 696 (((4 * ((upS (upS (upS (upS S900 682 0 0) 682 12 0) 682 13 0) 682 22 0) 682 22))).toNat) 0) 682 22)) + 1)).toNat) 0) 696 ((((4 * ((upS (upS (upS (upS (upS (upS S900 682 0 0) 682 12 0) 682 13 0) 682 22 0) 696 (((4 * ((upS (upS (upS (upS S900 682 0 0) 682 12 0) 682 13 0) 682 22 0) 682 22))).toNat) 0) 696 ((((4 * ((upS (upS (upS (upS (upS S900 682 0 0) 682 12 0) 682 13 0) 682 22 0) 696 (((4 * ((upS (upS (upS (upS S900 682 0 0) 682 12 0) 682 13 0) 682 22 0) 682 22))).toNat) 0) 682 22)) + 1)).toNat) 0) 682 22)) + 2)).toNat) 0) 682 22)) + 3)).toNat) 0) 682 22) + 1) ≤ 2147483647 by first | omega | (simp [upS, hz, za1, z1a1, ca1, za2, z1a2, ca2, E900]; done) | (simp [upS, hz, za1, z1a1, ca1, za2, z1a2, ca2, E900]; omega)), ?_⟩
        rw [(show (upS (upS (upS (upS (upS (upS (upS (upS (upS S900 682 0 0) 682 12 0) 682 13 0) 682 22 0) 696 (((4 * ((upS (upS (upS (upS S900 682 0 0) 682 12 0) 682 13 0) 682 22 0) 682 22))).toNat) 0) 696 ((((4 * ((upS (upS (upS (upS (upS S900 682 0 0) 682 12 0) 682 13 0) 682 22 0) 696 (((4 * ((upS (upS (upS (upS S900 682 0 0) 682 12 0) 682 13 0) 682 22 0) 682 22))).toNat) 0) 682 22)) + 1)).toNat) 0) 696 ((((4 * ((upS (upS (upS (upS (upS (upS S900 682 0 0) 682 12 0) 682 13 0) 682 22 0) 696 (((4 * ((upS (upS (upS (upS S900 682 0 0) 682 12 0) 682 13 0) 682 22 0) 682 22))).toNat) 0) 696 ((((4 * ((upS (upS (upS (upS (upS S900 682 0 0) 682 12 0) 682 13 0) 682 22 0) 696 (((4 * ((upS (upS (upS (upS S900 682 0 0) 682 12 0) 682 13 0) 682 22 0) 682 22))).toNat) 0) 682 22)) + 1)).toNat) 0) 682 22)) + 2)).toNat) 0) 696 ((((4 * ((upS (upS (upS (upS (upS (upS (upS S900 682 0 0) 682 12 0) 682 13 0) 682 22 0) 696 (((4 * ((upS (upS (upS (upS S900 682 0 0) 682 12 0) 682 13 0) 682 22 0) 682 22))).toNat) 0) 696 ((((4 * ((upS (upS (upS (upS (upS S900 682 0 0) 682 12 0) 682 13 0) 682 22 0) 696 (((4 * ((upS (upS (upS (upS S900 682 0 0) 682 12 0) 682 13 0) 682 22 0) 682 22))).toNat) 0) 682 22)) + 1)).toNat) 0) 696 ((((4 * ((upS (upS (upS (upS (upS (upS S900 682 0 0) 682 12 0) 682 13 0) 682 22 0) 696 (((4 * ((upS (upS (upS (upS S900 682 0 0) 682 12 0) 682 13 0) 682 22 0) 682 22))).toNat) 0) 696 ((((4 * ((upS (upS (upS (upS (upS S900 682 0 0) 682 12 0) 682 13 0) 682 22 0) 696 (((4 * ((upS (upS (upS (upS S900 682 0 0) 682 12 0) 682 13 0) 682 22 0) 682 22))).toNat) 0) 682 22)) + 1)).toNat) 0) 682 22)) + 2)).toNat) 0) 682 22)) + 3)).toNat) 0) 682 22 (((upS (upS (upS (upS (upS (upS (upS (upS S900 682 0 0) 682 12 0) 682 13 0) 682 22 0) 696 (((4 * ((upS (upS (upS (upS S900 682 0 0) 682 12 0) 682 13 0) 682 22 0) 682 22))).toNat) 0) 696 ((((4 * ((upS (upS (upS (upS (upS S900 682 0 0) 682 12 0) 682 13 0) 682 22 0) 696 (((4 * ((upS (upS (upS (upS S900 682 0 0) 682 12 0) 682 13 0) 682 22 0) 682 22))).toNat) 0) 682 22)) + 1)).toNat) 0) 696 ((((4 * ((upS (upS (upS (upS (upS (upS S900 682 0 0) 682 12 0) 682 13 0) 682 22 0) 696 (((4 * ((upS (upS (upS (upS S900 682 0 0) 682 12 0) 682 13 0) 682 22 0) 682 22))).toNat) 0) 696 ((((4 * ((upS (upS (upS (upS (upS S900 682 0 0) 682 12 0) 682 13 0) 682 22 0) 696 (((4 * ((upS (upS (upS (upS S900 682 0 0) 682 12 0) 682 13 0) 682 22 0) 682 22))).toNat) 0) 682 22)) + 1)).toNat) 0) 682 22)) + 2)).toNat) 0) 696 ((((4 * ((upS (upS (upS (upS (upS (upS (upS S900 682 0 0) 682 12 0) 682 13 0) 682 22 0) 696 (((4 * ((upS (upS (upS (upS S900 682 0 0) 682 12 0) 682 13 0) 682 22 0) 682 22))).toNat) 0) 696 ((((4 * ((upS (upS (upS (upS (upS S900 682 0 0) 682 12 0) 682 13 0) 682 22 0) 696 (((4 * ((upS (upS (upS (upS S900 682 0 0) 682 12 0) 682 13 0) 682 22 0) 682 22))).toNat) 0) 682 22)) + 1)).toNat) 0) 696 ((((4 * ((upS (upS (upS (upS (upS (upS S900 682 0 0) 682 12 0) 682 13 0) 682 22 0) 696 (((4 * ((upS (upS (upS (upS S900 682 0 0) 682 12 0) 682 13 0) 682 22 0) 682 22))).toNat) 0) 696 ((((4 * ((upS (upS (upS (upS (upS S900 682 0 0) 682 12 0) 682 13 0) 682 22 0) 696 (((4 * ((upS (upS (upS (upS S900 682 0 0) 682 12 0) 682 13 0) 682 22 0) 682 22))).toNat) 0) 682 22)) + 1)).toNat) 0) 682 22)) + 2)).toNat) 0) 682 22)) + 3)).toNat) 0) 682 22) + 1)) = (upS (upS (upS (upS (upS (upS (upS (upS (upS S900 682 0 0) 682 12 0) 682 13 0) 682 22 0) 696 0 0) 696 1 0) 696 2 0) 696 3 0) 682 22 1) from by rw [show (((upS (upS (upS (upS (upS (upS (upS (upS S900 682 0 0) 682 12 0) 682 13 0) 682 22 0) 696 (((4 * ((upS (upS (upS (upS S900 682 0 0) 682 12 0) 682 13 0) 682 22 0) 682 22))).toNat) 0) 696 ((((4 * ((upS (upS (upS (upS (upS S900 682 0 0) 682 12 0) 682 13 0) 682 22 0) 696 (((4 * ((upS (upS (upS (upS S900 682 0 0) 682 12 0) 682 13 0) 682 22 0) 682 22))).toNat) 0) 682 22)) + 1)).toNat) 0) 696 ((((4 * ((upS (upS (upS (upS (upS (upS S900 682 0 0) 682 12 0) 682 13 0) 682 22 0) 696 (((4 * ((upS (upS (upS (upS S900 682 0 0) 682 12 0) 682 13 0) 682 22 0) 682 22))).toNat) 0) 696 ((((4 * ((upS (upS (upS (upS (upS S900 682 0 0) 682 12 0) 682 13 0) 682 22 0) 696 (((4 * ((upS (upS (upS (upS S900 682 0 0) 682 12 0) 682 13 0) 682 22 0) 682 22))).toNat) 0) 682 22)) + 1)).toNat) 0) 682 22)) + 2)).toNat) 0) 696 ((((4 * ((upS (upS (upS (upS (upS (upS (upS S900 682 0 0) 682 12 0) 682 13 0) 682 22 0) 696 (((4 * ((upS (upS (upS (upS S900 682 0 0) 682 12 0) 682 13 0) 682 22 0) 682 22))).toNat) 0) 696 ((((4 * ((upS (upS (upS (upS (upS S900 682 0 0) 682 12 0) 682 13 0) 682 22 0) 696 (((4 * ((upS (upS (upS (upS S900 682 0 0) 682 12 0) 682 13 0) 682 22 0) 682 22))).toNat) 0) 682 22)) + 1)).toNat) 0) 696 ((((4 * ((upS (upS (upS (upS (upS (upS S900 682 0 0) 682 12 0) 682 13 0) 682 22 0) 696 (((4 * ((upS (upS (upS (upS S900 682 0 0) 682 12 0) 682 13 0) 682 22 0) 682 22))).toNat) 0) 696 ((((4 * ((upS (upS (upS (upS (upS S900 682 0 0) 682 12 0) 682 13 0) 682 22 0) 696 (((4 * ((upS (upS (upS (upS S900 682 0 0) 682 12 0) 682 13 0) 682 22 0) 682 22))).toNat) 0) 682 22)) + 1)).toNat) 0) 682 22)) + 2)).toNat) 0) 682 22)) + 3)).toNat) 0) 682 22) + 1) = 1 by (first | omega | (simp [upS, hz, za1, z1a1, ca1, za2, z1a2, ca2, E900]; done) | (simp [upS, hz, za1, z1a1, ca1, za2, z1a2, ca2, E900]; omega)), show ((((4 * ((upS (upS (upS (upS (upS (upS (upS S900 682 0 0) 682 12 0) 682 13 0) 682 22 0) 696 (((4 * ((upS (upS (upS (upS S900 682 0 0) 682 12 0) 682 13 0) 682 22 0) 682 22))).toNat) 0) 696 ((((4 * ((upS (upS (upS (upS (upS S900 682 0 0) 682 12 0) 682 13 0) 682 22 0) 696 (((4 * ((upS (upS (upS (upS S900 682 0 0) 682 12 0) 682 13 0) 682 22 0) 682 22))).toNat) 0) 682 22)) + 1)).toNat) 0) 696 ((((4 * ((upS (upS (upS (upS (upS (upS S900 682 0 0) 682 12 0) 682 13 0) 682 22 0) 696 (((4 * ((upS (upS (upS (upS S900 682 0 0) 682 12 0) 682 13 0) 682 22 0) 682 22))).toNat) 0) 696 ((((4 * ((upS (upS (upS (upS (upS S900 682 0 0) 682 12 0) 682 13 0) 682 22 0) 696 (((4 * ((upS (upS (upS (upS S900 682 0 0) 682 12 0) 682 13 0) 682 22 0) 682 22))).toNat) 0) 682 22)) + 1)).toNat) 0) 682 22)) + 2)).toNat) 0) 682 22)) + 3)).toNat) = 3 by (first | omega | (simp [upS, hz, za1, z1a1, ca1, za2, z1a2, ca2, E900]; done) | (simp [upS, hz, za1, z1a1, ca1, za2, z1a2, ca2, E900]; omega)), show ((((4 * ((upS (upS (upS (upS (upS (upS S900 682 0 0) 682 12 0) 682 13 0) 682 22 0) 696 (((4 * ((upS (upS (upS (upS S900 682 0 0) 682 12 0) 682 13 0) 682 22 0) 682 22))).toNat) 0) 696 ((((4 * ((upS (upS (upS (upS (upS S900 682 0 0) 682 12 0) 682 13 0) 682 22 0) 696 (((4 * ((upS (upS (upS (upS S900 682 0 0) 682 12 0) 682 13 0) 682 22 0) 682 22))).toNat) 0) 682 22)) + 1)).toNat) 0) 682 22)) + 2)).toNat) = 2 by (first | omega | (simp [upS, hz, za1, z1a1, ca1, za2, z1a2, ca2, E900]; done) | (simp [upS, hz, za1, z1a1, ca1, za2, z1a2, ca2, E900]; omega)), show ((((4 * ((upS (upS (upS (upS (upS S900 682 0 0) 682 12 0) 682 13 0) 682 22 0) 696 (((4 * ((upS (upS (upS (upS S900 682 0 0) 682 12 0) 682 13 0) 682 22 0) 682 22))).toNat) 0) 682 22)) + 1)).toNat) = 1 by (first | omega | (simp [upS, hz, za1, z1a1, ca1, za2, z1a2, ca2, E900]; done) | (simp [upS, hz, za1, z1a1, ca1, za2, z1a2, ca2, E900]; omega)), show (((4 * ((upS (upS (upS (upS S900 682 0 0) 682 12 0) 682 13 0) 682 22 0) 682 22))).toNat) = 0 by (first | omega | (simp [upS, hz, za1, z1a1, ca1, za2, z1a2, ca2, E900]; done) | (simp [upS, hz, za1, z1a1, ca1, za2, z1a2, ca2, E900]; omega))])]
        all_goals rfl
      obtain ⟨S34, E34⟩ : ∃ s : Sg, s = (upS (upS (upS (upS (upS (upS (upS (upS (upS S900 682 0 0) 682 12 0) 682 13 0) 682 22 0) 696 0 0) 696 1 0) 696 2 0) 696 3 0) 682 22 1) := ⟨_, rfl⟩
      rw [← E34] at hD33
      refine ⟨_, hD33, ?_⟩
      clear hD33
      refine b274_42 ?_
      rw [if_pos (show (0 : Int) < (S34 682 22) by first | omega | (simp [upS, hz, za1, z1a1, ca1, za2, z1a2, ca2, E900, E34]; done) | (simp [upS, hz, za1, z1a1, ca1, za2, z1a2, ca2, E900, E34]; omega))]
      refine ⟨(show -2147483648 ≤ ((S34 682 22) - 1) ∧ ((S34 682 22) - 1) ≤ 2147483647 by first | omega | (simp [upS, hz, za1, z1a1, ca1, za2, z1a2, ca2, E900, E34]; done) | (simp [upS, hz, za1, z1a1, ca1, za2, z1a2, ca2, E900, E34]; omega)), ?_⟩
      refine ⟨(show -2147483648 ≤ (4 * ((upS S34 682 22 ((S34 682 22) - 1)) 682 22)) ∧ (4 * ((upS S34 682 22 ((S34 682 22) - 1)) 682 22)) ≤ 2147483647 by first | omega | (simp [upS, hz, za1, z1a1, ca1, za2, z1a2, ca2, E900, E34]; done) | (simp [upS, hz, za1, z1a1, ca1, za2, z1a2, ca2, E900, E34]; omega)), ?_⟩
      refine ⟨(show 0 ≤ (4 * ((upS S34 682 22 ((S34 682 22) - 1)) 682 22)) ∧ (4 * ((upS S34 682 22 ((S34 682 22) - 1)) 682 22)) < 512 by first | omega | (simp [upS, hz, za1, z1a1, ca1, za2, z1a2, ca2, E900, E34]; done) | (simp [upS, hz, za1, z1a1, ca1, za2, z1a2, ca2, E900, E34]; omega)), ?_⟩
      refine ⟨(show -2147483648 ≤ (4 * ((upS (upS S34 682 22 ((S34 682 22) - 1)) 682 17 ((upS S34 682 22 ((S34 682 22) - 1)) 696 ((4 * ((upS S34 682 22 ((S34 682 22) - 1)) 682 22))).toNat)) 682 22)) ∧ (4 * ((upS (upS S34 682 22 ((S34 682 22) - 1)) 682 17 ((upS S34 682 22 ((S34 682 22) - 1)) 696 ((4 * ((upS S34 682 22 ((S34 682 22) - 1)) 682 22))).toNat)) 682 22)) ≤ 2147483647 by first | omega | (simp [upS, hz, za1, z1a1, ca1, za2, z1a2, ca2, E900, E34]; done) | (simp [upS, hz, za1, z1a1, ca1, za2, z1a2, ca2, E900, E34]; omega)), ?_⟩
      refine ⟨(show -2147483648 ≤ ((4 * ((upS (upS S34 682 22 ((S34 682 22) - 1)) 682 17 ((upS S34 682 22 ((S34 682 22) - 1)) 696 ((4 * ((upS S34 682 22 ((S34 682 22) - 1)) 682 22))).toNat)) 682 22)) + 1) ∧ ((4 * ((upS (upS S34 682 22 ((S34 682 22) - 1)) 682 17 ((upS S34 682 22 ((S34 682 22) - 1)) 696 ((4 * ((upS S34 682 22 ((S34 682 22) - 1)) 682 22))).toNat)) 682 22)) + 1) ≤ 2147483647 by first | omega | (simp [upS, hz, za1, z1a1, ca1, za2, z1a2, ca2, E900, E34]; done) | (simp [upS, hz, za1, z1a1, ca1, za2, z1a2, ca2, E900, E34]; omega)), ?_⟩
      refine ⟨(show 0 ≤ ((4 * ((upS (upS S34 682 22 ((S34 682 22) - 1)) 682 17 ((upS S34 682 22 ((S34 682 22) - 1)) 696 ((4 * ((upS S34 682 22 ((S34 682 22) - 1)) 682 22))).toNat)) 682 22)) + 1) ∧ ((4 * ((upS (upS S34 682 22 ((S34 682 22) - 1)) 682 17 ((upS S34 682 22 ((S34 682 22) - 1)) 696 ((4 * ((upS S34 682 22 ((S34 682 22) - 1)) 682 22))).toNat)) 682 22)) + 1) < 512 by first | omega | (simp [upS, hz, za1, z1a1, ca1, za2, z1a2, ca2, E900, E34]; done) | (simp [upS, hz, za1, z1a1, ca1, za2, z1a2, ca2, E900, E34]; omega)), ?_⟩
      refine ⟨(show -2147483648 ≤ (4 * ((upS (upS (upS S34 682 22 ((S34 682 22) - 1)) 682 17 ((upS S34 682 22 ((S34 682 22) - 1)) 696 ((4 * ((upS S34 682 22 ((S34 682 22) - 1)) 682 22))).toNat)) 682 18 ((upS (upS S34 682 22 ((S34 682 22) - 1)) 682 17 ((upS S34 682 22 ((S34 682 22) - 1)) 696 ((4 * ((upS S34 682 22 ((S34 682 22) - 1)) 682 22))).toNat)) 696 (((4 * ((upS (upS S34 682 22 ((S34 682 22) - 1)) 682 17 ((upS S34 682 22 ((S34 682 22) - 1)) 696 ((4 * ((upS S34 682 22 ((S34 682 22) - 1)) 682 22))).toNat)) 682 22)) + 1)).toNat)) 682 22)) ∧ (4 * ((upS (upS (upS S34 682 22 ((S34 682 22) - 1)) 682 17 ((upS S34 682 22 ((S34 682 22) - 1)) 696 ((4 * ((upS S34 682 22 ((S34 682 22) - 1)) 682 22))).toNat)) 682 18 ((upS (upS S34 682 22 ((S34 682 22) - 1)) 682 17 ((upS S34 682 22 ((S34 682 22) - 1)) 696 ((4 * ((upS S34 682 22 ((S34 682 22) - 1)) 682 22))).toNat)) 696 (((4 * ((upS (upS S34 682 22 ((S34 682 22) - 1)) 682 17 ((upS S34 682 22 ((S34 682 22) - 1)) 696 ((4 * ((upS S34 682 22 ((S34 682 22) - 1)) 682 22))).toNat)) 682 22)) + 1)).toNat)) 682 22)) ≤ 2147483647 by first | omega | (simp [upS, hz, za1, z1a1, ca1, za2, z1a2, ca2, E900, E34]; done) | (simp [upS, hz, za1, z1a1, ca1, za2, z1a2, ca2, E900, E34]; omega)), ?_⟩
      refine ⟨(show -2147483648 ≤ ((4 * ((upS (upS (upS S34 682 22 ((S34 682 22) - 1)) 682 17 ((upS S34 682 22 ((S34 682 22) - 1)) 696 ((4 * ((upS S34 682 22 ((S34 682 22) - 1)) 682 22))).toNat)) 682 18 ((upS (upS S34 682 22 ((S34 682 22) - 1)) 682 17 ((upS S34 682 22 ((S34 682 22) - 1)) 696 ((4 * ((upS S34 682 22 ((S34 682 22) - 1)) 682 22))).toNat)) 696 (((4 * ((upS (upS S34 682 22 ((S34 682 22) - 1)) 682 17 ((upS S34 682 22 ((S34 682 22) - 1)) 696 ((4 * ((upS S34 682 22 ((S34 682 22) - 1)) 682 22))).toNat)) 682 22)) + 1)).toNat)) 682 22)) + 2) ∧ ((4 * ((upS (upS (upS S34 682 22 ((S34 682 22) - 1)) 682 17 ((upS S34 682 22 ((S34 682 22) - 1)) 696 ((4 * ((upS S34 682 22 ((S34 682 22) - 1)) 682 22))).toNat)) 682 18 ((upS (upS S34 682 22 ((S34 682 22) - 1)) 682 17 ((upS S34 682 22 ((S34 682 22) - 1)) 696 ((4 * ((upS S34 682 22 ((S34 682 22) - 1)) 682 22))).toNat)) 696 (((4 * ((upS (upS S34 682 22 ((S34 682 22) - 1)) 682 17 ((upS S34 682 22 ((S34 682 22) - 1)) 696 ((4 * ((upS S34 682 22 ((S34 682 22) - 1)) 682 22))).toNat)) 682 22)) + 1)).toNat)) 682 22)) + 2) ≤ 2147483647 by first | omega | (simp [upS, hz, za1, z1a1, ca1, za2, z1a2, ca2, E900, E34]; done) | (simp [upS, hz, za1, z1a1, ca1, za2, z1a2, ca2, E900, E34]; omega)), ?_⟩
      refine ⟨(show 0 ≤ ((4 * ((upS (upS (upS S34 682 22 ((S34 682 22) - 1)) 682 17 ((upS S34 682 22 ((S34 682 22) - 1)) 696 ((4 * ((upS S34 682 22 ((S34 682 22) - 1)) 682 22))).toNat)) 682 18 ((upS (upS S34 682 22 ((S34 682 22) - 1)) 682 17 ((upS S34 682 22 ((S34 682 22) - 1)) 696 ((4 * ((upS S34 682 22 ((S34 682 22) - 1)) 682 22))).toNat)) 696 (((4 * ((upS (upS S34 682 22 ((S34 682 22) - 1)) 682 17 ((upS S34 682 22 ((S34 682 22) - 1)) 696 ((4 * ((upS S34 682 22 ((S34 682 22) - 1)) 682 22))).toNat)) 682 22)) + 1)).toNat)) 682 22)) + 2) ∧ ((4 * ((upS (upS (upS S34 682 22 ((S34 682 22) - 1)) 682 17 ((upS S34 682 22 ((S34 682 22) - 1)) 696 ((4 * ((upS S34 682 22 ((S34 682 22) - 1)) 682 22))).toNat)) 682 18 ((upS (upS S34 682 22 ((S34 682 22) - 1)) 682 17 ((upS S34 682 22 ((S34 682 22) - 1)) 696 ((4 * ((upS S34 682 22 ((S34 682 22) - 1)) 682 22))).toNat)) 696 (((4 * ((upS (upS S34 682 22 ((S34 682 22) - 1)) 682 17 ((upS S34 682 22 ((S34 682 22) - 1)) 696 ((4 * ((upS S34 682 22 ((S34 682 22) - 1)) 682 22))).toNat)) 682 22)) + 1)).toNat)) 682 22)) + 2) < 512 by first | omega | (simp [upS, hz, za1, z1a1, ca1, za2, z1a2, ca2, E900, E34]; done) | (simp [upS, hz, za1, z1a1, ca1, za2, z1a2, ca2, E900, E34]; omega)), ?_⟩
      refine ⟨(show -2147483648 ≤ (4 * ((upS (upS (upS (upS S34 682 22 ((S34 682 22) - 1)) 682 17 ((upS S34 682 22 ((S34 682 22) - 1)) 696 ((4 * ((upS S34 682 22 ((S34 682 22) - 1)) 682 22))).toNat)) 682 18 ((upS (upS S34 682 22 ((S34 682 22) - 1)) 682 17 ((upS S34 682 22 ((S34 682 22) - 1)) 696 ((4 * ((upS S34 682 22 ((S34 682 22) - 1)) 682 22))).toNat)) 696 (((4 * ((upS (upS S34 682 22 ((S34 682 22) - 1)) 682 17 ((upS S34 682 22 ((S34 682 22) - 1)) 696 ((4 * ((upS S34 682 22 ((S34 682 22) - 1)) 682 22))).toNat)) 682 22)) + 1)).toNat)) 682 19 ((upS (upS (upS S34 682 22 ((S34 682 22) - 1)) 682 17 ((upS S34 682 22 ((S34 682 22) - 1)) 696 ((4 * ((upS S34 682 22 ((S34 682 22) - 1)) 682 22))).toNat)) 682 18 ((upS (upS S34 682 22 ((S34 682 22) - 1)) 682 17 ((upS S34 682 22 ((S34 682 22) - 1)) 696 ((4 * ((upS S34 682 22 ((S34 682 22) - 1)) 682 22))).toNat)) 696 (((4 * ((upS (upS S34 682 22 ((S34 682 22) - 1)) 682 17 ((upS S34 682 22 ((S34 682 22) - 1)) 696 ((4 * ((upS S34 682 22 ((S34 682 22) - 1)) 682 22))).toNat)) 682 22)) + 1)).toNat)) 696 (((4 * ((upS (upS (upS S34 682 22 ((S34 682 22) - 1)) 682 17 ((upS S34 682 22 ((S34 682 22) - 1)) 696 ((4 * ((upS S34 682 22 ((S34 682 22) - 1)) 682 22))).toNat)) 682 18 ((upS (upS S34 682 22 ((S34 682 22) - 1)) 682 17 ((upS S34 682 22 ((S34 682 22) - 1)) 696 ((4 * ((upS S34 682 22 ((S34 682 22) - 1)) 682 22))).toNat)) 696 (((4 * ((upS (upS S34 682 22 ((S34 682 22) - 1)) 682 17 ((upS S34 682 22 ((S34 682 22) - 1)) 696 ((4 * ((upS S34 682 22 ((S34 682 22) - 1)) 682 22))).toNat)) 682 22)) + 1)).toNat)) 682 22)) + 2)).toNat)) 682 22)) ∧ (4 * ((upS (upS (upS (upS S34 682 22 ((S34 682 22) - 1)) 682 17 ((upS S34 682 22 ((S34 682 22) - 1)) 696 ((4 * ((upS S34 682 22 ((S34 682 22) - 1)) 682 22))).toNat)) 682 18 ((upS (upS S34 682 22 ((S34 682 22) - 1)) 682 17 ((upS S34 682 22 ((S34 682 22) - 1)) 696 ((4 * ((upS S34 682 22 ((S34 682 22) - 1)) 682 22))).toNat)) 696 (((4 * ((upS (upS S34 682 22 ((S34 682 22) - 1)) 682 17 ((upS S34 682 22 ((S34 682 22) - 1)) 696 ((4 * ((upS S34 682 22 ((S34 682 22) - 1)) 682 22))).toNat)) 682 22)) + 1)).toNat)) 682 19 ((upS (upS (upS S34 682 22 ((S34 682 22) - 1)) 682 17 ((upS S34 682 22 ((S34 682 22) - 1)) 696 ((4 * ((upS S34 682 22 ((S34 682 22) - 1)) 682 22))).toNat)) 682 18 ((upS (upS S34 682 22 ((S34 682 22) - 1)) 682 17 ((upS S34 682 22 ((S34 682 22) - 1)) 696 ((4 * ((upS S34 682 22 ((S34 682 22) - 1)) 682 22))).toNat)) 696 (((4 * ((upS (upS S34 682 22 ((S34 682 22) - 1)) 682 17 ((upS S34 682 22 ((S34 682 22) - 1)) 696 ((4 * ((upS S34 682 22 ((S34 682 22) - 1)) 682 22))).toNat)) 682 22)) + 1)).toNat)) 696 (((4 * ((upS (upS (upS S34 682 22 ((S34 682 22) - 1)) 682 17 ((upS S34 682 22 ((S34 682 22) - 1)) 696 ((4 * ((upS S34 682 22 ((S34 682 22) - 1)) 682 22))).toNat)) 682 18 ((upS (upS S34 682 22 ((S34 682 22) - 1)) 682 17 ((upS S34 682 22 ((S34 682 22) - 1)) 696 ((4 * ((upS S34 682 22 ((S34 682 22) - 1)) 682 22))).toNat)) 696 (((4 * ((upS (upS S34 682 22 ((S34 682 22) - 1)) 682 17 ((upS S34 682 22 ((S34 682 22) - 1)) 696 ((4 * ((upS S34 682 22 ((S34 682 22) - 1)) 682 22))).toNat)) 682 22)) + 1)).toNat)) 682 22)) + 2)).toNat)) 682 22)) ≤ 2147483647 by first | omega | (simp [upS, hz, za1, z1a1, ca1, za2, z1a2, ca2, E900, E34]; done) | (simp [upS, hz, za1, z1a1, ca1, za2, z1a2, ca2, E900, E34]; omega)), ?_⟩
      refine ⟨(show -2147483648 ≤ ((4 * ((upS (upS (upS (upS S34 682 22 ((S34 682 22) - 1)) 682 17 ((upS S34 682 22 ((S34 682 22) - 1)) 696 ((4 * ((upS S34 682 22 ((S34 682 22) - 1)) 682 22))).toNat)) 682 18 ((upS (upS S34 682 22 ((S34 682 22) - 1)) 682 17 ((upS S34 682 22 ((S34 682 22) - 1)) 696 ((4 * ((upS S34 682 22 ((S34 682 22) - 1)) 682 22))).toNat)) 696 (((4 * ((upS (upS S34 682 22 ((S34 682 22) - 1)) 682 17 ((upS S34 682 22 ((S34 682 22) - 1)) 696 ((4 * ((upS S34 682 22 ((S34 682 22) - 1)) 682 22))).toNat)) 682 22)) + 1)).toNat)) 682 19 ((upS (upS (upS S34 682 22 ((S34 682 22) - 1)) 682 17 ((upS S34 682 22 ((S34 682 22) - 1)) 696 ((4 * ((upS S34 682 22 ((S34 682 22) - 1)) 682 22))).toNat)) 682 18 ((upS (upS S34 682 22 ((S34 682 22) - 1)) 682 17 ((upS S34 682 22 ((S34 682 22) - 1)) 696 ((4 * ((upS S34 682 22 ((S34 682 22) - 1)) 682 22))).toNat)) 696 (((4 * ((upS (upS S34 682 22 ((S34 682 22) - 1)) 682 17 ((upS S34 682 22 ((S34 682 22) - 1)) 696 ((4 * ((upS S34 682 22 ((S34 682 22) - 1)) 682 22))).toNat)) 682 22)) + 1)).toNat)) 696 (((4 * ((upS (upS (upS S34 682 22 ((S34 682 22) - 1)) 682 17 ((upS S34 682 22 ((S34 682 22) - 1)) 696 ((4 * ((upS S34 682 22 ((S34 682 22) - 1)) 682 22))).toNat)) 682 18 ((upS (upS S34 682 22 ((S34 682 22) - 1)) 682 17 ((upS S34 682 22 ((S34 682 22) - 1)) 696 ((4 * ((upS S34 682 22 ((S34 682 22) - 1)) 682 22))).toNat)) 696 (((4 * ((upS (upS S34 682 22 ((S34 682 22) - 1)) 682 17 ((upS S34 682 22 ((S34 682 22) - 1)) 696 ((4 * ((upS S34 682 22 ((S34 682 22) - 1)) 682 22))).toNat)) 682 22)) + 1)).toNat)) 682 22)) + 2)).toNat)) 682 22)) + 3) ∧ ((4 * ((upS (upS (upS (upS S34 682 22 ((S34 682 22) - 1)) 682 17 ((upS S34 682 22 ((S34 682 22) - 1)) 696 ((4 * ((upS S34 682 22 ((S34 682 22) - 1)) 682 22))).toNat)) 682 18 ((upS (upS S34 682 22 ((S34 682 22) - 1)) 682 17 ((upS S34 682 22 ((S34 682 22) - 1)) 696 ((4 * ((upS S34 682 22 ((S34 682 22) - 1)) 682 22))).toNat)) 696 (((4 * ((upS (upS S34 682 22 ((S34 682 22) - 1)) 682 17 ((upS S34 682 22 ((S34 682 22) - 1)) 696 ((4 * ((upS S34 682 22 ((S34 682 22) - 1)) 682 22))).toNat)) 682 22)) + 1)).toNat)) 682 19 ((upS (upS (upS S34 682 22 ((S34 682 22) - 1)) 682 17 ((upS S34 682 22 ((S34 682 22) - 1)) 696 ((4 * ((upS S34 682 22 ((S34 682 22) - 1)) 682 22))).toNat)) 682 18 ((upS (upS S34 682 22 ((S34 682 22) - 1)) 682 17 ((upS S34 682 22 ((S34 682 22) - 1)) 696 ((4 * ((upS S34 682 22 ((S34 682 22) - 1)) 682 22))).toNat)) 696 (((4 * ((upS (upS S34 682 22 ((S34 682 22) - 1)) 682 17 ((upS S34 682 22 ((S34 682 22) - 1)) 696 ((4 * ((upS S34 682 22 ((S34 682 22) - 1)) 682 22))).toNat)) 682 22)) + 1)).toNat)) 696 (((4 * ((upS (upS (upS S34 682 22 ((S34 682 22) - 1)) 682 17 ((upS S34 682 22 ((S34 682 22) - 1)) 696 ((4 * ((upS S34 682 22 ((S34 682 22) - 1)) 682 22))).toNat)) 682 18 ((upS (upS S34 682 22 ((S34 682 22) - 1)) 682 17 ((upS S34 682 22 ((S34 682 22) - 1)) 696 ((4 * ((upS S34 682 22 ((S34 682 22) - 1)) 682 22))).toNat)) 696 (((4 * ((upS (upS S34 682 22 ((S34 682 22) - 1)) 682 17 ((upS S34 682 22 ((S34 682 22) - 1)) 696 ((4 * ((upS S34 682 22 ((S34 682 22) - 1)) 682 22))).toNat)) 682 22)) + 1)).toNat)) 682 22)) + 2)).toNat)) 682 22)) + 3) ≤ 2147483647 by first | omega | (simp [upS, hz, za1, z1a1, ca1, za2, z1a2, ca2, E900, E34]; done) | (simp [upS, hz, za1, z1a1, ca1, za2, z1a2, ca2, E900, E34]; omega)), ?_⟩
      refine ⟨(show 0 ≤ ((4 * ((upS (upS (upS (upS S34 682 22 ((S34 682 22) - 1)) 682 17 ((upS S34 682 22 ((S34 682 22) - 1)) 696 ((4 * ((upS S34 682 22 ((S34 682 22) - 1)) 682 22))).toNat)) 682 18 ((upS (upS S34 682 22 ((S34 682 22) - 1)) 682 17 ((upS S34 682 22 ((S34 682 22) - 1)) 696 ((4 * ((upS S34 682 22 ((S34 682 22) - 1)) 682 22))).toNat)) 696 (((4 * ((upS (upS S34 682 22 ((S34 682 22) - 1)) 682 17 ((upS S34 682 22 ((S34 682 22) - 1)) 696 ((4 * ((upS S34 682 22 ((S34 682 22) - 1)) 682 22))).toNat)) 682 22)) + 1)).toNat)) 682 19 ((upS (upS (upS S34 682 22 ((S34 682 22) - 1)) 682 17 ((upS S34 682 22 ((S34 682 22) - 1)) 696 ((4 * ((upS S34 682 22 ((S34 682 22) - 1)) 682 22))).toNat)) 682 18 ((upS (upS S34 682 22 ((S34 682 22) - 1)) 682 17 ((upS S34 682 22 ((S34 682 22) - 1)) 696 ((4 * ((upS S34 682 22 ((S34 682 22) - 1)) 682 22))).toNat)) 696 (((4 * ((upS (upS S34 682 22 ((S34 682 22) - 1)) 682 17 ((upS S34 682 22 ((S34 682 22) - 1)) 696 ((4 * ((upS S34 682 22 ((S34 682 22) - 1)) 682 22))).toNat)) 682 22)) + 1)).toNat)) 696 (((4 * ((upS (upS (upS S34 682 22 ((S34 682 22) - 1)) 682 17 ((upS S34 682 22 ((S34 682 22) - 1)) 696 ((4 * ((upS S34 682 22 ((S34 682 22) - 1)) 682 22))).toNat)) 682 18 ((upS (upS S34 682 22 ((S34 682 22) - 1)) 682 17 ((upS S34 682 22 ((S34 682 22) - 1)) 696 ((4 * ((upS S34 682 22 ((S34 682 22) - 1)) 682 22))).toNat)) 696 (((4 * ((upS (upS S34 682 22 ((S34 682 22) - 1)) 682 17 ((upS S34 682 22 ((S34 682 22) - 1)) 696 ((4 * ((upS S34 682 22 ((S34 682 22) - 1)) 682 22))).toNat)) 682 22)) + 1)).toNat)) 682 22)) + 2)).toNat)) 682 22)) + 3) ∧ ((4 * ((upS (upS (upS (upS S34 682 22 ((S34 682 22) - 1)) 682 17 ((upS S34 682 22 ((S34 682 22) - 1)) 696 ((4 * ((upS S34 682 22 ((S34 682 22) - 1)) 682 22))).toNat)) 682 18 ((upS (upS S34 682 22 ((S34 682 22) - 1)) 682 17 ((upS S34 682 22 ((S34 682 22) - 1)) 696 ((4 * ((upS S34 682 22 ((S34 682 22) - 1)) 682 22))).toNat)) 696 (((4 * ((upS (upS S34 682 22 ((S34 682 22) - 1)) 682 17 ((upS S34 682 22 ((S34 682 22) - 1)) 696 ((4 * ((upS S34 682 22 ((S34 682 22) - 1)) 682 22))).toNat)) 682 22)) + 1)).toNat)) 682 19 ((upS (upS (upS S34 682 22 ((S34 682 22) - 1)) 682 17 ((upS S34 682 22 ((S34 682 22) - 1)) 696 ((4 * ((upS S34 682 22 ((S34 682 22) - 1)) 682 22))).toNat)) 682 18 ((upS (upS S34 682 22 ((S34 682 22) - 1)) 682 17 ((upS S34 682 22 ((S34 682 22) - 1)) 696 ((4 * ((upS S34 682 22 ((S34 682 22) - 1)) 682 22))).toNat)) 696 (((4 * ((upS (upS S34 682 22 ((S34 682 22) - 1)) 682 17 ((upS S34 682 22 ((S34 682 22) - 1)) 696 ((4 * ((upS S34 682 22 ((S34 682 22) - 1)) 682 22))).toNat)) 682 22)) + 1)).toNat)) 696 (((4 * ((upS (upS (upS S34 682 22 ((S34 682 22) - 1)) 682 17 ((upS S34 682 22 ((S34 682 22) - 1)) 696 ((4 * ((upS S34 682 22 ((S34 682 22) - 1)) 682 22))).toNat)) 682 18 ((upS (upS S34 682 22 ((S34 682 22) - 1)) 682 17 ((upS S34 682 22 ((S34 682 22) - 1)) 696 ((4 * ((upS S34 682 22 ((S34 682 22) - 1)) 682 22))).toNat)) 696 (((4 * ((upS (upS S34 682 22 ((S34 682 22) - 1)) 682 17 ((upS S34 682 22 ((S34 682 22) - 1)) 696 ((4 * ((upS S34 682 22 ((S34 682 22) - 1)) 682 22))).toNat)) 682 22)) + 1)).toNat)) 682 22)) + 2)).toNat)) 682 22)) + 3) < 512 by first | omega | (simp [upS, hz, za1, z1a1, ca1, za2, z1a2, ca2, E900, E34]; done) | (simp [upS, hz, za1, z1a1, ca1, za2, z1a2, ca2, E900, E34]; omega)), ?_⟩
      rw [if_pos (show a3 = 0 by first | omega | (simp [upS, hz, za1, z1a1, ca1, za2, z1a2, ca2, E900, E34]; done) | (simp [upS, hz, za1, z1a1, ca1, za2, z1a2, ca2, E900, E34]; omega))]
      rw [(show (upS (upS (upS (upS (upS S34 682 22 ((S34 682 22) - 1)) 682 17 ((upS S34 682 22 ((S34 682 22) - 1)) 696 ((4 * ((upS S34 682 22 ((S34 682 22) - 1)) 682 22))).toNat)) 682 18 ((upS (upS S34 682 22 ((S34 682 22) - 1)) 682 17 ((upS S34 682 22 ((S34 682 22) - 1)) 696 ((4 * ((upS S34 682 22 ((S34 682 22) - 1)) 682 22))).toNat)) 696 (((4 * ((upS (upS S34 682 22 ((S34 682 22) - 1)) 682 17 ((upS S34 682 22 ((S34 682 22) - 1)) 696 ((4 * ((upS S34 682 22 ((S34 682 22) - 1)) 682 22))).toNat)) 682 22)) + 1)).toNat)) 682 19 ((upS (upS (upS S34 682 22 ((S34 682 22) - 1)) 682 17 ((upS S34 682 22 ((S34 682 22) - 1)) 696 ((4 * ((upS S34 682 22 ((S34 682 22) - 1)) 682 22))).toNat)) 682 18 ((upS (upS S34 682 22 ((S34 682 22) - 1)) 682 17 ((upS S34 682 22 ((S34 682 22) - 1)) 696 ((4 * ((upS S34 682 22 ((S34 682 22) - 1)) 682 22))).toNat)) 696 (((4 * ((upS (upS S34 682 22 ((S34 682 22) - 1)) 682 17 ((upS S34 682 22 ((S34 682 22) - 1)) 696 ((4 * ((upS S34 682 22 ((S34 682 22) - 1)) 682 22))).toNat)) 682 22)) + 1)).toNat)) 696 (((4 * ((upS (upS (upS S34 682 22 ((S34 682 22) - 1)) 682 17 ((upS S34 682 22 ((S34 682 22) - 1)) 696 ((4 * ((upS S34 682 22 ((S34 682 22) - 1)) 682 22))).toNat)) 682 18 ((upS (upS S34 682 22 ((S34 682 22) - 1)) 682 17 ((upS S34 682 22 ((S34 682 22) - 1)) 696 ((4 * ((upS S34 682 22 ((S34 682 22) - 1)) 682 22))).toNat)) 696 (((4 * ((upS (upS S34 682 22 ((S34 682 22) - 1)) 682 17 ((upS S34 682 22 ((S34 682 22) - 1)) 696 ((4 * ((upS S34 682 22 ((S34 682 22) - 1)) 682 22))).toNat)) 682 22)) + 1)).toNat)) 682 22)) + 2)).toNat)) 682 20 ((upS (upS (upS (upS S34 682 22 ((S34 682 22) - 1)) 682 17 ((upS S34 682 22 ((S34 682 22) - 1)) 696 ((4 * ((upS S34 682 22 ((S34 682 22) - 1)) 682 22))).toNat)) 682 18 ((upS (upS S34 682 22 ((S34 682 22) - 1)) 682 17 ((upS S34 682 22 ((S34 682 22) - 1)) 696 ((4 * ((upS S34 682 22 ((S34 682 22) - 1)) 682 22))).toNat)) 696 (((4 * ((upS (upS S34 682 22 ((S34 682 22) - 1)) 682 17 ((upS S34 682 22 ((S34 682 22) - 1)) 696 ((4 * ((upS S34 682 22 ((S34 682 22) - 1)) 682 22))).toNat)) 682 22)) + 1)).toNat)) 682 19 ((upS (upS (upS S34 682 22 ((S34 682 22) - 1)) 682 17 ((upS S34 682 22 ((S34 682 22) - 1)) 696 ((4 * ((upS S34 682 22 ((S34 682 22) - 1)) 682 22))).toNat)) 682 18 ((upS (upS S34 682 22 ((S34 682 22) - 1)) 682 17 ((upS S34 682 22 ((S34 682 22) - 1)) 696 ((4 * ((upS S34 682 22 ((S34 682 22) - 1)) 682 22))).toNat)) 696 (((4 * ((upS (upS S34 682 22 ((S34 682 22) - 1)) 682 17 ((upS S34 682 22 ((S34 682 22) - 1)) 696 ((4 * ((upS S34 682 22 ((S34 682 22) - 1)) 682 22))).toNat)) 682 22)) + 1)).toNat)) 696 (((4 * ((upS (upS (upS S34 682 22 ((S34 682 22) - 1)) 682 17 ((upS S34 682 22 ((S34 682 22) - 1)) 696 ((4 * ((upS S34 682 22 ((S34 682 22) - 1)) 682 22))).toNat)) 682 18 ((upS (upS S34 682 22 ((S34 682 22) - 1)) 682 17 ((upS S34 682 22 ((S34 682 22) - 1)) 696 ((4 * ((upS S34 682 22 ((S34 682 22) - 1)) 682 22))).toNat)) 696 (((4 * ((upS (upS S34 682 22 ((S34 682 22) - 1)) 682 17 ((upS S34 682 22 ((S34 682 22) - 1)) 696 ((4 * ((upS S34 682 22 ((S34 682 22) - 1)) 682 22))).toNat)) 682 22)) + 1)).toNat)) 682 22)) + 2)).toNat)) 696 (((4 * ((upS (upS (upS (upS S34 682 22 ((S34 682 22) - 1)) 682 17 ((upS S34 682 22 ((S34 682 22) - 1)) 696 ((4 * ((upS S34 682 22 ((S34 682 22) - 1)) 682 22))).toNat)) 682 18 ((upS (upS S34 682 22 ((S34 682 22) - 1)) 682 17 ((upS S34 682 22 ((S34 682 22) - 1)) 696 ((4 * ((upS S34 682 22 ((S34 682 22) - 1)) 682 22))).toNat)) 696 (((4 * ((upS (upS S34 682 22 ((S34 682 22) - 1)) 682 17 ((upS S34 682 22 ((S34 682 22) - 1)) 696 ((4 * ((upS S34 682 22 ((S34 682 22) - 1)) 682 22))).toNat)) 682 22)) + 1)).toNat)) 682 19 ((upS (upS (upS S34 682 22 ((S34 682 22) - 1)) 682 17 ((upS S34 682 22 ((S34 682 22) - 1)) 696 ((4 * ((upS S34 682 22 ((S34 682 22) - 1)) 682 22))).toNat)) 682 18 ((upS (upS S34 682 22 ((S34 682 22) - 1)) 682 17 ((upS S34 682 22 ((S34 682 22) - 1)) 696 ((4 * ((upS S34 682 22 ((S34 682 22) - 1)) 682 22))).toNat)) 696 (((4 * ((upS (upS S34 682 22 ((S34 682 22) - 1)) 682 17 ((upS S34 682 22 ((S34 682 22) - 1)) 696 ((4 * ((upS S34 682 22 ((S34 682 22) - 1)) 682 22))).toNat)) 682 22)) + 1)).toNat)) 696 (((4 * ((upS (upS (upS S34 682 22 ((S34 682 22) - 1)) 682 17 ((upS S34 682 22 ((S34 682 22) - 1)) 696 ((4 * ((upS S34 682 22 ((S34 682 22) - 1)) 682 22))).toNat)) 682 18 ((upS (upS S34 682 22 ((S34 682 22) - 1)) 682 17 ((upS S34 682 22 ((S34 682 22) - 1)) 696 ((4 * ((upS S34 682 22 ((S34 682 22) - 1)) 682 22))).toNat)) 696 (((4 * ((upS (upS S34 682 22 ((S34 682 22) - 1)) 682 17 ((upS S34 682 22 ((S34 682 22) - 1)) 696 ((4 * ((upS S34 682 22 ((S34 682 22) - 1)) 682 22))).toNat)) 682 22)) + 1)).toNat)) 682 22)) + 2)).toNat)) 682 22)) + 3)).toNat)) = (upS (upS (upS (upS (upS S34 682 22 0) 682 17 0) 682 18 0) 682 19 0) 682 20 0) from by rw [show ((upS (upS (upS (upS S34 682 22 ((S34 682 22) - 1)) 682 17 ((upS S34 682 22 ((S34 682 22) - 1)) 696 ((4 * ((upS S34 682 22 ((S34 682 22) - 1)) 682 22))).toNat)) 682 18 ((upS (upS S34 682 22 ((S34 682 22) - 1)) 682 17 ((upS S34 682 22 ((S34 682 22) - 1)) 696 ((4 * ((upS S34 682 22 ((S34 682 22) - 1)) 682 22))).toNat)) 696 (((4 * ((upS (upS S34 682 22 ((S34 682 22) - 1)) 682 17 ((upS S34 682 22 ((S34 682 22) - 1)) 696 ((4 * ((upS S34 682 22 ((S34 682 22) - 1)) 682 22))).toNat)) 682 22)) + 1)).toNat)) 682 19 ((upS (upS (upS S34 682 22 ((S34 682 22) - 1)) 682 17 ((upS S34 682 22 ((S34 682 22) - 1)) 696 ((4 * ((upS S34 682 22 ((S34 682 22) - 1)) 682 22))).toNat)) 682 18 ((upS (upS S34 682 22 ((S34 682 22) - 1)) 682 17 ((upS S34 682 22 ((S34 682 22) - 1)) 696 ((4 * ((upS S34 682 22 ((S34 682 22) - 1)) 682 22))).toNat)) 696 (((4 * ((upS (upS S34 682 22 ((S34 682 22) - 1)) 682 17 ((upS S34 682 22 ((S34 682 22) - 1)) 696 ((4 * ((upS S34 682 22 ((S34 682 22) - 1)) 682 22))).toNat)) 682 22)) + 1)).toNat)) 696 (((4 * ((upS (upS (upS S34 682 22 ((S34 682 22) - 1)) 682 17 ((upS S34 682 22 ((S34 682 22) - 1)) 696 ((4 * ((upS S34 682 22 ((S34 682 22) - 1)) 682 22))).toNat)) 682 18 ((upS (upS S34 682 22 ((S34 682 22) - 1)) 682 17 ((upS S34 682 22 ((S34 682 22) - 1)) 696 ((4 * ((upS S34 682 22 ((S34 682 22) - 1)) 682 22))).toNat)) 696 (((4 * ((upS (upS S34 682 22 ((S34 682 22) - 1)) 682 17 ((upS S34 682 22 ((S34 682 22) - 1)) 696 ((4 * ((upS S34 682 22 ((S34 682 22) - 1)) 682 22))).toNat)) 682 22)) + 1)).toNat)) 682 22)) + 2)).toNat)) 696 (((4 * ((upS (upS (upS (upS S34 682 22 ((S34 682 22) - 1)) 682 17 ((upS S34 682 22 ((S34 682 22) - 1)) 696 ((4 * ((upS S34 682 22 ((S34 682 22) - 1)) 682 22))).toNat)) 682 18 ((upS (upS S34 682 22 ((S34 682 22) - 1)) 682 17 ((upS S34 682 22 ((S34 682 22) - 1)) 696 ((4 * ((upS S34 682 22 ((S34 682 22) - 1)) 682 22))).toNat)) 696 (((4 * ((upS (upS S34 682 22 ((S34 682 22) - 1)) 682 17 ((upS S34 682 22 ((S34 682 22) - 1)) 696 ((4 * ((upS S34 682 22 ((S34 682 22) - 1)) 682 22))).toNat)) 682 22)) + 1)).toNat)) 682 19 ((upS (upS (upS S34 682 22 ((S34 682 22) - 1)) 682 17 ((upS S34 682 22 ((S34 682 22) - 1)) 696 ((4 * ((upS S34 682 22 ((S34 682 22) - 1)) 682 22))).toNat)) 682 18 ((upS (upS S34 682 22 ((S34 682 22) - 1)) 682 17 ((upS S34 682 22 ((S34 682 22) - 1)) 696 ((4 * ((upS S34 682 22 ((S34 682 22) - 1)) 682 22))).toNat)) 696 (((4 * ((upS (upS S34 682 22 ((S34 682 22) - 1)) 682 17 ((upS S34 682 22 ((S34 682 22) - 1)) 696 ((4 * ((upS S34 682 22 ((S34 682 22) - 1)) 682 22))).toNat)) 682 22)) + 1)).toNat)) 696 (((4 * ((upS (upS (upS S34 682 22 ((S34 682 22) - 1)) 682 17 ((upS S34 682 22 ((S34 682 22) - 1)) 696 ((4 * ((upS S34 682 22 ((S34 682 22) - 1)) 682 22))).toNat)) 682 18 ((upS (upS S34 682 22 ((S34 682 22) - 1)) 682 17 ((upS S34 682 22 ((S34 682 22) - 1)) 696 ((4 * ((upS S34 682 22 ((S34 682 22) - 1)) 682 22))).toNat)) 696 (((4 * ((upS (upS S34 682 22 ((S34 682 22) - 1)) 682 17 ((upS S34 682 22 ((S34 682 22) - 1)) 696 ((4 * ((upS S34 682 22 ((S34 682 22) - 1)) 682 22))).toNat)) 682 22)) + 1)).toNat)) 682 22)) + 2)).toNat)) 682 22)) + 3)).toNat) = 0 by (first | omega | (simp [upS, hz, za1, z1a1, ca1, za2, z1a2, ca2, E900, E34]; done) | (simp [upS, hz, za1, z1a1, ca1, za2, z1a2, ca2, E900, E34]; omega)), show ((upS (upS (upS S34 682 22 ((S34 682 22) - 1)) 682 17 ((upS S34 682 22 ((S34 682 22) - 1)) 696 ((4 * ((upS S34 682 22 ((S34 682 22) - 1)) 682 22))).toNat)) 682 18 ((upS (upS S34 682 22 ((S34 682 22) - 1)) 682 17 ((upS S34 682 22 ((S34 682 22) - 1)) 696 ((4 * ((upS S34 682 22 ((S34 682 22) - 1)) 682 22))).toNat)) 696 (((4 * ((upS (upS S34 682 22 ((S34 682 22) - 1)) 682 17 ((upS S34 682 22 ((S34 682 22) - 1)) 696 ((4 * ((upS S34 682 22 ((S34 682 22) - 1)) 682 22))).toNat)) 682 22)) + 1)).toNat)) 696 (((4 * ((upS (upS (upS S34 682 22 ((S34 682 22) - 1)) 682 17 ((upS S34 682 22 ((S34 682 22) - 1)) 696 ((4 * ((upS S34 682 22 ((S34 682 22) - 1)) 682 22))).toNat)) 682 18 ((upS (upS S34 682 22 ((S34 682 22) - 1)) 682 17 ((upS S34 682 22 ((S34 682 22) - 1)) 696 ((4 * ((upS S34 682 22 ((S34 682 22) - 1)) 682 22))).toNat)) 696 (((4 * ((upS (upS S34 682 22 ((S34 682 22) - 1)) 682 17 ((upS S34 682 22 ((S34 682 22) - 1)) 696 ((4 * ((upS S34 682 22 ((S34 682 22) - 1)) 682 22))).toNat)) 682 22)) + 1)).toNat)) 682 22)) + 2)).toNat) = 0 by (first | omega | (simp [upS, hz, za1, z1a1, ca1, za2, z1a2, ca2, E900, E34]; done) | (simp [upS, hz, za1, z1a1, ca1, za2, z1a2, ca2, E900, E34]; omega)), show ((upS (upS S34 682 22 ((S34 682 22) - 1)) 682 17 ((upS S34 682 22 ((S34 682 22) - 1)) 696 ((4 * ((upS S34 682 22 ((S34 682 22) - 1)) 682 22))).toNat)) 696 (((4 * ((upS (upS S34 682 22 ((S34 682 22) - 1)) 682 17 ((upS S34 682 22 ((S34 682 22) - 1)) 696 ((4 * ((upS S34 682 22 ((S34 682 22) - 1)) 682 22))).toNat)) 682 22)) + 1)).toNat) = 0 by (first | omega | (simp [upS, hz, za1, z1a1, ca1, za2, z1a2, ca2, E900, E34]; done) | (simp [upS, hz, za1, z1a1, ca1, za2, z1a2, ca2, E900, E34]; omega)), show ((upS S34 682 22 ((S34 682 22) - 1)) 696 ((4 * ((upS S34 682 22 ((S34 682 22) - 1)) 682 22))).toNat) = 0 by (first | omega | (simp [upS, hz, za1, z1a1, ca1, za2, z1a2, ca2, E900, E34]; done) | (simp [upS, hz, za1, z1a1, ca1, za2, z1a2, ca2, E900, E34]; omega)), show ((S34 682 22) - 1) = 0 by (first | omega | (simp [upS, hz, za1, z1a1, ca1, za2, z1a2, ca2, E900, E34]; done) | (simp [upS, hz, za1, z1a1, ca1, za2, z1a2, ca2, E900, E34]; omega))])]
      have hD38 : Dd 266 [(.inr (.inr (some 682)))] (upS (upS (upS (upS (upS S34 682 22 0) 682 17 0) 682 18 0) 682 19 0) 682 20 0) (.inl none, (upS (upS (upS (upS (upS (upS S34 682 22 0) 682 17 0) 682 18 0) 682 19 0) 682 20 0) 694 0 0)) := by
        refine b266 ?_
        rw [show ((upS (upS (upS (upS (upS S34 682 22 0) 682 17 0) 682 18 0) 682 19 0) 682 20 0) 682 17) = 0 by (first | omega | (simp [upS, hz, za1, z1a1, ca1, za2, z1a2, ca2, E900, E34]; done) | (simp [upS, hz, za1, z1a1, ca1, za2, z1a2, ca2, E900, E34]; omega))]
        rw [show ((upS (upS (upS (upS (upS S34 682 22 0) 682 17 0) 682 18 0) 682 19 0) 682 20 0) 682 18) = 0 by (first | omega | (simp [upS, hz, za1, z1a1, ca1, za2, z1a2, ca2, E900, E34]; done) | (simp [upS, hz, za1, z1a1, ca1, za2, z1a2, ca2, E900, E34]; omega))]
        rw [show ((upS (upS (upS (upS (upS S34 682 22 0) 682 17 0) 682 18 0) 682 19 0) 682 20 0) 682 19) = 0 by (first | omega | (simp [upS, hz, za1, z1a1, ca1, za2, z1a2, ca2, E900, E34]; done) | (simp [upS, hz, za1, z1a1, ca1, za2, z1a2, ca2, E900, E34]; omega))]
        rw [show ((upS (upS (upS (upS (upS S34 682 22 0) 682 17 0) 682 18 0) 682 19 0) 682 20 0) 682 20) = 0 by (first | omega | (simp [upS, hz, za1, z1a1, ca1, za2, z1a2, ca2, E900, E34]; done) | (simp [upS, hz, za1, z1a1, ca1, za2, z1a2, ca2, E900, E34]; omega))]
        have hD36 : Dd 265 [(.inr (.inr (some 682))), (.inl 0), (.inl 0), (.inl 0), (.inl 0)] (upS (upS (upS (upS (upS S34 682 22 0) 682 17 0) 682 18 0) 682 19 0) 682 20 0) (.inl none, (upS (upS (upS (upS (upS (upS S34 682 22 0) 682 17 0) 682 18 0) 682 19 0) 682 20 0) 694 0 0)) := by
          refine b265 ?_
          refine b265_3 ?_
          rw [if_pos (show (0 : Int) ≤ 0 by first | omega | (simp [upS, hz, za1, z1a1, ca1, za2, z1a2, ca2, E900, E34]; done) | (simp [upS, hz, za1, z1a1, ca1, za2, z1a2, ca2, E900, E34]; omega))]
          refine b265_13 ?_
          rw [if_pos (show (0 : Int) ≤ 0 by first | omega | (simp [upS, hz, za1, z1a1, ca1, za2, z1a2, ca2, E900, E34]; done) | (simp [upS, hz, za1, z1a1, ca1, za2, z1a2, ca2, E900, E34]; omega))]
          rw [if_neg (show ¬ ((0 : Int) < 0) by first | omega | (simp [upS, hz, za1, z1a1, ca1, za2, z1a2, ca2, E900, E34]; done) | (simp [upS, hz, za1, z1a1, ca1, za2, z1a2, ca2, E900, E34]; omega))]
          refine b265_124 ?_
          refine ⟨(show (-2147483648 : Int) ≤ (65 * 0) ∧ ((65 * 0) : Int) ≤ 2147483647 by first | omega | (simp [upS, hz, za1, z1a1, ca1, za2, z1a2, ca2, E900, E34]; done) | (simp [upS, hz, za1, z1a1, ca1, za2, z1a2, ca2, E900, E34]; omega)), ?_⟩
          refine ⟨(show (-2147483648 : Int) ≤ ((65 * 0) + 0) ∧ (((65 * 0) + 0) : Int) ≤ 2147483647 by first | omega | (simp [upS, hz, za1, z1a1, ca1, za2, z1a2, ca2, E900, E34]; done) | (simp [upS, hz, za1, z1a1, ca1, za2, z1a2, ca2, E900, E34]; omega)), ?_⟩
          refine ⟨(show (0 : Int) ≤ ((65 * 0) + 0) ∧ (((65 * 0) + 0) : Int) < 4225 by first | omega | (simp [upS, hz, za1, z1a1, ca1, za2, z1a2, ca2, E900, E34]; done) | (simp [upS, hz, za1, z1a1, ca1, za2, z1a2, ca2, E900, E34]; omega)), ?_⟩
          refine ⟨(show (-2147483648 : Int) ≤ (0 + (-1)) ∧ ((0 + (-1)) : Int) ≤ 2147483647 by first | omega | (simp [upS, hz, za1, z1a1, ca1, za2, z1a2, ca2, E900, E34]; done) | (simp [upS, hz, za1, z1a1, ca1, za2, z1a2, ca2, E900, E34]; omega)), ?_⟩
          rw [(show (upS (upS (upS (upS (upS (upS S34 682 22 0) 682 17 0) 682 18 0) 682 19 0) 682 20 0) 694 ((((65 * 0) + 0) : Int).toNat) 0) = (upS (upS (upS (upS (upS (upS S34 682 22 0) 682 17 0) 682 18 0) 682 19 0) 682 20 0) 694 0 0) from by rw [show ((((65 * 0) + 0) : Int).toNat) = 0 by (first | omega | (simp [upS, hz, za1, z1a1, ca1, za2, z1a2, ca2, E900, E34]; done) | (simp [upS, hz, za1, z1a1, ca1, za2, z1a2, ca2, E900, E34]; omega))])]
          obtain ⟨S35, E35⟩ : ∃ s : Sg, s = (upS (upS (upS (upS (upS (upS S34 682 22 0) 682 17 0) 682 18 0) 682 19 0) 682 20 0) 694 0 0) := ⟨_, rfl⟩
          rw [← E35]
          rw [show ((0 + (-1)) : Int) = (-1) by (first | omega | (simp [upS, hz, za1, z1a1, ca1, za2, z1a2, ca2, E900, E34, E35]; done) | (simp [upS, hz, za1, z1a1, ca1, za2, z1a2, ca2, E900, E34, E35]; omega))]
          refine b265_13 ?_
          rw [if_neg (show ¬ ((0 : Int) ≤ (-1)) by first | omega | (simp [upS, hz, za1, z1a1, ca1, za2, z1a2, ca2, E900, E34, E35]; done) | (simp [upS, hz, za1, z1a1, ca1, za2, z1a2, ca2, E900, E34, E35]; omega))]
          refine ⟨(show (-2147483648 : Int) ≤ (0 + (-1)) ∧ ((0 + (-1)) : Int) ≤ 2147483647 by first | omega | (simp [upS, hz, za1, z1a1, ca1, za2, z1a2, ca2, E900, E34, E35]; done) | (simp [upS, hz, za1, z1a1, ca1, za2, z1a2, ca2, E900, E34, E35]; omega)), ?_⟩
          rw [show ((0 + (-1)) : Int) = (-1) by (first | omega | (simp [upS, hz, za1, z1a1, ca1, za2, z1a2, ca2, E900, E34, E35]; done) | (simp [upS, hz, za1, z1a1, ca1, za2, z1a2, ca2, E900, E34, E35]; omega))]
          refine b265_3 ?_
          rw [if_neg (show ¬ ((0 : Int) ≤ (-1)) by first | omega | (simp [upS, hz, za1, z1a1, ca1, za2, z1a2, ca2, E900, E34, E35]; done) | (simp [upS, hz, za1, z1a1, ca1, za2, z1a2, ca2, E900, E34, E35]; omega))]
          all_goals (first | rfl | (simp only [E35]))
        obtain ⟨S37, E37⟩ : ∃ s : Sg, s = (upS (upS (upS (upS (upS (upS S34 682 22 0) 682 17 0) 682 18 0) 682 19 0) 682 20 0) 694 0 0) := ⟨_, rfl⟩
        rw [← E37] at hD36
        refine ⟨_, hD36, ?_⟩
        clear hD36
        rw [show (S37 682 17) = 0 by (first | omega | (simp [upS, hz, za1, z1a1, ca1, za2, z1a2, ca2, E900, E34, E37]; done) | (simp [upS, hz, za1, z1a1, ca1, za2, z1a2, ca2, E900, E34, E37]; omega))]
        rw [show (S37 682 19) = 0 by (first | omega | (simp [upS, hz, za1, z1a1, ca1, za2, z1a2, ca2, E900, E34, E37]; done) | (simp [upS, hz, za1, z1a1, ca1, za2, z1a2, ca2, E900, E34, E37]; omega))]
        refine b266_30 ?_
        rw [if_neg (show ¬ ((0 : Int) < (S37 682 18)) by first | omega | (simp [upS, hz, za1, z1a1, ca1, za2, z1a2, ca2, E900, E34, E37]; done) | (simp [upS, hz, za1, z1a1, ca1, za2, z1a2, ca2, E900, E34, E37]; omega))]
        all_goals (first | rfl | (simp only [E37]))
      obtain ⟨S39, E39⟩ : ∃ s : Sg, s = (upS (upS (upS (upS (upS (upS S34 682 22 0) 682 17 0) 682 18 0) 682 19 0) 682 20 0) 694 0 0) := ⟨_, rfl⟩
      rw [← E39] at hD38
      refine ⟨_, hD38, ?_⟩
      clear hD38
      refine b274_42 ?_
      rw [if_neg (show ¬ ((0 : Int) < (S39 682 22)) by first | omega | (simp [upS, hz, za1, z1a1, ca1, za2, z1a2, ca2, E900, E34, E39]; done) | (simp [upS, hz, za1, z1a1, ca1, za2, z1a2, ca2, E900, E34, E39]; omega))]
      refine b274_163 ?_
      rw [if_neg (show ¬ ((0 : Int) < (S39 682 12)) by first | omega | (simp [upS, hz, za1, z1a1, ca1, za2, z1a2, ca2, E900, E34, E39]; done) | (simp [upS, hz, za1, z1a1, ca1, za2, z1a2, ca2, E900, E34, E39]; omega))]
      all_goals (first | rfl | (simp only [E34, E39]))
    obtain ⟨S41, E41⟩ : ∃ s : Sg, s = (upS (upS (upS (upS (upS (upS (upS (upS (upS (upS (upS (upS (upS (upS (upS S900 682 0 0) 682 12 0) 682 13 0) 682 22 0) 696 0 0) 696 1 0) 696 2 0) 696 3 0) 682 22 1) 682 22 0) 682 17 0) 682 18 0) 682 19 0) 682 20 0) 694 0 0) := ⟨_, rfl⟩
    rw [← E41] at hD40
    refine ⟨_, _, hD40, ?_⟩
    clear hD40
    all_goals (first | rfl | (simp only [E41]))
  refine ⟨_, _, _, _, hA, hB, ?_, ?_, ?_, ?_, ?_⟩
  all_goals subst E900
  · (first | rfl | (simp [upS, SCR, hz, za1, z1a1, ca1, za2, z1a2, ca2]; done) | (simp [upS, SCR, hz, za1, z1a1, ca1, za2, z1a2, ca2]; omega))
  · first | (intro h9; omega) | (intro _; first | rfl | (simp [upS, SCR, hz, za1, z1a1, ca1, za2, z1a2, ca2]; done) | (simp [upS, SCR, hz, za1, z1a1, ca1, za2, z1a2, ca2]; omega))
  · intro i; first | rfl | (unfold upS SCR; (repeat' split) <;> first | rfl | omega)
  · first | rfl | (unfold upS SCR; (repeat' split) <;> first | rfl | omega)
  · first | rfl | (unfold upS SCR; (repeat' split) <;> first | rfl | omega)
theorem q7_7 {σ : Sg} {a1 : Int} {a2 : Int} {a3 : Int} (hz : ∀ a i, a < 1000 → σ a i = 0) (h0 : 0 ≤ a1 ∧ a1 < 4) (h1 : 0 ≤ a2 ∧ a2 < 4) (h2 : a3 = 1) : ∃ (kx b : Int) (s1 s2 : Sg), Dd 397 [(.inr (.inr (some 0))), (.inl a1), (.inl a2), (.inl a3), (.inr (.inr (some 726)))] σ (.inl (some (.inl kx)), s1) ∧ Dd 278 [(.inr (.inr (some 682))), (.inl a1), (.inl a2), (.inl a3)] s1 (.inl (some (.inl b)), s2) ∧ s2 682 0 = kx ∧ (kx = 0 → s2 726 0 = b) ∧ (∀ i, s1 SCR i = σ SCR i) ∧ s1 (SCR + 1) 0 = σ (SCR + 1) 0 ∧ s2 (SCR + 1) 0 = σ (SCR + 1) 0 := by
  have za1 : ∀ i, σ (2 + 2 * ((a1)).toNat) i = 0 := fun i => hz _ i (by omega)
  have z1a1 : ∀ i, σ ((2 + 2 * ((a1)).toNat) + 1) i = 0 := fun i => hz _ i (by omega)
  have ca1 : (cap (2 + 2 * ((a1)).toNat) : Int) = 16 := cp_1 (by omega)
  have za2 : ∀ i, σ (2 + 2 * ((a2)).toNat) i = 0 := fun i => hz _ i (by omega)
  have z1a2 : ∀ i, σ ((2 + 2 * ((a2)).toNat) + 1) i = 0 := fun i => hz _ i (by omega)
  have ca2 : (cap (2 + 2 * ((a2)).toNat) : Int) = 16 := cp_1 (by omega)
  have hA : Dd 397 [(.inr (.inr (some 0))), (.inl a1), (.inl a2), (.inl a3), (.inr (.inr (some 726)))] σ (.inl (some (.inl 0)), (upS (upS (upS (upS (upS σ 333 1 0) 335 1 0) 337 1 0) 343 1 0) 726 0 0)) := by
    refine b397 ?_
    have hD22 : Dd 179 [(.inr (.inr (some 0))), (.inl a1), (.inl a2), (.inl a3)] σ (.inl (some (.inl 0)), (upS (upS (upS (upS σ 333 1 0) 335 1 0) 337 1 0) 343 1 0)) := by
      refine b179 ?_
      have hD3 : Dd 227 [(.inr (.inr (some 0))), (.inl a1)] σ (.inl (some (.inr (.inr (some (2 + 2 * ((a1)).toNat))))), σ) := by
        refine b227 ?_
        have hD1 : Dd 145 [(.inr (.inr (some 1))), (.inl a1)] σ (.inl (some (.inr (.inr (some (2 + 2 * ((a1)).toNat))))), σ) := by
          refine b145 ?_
          rw [if_pos (show (0 : Int) ≤ a1 by first | omega | (simp [upS, hz, za1, z1a1, ca1, za2, z1a2, ca2]; done) | (simp [upS, hz, za1, z1a1, ca1, za2, z1a2, ca2]; omega))]
          refine ⟨4, (by decide +kernel), (by decide), ?_⟩
          rw [if_pos (show a1 < ((4 : Nat) : Int) by first | omega | (simp [upS, hz, za1, z1a1, ca1, za2, z1a2, ca2]; done) | (simp [upS, hz, za1, z1a1, ca1, za2, z1a2, ca2]; omega))]
          refine ⟨(show 0 ≤ a1 by first | omega | (simp [upS, hz, za1, z1a1, ca1, za2, z1a2, ca2]; done) | (simp [upS, hz, za1, z1a1, ca1, za2, z1a2, ca2]; omega)), ?_⟩
          refine ⟨(2 + 2 * ((a1)).toNat), (el_1 (i := (a1)) (by first | omega | (simp [upS, hz, za1, z1a1, ca1, za2, z1a2, ca2]; done) | (simp [upS, hz, za1, z1a1, ca1, za2, z1a2, ca2]; omega))).1, (el_1 (i := (a1)) (by first | omega | (simp [upS, hz, za1, z1a1, ca1, za2, z1a2, ca2]; done) | (simp [upS, hz, za1, z1a1, ca1, za2, z1a2, ca2]; omega))).2, ?_⟩
          all_goals rfl
        refine ⟨_, _, hD1, ?_⟩
        clear hD1
        refine ⟨fun hz2 => (by cases hz2), fun _ hz2 => ?_⟩
        cases hz2
        refine ⟨(el_1 (i := (a1)) (by first | omega | (simp [upS, hz, za1, z1a1, ca1, za2, z1a2, ca2]; done) | (simp [upS, hz, za1, z1a1, ca1, za2, z1a2, ca2]; omega))).2, ?_⟩
        all_goals rfl
      refine Or.inl ⟨_, _, hD3, (el_1 (i := (a1)) (by first | omega | (simp [upS, hz, za1, z1a1, ca1, za2, z1a2, ca2]; done) | (simp [upS, hz, za1, z1a1, ca1, za2, z1a2, ca2]; omega))).2, ?_⟩
      clear hD3
      have hD6 : Dd 227 [(.inr (.inr (some 0))), (.inl a2)] σ (.inl (some (.inr (.inr (some (2 + 2 * ((a2)).toNat))))), σ) := by
        refine b227 ?_
        have hD4 : Dd 145 [(.inr (.inr (some 1))), (.inl a2)] σ (.inl (some (.inr (.inr (some (2 + 2 * ((a2)).toNat))))), σ) := by
          refine b145 ?_
          rw [if_pos (show (0 : Int) ≤ a2 by first | omega | (simp [upS, hz, za1, z1a1, ca1, za2, z1a2, ca2]; done) | (simp [upS, hz, za1, z1a1, ca1, za2, z1a2, ca2]; omega))]
          refine ⟨4, (by decide +kernel), (by decide), ?_⟩
          rw [if_pos (show a2 < ((4 : Nat) : Int) by first | omega | (simp [upS, hz, za1, z1a1, ca1, za2, z1a2, ca2]; done) | (simp [upS, hz, za1, z1a1, ca1, za2, z1a2, ca2]; omega))]
          refine ⟨(show 0 ≤ a2 by first | omega | (simp [upS, hz, za1, z1a1, ca1, za2, z1a2, ca2]; done) | (simp [upS, hz, za1, z1a1, ca1, za2, z1a2, ca2]; omega)), ?_⟩
          refine ⟨(2 + 2 * ((a2)).toNat), (el_1 (i := (a2)) (by first | omega | (simp [upS, hz, za1, z1a1, ca1, za2, z1a2, ca2]; done) | (simp [upS, hz, za1, z1a1, ca1, za2, z1a2, ca2]; omega))).1, (el_1 (i := (a2)) (by first | omega | (simp [upS, hz, za1, z1a1, ca1, za2, z1a2, ca2]; done) | (simp [upS, hz, za1, z1a1, ca1, za2, z1a2, ca2]; omega))).2, ?_⟩
          all_goals rfl
        refine ⟨_, _, hD4, ?_⟩
        clear hD4
        refine ⟨fun hz5 => (by cases hz5), fun _ hz5 => ?_⟩
        cases hz5
        refine ⟨(el_1 (i := (a2)) (by first | omega | (simp [upS, hz, za1, z1a1, ca1, za2, z1a2, ca2]; done) | (simp [upS, hz, za1, z1a1, ca1, za2, z1a2, ca2]; omega))).2, ?_⟩
        all_goals rfl
      refine Or.inl ⟨_, _, hD6, (el_1 (i := (a2)) (by first | omega | (simp [upS, hz, za1, z1a1, ca1, za2, z1a2, ca2]; done) | (simp [upS, hz, za1, z1a1, ca1, za2, z1a2, ca2]; omega))).2, ?_⟩
      clear hD6
      have hD7 : Dd 236 [(.inr (.inr (some 0))), (.inl a3)] σ (.inl none, σ) := by
        refine b236 ?_
        rw [if_neg (show ¬ (a3 = 0) by first | omega | (simp [upS, hz, za1, z1a1, ca1, za2, z1a2, ca2]; done) | (simp [upS, hz, za1, z1a1, ca1, za2, z1a2, ca2]; omega))]
        rw [if_pos (show a3 = 1 by first | omega | (simp [upS, hz, za1, z1a1, ca1, za2, z1a2, ca2]; done) | (simp [upS, hz, za1, z1a1, ca1, za2, z1a2, ca2]; omega))]
        all_goals rfl
      refine Or.inl ⟨_, hD7, ?_⟩
      clear hD7
      have hD18 : Dd 15 [(.inr (.inr (some 332))), (.inr (.inr (some (2 + 2 * ((a1)).toNat)))), (.inr (.inr (some (2 + 2 * ((a2)).toNat)))), (.inl a3)] σ (.inl (some (.inr (.inr (some 337)))), (upS (upS (upS (upS σ 333 1 0) 335 1 0) 337 1 0) 343 1 0)) := by
        refine b15 ?_
        have hD13 : Dd 19 [(.inr (.inr (some 332))), (.inr (.inr (some (2 + 2 * ((a1)).toNat)))), (.inr (.inr (some (2 + 2 * ((a2)).toNat))))] σ (.inl none, (upS (upS (upS (upS σ 333 1 0) 335 1 0) 337 1 0) 343 1 0)) := by
          refine b19 ?_
          have hD8 : Dd 155 [(.inr (.inr (some 333))), (.inr (.inr (some (2 + 2 * ((a1)).toNat))))] σ (.inl none, (upS σ 333 1 0)) := by
            refine b155 (el_1 (i := (a1)) (by first | omega | (simp [upS, hz, za1, z1a1, ca1, za2, z1a2, ca2]; done) | (simp [upS, hz, za1, z1a1, ca1, za2, z1a2, ca2]; omega))).2 (by decide +kernel) ?_
            refine ⟨(show -2147483648 ≤ ((cap 333) : Int) ∧ ((cap 333) : Int) ≤ 2147483647 by have e333 : (cap 333 : Int) = 40 := (by decide +kernel); first | omega | (simp [upS, hz, za1, z1a1, ca1, za2, z1a2, ca2]; done) | (simp [upS, hz, za1, z1a1, ca1, za2, z1a2, ca2]; omega)), ?_⟩
            rw [(show (upS σ 333 1 (if ((cap 333) : Int) < (σ (2 + 2 * ((a1)).toNat) 1) then ((cap 333) : Int) else (σ (2 + 2 * ((a1)).toNat) 1))) = (upS σ 333 1 0) from by rw [show (if ((cap 333) : Int) < (σ (2 + 2 * ((a1)).toNat) 1) then ((cap 333) : Int) else (σ (2 + 2 * ((a1)).toNat) 1)) = 0 by (have e333 : (cap 333 : Int) = 40 := (by decide +kernel); first | omega | (simp [upS, hz, za1, z1a1, ca1, za2, z1a2, ca2]; done) | (simp [upS, hz, za1, z1a1, ca1, za2, z1a2, ca2]; omega))])]
            refine b155_18 (by decide +kernel) (el_1 (i := (a1)) (by first | omega | (simp [upS, hz, za1, z1a1, ca1, za2, z1a2, ca2]; done) | (simp [upS, hz, za1, z1a1, ca1, za2, z1a2, ca2]; omega))).2 ?_
            rw [if_neg (show ¬ ((0 : Int) < ((upS σ 333 1 0) 333 1)) by first | omega | (simp [upS, hz, za1, z1a1, ca1, za2, z1a2, ca2]; done) | (simp [upS, hz, za1, z1a1, ca1, za2, z1a2, ca2]; omega))]
            all_goals rfl
          refine ⟨_, hD8, ?_⟩
          clear hD8
          have hD9 : Dd 155 [(.inr (.inr (some 335))), (.inr (.inr (some (2 + 2 * ((a2)).toNat))))] (upS σ 333 1 0) (.inl none, (upS (upS σ 333 1 0) 335 1 0)) := by
            refine b155 (el_1 (i := (a2)) (by first | omega | (simp [upS, hz, za1, z1a1, ca1, za2, z1a2, ca2]; done) | (simp [upS, hz, za1, z1a1, ca1, za2, z1a2, ca2]; omega))).2 (by decide +kernel) ?_
            refine ⟨(show -2147483648 ≤ ((cap 335) : Int) ∧ ((cap 335) : Int) ≤ 2147483647 by have e335 : (cap 335 : Int) = 40 := (by decide +kernel); first | omega | (simp [upS, hz, za1, z1a1, ca1, za2, z1a2, ca2]; done) | (simp [upS, hz, za1, z1a1, ca1, za2, z1a2, ca2]; omega)), ?_⟩
            rw [(show (upS (upS σ 333 1 0) 335 1 (if ((cap 335) : Int) < ((upS σ 333 1 0) (2 + 2 * ((a2)).toNat) 1) then ((cap 335) : Int) else ((upS σ 333 1 0) (2 + 2 * ((a2)).toNat) 1))) = (upS (upS σ 333 1 0) 335 1 0) from by rw [show (if ((cap 335) : Int) < ((upS σ 333 1 0) (2 + 2 * ((a2)).toNat) 1) then ((cap 335) : Int) else ((upS σ 333 1 0) (2 + 2 * ((a2)).toNat) 1)) = 0 by (have e335 : (cap 335 : Int) = 40 := (by decide +kernel); first | omega | (simp [upS, hz, za1, z1a1, ca1, za2, z1a2, ca2]; done) | (simp [upS, hz, za1, z1a1, ca1, za2, z1a2, ca2]; omega))])]
            refine b155_18 (by decide +kernel) (el_1 (i := (a2)) (by first | omega | (simp [upS, hz, za1, z1a1, ca1, za2, z1a2, ca2]; done) | (simp [upS, hz, za1, z1a1, ca1, za2, z1a2, ca2]; omega))).2 ?_
            rw [if_neg (show ¬ ((0 : Int) < ((upS (upS σ 333 1 0) 335 1 0) 335 1)) by first | omega | (simp [upS, hz, za1, z1a1, ca1, za2, z1a2, ca2]; done) | (simp [upS, hz, za1, z1a1, ca1, za2, z1a2, ca2]; omega))]
            all_goals rfl
          refine ⟨_, hD9, ?_⟩
          clear hD9
          have hD10 : Dd 146 [(.inr (.inr (some 333)))] (upS (upS σ 333 1 0) 335 1 0) (.inl (some (.inl 0)), (upS (upS σ 333 1 0) 335 1 0)) := by
            refine b146 (by decide +kernel) ?_
            rw [show ((upS (upS σ 333 1 0) 335 1 0) 333 1) = 0 by (first | omega | (simp [upS, hz, za1, z1a1, ca1, za2, z1a2, ca2]; done) | (simp [upS, hz, za1, z1a1, ca1, za2, z1a2, ca2]; omega))]
            all_goals rfl
          refine ⟨_, _, hD10, ?_⟩
          clear hD10
          have hD11 : Dd 153 [(.inr (.inr (some 337))), (.inl 0), (.inl (-1))] (upS (upS σ 333 1 0) 335 1 0) (.inl none, (upS (upS (upS σ 333 1 0) 335 1 0) 337 1 0)) := by
            refine b153 (by decide +kernel) ?_
            refine ⟨(show -2147483648 ≤ ((cap 337) : Int) ∧ ((cap 337) : Int) ≤ 2147483647 by have e337 : (cap 337 : Int) = 40 := (by decide +kernel); first | omega | (simp [upS, hz, za1, z1a1, ca1, za2, z1a2, ca2]; done) | (simp [upS, hz, za1, z1a1, ca1, za2, z1a2, ca2]; omega)), ?_⟩
            rw [(show (upS (upS (upS σ 333 1 0) 335 1 0) 337 1 (if 0 < (if ((cap 337) : Int) < 0 then ((cap 337) : Int) else 0) then (if ((cap 337) : Int) < 0 then ((cap 337) : Int) else 0) else 0)) = (upS (upS (upS σ 333 1 0) 335 1 0) 337 1 0) from by rw [show (if (0 : Int) < (if ((cap 337) : Int) < 0 then ((cap 337) : Int) else 0) then (if ((cap 337) : Int) < 0 then ((cap 337) : Int) else 0) else 0) = 0 by (have e337 : (cap 337 : Int) = 40 := (by decide +kernel); first | omega | (simp [upS, hz, za1, z1a1, ca1, za2, z1a2, ca2]; done) | (simp [upS, hz, za1, z1a1, ca1, za2, z1a2, ca2]; omega))])]
            refine b153_19 (by decide +kernel) ?_
            rw [if_neg (show ¬ ((0 : Int) < ((upS (upS (upS σ 333 1 0) 335 1 0) 337 1 0) 337 1)) by first | omega | (simp [upS, hz, za1, z1a1, ca1, za2, z1a2, ca2]; done) | (simp [upS, hz, za1, z1a1, ca1, za2, z1a2, ca2]; omega))]
            all_goals rfl
          refine ⟨_, hD11, ?_⟩
          clear hD11
          have hD12 : Dd 152 [(.inr (.inr (some 343)))] (upS (upS (upS σ 333 1 0) 335 1 0) 337 1 0) (.inl none, (upS (upS (upS (upS σ 333 1 0) 335 1 0) 337 1 0) 343 1 0)) := by
            refine b152 (by decide +kernel) ?_
            all_goals rfl
          refine ⟨_, hD12, ?_⟩
          clear hD12
          all_goals rfl
        refine ⟨_, hD13, ?_⟩
        clear hD13
        have hD14 : Dd 146 [(.inr (.inr (some 333)))] (upS (upS (upS (upS σ 333 1 0) 335 1 0) 337 1 0) 343 1 0) (.inl (some (.inl 0)), (upS (upS (upS (upS σ 333 1 0) 335 1 0) 337 1 0) 343 1 0)) := by
          refine b146 (by decide +kernel) ?_
          rw [show ((upS (upS (upS (upS σ 333 1 0) 335 1 0) 337 1 0) 343 1 0) 333 1) = 0 by (first | omega | (simp [upS, hz, za1, z1a1, ca1, za2, z1a2, ca2]; done) | (simp [upS, hz, za1, z1a1, ca1, za2, z1a2, ca2]; omega))]
          all_goals rfl
        refine ⟨_, _, hD14, ?_⟩
        clear hD14
        have hD15 : Dd 146 [(.inr (.inr (some 335)))] (upS (upS (upS (upS σ 333 1 0) 335 1 0) 337 1 0) 343 1 0) (.inl (some (.inl 0)), (upS (upS (upS (upS σ 333 1 0) 335 1 0) 337 1 0) 343 1 0)) := by
          refine b146 (by decide +kernel) ?_
          rw [show ((upS (upS (upS (upS σ 333 1 0) 335 1 0) 337 1 0) 343 1 0) 335 1) = 0 by (first | omega | (simp [upS, hz, za1, z1a1, ca1, za2, z1a2, ca2]; done) | (simp [upS, hz, za1, z1a1, ca1, za2, z1a2, ca2]; omega))]
          all_goals rfl
        refine ⟨_, _, hD15, ?_⟩
        clear hD15
        have hD16 : Dd 20 [(.inr (.inr (some 332))), (.inl 0), (.inl 0), (.inl 0), (.inl 0)] (upS (upS (upS (upS σ 333 1 0) 335 1 0) 337 1 0) 343 1 0) (.inl none, (upS (upS (upS (upS σ 333 1 0) 335 1 0) 337 1 0) 343 1 0)) := by
          refine b20 ?_
          rw [if_neg (show ¬ ((0 : Int) < 0) by first | omega | (simp [upS, hz, za1, z1a1, ca1, za2, z1a2, ca2]; done) | (simp [upS, hz, za1, z1a1, ca1, za2, z1a2, ca2]; omega))]
          all_goals rfl
        refine ⟨_, hD16, ?_⟩
        clear hD16
        refine b15_29 ?_
        rw [if_pos (show (0 : Int) < 160 by first | omega | (simp [upS, hz, za1, z1a1, ca1, za2, z1a2, ca2]; done) | (simp [upS, hz, za1, z1a1, ca1, za2, z1a2, ca2]; omega))]
        refine ⟨(show (-2147483648 : Int) ≤ (4 * 0) ∧ ((4 * 0) : Int) ≤ 2147483647 by first | omega | (simp [upS, hz, za1, z1a1, ca1, za2, z1a2, ca2]; done) | (simp [upS, hz, za1, z1a1, ca1, za2, z1a2, ca2]; omega)), ?_⟩
        have hD17 : Dd 146 [(.inr (.inr (some 343)))] (upS (upS (upS (upS σ 333 1 0) 335 1 0) 337 1 0) 343 1 0) (.inl (some (.inl 0)), (upS (upS (upS (upS σ 333 1 0) 335 1 0) 337 1 0) 343 1 0)) := by
          refine b146 (by decide +kernel) ?_
          rw [show ((upS (upS (upS (upS σ 333 1 0) 335 1 0) 337 1 0) 343 1 0) 343 1) = 0 by (first | omega | (simp [upS, hz, za1, z1a1, ca1, za2, z1a2, ca2]; done) | (simp [upS, hz, za1, z1a1, ca1, za2, z1a2, ca2]; omega))]
          all_goals rfl
        refine ⟨_, _, hD17, ?_⟩
        clear hD17
        rw [if_neg (show ¬ (((4 * 0) : Int) < 0) by first | omega | (simp [upS, hz, za1, z1a1, ca1, za2, z1a2, ca2]; done) | (simp [upS, hz, za1, z1a1, ca1, za2, z1a2, ca2]; omega))]
        refine b15_147 ?_
        all_goals rfl
      refine ⟨_, _, hD18, (by decide +kernel), ?_⟩
      clear hD18
      have hD19 : Dd 146 [(.inr (.inr (some 337)))] (upS (upS (upS (upS σ 333 1 0) 335 1 0) 337 1 0) 343 1 0) (.inl (some (.inl 0)), (upS (upS (upS (upS σ 333 1 0) 335 1 0) 337 1 0) 343 1 0)) := by
        refine b146 (by decide +kernel) ?_
        rw [show ((upS (upS (upS (upS σ 333 1 0) 335 1 0) 337 1 0) 343 1 0) 337 1) = 0 by (first | omega | (simp [upS, hz, za1, z1a1, ca1, za2, z1a2, ca2]; done) | (simp [upS, hz, za1, z1a1, ca1, za2, z1a2, ca2]; omega))]
        all_goals rfl
      refine ⟨_, _, hD19, ?_⟩
      clear hD19
      have hD20 : Dd 146 [(.inr (.inr (some 337)))] (upS (upS (upS (upS σ 333 1 0) 335 1 0) 337 1 0) 343 1 0) (.inl (some (.inl 0)), (upS (upS (upS (upS σ 333 1 0) 335 1 0) 337 1 0) 343 1 0)) := by
        refine b146 (by decide +kernel) ?_
        rw [show ((upS (upS (upS (upS σ 333 1 0) 335 1 0) 337 1 0) 343 1 0) 337 1) = 0 by (first | omega | (simp [upS, hz, za1, z1a1, ca1, za2, z1a2, ca2]; done) | (simp [upS, hz, za1, z1a1, ca1, za2, z1a2, ca2]; omega))]
        all_goals rfl
      refine ⟨_, _, hD20, ?_⟩
      clear hD20
      have hD21 : Dd 157 [(.inr (.inr (some 337))), (.inl (-1)), (.inl 0), (.inl 0)] (upS (upS (upS (upS σ 333 1 0) 335 1 0) 337 1 0) 343 1 0) (.inl (some (.inl 0)), (upS (upS (upS (upS σ 333 1 0) 335 1 0) 337 1 0) 343 1 0)) := by
        refine b157 ?_
        try rw [show (if (0 : Int) < 0 then (0 : Int) else 0) = 0 by (first | omega | (simp [upS, hz, za1, z1a1, ca1, za2, z1a2, ca2]; done) | (simp [upS, hz, za1, z1a1, ca1, za2, z1a2, ca2]; omega))]
        refine b157_10 (by decide +kernel) ?_
        rw [if_neg (show ¬ ((0 : Int) < 0) by first | omega | (simp [upS, hz, za1, z1a1, ca1, za2, z1a2, ca2]; done) | (simp [upS, hz, za1, z1a1, ca1, za2, z1a2, ca2]; omega))]
        all_goals rfl
      refine ⟨_, _, hD21, ?_⟩
      clear hD21
      refine ⟨(show (-2147483648 : Int) ≤ (0 - 0) ∧ ((0 - 0) : Int) ≤ 2147483647 by first | omega | (simp [upS, hz, za1, z1a1, ca1, za2, z1a2, ca2]; done) | (simp [upS, hz, za1, z1a1, ca1, za2, z1a2, ca2]; omega)), ?_⟩
      rw [show ((0 - 0) : Int) = 0 by (first | omega | (simp [upS, hz, za1, z1a1, ca1, za2, z1a2, ca2]; done) | (simp [upS, hz, za1, z1a1, ca1, za2, z1a2, ca2]; omega))]
      all_goals rfl
    refine Or.inl ⟨_, _, hD22, ?_⟩
    clear hD22
    rw [(show (upS (upS (upS (upS (upS σ 333 1 0) 335 1 0) 337 1 0) 343 1 0) 726 ((0 : Int).toNat) 0) = (upS (upS (upS (upS (upS σ 333 1 0) 335 1 0) 337 1 0) 343 1 0) 726 0 0) from by rw [show ((0 : Int).toNat) = 0 by (first | omega | (simp [upS, hz, za1, z1a1, ca1, za2, z1a2, ca2]; done) | (simp [upS, hz, za1, z1a1, ca1, za2, z1a2, ca2]; omega))])]
    all_goals rfl
  obtain ⟨S900, E900⟩ : ∃ s : Sg, s = (upS (upS (upS (upS (upS σ 333 1 0) 335 1 0) 337 1 0) 343 1 0) 726 0 0) := ⟨_, rfl⟩
  rw [← E900] at hA
  have hB : Dd 278 [(.inr (.inr (some 682))), (.inl a1), (.inl a2), (.inl a3)] S900 (.inl (some (.inl 0)), (upS (upS (upS (upS (upS (upS (upS (upS (upS (upS (upS (upS (upS (upS (upS S900 682 0 0) 682 12 0) 682 13 0) 682 22 0) 696 0 0) 696 1 0) 696 2 0) 696 3 0) 682 22 1) 682 22 0) 682 17 0) 682 18 0) 682 19 0) 682 20 0) 694 0 0)) := by
    refine b278 ?_
    have hD24 : Dd 247 [(.inl a1)] S900 (.inl (some (.inl 1)), S900) := by
      refine b247 ?_
      have hD23 : Dd 246 [(.inl a1), (.inl 4)] S900 (.inl (some (.inl 1)), S900) := by
        refine b246 ?_
        try rw [if_pos (show (0 : Int) ≤ a1 by first | omega | (simp [upS, hz, za1, z1a1, ca1, za2, z1a2, ca2, E900]; done) | (simp [upS, hz, za1, z1a1, ca1, za2, z1a2, ca2, E900]; omega))]
        try rw [if_pos (show a1 < 4 by first | omega | (simp [upS, hz, za1, z1a1, ca1, za2, z1a2, ca2, E900]; done) | (simp [upS, hz, za1, z1a1, ca1, za2, z1a2, ca2, E900]; omega))]
        all_goals rfl
      refine ⟨_, _, hD23, ?_⟩
      clear hD23
      refine ⟨(show 1 = 0 ∨ 1 = 1 by first | omega | (simp [upS, hz, za1, z1a1, ca1, za2, z1a2, ca2, E900]; done) | (simp [upS, hz, za1, z1a1, ca1, za2, z1a2, ca2, E900]; omega)), ?_⟩
      all_goals rfl
    refine ⟨_, _, hD24, ?_⟩
    clear hD24
    rw [if_neg (show ¬ ((1 : Int) = 0) by first | omega | (simp [upS, hz, za1, z1a1, ca1, za2, z1a2, ca2, E900]; done) | (simp [upS, hz, za1, z1a1, ca1, za2, z1a2, ca2, E900]; omega))]
    have hD26 : Dd 247 [(.inl a2)] S900 (.inl (some (.inl 1)), S900) := by
      refine b247 ?_
      have hD25 : Dd 246 [(.inl a2), (.inl 4)] S900 (.inl (some (.inl 1)), S900) := by
        refine b246 ?_
        try rw [if_pos (show (0 : Int) ≤ a2 by first | omega | (simp [upS, hz, za1, z1a1, ca1, za2, z1a2, ca2, E900]; done) | (simp [upS, hz, za1, z1a1, ca1, za2, z1a2, ca2, E900]; omega))]
        try rw [if_pos (show a2 < 4 by first | omega | (simp [upS, hz, za1, z1a1, ca1, za2, z1a2, ca2, E900]; done) | (simp [upS, hz, za1, z1a1, ca1, za2, z1a2, ca2, E900]; omega))]
        all_goals rfl
      refine ⟨_, _, hD25, ?_⟩
      clear hD25
      refine ⟨(show 1 = 0 ∨ 1 = 1 by first | omega | (simp [upS, hz, za1, z1a1, ca1, za2, z1a2, ca2, E900]; done) | (simp [upS, hz, za1, z1a1, ca1, za2, z1a2, ca2, E900]; omega)), ?_⟩
      all_goals rfl
    refine ⟨_, _, hD26, ?_⟩
    clear hD26
    rw [if_neg (show ¬ ((1 : Int) = 0) by first | omega | (simp [upS, hz, za1, z1a1, ca1, za2, z1a2, ca2, E900]; done) | (simp [upS, hz, za1, z1a1, ca1, za2, z1a2, ca2, E900]; omega))]
    have hD28 : Dd 275 [(.inl a3)] S900 (.inl (some (.inl 1)), S900) := by
      refine b275 ?_
      have hD27 : Dd 246 [(.inl a3), (.inl 3)] S900 (.inl (some (.inl 1)), S900) := by
        refine b246 ?_
        try rw [if_pos (show (0 : Int) ≤ a3 by first | omega | (simp [upS, hz, za1, z1a1, ca1, za2, z1a2, ca2, E900]; done) | (simp [upS, hz, za1, z1a1, ca1, za2, z1a2, ca2, E900]; omega))]
        try rw [if_pos (show a3 < 3 by first | omega | (simp [upS, hz, za1, z1a1, ca1, za2, z1a2, ca2, E900]; done) | (simp [upS, hz, za1, z1a1, ca1, za2, z1a2, ca2, E900]; omega))]
        all_goals rfl
      refine ⟨_, _, hD27, ?_⟩
      clear hD27
      refine ⟨(show 1 = 0 ∨ 1 = 1 by first | omega | (simp [upS, hz, za1, z1a1, ca1, za2, z1a2, ca2, E900]; done) | (simp [upS, hz, za1, z1a1, ca1, za2, z1a2, ca2, E900]; omega)), ?_⟩
      all_goals rfl
    refine ⟨_, _, hD28, ?_⟩
    clear hD28
    try rw [if_neg (show ¬ ((1 : Int) = 0) by first | omega | (simp [upS, hz, za1, z1a1, ca1, za2, z1a2, ca2, E900]; done) | (simp [upS, hz, za1, z1a1, ca1, za2, z1a2, ca2, E900]; omega))]
    refine b278_31 ?_
    have hD29 : Dd 245 [(.inr (.inr (some 682))), (.inl 0)] S900 (.inl (some (.inl 1)), (upS S900 682 0 0)) := by
      refine b245 ?_
      try rw [if_pos (show (0 : Int) = 0 by first | omega | (simp [upS, hz, za1, z1a1, ca1, za2, z1a2, ca2, E900]; done) | (simp [upS, hz, za1, z1a1, ca1, za2, z1a2, ca2, E900]; omega))]
      all_goals rfl
    refine ⟨_, _, hD29, ?_⟩
    clear hD29
    rw [if_neg (show ¬ ((1 : Int) = 0) by first | omega | (simp [upS, hz, za1, z1a1, ca1, za2, z1a2, ca2, E900]; done) | (simp [upS, hz, za1, z1a1, ca1, za2, z1a2, ca2, E900]; omega))]
    have hD32 : Dd 276 [(.inr (.inr (some 682))), (.inl a1), (.inl a2)] (upS S900 682 0 0) (.inl none, (upS (upS (upS S900 682 0 0) 682 12 0) 682 13 0)) := by
      refine b276 ?_
      refine ⟨(show -2147483648 ≤ (16 * a1) ∧ (16 * a1) ≤ 2147483647 by first | omega | (simp [upS, hz, za1, z1a1, ca1, za2, z1a2, ca2, E900]; done) | (simp [upS, hz, za1, z1a1, ca1, za2, z1a2, ca2, E900]; omega)), ?_⟩
      refine ⟨(show 0 ≤ a1 ∧ a1 < 4 by first | omega | (simp [upS, hz, za1, z1a1, ca1, za2, z1a2, ca2, E900]; done) | (simp [upS, hz, za1, z1a1, ca1, za2, z1a2, ca2, E900]; omega)), ?_⟩
      rw [show ((upS S900 682 0 0) 684 (a1).toNat) = 0 by (first | omega | (simp [upS, hz, za1, z1a1, ca1, za2, z1a2, ca2, E900]; done) | (simp [upS, hz, za1, z1a1, ca1, za2, z1a2, ca2, E900]; omega))]
      have hD30 : Dd 263 [(.inr (.inr (some 682))), (.inr (.inr (some 683))), (.inl (16 * a1)), (.inl 0)] (upS S900 682 0 0) (.inl none, (upS (upS S900 682 0 0) 682 12 0)) := by
        refine b263 ?_
        refine b263_8 (show qA 683 0 64 = true by decide +kernel) ?_
        rw [if_neg (show ¬ ((0 : Int) < 0) by first | omega | (simp [upS, hz, za1, z1a1, ca1, za2, z1a2, ca2, E900]; done) | (simp [upS, hz, za1, z1a1, ca1, za2, z1a2, ca2, E900]; omega))]
        all_goals rfl
      refine ⟨_, hD30, ?_⟩
      clear hD30
      refine ⟨(show -2147483648 ≤ (16 * a2) ∧ (16 * a2) ≤ 2147483647 by first | omega | (simp [upS, hz, za1, z1a1, ca1, za2, z1a2, ca2, E900]; done) | (simp [upS, hz, za1, z1a1, ca1, za2, z1a2, ca2, E900]; omega)), ?_⟩
      refine ⟨(show 0 ≤ a2 ∧ a2 < 4 by first | omega | (simp [upS, hz, za1, z1a1, ca1, za2, z1a2, ca2, E900]; done) | (simp [upS, hz, za1, z1a1, ca1, za2, z1a2, ca2, E900]; omega)), ?_⟩
      rw [show ((upS (upS S900 682 0 0) 682 12 0) 684 (a2).toNat) = 0 by (first | omega | (simp [upS, hz, za1, z1a1, ca1, za2, z1a2, ca2, E900]; done) | (simp [upS, hz, za1, z1a1, ca1, za2, z1a2, ca2, E900]; omega))]
      have hD31 : Dd 264 [(.inr (.inr (some 682))), (.inr (.inr (some 683))), (.inl (16 * a2)), (.inl 0)] (upS (upS S900 682 0 0) 682 12 0) (.inl none, (upS (upS (upS S900 682 0 0) 682 12 0) 682 13 0)) := by
        refine b264 ?_
        refine b264_8 (show qA 683 0 64 = true by decide +kernel) ?_
        rw [if_neg (show ¬ ((0 : Int) < 0) by first | omega | (simp [upS, hz, za1, z1a1, ca1, za2, z1a2, ca2, E900]; done) | (simp [upS, hz, za1, z1a1, ca1, za2, z1a2, ca2, E900]; omega))]
        all_goals rfl
      refine ⟨_, hD31, ?_⟩
      clear hD31
      all_goals rfl
    refine ⟨_, hD32, ?_⟩
    clear hD32
    have hD43 : Dd 274 [(.inr (.inr (some 682))), (.inl a3)] (upS (upS (upS S900 682 0 0) 682 12 0) 682 13 0) (.inl (some (.inl 0)), (upS (upS (upS (upS (upS (upS (upS (upS (upS (upS (upS (upS (upS (upS (upS S900 682 0 0) 682 12 0) 682 13 0) 682 22 0) 696 0 0) 696 1 0) 696 2 0) 696 3 0) 682 22 1) 682 22 0) 682 17 0) 682 18 0) 682 19 0) 682 20 0) 694 0 0)) := by
      refine b274 ?_
      refine b274_2 ?_
      rw [if_neg (show ¬ ((0 : Int) < ((upS (upS (upS S900 682 0 0) 682 12 0) 682 13 0) 682 12)) by first | omega | (simp [upS, hz, za1, z1a1, ca1, za2, z1a2, ca2, E900]; done) | (simp [upS, hz, za1, z1a1, ca1, za2, z1a2, ca2, E900]; omega))]
      rw [show ((upS (upS (upS (upS S900 682 0 0) 682 12 0) 682 13 0) 682 22 0) 682 12) = 0 by (first | omega | (simp [upS, hz, za1, z1a1, ca1, za2, z1a2, ca2, E900]; done) | (simp [upS, hz, za1, z1a1, ca1, za2, z1a2, ca2, E900]; omega))]
      rw [show ((upS (upS (upS (upS S900 682 0 0) 682 12 0) 682 13 0) 682 22 0) 682 13) = 0 by (first | omega | (simp [upS, hz, za1, z1a1, ca1, za2, z1a2, ca2, E900]; done) | (simp [upS, hz, za1, z1a1, ca1, za2, z1a2, ca2, E900]; omega))]
      have hD33 : Dd 267 [(.inr (.inr (some 682))), (.inl 0), (.inl 0), (.inl 0), (.inl 0)] (upS (upS (upS (upS S900 682 0 0) 682 12 0) 682 13 0) 682 22 0) (.inl none, (upS (upS (upS (upS (upS (upS (upS (upS (upS S900 682 0 0) 682 12 0) 682 13 0) 682 22 0) 696 0 0) 696 1 0) 696 2 0) 696 3 0) 682 22 1)) := by
        refine b267 ?_
        refine ⟨(show -2147483648 ≤ (4 * ((upS (upS (upS (upS S900 682 0 0) 682 12 0) 682 13 0) 682 22 0) 682 22)) ∧ (4 * ((upS (upS (upS (upS S900 682 0 0) 682 12 0) 682 13 0) 682 22 0) 682 22)) ≤ 2147483647 by first | omega | (simp [upS, hz, za1, z1a1, ca1, za2, z1a2, ca2, E900]; done) | (simp [upS, hz, za1, z1a1, ca1, za2, z1a2, ca2, E900]; omega)), ?_⟩
        refine ⟨(show 0 ≤ (4 * ((upS (upS (upS (upS S900 682 0 0) 682 12 0) 682 13 0) 682 22 0) 682 22)) ∧ (4 * ((upS (upS (upS (upS S900 682 0 0) 682 12 0) 682 13 0) 682 22 0) 682 22)) < 512 by first | omega | (simp [upS, hz, za1, z1a1, ca1, za2, z1a2, ca2, E900]; done) | (simp [upS, hz, za1, z1a1, ca1, za2, z1a2, ca2, E900]; omega)), ?_⟩
        refine ⟨(show -2147483648 ≤ (4 * ((upS (upS (upS (upS (upS S900 682 0 0) 682 12 0) 682 13 0) 682 22 0) 696 (((4 * ((upS (upS (upS (upS S900 682 0 0) 682 12 0) 682 13 0) 682 22 0) 682 22))).toNat) 0) 682 22)) ∧ (4 * ((upS (upS (upS (upS (upS S900 682 0 0) 682 12 0) 682 13 0) 682 22 0) 696 (((4 * ((upS (upS (upS (upS S900 682 0 0) 682 12 0) 682 13 0) 682 22 0) 682 22))).toNat) 0) 682 22)) ≤ 2147483647 by first | omega | (simp [upS, hz, za1, z1a1, ca1, za2, z1a2, ca2, E900]; done) | (simp [upS, hz, za1, z1a1, ca1, za2, z1a2, ca2, E900]; omega)), ?_⟩
        refine ⟨(show -2147483648 ≤ ((4 * ((upS (upS (upS (upS (upS S900 682 0 0) 682 12 0) 682 13 0) 682 22 0) 696 (((4 * ((upS (upS (upS (upS S900 682 0 0) 682 12 0) 682 13 0) 682 22 0) 682 22))).toNat) 0) 682 22)) + 1) ∧ ((4 * ((upS (upS (upS (upS (upS S900 682 0 0) 682 12 0) 682 13 0) 682 22 0) 696 (((4 * ((upS (upS (upS (upS S900 682 0 0) 682 12 0) 682 13 0) 682 22 0) 682 22))).toNat) 0) 682 22)) + 1) ≤ 2147483647 by first | omega | (simp [upS, hz, za1, z1a1, ca1, za2, z1a2, ca2, E900]; done) | (simp [upS, hz, za1, z1a1, ca1, za2, z1a2, ca2, E900]; omega)), ?_⟩
        refine ⟨(show 0 ≤ ((4 * ((upS (upS (upS (upS (upS S900 682 0 0) 682 12 0) 682 13 0) 682 22 0) 696 (((4 * ((upS (upS (upS (upS S900 682 0 0) 682 12 0) 682 13 0) 682 22 0) 682 22))).toNat) 0) 682 22)) + 1) ∧ ((4 * ((upS (upS (upS (upS (upS S900 682 0 0) 682 12 0) 682 13 0) 682 22 0) 696 (((4 * ((upS (upS (upS (upS S900 682 0 0) 682 12 0) 682 13 0) 682 22 0) 682 22))).toNat) 0) 682 22)) + 1) < 512 by first | omega | (simp [upS, hz, za1, z1a1, ca1, za2, z1a2, ca2, E900]; done) | (simp [upS, hz, za1, z1a1, ca1, za2, z1a2, ca2, E900]; omega)), ?_⟩
        refine ⟨(show -2147483648 ≤ (4 * ((upS (upS (upS (upS (upS (upS S900 682 0 0) 682 12 0) 682 13 0) 682 22 0) 696 (((4 * ((upS (upS (upS (upS S900 682 0 0) 682 12 0) 682 13 0) 682 22 0) 682 22))).toNat) 0) 696 ((((4 * ((upS (upS (upS (upS (upS S900 682 0 0) 682 12 0) 682 13 0) 682 22 0) 696 (((4 * ((upS (upS (upS (upS S900 682 0 0) 682 12 0) 682 13 0) 682 22 0) 682 22))).toNat) 0) 682 22)) + 1)).toNat) 0) 682 22)) ∧ (4 * ((upS (upS (upS (upS (upS (upS S900 682 0 0) 682 12 0) 682 13 0) 682 22 0) 696 (((4 * ((upS (upS (upS (upS S900 682 0 0) 682 12 0) 682 13 0) 682 22 0) 682 22))).toNat) 0) 696 ((((4 * ((upS (upS (upS (upS (upS S900 682 0 0) 682 12 0) 682 13 0) 682 22 0) 696 (((4 * ((upS (upS (upS (upS S900 682 0 0) 682 12 0) 682 13 0) 682 22 0) 682 22))).toNat) 0) 682 22)) + 1)).toNat) 0) 682 22)) ≤ 2147483647 by first | omega | (simp [upS, hz, za1, z1a1, ca1, za2, z1a2, ca2, E900]; done) | (simp [upS, hz, za1, z1a1, ca1, za2, z1a2, ca2, E900]; omega)), ?_⟩
        refine ⟨(show -2147483648 ≤ ((4 * ((upS (upS (upS (upS (upS (upS S900 682 0 0) 682 12 0) 682 13 0) 682 22 0) 696 (((4 * ((upS (upS (upS (upS S900 682 0 0) 682 12 0) 682 13 0) 682 22 0) 682 22))).toNat) 0) 696 ((((4 * ((upS (upS (upS (upS (upS S900 682 0 0) 682 12 0) 682 13 0) 682 22 0) 696 (((4 * ((upS (upS (upS (upS S900 682 0 0) 682 12 0) 682 13 0) 682 22 0) 682 22))).toNat) 0) 682 22)) + 1)).toNat) 0) 682 22)) + 2) ∧ ((4 * ((upS (upS (upS (upS (upS (upS S900 682 0 0) 682 12 0) 682 13 0) 682 22 0) 696 (((4 * ((upS (upS (upS (upS S900 682 0 0) 682 12 0) 682 13 0) 682 22 0) 682 22))).toNat) 0) 696 ((((4 * ((upS (upS (upS (upS (upS S900 682 0 0) 682 12 0) 682 13 0) 682 22 0) 696 (((4 * ((upS (upS (upS (upS S900 682 0 0) 682 12 0) 682 13 0) 682 22 0) 682 22))).toNat) 0) 682 22)) + 1)).toNat) 0) 682 22)) + 2) ≤ 2147483647 by first | omega | (simp [upS, hz, za1, z1a1, ca1, za2, z1a2, ca2, E900]; done) | (simp [upS, hz, za1, z1a1, ca1, za2, z1a2, ca2, E900]; omega)), ?_⟩
        refine ⟨(show 0 ≤ ((4 * ((upS (upS (upS (upS (upS (upS S900 682 0 0) 682 12 0) 682 13 0) 682 22 0) 696 (((4 * ((upS (upS (upS (upS S900 682 0 0) 682 12 0) 682 13 0) 682 22 0) 682 22))).toNat) 0) 696 ((((4 * ((upS (upS (upS (upS (upS S900 682 0 0) 682 12 0) 682 13 0) 682 22 0) 696 (((4 * ((upS (upS (upS (upS S900 682 0 0) 682 12 0) 682 13 0) 682 22 0) 682 22))).toNat) 0) 682 22)) + 1)).toNat) 0) 682 22)) + 2) ∧ ((4 * ((upS (upS (upS (upS (upS (upS S900 682 0 0) 682 12 0) 682 13 0) 682 22 0) 696 (((4 * ((upS (upS (upS (upS S900 682 0 0) 682 12 0) 682 13 0) 682 22 0) 682 22))).toNat) 0) 696 ((((4 * ((upS (upS (upS (upS (upS S900 682 0 0) 682 12 0) 682 13 0) 682 22 0) 696 (((4 * ((upS (upS (upS (upS S900 682 0 0) 682 12 0) 682 13 0) 682 22 0) 682 22))).toNat) 0) 682 22)) + 1)).toNat) 0) 682 22)) + 2) < 512 by first | omega | (simp [upS, hz, za1, z1a1, ca1, za2, z1a2, ca2, E900]; done) | (simp [upS, hz, za1, z1a1, ca1, za2, z1a2, ca2, E900]; omega)), ?_⟩
        refine ⟨(show -2147483648 ≤ (4 * ((upS (upS (upS (upS (upS (upS (upS S900 682 0 0) 682 12 0) 682 13 0) 682 22 0) 696 (((4 * ((upS (upS (upS (upS S900 682 0 0) 682 12 0) 682 13 0) 682 22 0) 682 22))).toNat) 0) 696 ((((4 * ((upS (upS (upS (upS (upS S900 682 0 0) 682 12 0) 682 13 0) 682 22 0) 696 (((4 * ((upS (upS (upS (upS S900 682 0 0) 682 12 0) 682 13 0) 682 22 0) 682 22))).toNat) 0) 682 22)) + 1)).toNat) 0) 696 ((((4 * ((upS (upS (upS (upS (upS (upS S900 682 0 0) 682 12 0) 682 13 0) 682 22 0) 696 (((4 * ((upS (upS (upS (upS S900 682 0 0) 682 12 0) 682 13 0) 682 22 0) 682 22))).toNat) 0) 696 ((((4 * ((upS (upS (upS (upS (upS S900 682 0 0) 682 12 0) 682 13 0) 682 22 0) 696 (((4 * ((upS (upS (upS (upS S900 682 0 0) 682 12 0) 682 13 0) 682 22 0) 682 22))).toNat) 0) 682 22)) + 1)).toNat) 0) 682 22)) + 2)).toNat) 0) 682 22)) ∧ (4 * ((upS (upS (upS (upS (upS (upS (upS S900 682 0 0) 682 12 0) 682 13 0) 682 22 0) 696 (((4 * ((upS (upS (upS (upS S900 682 0 0) 682 12 0) 682 13 0) 682 22 0) 682 22))).toNat) 0) 696 ((((4 * ((upS (upS (upS (upS (upS S900 682 0 0) 682 12 0) 682 13 0) 682 22 0) 696 (((4 * ((upS (upS (upS (upS S900 682 0 0) 682 12 0) 682 13 0) 682 22 0) 682 22))).toNat) 0) 682 22)) + 1)).toNat) 0) 696 ((((4 * ((upS (upS (upS (upS (upS (upS S900 682 0 0) 682 12 0) 682 13 0) 682 22 0) 696 (((4 * ((upS (upS (upS (upS S900 682 0 0) 682 12 0) 682 13 0) 682 22 0) 682 22))).toNat) 0) 696 ((((4 * ((upS (upS (upS (upS (upS S900 682 0 0) 682 12 0) 682 13 0) 682 22 0) 696 (((4 * ((upS (upS (upS (upS S900 682 0 0) 682 12 0) 682 13 0) 682 22 0) 682 22))).toNat) 0) 682 22)) + 1)).toNat) 0) 682 22)) + 2)).toNat) 0) 682 22)) ≤ 2147483647 by first | omega | (simp [upS, hz, za1, z1a1, ca1, za2, z1a2, ca2, E900]; done) | (simp [upS, hz, za1, z1a1, ca1, za2, z1a2, ca2, E900]; omega)), ?_⟩
        refine ⟨(show -2147483648 ≤ ((4 * ((upS (upS (upS (upS (upS (upS (upS S900 682 0 0) 682 12 0) 682 13 0) 682 22 0) 696 (((4 * ((upS (upS (upS (upS S900 682 0 0) 682 12 0) 682 13 0) 682 22 0) 682 22))).toNat) 0) 696 ((((4 * ((upS (upS (upS (upS (upS S900 682 0 0) 682 12 0) 682 13 0) 682 22 0) 696 (((4 * ((upS (upS (upS (upS S900 682 0 0) 682 12 0) 682 13 0) 682 22 0) 682 22))).toNat) 0) 682 22)) + 1)).toNat) 0) 696 ((((4 * ((upS (upS (upS (upS (upS (upS S900 682 0 0) 682 12 0) 682 13 0) 682 22 0) 696 (((4 * ((upS (upS (upS (upS S900 682 0 0) 682 12 0) 682 13 0) 682 22 0) 682 22))).toNat) 0) 696 ((((4 * ((upS (upS (upS (upS (upS S900 682 0 0) 682 12 0) 682 13 0) 682 22 0) 696 (((4 * ((upS (upS (upS (upS S900 682 0 0) 682 12 0) 682 13 0) 682 22 0) 682 22))).toNat) 0) 682 22)) + 1)).toNat) 0) 682 22)) + 2)).toNat) 0) 682 22)) + 3) ∧ ((4 * ((upS (upS (upS (upS (upS (upS (upS S900 682 0 0) 682 12 0) 682 13 0) 682 22 0) 696 (((4 * ((upS (upS (upS (upS S900 682 0 0) 682 12 0) 682 13 0) 682 22 0) 682 22))).toNat) 0) 696 ((((4 * ((upS (upS (upS (upS (upS S900 682 0 0) 682 12 0) 682 13 0) 682 22 0) 696 (((4 * ((upS (upS (upS (upS S900 682 0 0) 682 12 0) 682 13 0) 682 22 0) 682 22))).toNat) 0) 682 22)) + 1)).toNat) 0) 696 ((((4 * ((upS (upS (upS (upS (upS (upS S900 682 0 0) 682 12 0) 682 13 0) 682 22 0) 696 (((4 * ((upS (upS (upS (upS S900 682 0 0) 682 12 0) 682 13 0) 682 22 0) 682 22))).toNat) 0) 696 ((((4 * ((upS (upS (upS (upS (upS S900 682 0 0) 682 12 0) 682 13 0) 682 22 0) 696 (((4 * ((upS (upS (upS (upS S900 682 0 0) 682 12 0) 682 13 0) 682 22 0) 682 22))).toNat) 0) 682 22)) + 1)).toNat) 0) 682 22)) + 2)).toNat) 0) 682 22)) + 3) ≤ 2147483647 by first | omega | (simp [upS, hz, za1, z1a1, ca1, za2, z1a2, ca2, E900]; done) | (simp [upS, hz, za1, z1a1, ca1, za2, z1a2, ca2, E900]; omega)), ?_⟩
        refine ⟨(show 0 ≤ ((4 * ((upS (upS (upS (upS (upS (upS (upS S900 682 0 0) 682 12 0) 682 13 0) 682 22 0) 696 (((4 * ((upS (upS (upS (upS S900 682 0 0) 682 12 0) 682 13 0) 682 22 0) 682 22))).toNat) 0) 696 ((((4 * ((upS (upS (upS (upS (upS S900 682 0 0) 682 12 0) 682 13 0) 682 22 0) 696 (((4 * ((upS (upS (upS (upS S900 682 0 0) 682 12 0) 682 13 0) 682 22 0) 682 22))).toNat) 0) 682 22)) + 1)).toNat) 0) 696 ((((4 * ((upS (upS (upS (upS (upS (upS S900 682 0 0) 682 12 0) 682 13 0) 682 22 0) 696 (((4 * ((upS (upS (upS (upS S900 682 0 0) 682 12 0) 682 13 0) 682 22 0) 682 22))).toNat) 0) 696 ((((4 * ((upS (upS (upS (upS (upS S900 682 0 0) 682 12 0) 682 13 0) 682 22 0) 696 (((4 * ((upS (upS (upS (upS S900 682 0 0) 682 12 0) 682 13 0) 682 22 0) 682 22))).toNat) 0) 682 22)) + 1)).toNat) 0) 682 22)) + 2)).toNat) 0) 682 22)) + 3) ∧ ((4 * ((upS (upS (upS (upS (upS (upS (upS S900 682 0 0) 682 12 0) 682 13 0) 682 22 0) 696 (((4 * ((upS (upS (upS (upS S900 682 0 0) 682 12 0) 682 13 0) 682 22 0) 682 22))).toNat) 0) 696 ((((4 * ((upS (upS (upS (upS (upS S900 682 0 0) 682 12 0) 682 13 0) 682 22 0) 696 (((4 * ((upS (upS (upS (upS S900 682 0 0) 682 12 0) 682 13 0) 682 22 0) 682 22))).toNat) 0) 682 22)) + 1)).toNat) 0) 696 ((((4 * ((upS (upS (upS (upS (upS (upS S900 682 0 0) 682 12 0) 682 13 0) 682 22 0) 696 (((4 * ((upS (upS (upS (upS S900 682 0 0) 682 12 0) 682 13 0) 682 22 0) 682 22))).toNat) 0) 696 ((((4 * ((upS (upS (upS (upS (upS S900 682 0 0) 682 12 0) 682 13 0) 682 22 0) 696 (((4 * ((upS (upS (upS (upS S900 682 0 0) 682 12 0) 682 13 0) 682 22 0) 682 22))).toNat) 0) 682 22)) + 1)).toNat) 0) 682 22)) + 2)).toNat) 0) 682 22)) + 3) < 512 by first | omega | (simp [upS, hz, za1, z1a1, ca1, za2, z1a2, ca2, E900]; done) | (simp [upS, hz, za1, z1a1, ca1, za2, z1a2, ca2, E900]; omega)), ?_⟩
        refine ⟨(show -2147483648 ≤ (((upS (upS (upS (upS (upS (upS (upS (upS S900 682 0 0) 682 12 0) 682 13 0) 682 22 0) 696 (((4 * ((upS (upS (upS (upS S900 682 0 0) 682 12 0) 682 13 0) 682 22 0) 682 22))).toNat) 0) 696 ((((4 * ((upS (upS (upS (upS (upS S900 682 0 0) 682 12 0) 682 13 0) 682 22 0) 696 (((4 * ((upS (upS (upS (upS S900 682 0 0) 682 12 0) 682 13 0) 682 22 0) 682 22))).toNat) 0) 682 22)) + 1)).toNat) 0) 696 ((((4 * ((upS (upS (upS (upS (upS (upS S900 682 0 0) 682 12 0) 682 13 0) 682 22 0) 696 (((4 * ((upS (upS (upS (upS S900 682 0 0) 682 12 0) 682 13 0) 682 22 0) 682 22))).toNat) 0) 696 ((((4 * ((upS (upS (upS (upS (upS S900 682 0 0) 682 12 0) 682 13 0) 682 22 0) 696 (((4 * ((upS (upS (upS (upS S900 682 0 0) 682 12 0) 682 13 0) 682 22 0) 682 22))).toNat) 0) 682 22)) + 1)).toNat) 0) 682 22)) + 2)).toNat) 0) 696 ((((4 * ((upS (upS (upS (upS (upS (upS (upS S900 682 0 0) 682 12 0) 682 13 0) 682 22 0) 696 (((4 * ((upS (upS (upS (upS S900 682 0 0) 682 12 0) 682 13 0) 682 22 0) 682 22))).toNat) 0) 696 ((((4 * ((upS (upS (upS (upS (upS S900 682 0 0) 682 12 0) 682 13 0) 682 22 0) 696 (((4 * ((upS (upS (upS (upS S900 682 0 0) 682 12 0) 682 13 0) 682 22 0) 682 22))).toNat) 0) 682 22)) + 1)).toNat) 0) 696 ((((4 * ((upS (upS (upS (upS (upS (upS S900 682 0 0) 682 12 0) 682 13 0) 682 22 0) 696 (((4 * ((upS (upS (upS (upS S900 682 0 0) 682 12 0) 682 13 0) 682 22 0) 682 22))).toNat) 0) 696 ((((4 * ((upS (upS (upS (upS (upS S900 682 0 0) 682 12 0) 682 13 0) 682 22 0) 696 (((4 * ((upS (upS (upS (upS S900 682 0 0) 682 12 0) 682 13 0) 682 22 0) 682 22))).toNat) 0) 682 22)) + 1)).toNat) 0) 682 22)) + 2)).toNat) 0) 682 22)) + 3)).toNat) 0) 682 22) + 1) ∧ (((upS (upS (upS (upS (upS (upS (upS (upS S900 682 0 0) 682 12 0) 682 13 0) 682 22 0) 696 (((4 * ((upS (upS (upS (upS S900 682 0 0) 682 12 0) 682 13 0) 682 22 0) 682 22))).toNat) 0) 696 ((((4 * ((upS (upS (upS (upS (upS S900 682 0 0) 682 12 0) 682 13 0) 682 22 0) 696 (((4 * ((upS (upS (upS (upS S900 682 0 0) 682 12 0) 682 13 0) 682 22 0) 682 22))).toNat) 0) 682 22)) + 1)).toNat) 0) 696 ((((4 * ((upS (upS (upS (upS (upS (upS S900 682 0 0) 682 12 0) 682 13 0) 682 22 0) 696 (((4 * ((upS (upS (upS (upS S900 682 0 0) 682 12 0) 682 13 0) 682 22 0) 682 22))).toNat) 0) 696 ((((4 * ((upS (upS (upS (upS (upS S900 682 0 0) 682 12 0) 682 13 0) 682 22 0) 696 (((4 * ((upS (upS (upS (upS S900 682 0 0) 682 12 0) 682 13 0) 682 22 0) 682 22))).toNat) 0) 682 22)) + 1)).toNat) 0) 682 22)) + 2)).toNat) 0) 696 ((((4 * ((upS (upS (upS (upS (upS (upS (upS S900 682 0 0) 682 12 0) 682 13 0) 682 22 0) 696 (((4 * ((upS (upS (upS (upS S900 682 0 0) 682 12 0) 682 13 0) 682 22 0) 682 22))).toNat) 0) 696 ((((4 * ((upS (upS (upS (upS (upS S900 682 0 0) 682 12 0) 682 13 0) 682 22 0) 696 (((4 * ((upS (upS (upS (upS S900 682 0 0) 682 12 0) 682 13 0) 682 22 0) 682 22))).toNat) 0) 682 22)) + 1)).toNat) 0) 696 ((((4 * ((upS (upS (upS (upS (upS (upS S900 682 0 0) 682 12 0) 682 13 0) 682 22 0) 696 (((4 * ((upS (upS (upS (upS S900 682 0 0) 682 12 0) 682 13 0) 682 22 0) 682 22))).toNat) 0) 696 ((((4 * ((upS (upS (upS (upS (upS S900 682 0 0) 682 12 0) 682 13 0) 682 22 0) 696 (((4 * ((upS (upS (upS (upS S900 682 0 0) 682 12 0) 682 13 0) 682 22 0) 682 22))).toNat) 0) 682 22)) + 1)).toNat) 0) 682 22)) + 2)).toNat) 0) 682 22)) + 3)).toNat) 0) 682 22) + 1) ≤ 2147483647 by first | omega | (simp [upS, hz, za1, z1a1, ca1, za2, z1a2, ca2, E900]; done) | (simp [upS, hz, za1, z1a1, ca1, za2, z1a2, ca2, E900]; omega)), ?_⟩
        rw [(show (upS (upS (upS (upS (upS (upS (upS (upS (upS S900 682 0 0) 682 12 0) 682 13 0) 682 22 0) 696 (((4 * ((upS (upS (upS (upS S900 682 0 0) 682 12 0) 682 13 0) 682 22 0) 682 22))).toNat) 0) 696 ((((4 * ((upS (upS (upS (upS (upS S900 682 0 0) 682 12 0) 682 13 0) 682 22 0) 696 (((4 * ((upS (upS (upS (upS S900 682 0 0) 682 12 0) 682 13 0) 682 22 0) 682 22))).toNat) 0) 682 22)) + 1)).toNat) 0) 696 ((((4 * ((upS (upS (upS (upS (upS (upS S900 682 0 0) 682 12 0) 682 13 0) 682 22 0) 696 (((4 * ((upS (upS (upS (upS S900 682 0 0) 682 12 0) 682 13 0) 682 22 0) 682 22))).toNat) 0) 696 ((((4 * ((upS (upS (upS (upS (upS S900 682 0 0) 682 12 0) 682 13 0) 682 22 0) 696 (((4 * ((upS (upS (upS (upS S900 682 0 0) 682 12 0) 682 13 0) 682 22 0) 682 22))).toNat) 0) 682 22)) + 1)).toNat) 0) 682 22)) + 2)).toNat) 0) 696 ((((4 * ((upS (upS (upS (upS (upS (upS (upS S900 682 0 0) 682 12 0) 682 13 0) 682 22 0) 696 (((4 * ((upS (upS (upS (upS S900 682 0 0) 682 12 0) 682 13 0) 682 22 0) 682 22))).toNat) 0) 696 ((((4 * ((upS (upS (upS (upS (upS S900 682 0 0) 682 12 0) 682 13 0) 682 22 0) 696 (((4 * ((upS (upS (upS (upS S900 682 0 0) 682 12 0) 682 13 0) 682 22 0) 682 22))).toNat) 0) 682 22)) + 1)).toNat) 0) 696 ((((4 * ((upS (upS (upS (upS (upS (upS S900 682 0 0) 682 12 0) 682 13 0) 682 22 0) 696 (((4 * ((upS (upS (upS (upS S900 682 0 0) 682 12 0) 682 13 0) 682 22 0) 682 22))).toNat) 0) 696 ((((4 * ((upS (upS (upS (upS (upS S900 682 0 0) 682 12 0) 682 13 0) 682 22 0) 696 (((4 * ((upS (upS (upS (upS S900 682 0 0) 682 12 0) 682 13 0) 682 22 0) 682 22))).toNat) 0) 682 22)) + 1)).toNat) 0) 682 22)) + 2)).toNat) 0) 682 22)) + 3)).toNat) 0) 682 22 (((upS (upS (upS (upS (upS (upS (upS (upS S900 682 0 0) 682 12 0) 682 13 0) 682 22 0) 696 (((4 * ((upS (upS (upS (upS S900 682 0 0) 682 12 0) 682 13 0) 682 22 0) 682 22))).toNat) 0) 696 ((((4 * ((upS (upS (upS (upS (upS S900 682 0 0) 682 12 0) 682 13 0) 682 22 0) 696 (((4 * ((upS (upS (upS (upS S900 682 0 0) 682 12 0) 682 13 0) 682 22 0) 682 22))).toNat) 0) 682 22)) + 1)).toNat) 0) 696 ((((4 * ((upS (upS (upS (upS (upS (upS S900 682 0 0) 682 12 0) 682 13 0) 682 22 0) 696 (((4 * ((upS (upS (upS (upS S900 682 0 0) 682 12 0) 682 13 0) 682 22 0) 682 22))).toNat) 0) 696 ((((4 * ((upS (upS (upS (upS (upS S900 682 0 0) 682 12 0) 682 13 0) 682 22 0) 696 (((4 * ((upS (upS (upS (upS S900 682 0 0) 682 12 0) 682 13 0) 682 22 0) 682 22))).toNat) 0) 682 22)) + 1)).toNat) 0) 682 22)) + 2)).toNat) 0) 696 ((((4 * ((upS (upS (upS (upS (upS (upS (upS S900 682 0 0) 682 12 0) 682 13 0) 682 22 0) 696 (((4 * ((upS (upS (upS (upS S900 682 0 0) 682 12 0) 682 13 0) 682 22 0) 682 22))).toNat) 0) 696 ((((4 * ((upS (upS (upS (upS (upS S900 682 0 0) 682 12 0) 682 13 0) 682 22 0) 696 (((4 * ((upS (upS (upS (upS S900 682 0 0) 682 12 0) 682 13 0) 682 22 0) 682 22))).toNat) 0) 682 22)) + 1)).toNat) 0) 696 ((((4 * ((upS (upS (upS (upS (upS (upS S900 682 0 0) 682 12 0) 682 13 0) 682 22 0) 696 (((4 * ((upS (upS (upS (upS S900 682 0 0) 682 12 0) 682 13 0) 682 22 0) 682 22))).toNat) 0) 696 ((((4 * ((upS (upS (upS (upS (upS S900 682 0 0) 682 12 0) 682 13 0) 682 22 0) 696 (((4 * ((upS (upS (upS (upS S900 682 0 0) 682 12 0) 682 13 0) 682 22 0) 682 22))).toNat) 0) 682 22)) + 1)).toNat) 0) 682 22)) + 2)).toNat) 0) 682 22)) + 3)).toNat) 0) 682 22) + 1)) = (upS (upS (upS (upS (upS (upS (upS (upS (upS S900 682 0 0) 682 12 0) 682 13 0) 682 22 0) 696 0 0) 696 1 0) 696 2 0) 696 3 0) 682 22 1) from by rw [show (((upS (upS (upS (upS (upS (upS (upS (upS S900 682 0 0) 682 12 0) 682 13 0) 682 22 0) 696 (((4 * ((upS (upS (upS (upS S900 682 0 0) 682 12 0) 682 13 0) 682 22 0) 682 22))).toNat) 0) 696 ((((4 * ((upS (upS (upS (upS (upS S900 682 0 0) 682 12 0) 682 13 0) 682 22 0) 696 (((4 * ((upS (upS (upS (upS S900 682 0 0) 682 12 0) 682 13 0) 682 22 0) 682 22))).toNat) 0) 682 22)) + 1)).toNat) 0) 696 ((((4 * ((upS (upS (upS (upS (upS (upS S900 682 0 0) 682 12 0) 682 13 0) 682 22 0) 696 (((4 * ((upS (upS (upS (upS S900 682 0 0) 682 12 0) 682 13 0) 682 22 0) 682 22))).toNat) 0) 696 ((((4 * ((upS (upS (upS (upS (upS S900 682 0 0) 682 12 0) 682 13 0) 682 22 0) 696 (((4 * ((upS (upS (upS (upS S900 682 0 0) 682 12 0) 682 13 0) 682 22 0) 682 22))).toNat) 0) 682 22)) + 1)).toNat) 0) 682 22)) + 2)).toNat) 0) 696 ((((4 * ((upS (upS (upS (upS (upS (upS (upS S900 682 0 0) 682 12 0) 682 13 0) 682 22 0) 696 (((4 * ((upS (upS (upS (upS S900 682 0 0) 682 12 0) 682 13 0) 682 22 0) 682 22))).toNat) 0) 696 ((((4 * ((upS (upS (upS (upS (upS S900 682 0 0) 682 12 0) 682 13 0) 682 22 0) 696 (((4 * ((upS (upS (upS (upS S900 682 0 0) 682 12 0) 682 13 0) 682 22 0) 682 22))).toNat) 0) 682 22)) + 1)).toNat) 0) 696 ((((4 * ((upS (upS (upS (upS (upS (upS S900 682 0 0) 682 12 0) 682 13 0) 682 22 0) 696 (((4 * ((upS (upS (upS (upS S900 682 0 0) 682 12 0) 682 13 0) 682 22 0) 682 22))).toNat) 0) 696 ((((4 * ((upS (upS (upS (upS (upS S900 682 0 0) 682 12 0) 682 13 0) 682 22 0) 696 (((4 * ((upS (upS (upS (upS S900 682 0 0) 682 12 0) 682 13 0) 682 22 0) 682 22))).toNat) 0) 682 22)) + 1)).toNat) 0) 682 22)) + 2)).toNat) 0) 682 22)) + 3)).toNat) 0) 682 22) + 1) = 1 by (first | omega | (simp [upS, hz, za1, z1a1, ca1, za2, z1a2, ca2, E900]; done) | (simp [upS, hz, za1, z1a1, ca1, za2, z1a2, ca2, E900]; omega)), show ((((4 * ((upS (upS (upS (upS (upS (upS (upS S900 682 0 0) 682 12 0) 682 13 0) 682 22 0) 696 (((4 * ((upS (upS (upS (upS S900 682 0 0) 682 12 0) 682 13 0) 682 22 0) 682 22))).toNat) 0) 696 ((((4 * ((upS (upS (upS (upS (upS S900 682 0 0) 682 12 0) 682 13 0) 682 22 0) 696 (((4 * ((upS (upS (upS (upS S900 682 0 0) 682 12 0) 682 13 0) 682 22 0) 682 22))).toNat) 0) 682 22)) + 1)).toNat) 0) 696 ((((4 * ((upS (upS (upS (upS (upS (upS S900 682 0 0) 682 12 0) 682 13 0) 682 22 0) 696 (((4 * ((upS (upS (upS (upS S900 682 0 0) 682 12 0) 682 13 0) 682 22 0) 682 22))).toNat) 0) 696 ((((4 * ((upS (upS (upS (upS (upS S900 682 0 0) 682 12 0) 682 13 0) 682 22 0) 696 (((4 * ((upS (upS (upS (upS S900 682 0 0) 682 12 0) 682 13 0) 682 22 0) 682 22))).toNat) 0) 682 22)) + 1)).toNat) 0) 682 22)) + 2)).toNat) 0) 682 22)) + 3)).toNat) = 3 by (first | omega | (simp [upS, hz, za1, z1a1, ca1, za2, z1a2, ca2, E900]; done) | (simp [upS, hz, za1, z1a1, ca1, za2, z1a2, ca2, E900]; omega)), show ((((4 * ((upS (upS (upS (upS (upS (upS S900 682 0 0) 682 12 0) 682 13 0) 682 22 0) 696 (((4 * ((upS (upS (upS (upS S900 682 0 0) 682 12 0) 682 13 0) 682 22 0) 682 22))).toNat) 0) 696 ((((4 * ((upS (upS (upS (upS (upS S900 682 0 0) 682 12 0) 682 13 0) 682 22 0) 696 (((4 * ((upS (upS (upS (upS S900 682 0 0) 682 12 0) 682 13 0) 682 22 0) 682 22))).toNat) 0) 682 22)) + 1)).toNat) 0) 682 22)) + 2)).toNat) = 2 by (first | omega | (simp [upS, hz, za1, z1a1, ca1, za2, z1a2, ca2, E900]; done) | (simp [upS, hz, za1, z1a1, ca1, za2, z1a2, ca2, E900]; omega)), show ((((4 * ((upS (upS (upS (upS (upS S900 682 0 0) 682 12 0) 682 13 0) 682 22 0) 696 (((4 * ((upS (upS (upS (upS S900 682 0 0) 682 12 0) 682 13 0) 682 22 0) 682 22))).toNat) 0) 682 22)) + 1)).toNat) = 1 by (first | omega | (simp [upS, hz, za1, z1a1, ca1, za2, z1a2, ca2, E900]; done) | (simp [upS, hz, za1, z1a1, ca1, za2, z1a2, ca2, E900]; omega)), show (((4 * ((upS (upS (upS (upS S900 682 0 0) 682 12 0) 682 13 0) 682 22 0) 682 22))).toNat) = 0 by (first | omega | (simp [upS, hz, za1, z1a1, ca1, za2, z1a2, ca2, E900]; done) | (simp [upS, hz, za1, z1a1, ca1, za2, z1a2, ca2, E900]; omega))])]
        all_goals rfl
      obtain ⟨S34, E34⟩ : ∃ s : Sg, s = (upS (upS (upS (upS (upS (upS (upS (upS (upS S900 682 0 0) 682 12 0) 682 13 0) 682 22 0) 696 0 0) 696 1 0) 696 2 0) 696 3 0) 682 22 1) := ⟨_, rfl⟩
      rw [← E34] at hD33
      refine ⟨_, hD33, ?_⟩
      clear hD33
      refine b274_42 ?_
      rw [if_pos (show (0 : Int) < (S34 682 22) by first | omega | (simp [upS, hz, za1, z1a1, ca1, za2, z1a2, ca2, E900, E34]; done) | (simp [upS, hz, za1, z1a1, ca1, za2, z1a2, ca2, E900, E34]; omega))]
      refine ⟨(show -2147483648 ≤ ((S34 682 22) - 1) ∧ ((S34 682 22) - 1) ≤ 2147483647 by first | omega | (simp [upS, hz, za1, z1a1, ca1, za2, z1a2, ca2, E900, E34]; done) | (simp [upS, hz, za1, z1a1, ca1, za2, z1a2, ca2, E900, E34]; omega)), ?_⟩
      refine ⟨(show -2147483648 ≤ (4 * ((upS S34 682 22 ((S34 682 22) - 1)) 682 22)) ∧ (4 * ((upS S34 682 22 ((S34 682 22) - 1)) 682 22)) ≤ 2147483647 by first | omega | (simp [upS, hz, za1, z1a1, ca1, za2, z1a2, ca2, E900, E34]; done) | (simp [upS, hz, za1, z1a1, ca1, za2, z1a2, ca2, E900, E34]; omega)), ?_⟩
      refine ⟨(show 0 ≤ (4 * ((upS S34 682 22 ((S34 682 22) - 1)) 682 22)) ∧ (4 * ((upS S34 682 22 ((S34 682 22) - 1)) 682 22)) < 512 by first | omega | (simp [upS, hz, za1, z1a1, ca1, za2, z1a2, ca2, E900, E34]; done) | (simp [upS, hz, za1, z1a1, ca1, za2, z1a2, ca2, E900, E34]; omega)), ?_⟩
      refine ⟨(show -2147483648 ≤ (4 * ((upS (upS S34 682 22 ((S34 682 22) - 1)) 682 17 ((upS S34 682 22 ((S34 682 22) - 1)) 696 ((4 * ((upS S34 682 22 ((S34 682 22) - 1)) 682 22))).toNat)) 682 22)) ∧ (4 * ((upS (upS S34 682 22 ((S34 682 22) - 1)) 682 17 ((upS S34 682 22 ((S34 682 22) - 1)) 696 ((4 * ((upS S34 682 22 ((S34 682 22) - 1)) 682 22))).toNat)) 682 22)) ≤ 2147483647 by first | omega | (simp [upS, hz, za1, z1a1, ca1, za2, z1a2, ca2, E900, E34]; done) | (simp [upS, hz, za1, z1a1, ca1, za2, z1a2, ca2, E900, E34]; omega)), ?_⟩
      refine ⟨(show -2147483648 ≤ ((4 * ((upS (upS S34 682 22 ((S34 682 22) - 1)) 682 17 ((upS S34 682 22 ((S34 682 22) - 1)) 696 ((4 * ((upS S34 682 22 ((S34 682 22) - 1)) 682 22))).toNat)) 682 22)) + 1) ∧ ((4 * ((upS (upS S34 682 22 ((S34 682 22) - 1)) 682 17 ((upS S34 682 22 ((S34 682 22) - 1)) 696 ((4 * ((upS S34 682 22 ((S34 682 22) - 1)) 682 22))).toNat)) 682 22)) + 1) ≤ 2147483647 by first | omega | (simp [upS, hz, za1, z1a1, ca1, za2, z1a2, ca2, E900, E34]; done) | (simp [upS, hz, za1, z1a1, ca1, za2, z1a2, ca2, E900, E34]; omega)), ?_⟩
      refine ⟨(show 0 ≤ ((4 * ((upS (upS S34 682 22 ((S34 682 22) - 1)) 682 17 ((upS S34 682 22 ((S34 682 22) - 1)) 696 ((4 * ((upS S34 682 22 ((S34 682 22) - 1)) 682 22))).toNat)) 682 22)) + 1) ∧ ((4 * ((upS (upS S34 682 22 ((S34 682 22) - 1)) 682 17 ((upS S34 682 22 ((S34 682 22) - 1)) 696 ((4 * ((upS S34 682 22 ((S34 682 22) - 1)) 682 22))).toNat)) 682 22)) + 1) < 512 by first | omega | (simp [upS, hz, za1, z1a1, ca1, za2, z1a2, ca2, E900, E34]; done) | (simp [upS, hz, za1, z1a1, ca1, za2, z1a2, ca2, E900, E34]; omega)), ?_⟩
      refine ⟨(show -2147483648 ≤ (4 * ((upS (upS (upS S34 682 22 ((S34 682 22) - 1)) 682 17 ((upS S34 682 22 ((S34 682 22) - 1)) 696 ((4 * ((upS S34 682 22 ((S34 682 22) - 1)) 682 22))).toNat)) 682 18 ((upS (upS S34 682 22 ((S34 682 22) - 1)) 682 17 ((upS S34 682 22 ((S34 682 22) - 1)) 696 ((4 * ((upS S34 682 22 ((S34 682 22) - 1)) 682 22))).toNat)) 696 (((4 * ((upS (upS S34 682 22 ((S34 682 22) - 1)) 682 17 ((upS S34 682 22 ((S34 682 22) - 1)) 696 ((4 * ((upS S34 682 22 ((S34 682 22) - 1)) 682 22))).toNat)) 682 22)) + 1)).toNat)) 682 22)) ∧ (4 * ((upS (upS (upS S34 682 22 ((S34 682 22) - 1)) 682 17 ((upS S34 682 22 ((S34 682 22) - 1)) 696 ((4 * ((upS S34 682 22 ((S34 682 22) - 1)) 682 22))).toNat)) 682 18 ((upS (upS S34 682 22 ((S34 682 22) - 1)) 682 17 ((upS S34 682 22 ((S34 682 22) - 1)) 696 ((4 * ((upS S34 682 22 ((S34 682 22) - 1)) 682 22))).toNat)) 696 (((4 * ((upS (upS S34 682 22 ((S34 682 22) - 1)) 682 17 ((upS S34 682 22 ((S34 682 22) - 1)) 696 ((4 * ((upS S34 682 22 ((S34 682 22) - 1)) 682 22))).toNat)) 682 22)) + 1)).toNat)) 682 22)) ≤ 2147483647 by first | omega | (simp [upS, hz, za1, z1a1, ca1, za2, z1a2, ca2, E900, E34]; done) | (simp [upS, hz, za1, z1a1, ca1, za2, z1a2, ca2, E900, E34]; omega)), ?_⟩
      refine ⟨(show -2147483648 ≤ ((4 * ((upS (upS (upS S34 682 22 ((S34 682 22) - 1)) 682 17 ((upS S34 682 22 ((S34 682 22) - 1)) 696 ((4 * ((upS S34 682 22 ((S34 682 22) - 1)) 682 22))).toNat)) 682 18 ((upS (upS S34 682 22 ((S34 682 22) - 1)) 682 17 ((upS S34 682 22 ((S34 682 22) - 1)) 696 ((4 * ((upS S34 682 22 ((S34 682 22) - 1)) 682 22))).toNat)) 696 (((4 * ((upS (upS S34 682 22 ((S34 682 22) - 1)) 682 17 ((upS S34 682 22 ((S34 682 22) - 1)) 696 ((4 * ((upS S34 682 22 ((S34 682 22) - 1)) 682 22))).toNat)) 682 22)) + 1)).toNat)) 682 22)) + 2) ∧ ((4 * ((upS (upS (upS S34 682 22 ((S34 682 22) - 1)) 682 17 ((upS S34 682 22 ((S34 682 22) - 1)) 696 ((4 * ((upS S34 682 22 ((S34 682 22) - 1)) 682 22))).toNat)) 682 18 ((upS (upS S34 682 22 ((S34 682 22) - 1)) 682 17 ((upS S34 682 22 ((S34 682 22) - 1)) 696 ((4 * ((upS S34 682 22 ((S34 682 22) - 1)) 682 22))).toNat)) 696 (((4 * ((upS (upS S34 682 22 ((S34 682 22) - 1)) 682 17 ((upS S34 682 22 ((S34 682 22) - 1)) 696 ((4 * ((upS S34 682 22 ((S34 682 22) - 1)) 682 22))).toNat)) 682 22)) + 1)).toNat)) 682 22)) + 2) ≤ 2147483647 by first | omega | (simp [upS, hz, za1, z1a1, ca1, za2, z1a2, ca2, E900, E34]; done) | (simp [upS, hz, za1, z1a1, ca1, za2, z1a2, ca2, E900, E34]; omega)), ?_⟩
      refine ⟨(show 0 ≤ ((4 * ((upS (upS (upS S34 682 22 ((S34 682 22) - 1)) 682 17 ((upS S34 682 22 ((S34 682 22) - 1)) 696 ((4 * ((upS S34 682 22 ((S34 682 22) - 1)) 682 22))).toNat)) 682 18 ((upS (upS S34 682 22 ((S34 682 22) - 1)) 682 17 ((upS S34 682 22 ((S34 682 22) - 1)) 696 ((4 * ((upS S34 682 22 ((S34 682 22) - 1)) 682 22))).toNat)) 696 (((4 * ((upS (upS S34 682 22 ((S34 682 22) - 1)) 682 17 ((upS S34 682 22 ((S34 682 22) - 1)) 696 ((4 * ((upS S34 682 22 ((S34 682 22) - 1)) 682 22))).toNat)) 682 22)) + 1)).toNat)) 682 22)) + 2) ∧ ((4 * ((upS (upS (upS S34 682 22 ((S34 682 22) - 1)) 682 17 ((upS S34 682 22 ((S34 682 22) - 1)) 696 ((4 * ((upS S34 682 22 ((S34 682 22) - 1)) 682 22))).toNat)) 682 18 ((upS (upS S34 682 22 ((S34 682 22) - 1)) 682 17 ((upS S34 682 22 ((S34 682 22) - 1)) 696 ((4 * ((upS S34 682 22 ((S34 682 22) - 1)) 682 22))).toNat)) 696 (((4 * ((upS (upS S34 682 22 ((S34 682 22) - 1)) 682 17 ((upS S34 682 22 ((S34 682 22) - 1)) 696 ((4 * ((upS S34 682 22 ((S34 682 22) - 1)) 682 22))).toNat)) 682 22)) + 1)).toNat)) 682 22)) + 2) < 512 by first | omega | (simp [upS, hz, za1, z1a1, ca1, za2, z1a2, ca2, E900, E34]; done) | (simp [upS, hz, za1, z1a1, ca1, za2, z1a2, ca2, E900, E34]; omega)), ?_⟩
      refine ⟨(show -2147483648 ≤ (4 * ((upS (upS (upS (upS S34 682 22 ((S34 682 22) - 1)) 682 17 ((upS S34 682 22 ((S34 682 22) - 1)) 696 ((4 * ((upS S34 682 22 ((S34 682 22) - 1)) 682 22))).toNat)) 682 18 ((upS (upS S34 682 22 ((S34 682 22) - 1)) 682 17 ((upS S34 682 22 ((S34 682 22) - 1)) 696 ((4 * ((upS S34 682 22 ((S34 682 22) - 1)) 682 22))).toNat)) 696 (((4 * ((upS (upS S34 682 22 ((S34 682 22) - 1)) 682 17 ((upS S34 682 22 ((S34 682 22) - 1)) 696 ((4 * ((upS S34 682 22 ((S34 682 22) - 1)) 682 22))).toNat)) 682 22)) + 1)).toNat)) 682 19 ((upS (upS (upS S34 682 22 ((S34 682 22) - 1)) 682 17 ((upS S34 682 22 ((S34 682 22) - 1)) 696 ((4 * ((upS S34 682 22 ((S34 682 22) - 1)) 682 22))).toNat)) 682 18 ((upS (upS S34 682 22 ((S34 682 22) - 1)) 682 17 ((upS S34 682 22 ((S34 682 22) - 1)) 696 ((4 * ((upS S34 682 22 ((S34 682 22) - 1)) 682 22))).toNat)) 696 (((4 * ((upS (upS S34 682 22 ((S34 682 22) - 1)) 682 17 ((upS S34 682 22 ((S34 682 22) - 1)) 696 ((4 * ((upS S34 682 22 ((S34 682 22) - 1)) 682 22))).toNat)) 682 22)) + 1)).toNat)) 696 (((4 * ((upS (upS (upS S34 682 22 ((S34 682 22) - 1)) 682 17 ((upS S34 682 22 ((S34 682 22) - 1)) 696 ((4 * ((upS S34 682 22 ((S34 682 22) - 1)) 682 22))).toNat)) 682 18 ((upS (upS S34 682 22 ((S34 682 22) - 1)) 682 17 ((upS S34 682 22 ((S34 682 22) - 1)) 696 ((4 * ((upS S34 682 22 ((S34 682 22) - 1)) 682 22))).toNat)) 696 (((4 * ((upS (upS S34 682 22 ((S34 682 22) - 1)) 682 17 ((upS S34 682 22 ((S34 682 22) - 1)) 696 ((4 * ((upS S34 682 22 ((S34 682 22) - 1)) 682 22))).toNat)) 682 22)) + 1)).toNat)) 682 22)) + 2)).toNat)) 682 22)) ∧ (4 * ((upS (upS (upS (upS S34 682 22 ((S34 682 22) - 1)) 682 17 ((upS S34 682 22 ((S34 682 22) - 1)) 696 ((4 * ((upS S34 682 22 ((S34 682 22) - 1)) 682 22))).toNat)) 682 18 ((upS (upS S34 682 22 ((S34 682 22) - 1)) 682 17 ((upS S34 682 22 ((S34 682 22) - 1)) 696 ((4 * ((upS S34 682 22 ((S34 682 22) - 1)) 682 22))).toNat)) 696 (((4 * ((upS (upS S34 682 22 ((S34 682 22) - 1)) 682 17 ((upS S34 682 22 ((S34 682 22) - 1)) 696 ((4 * ((upS S34 682 22 ((S34 682 22) - 1)) 682 22))).toNat)) 682 22)) + 1)).toNat)) 682 19 ((upS (upS (upS S34 682 22 ((S34 682 22) - 1)) 682 17 ((upS S34 682 22 ((S34 682 22) - 1)) 696 ((4 * ((upS S34 682 22 ((S34 682 22) - 1)) 682 22))).toNat)) 682 18 ((upS (upS S34 682 22 ((S34 682 22) - 1)) 682 17 ((upS S34 682 22 ((S34 682 22) - 1)) 696 ((4 * ((upS S34 682 22 ((S34 682 22) - 1)) 682 22))).toNat)) 696 (((4 * ((upS (upS S34 682 22 ((S34 682 22) - 1)) 682 17 ((upS S34 682 22 ((S34 682 22) - 1)) 696 ((4 * ((upS S34 682 22 ((S34 682 22) - 1)) 682 22))).toNat)) 682 22)) + 1)).toNat)) 696 (((4 * ((upS (upS (upS S34 682 22 ((S34 682 22) - 1)) 682 17 ((upS S34 682 22 ((S34 682 22) - 1)) 696 ((4 * ((upS S34 682 22 ((S34 682 22) - 1)) 682 22))).toNat)) 682 18 ((upS (upS S34 682 22 ((S34 682 22) - 1)) 682 17 ((upS S34 682 22 ((S34 682 22) - 1)) 696 ((4 * ((upS S34 682 22 ((S34 682 22) - 1)) 682 22))).toNat)) 696 (((4 * ((upS (upS S34 682 22 ((S34 682 22) - 1)) 682 17 ((upS S34 682 22 ((S34 682 22) - 1)) 696 ((4 * ((upS S34 682 22 ((S34 682 22) - 1)) 682 22))).toNat)) 682 22)) + 1)).toNat)) 682 22)) + 2)).toNat)) 682 22)) ≤ 2147483647 by first | omega | (simp [upS, hz, za1, z1a1, ca1, za2, z1a2, ca2, E900, E34]; done) | (simp [upS, hz, za1, z1a1, ca1, za2, z1a2, ca2, E900, E34]; omega)), ?_⟩
      refine ⟨(show -2147483648 ≤ ((4 * ((upS (upS (upS (upS S34 682 22 ((S34 682 22) - 1)) 682 17 ((upS S34 682 22 ((S34 682 22) - 1)) 696 ((4 * ((upS S34 682 22 ((S34 682 22) - 1)) 682 22))).toNat)) 682 18 ((upS (upS S34 682 22 ((S34 682 22) - 1)) 682 17 ((upS S34 682 22 ((S34 682 22) - 1)) 696 ((4 * ((upS S34 682 22 ((S34 682 22) - 1)) 682 22))).toNat)) 696 (((4 * ((upS (upS S34 682 22 ((S34 682 22) - 1)) 682 17 ((upS S34 682 22 ((S34 682 22) - 1)) 696 ((4 * ((upS S34 682 22 ((S34 682 22) - 1)) 682 22))).toNat)) 682 22)) + 1)).toNat)) 682 19 ((upS (upS (upS S34 682 22 ((S34 682 22) - 1)) 682 17 ((upS S34 682 22 ((S34 682 22) - 1)) 696 ((4 * ((upS S34 682 22 ((S34 682 22) - 1)) 682 22))).toNat)) 682 18 ((upS (upS S34 682 22 ((S34 682 22) - 1)) 682 17 ((upS S34 682 22 ((S34 682 22) - 1)) 696 ((4 * ((upS S34 682 22 ((S34 682 22) - 1)) 682 22))).toNat)) 696 (((4 * ((upS (upS S34 682 22 ((S34 682 22) - 1)) 682 17 ((upS S34 682 22 ((S34 682 22) - 1)) 696 ((4 * ((upS S34 682 22 ((S34 682 22) - 1)) 682 22))).toNat)) 682 22)) + 1)).toNat)) 696 (((4 * ((upS (upS (upS S34 682 22 ((S34 682 22) - 1)) 682 17 ((upS S34 682 22 ((S34 682 22) - 1)) 696 ((4 * ((upS S34 682 22 ((S34 682 22) - 1)) 682 22))).toNat)) 682 18 ((upS (upS S34 682 22 ((S34 682 22) - 1)) 682 17 ((upS S34 682 22 ((S34 682 22) - 1)) 696 ((4 * ((upS S34 682 22 ((S34 682 22) - 1)) 682 22))).toNat)) 696 (((4 * ((upS (upS S34 682 22 ((S34 682 22) - 1)) 682 17 ((upS S34 682 22 ((S34 682 22) - 1)) 696 ((4 * ((upS S34 682 22 ((S34 682 22) - 1)) 682 22))).toNat)) 682 22)) + 1)).toNat)) 682 22)) + 2)).toNat)) 682 22)) + 3) ∧ ((4 * ((upS (upS (upS (upS S34 682 22 ((S34 682 22) - 1)) 682 17 ((upS S34 682 22 ((S34 682 22) - 1)) 696 ((4 * ((upS S34 682 22 ((S34 682 22) - 1)) 682 22))).toNat)) 682 18 ((upS (upS S34 682 22 ((S34 682 22) - 1)) 682 17 ((upS S34 682 22 ((S34 682 22) - 1)) 696 ((4 * ((upS S34 682 22 ((S34 682 22) - 1)) 682 22))).toNat)) 696 (((4 * ((upS (upS S34 682 22 ((S34 682 22) - 1)) 682 17 ((upS S34 682 22 ((S34 682 22) - 1)) 696 ((4 * ((upS S34 682 22 ((S34 682 22) - 1)) 682 22))).toNat)) 682 22)) + 1)).toNat)) 682 19 ((upS (upS (upS S34 682 22 ((S34 682 22) - 1)) 682 17 ((upS S34 682 22 ((S34 682 22) - 1)) 696 ((4 * ((upS S34 682 22 ((S34 682 22) - 1)) 682 22))).toNat)) 682 18 ((upS (upS S34 682 22 ((S34 682 22) - 1)) 682 17 ((upS S34 682 22 ((S34 682 22) - 1)) 696 ((4 * ((upS S34 682 22 ((S34 682 22) - 1)) 682 22))).toNat)) 696 (((4 * ((upS (upS S34 682 22 ((S34 682 22) - 1)) 682 17 ((upS S34 682 22 ((S34 682 22) - 1)) 696 ((4 * ((upS S34 682 22 ((S34 682 22) - 1)) 682 22))).toNat)) 682 22)) + 1)).toNat)) 696 (((4 * ((upS (upS (upS S34 682 22 ((S34 682 22) - 1)) 682 17 ((upS S34 682 22 ((S34 682 22) - 1)) 696 ((4 * ((upS S34 682 22 ((S34 682 22) - 1)) 682 22))).toNat)) 682 18 ((upS (upS S34 682 22 ((S34 682 22) - 1)) 682 17 ((upS S34 682 22 ((S34 682 22) - 1)) 696 ((4 * ((upS S34 682 22 ((S34 682 22) - 1)) 682 22))).toNat)) 696 (((4 * ((upS (upS S34 682 22 ((S34 682 22) - 1)) 682 17 ((upS S34 682 22 ((S34 682 22) - 1)) 696 ((4 * ((upS S34 682 22 ((S34 682 22) - 1)) 682 22))).toNat)) 682 22)) + 1)).toNat)) 682 22)) + 2)).toNat)) 682 22)) + 3) ≤ 2147483647 by first | omega | (simp [upS, hz, za1, z1a1, ca1, za2, z1a2, ca2, E900, E34]; done) | (simp [upS, hz, za1, z1a1, ca1, za2, z1a2, ca2, E900, E34]; omega)), ?_⟩
      refine ⟨(show 0 ≤ ((4 * ((upS (upS (upS (upS S34 682 22 ((S34 682 22) - 1)) 682 17 ((upS S34 682 22 ((S34 682 22) - 1)) 696 ((4 * ((upS S34 682 22 ((S34 682 22) - 1)) 682 22))).toNat)) 682 18 ((upS (upS S34 682 22 ((S34 682 22) - 1)) 682 17 ((upS S34 682 22 ((S34 682 22) - 1)) 696 ((4 * ((upS S34 682 22 ((S34 682 22) - 1)) 682 22))).toNat)) 696 (((4 * ((upS (upS S34 682 22 ((S34 682 22) - 1)) 682 17 ((upS S34 682 22 ((S34 682 22) - 1)) 696 ((4 * ((upS S34 682 22 ((S34 682 22) - 1)) 682 22))).toNat)) 682 22)) + 1)).toNat)) 682 19 ((upS (upS (upS S34 682 22 ((S34 682 22) - 1)) 682 17 ((upS S34 682 22 ((S34 682 22) - 1)) 696 ((4 * ((upS S34 682 22 ((S34 682 22) - 1)) 682 22))).toNat)) 682 18 ((upS (upS S34 682 22 ((S34 682 22) - 1)) 682 17 ((upS S34 682 22 ((S34 682 22) - 1)) 696 ((4 * ((upS S34 682 22 ((S34 682 22) - 1)) 682 22))).toNat)) 696 (((4 * ((upS (upS S34 682 22 ((S34 682 22) - 1)) 682 17 ((upS S34 682 22 ((S34 682 22) - 1)) 696 ((4 * ((upS S34 682 22 ((S34 682 22) - 1)) 682 22))).toNat)) 682 22)) + 1)).toNat)) 696 (((4 * ((upS (upS (upS S34 682 22 ((S34 682 22) - 1)) 682 17 ((upS S34 682 22 ((S34 682 22) - 1)) 696 ((4 * ((upS S34 682 22 ((S34 682 22) - 1)) 682 22))).toNat)) 682 18 ((upS (upS S34 682 22 ((S34 682 22) - 1)) 682 17 ((upS S34 682 22 ((S34 682 22) - 1)) 696 ((4 * ((upS S34 682 22 ((S34 682 22) - 1)) 682 22))).toNat)) 696 (((4 * ((upS (upS S34 682 22 ((S34 682 22) - 1)) 682 17 ((upS S34 682 22 ((S34 682 22) - 1)) 696 ((4 * ((upS S34 682 22 ((S34 682 22) - 1)) 682 22))).toNat)) 682 22)) + 1)).toNat)) 682 22)) + 2)).toNat)) 682 22)) + 3) ∧ ((4 * ((upS (upS (upS (upS S34 682 22 ((S34 682 22) - 1)) 682 17 ((upS S34 682 22 ((S34 682 22) - 1)) 696 ((4 * ((upS S34 682 22 ((S34 682 22) - 1)) 682 22))).toNat)) 682 18 ((upS (upS S34 682 22 ((S34 682 22) - 1)) 682 17 ((upS S34 682 22 ((S34 682 22) - 1)) 696 ((4 * ((upS S34 682 22 ((S34 682 22) - 1)) 682 22))).toNat)) 696 (((4 * ((upS (upS S34 682 22 ((S34 682 22) - 1)) 682 17 ((upS S34 682 22 ((S34 682 22) - 1)) 696 ((4 * ((upS S34 682 22 ((S34 682 22) - 1)) 682 22))).toNat)) 682 22)) + 1)).toNat)) 682 19 ((upS (upS (upS S34 682 22 ((S34 682 22) - 1)) 682 17 ((upS S34 682 22 ((S34 682 22) - 1)) 696 ((4 * ((upS S34 682 22 ((S34 682 22) - 1)) 682 22))).toNat)) 682 18 ((upS (upS S34 682 22 ((S34 682 22) - 1)) 682 17 ((upS S34 682 22 ((S34 682 22) - 1)) 696 ((4 * ((upS S34 682 22 ((S34 682 22) - 1)) 682 22))).toNat)) 696 (((4 * ((upS (upS S34 682 22 ((S34 682 22) - 1)) 682 17 ((upS S34 682 22 ((S34 682 22) - 1)) 696 ((4 * ((upS S34 682 22 ((S34 682 22) - 1)) 682 22))).toNat)) 682 22)) + 1)).toNat)) 696 (((4 * ((upS (upS (upS S34 682 22 ((S34 682 22) - 1)) 682 17 ((upS S34 682 22 ((S34 682 22) - 1)) 696 ((4 * ((upS S34 682 22 ((S34 682 22) - 1)) 682 22))).toNat)) 682 18 ((upS (upS S34 682 22 ((S34 682 22) - 1)) 682 17 ((upS S34 682 22 ((S34 682 22) - 1)) 696 ((4 * ((upS S34 682 22 ((S34 682 22) - 1)) 682 22))).toNat)) 696 (((4 * ((upS (upS S34 682 22 ((S34 682 22) - 1)) 682 17 ((upS S34 682 22 ((S34 682 22) - 1)) 696 ((4 * ((upS S34 682 22 ((S34 682 22) - 1)) 682 22))).toNat)) 682 22)) + 1)).toNat)) 682 22)) + 2)).toNat)) 682 22)) + 3) < 512 by first | omega | (simp [upS, hz, za1, z1a1, ca1, za2, z1a2, ca2, E900, E34]; done) | (simp [upS, hz, za1, z1a1, ca1, za2, z1a2, ca2, E900, E34]; omega)), ?_⟩
      rw [if_neg (show ¬ (a3 = 0) by first | omega | (simp [upS, hz, za1, z1a1, ca1, za2, z1a2, ca2, E900, E34]; done) | (simp [upS, hz, za1, z1a1, ca1, za2, z1a2, ca2, E900, E34]; omega))]
      rw [(show (upS (upS (upS (upS (upS S34 682 22 ((S34 682 22) - 1)) 682 17 ((upS S34 682 22 ((S34 682 22) - 1)) 696 ((4 * ((upS S34 682 22 ((S34 682 22) - 1)) 682 22))).toNat)) 682 18 ((upS (upS S34 682 22 ((S34 682 22) - 1)) 682 17 ((upS S34 682 22 ((S34 682 22) - 1)) 696 ((4 * ((upS S34 682 22 ((S34 682 22) - 1)) 682 22))).toNat)) 696 (((4 * ((upS (upS S34 682 22 ((S34 682 22) - 1)) 682 17 ((upS S34 682 22 ((S34 682 22) - 1)) 696 ((4 * ((upS S34 682 22 ((S34 682 22) - 1)) 682 22))).toNat)) 682 22)) + 1)).toNat)) 682 19 ((upS (upS (upS S34 682 22 ((S34 682 22) - 1)) 682 17 ((upS S34 682 22 ((S34 682 22) - 1)) 696 ((4 * ((upS S34 682 22 ((S34 682 22) - 1)) 682 22))).toNat)) 682 18 ((upS (upS S34 682 22 ((S34 682 22) - 1)) 682 17 ((upS S34 682 22 ((S34 682 22) - 1)) 696 ((4 * ((upS S34 682 22 ((S34 682 22) - 1)) 682 22))).toNat)) 696 (((4 * ((upS (upS S34 682 22 ((S34 682 22) - 1)) 682 17 ((upS S34 682 22 ((S34 682 22) - 1)) 696 ((4 * ((upS S34 682 22 ((S34 682 22) - 1)) 682 22))).toNat)) 682 22)) + 1)).toNat)) 696 (((4 * ((upS (upS (upS S34 682 22 ((S34 682 22) - 1)) 682 17 ((upS S34 682 22 ((S34 682 22) - 1)) 696 ((4 * ((upS S34 682 22 ((S34 682 22) - 1)) 682 22))).toNat)) 682 18 ((upS (upS S34 682 22 ((S34 682 22) - 1)) 682 17 ((upS S34 682 22 ((S34 682 22) - 1)) 696 ((4 * ((upS S34 682 22 ((S34 682 22) - 1)) 682 22))).toNat)) 696 (((4 * ((upS (upS S34 682 22 ((S34 682 22) - 1)) 682 17 ((upS S34 682 22 ((S34 682 22) - 1)) 696 ((4 * ((upS S34 682 22 ((S34 682 22) - 1)) 682 22))).toNat)) 682 22)) + 1)).toNat)) 682 22)) + 2)).toNat)) 682 20 ((upS (upS (upS (upS S34 682 22 ((S34 682 22) - 1)) 682 17 ((upS S34 682 22 ((S34 682 22) - 1)) 696 ((4 * ((upS S34 682 22 ((S34 682 22) - 1)) 682 22))).toNat)) 682 18 ((upS (upS S34 682 22 ((S34 682 22) - 1)) 682 17 ((upS S34 682 22 ((S34 682 22) - 1)) 696 ((4 * ((upS S34 682 22 ((S34 682 22) - 1)) 682 22))).toNat)) 696 (((4 * ((upS (upS S34 682 22 ((S34 682 22) - 1)) 682 17 ((upS S34 682 22 ((S34 682 22) - 1)) 696 ((4 * ((upS S34 682 22 ((S34 682 22) - 1)) 682 22))).toNat)) 682 22)) + 1)).toNat)) 682 19 ((upS (upS (upS S34 682 22 ((S34 682 22) - 1)) 682 17 ((upS S34 682 22 ((S34 682 22) - 1)) 696 ((4 * ((upS S34 682 22 ((S34 682 22) - 1)) 682 22))).toNat)) 682 18 ((upS (upS S34 682 22 ((S34 682 22) - 1)) 682 17 ((upS S34 682 22 ((S34 682 22) - 1)) 696 ((4 * ((upS S34 682 22 ((S34 682 22) - 1)) 682 22))).toNat)) 696 (((4 * ((upS (upS S34 682 22 ((S34 682 22) - 1)) 682 17 ((upS S34 682 22 ((S34 682 22) - 1)) 696 ((4 * ((upS S34 682 22 ((S34 682 22) - 1)) 682 22))).toNat)) 682 22)) + 1)).toNat)) 696 (((4 * ((upS (upS (upS S34 682 22 ((S34 682 22) - 1)) 682 17 ((upS S34 682 22 ((S34 682 22) - 1)) 696 ((4 * ((upS S34 682 22 ((S34 682 22) - 1)) 682 22))).toNat)) 682 18 ((upS (upS S34 682 22 ((S34 682 22) - 1)) 682 17 ((upS S34 682 22 ((S34 682 22) - 1)) 696 ((4 * ((upS S34 682 22 ((S34 682 22) - 1)) 682 22))).toNat)) 696 (((4 * ((upS (upS S34 682 22 ((S34 682 22) - 1)) 682 17 ((upS S34 682 22 ((S34 682 22) - 1)) 696 ((4 * ((upS S34 682 22 ((S34 682 22) - 1)) 682 22))).toNat)) 682 22)) + 1)).toNat)) 682 22)) + 2)).toNat)) 696 (((4 * ((upS (upS (upS (upS S34 682 22 ((S34 682 22) - 1)) 682 17 ((upS S34 682 22 ((S34 682 22) - 1)) 696 ((4 * ((upS S34 682 22 ((S34 682 22) - 1)) 682 22))).toNat)) 682 18 ((upS (upS S34 682 22 ((S34 682 22) - 1)) 682 17 ((upS S34 682 22 ((S34 682 22) - 1)) 696 ((4 * ((upS S34 682 22 ((S34 682 22) - 1)) 682 22))).toNat)) 696 (((4 * ((upS (upS S34 682 22 ((S34 682 22) - 1)) 682 17 ((upS S34 682 22 ((S34 682 22) - 1)) 696 ((4 * ((upS S34 682 22 ((S34 682 22) - 1)) 682 22))).toNat)) 682 22)) + 1)).toNat)) 682 19 ((upS (upS (upS S34 682 22 ((S34 682 22) - 1)) 682 17 ((upS S34 682 22 ((S34 682 22) - 1)) 696 ((4 * ((upS S34 682 22 ((S34 682 22) - 1)) 682 22))).toNat)) 682 18 ((upS (upS S34 682 22 ((S34 682 22) - 1)) 682 17 ((upS S34 682 22 ((S34 682 22) - 1)) 696 ((4 * ((upS S34 682 22 ((S34 682 22) - 1)) 682 22))).toNat)) 696 (((4 * ((upS (upS S34 682 22 ((S34 682 22) - 1)) 682 17 ((upS S34 682 22 ((S34 682 22) - 1)) 696 ((4 * ((upS S34 682 22 ((S34 682 22) - 1)) 682 22))).toNat)) 682 22)) + 1)).toNat)) 696 (((4 * ((upS (upS (upS S34 682 22 ((S34 682 22) - 1)) 682 17 ((upS S34 682 22 ((S34 682 22) - 1)) 696 ((4 * ((upS S34 682 22 ((S34 682 22) - 1)) 682 22))).toNat)) 682 18 ((upS (upS S34 682 22 ((S34 682 22) - 1)) 682 17 ((upS S34 682 22 ((S34 682 22) - 1)) 696 ((4 * ((upS S34 682 22 ((S34 682 22) - 1)) 682 22))).toNat)) 696 (((4 * ((upS (upS S34 682 22 ((S34 682 22) - 1)) 682 17 ((upS S34 682 22 ((S34 682 22) - 1)) 696 ((4 * ((upS S34 682 22 ((S34 682 22) - 1)) 682 22))).toNat)) 682 22)) + 1)).toNat)) 682 22)) + 2)).toNat)) 682 22)) + 3)).toNat)) = (upS (upS (upS (upS (upS S34 682 22 0) 682 17 0) 682 18 0) 682 19 0) 682 20 0) from by rw [show ((upS (upS (upS (upS S34 682 22 ((S34 682 22) - 1)) 682 17 ((upS S34 682 22 ((S34 682 22) - 1)) 696 ((4 * ((upS S34 682 22 ((S34 682 22) - 1)) 682 22))).toNat)) 682 18 ((upS (upS S34 682 22 ((S34 682 22) - 1)) 682 17 ((upS S34 682 22 ((S34 682 22) - 1)) 696 ((4 * ((upS S34 682 22 ((S34 682 22) - 1)) 682 22))).toNat)) 696 (((4 * ((upS (upS S34 682 22 ((S34 682 22) - 1)) 682 17 ((upS S34 682 22 ((S34 682 22) - 1)) 696 ((4 * ((upS S34 682 22 ((S34 682 22) - 1)) 682 22))).toNat)) 682 22)) + 1)).toNat)) 682 19 ((upS (upS (upS S34 682 22 ((S34 682 22) - 1)) 682 17 ((upS S34 682 22 ((S34 682 22) - 1)) 696 ((4 * ((upS S34 682 22 ((S34 682 22) - 1)) 682 22))).toNat)) 682 18 ((upS (upS S34 682 22 ((S34 682 22) - 1)) 682 17 ((upS S34 682 22 ((S34 682 22) - 1)) 696 ((4 * ((upS S34 682 22 ((S34 682 22) - 1)) 682 22))).toNat)) 696 (((4 * ((upS (upS S34 682 22 ((S34 682 22) - 1)) 682 17 ((upS S34 682 22 ((S34 682 22) - 1)) 696 ((4 * ((upS S34 682 22 ((S34 682 22) - 1)) 682 22))).toNat)) 682 22)) + 1)).toNat)) 696 (((4 * ((upS (upS (upS S34 682 22 ((S34 682 22) - 1)) 682 17 ((upS S34 682 22 ((S34 682 22) - 1)) 696 ((4 * ((upS S34 682 22 ((S34 682 22) - 1)) 682 22))).toNat)) 682 18 ((upS (upS S34 682 22 ((S34 682 22) - 1)) 682 17 ((upS S34 682 22 ((S34 682 22) - 1)) 696 ((4 * ((upS S34 682 22 ((S34 682 22) - 1)) 682 22))).toNat)) 696 (((4 * ((upS (upS S34 682 22 ((S34 682 22) - 1)) 682 17 ((upS S34 682 22 ((S34 682 22) - 1)) 696 ((4 * ((upS S34 682 22 ((S34 682 22) - 1)) 682 22))).toNat)) 682 22)) + 1)).toNat)) 682 22)) + 2)).toNat)) 696 (((4 * ((upS (upS (upS (upS S34 682 22 ((S34 682 22) - 1)) 682 17 ((upS S34 682 22 ((S34 682 22) - 1)) 696 ((4 * ((upS S34 682 22 ((S34 682 22) - 1)) 682 22))).toNat)) 682 18 ((upS (upS S34 682 22 ((S34 682 22) - 1)) 682 17 ((upS S34 682 22 ((S34 682 22) - 1)) 696 ((4 * ((upS S34 682 22 ((S34 682 22) - 1)) 682 22))).toNat)) 696 (((4 * ((upS (upS S34 682 22 ((S34 682 22) - 1)) 682 17 ((upS S34 682 22 ((S34 682 22) - 1)) 696 ((4 * ((upS S34 682 22 ((S34 682 22) - 1)) 682 22))).toNat)) 682 22)) + 1)).toNat)) 682 19 ((upS (upS (upS S34 682 22 ((S34 682 22) - 1)) 682 17 ((upS S34 682 22 ((S34 682 22) - 1)) 696 ((4 * ((upS S34 682 22 ((S34 682 22) - 1)) 682 22))).toNat)) 682 18 ((upS (upS S34 682 22 ((S34 682 22) - 1)) 682 17 ((upS S34 682 22 ((S34 682 22) - 1)) 696 ((4 * ((upS S34 682 22 ((S34 682 22) - 1)) 682 22))).toNat)) 696 (((4 * ((upS (upS S34 682 22 ((S34 682 22) - 1)) 682 17 ((upS S34 682 22 ((S34 682 22) - 1)) 696 ((4 * ((upS S34 682 22 ((S34 682 22) - 1)) 682 22))).toNat)) 682 22)) + 1)).toNat)) 696 (((4 * ((upS (upS (upS S34 682 22 ((S34 682 22) - 1)) 682 17 ((upS S34 682 22 ((S34 682 22) - 1)) 696 ((4 * ((upS S34 682 22 ((S34 682 22) - 1)) 682 22))).toNat)) 682 18 ((upS (upS S34 682 22 ((S34 682 22) - 1)) 682 17 ((upS S34 682 22 ((S34 682 22) - 1)) 696 ((4 * ((upS S34 682 22 ((S34 682 22) - 1)) 682 22))).toNat)) 696 (((4 * ((upS (upS S34 682 22 ((S34 682 22) - 1)) 682 17 ((upS S34 682 22 ((S34 682 22) - 1)) 696 ((4 * ((upS S34 682 22 ((S34 682 22) - 1)) 682 22))).toNat)) 682 22)) + 1)).toNat)) 682 22)) + 2)).toNat)) 682 22)) + 3)).toNat) = 0 by (first | omega | (simp [upS, hz, za1, z1a1, ca1, za2, z1a2, ca2, E900, E34]; done) | (simp [upS, hz, za1, z1a1, ca1, za2, z1a2, ca2, E900, E34]; omega)), show ((upS (upS (upS S34 682 22 ((S34 682 22) - 1)) 682 17 ((upS S34 682 22 ((S34 682 22) - 1)) 696 ((4 * ((upS S34 682 22 ((S34 682 22) - 1)) 682 22))).toNat)) 682 18 ((upS (upS S34 682 22 ((S34 682 22) - 1)) 682 17 ((upS S34 682 22 ((S34 682 22) - 1)) 696 ((4 * ((upS S34 682 22 ((S34 682 22) - 1)) 682 22))).toNat)) 696 (((4 * ((upS (upS S34 682 22 ((S34 682 22) - 1)) 682 17 ((upS S34 682 22 ((S34 682 22) - 1)) 696 ((4 * ((upS S34 682 22 ((S34 682 22) - 1)) 682 22))).toNat)) 682 22)) + 1)).toNat)) 696 (((4 * ((upS (upS (upS S34 682 22 ((S34 682 22) - 1)) 682 17 ((upS S34 682 22 ((S34 682 22) - 1)) 696 ((4 * ((upS S34 682 22 ((S34 682 22) - 1)) 682 22))).toNat)) 682 18 ((upS (upS S34 682 22 ((S34 682 22) - 1)) 682 17 ((upS S34 682 22 ((S34 682 22) - 1)) 696 ((4 * ((upS S34 682 22 ((S34 682 22) - 1)) 682 22))).toNat)) 696 (((4 * ((upS (upS S34 682 22 ((S34 682 22) - 1)) 682 17 ((upS S34 682 22 ((S34 682 22) - 1)) 696 ((4 * ((upS S34 682 22 ((S34 682 22) - 1)) 682 22))).toNat)) 682 22)) + 1)).toNat)) 682 22)) + 2)).toNat) = 0 by (first | omega | (simp [upS, hz, za1, z1a1, ca1, za2, z1a2, ca2, E900, E34]; done) | (simp [upS, hz, za1, z1a1, ca1, za2, z1a2, ca2, E900, E34]; omega)), show ((upS (upS S34 682 22 ((S34 682 22) - 1)) 682 17 ((upS S34 682 22 ((S34 682 22) - 1)) 696 ((4 * ((upS S34 682 22 ((S34 682 22) - 1)) 682 22))).toNat)) 696 (((4 * ((upS (upS S34 682 22 ((S34 682 22) - 1)) 682 17 ((upS S34 682 22 ((S34 682 22) - 1)) 696 ((4 * ((upS S34 682 22 ((S34 682 22) - 1)) 682 22))).toNat)) 682 22)) + 1)).toNat) = 0 by (first | omega | (simp [upS, hz, za1, z1a1, ca1, za2, z1a2, ca2, E900, E34]; done) | (simp [upS, hz, za1, z1a1, ca1, za2, z1a2, ca2, E900, E34]; omega)), show ((upS S34 682 22 ((S34 682 22) - 1)) 696 ((4 * ((upS S34 682 22 ((S34 682 22) - 1)) 682 22))).toNat) = 0 by (first | omega | (simp [upS, hz, za1, z1a1, ca1, za2, z1a2, ca2, E900, E34]; done) | (simp [upS, hz, za1, z1a1, ca1, za2, z1a2, ca2, E900, E34]; omega)), show ((S34 682 22) - 1) = 0 by (first | omega | (simp [upS, hz, za1, z1a1, ca1, za2, z1a2, ca2, E900, E34]; done) | (simp [upS, hz, za1, z1a1, ca1, za2, z1a2, ca2, E900, E34]; omega))])]
      have hD35 : Dd 268 [(.inr (.inr (some 682)))] (upS (upS (upS (upS (upS S34 682 22 0) 682 17 0) 682 18 0) 682 19 0) 682 20 0) (.inl none, (upS (upS (upS (upS (upS S34 682 22 0) 682 17 0) 682 18 0) 682 19 0) 682 20 0)) := by
        refine b268 ?_
        refine b268_0 ?_
        rw [if_neg (show ¬ (((upS (upS (upS (upS (upS S34 682 22 0) 682 17 0) 682 18 0) 682 19 0) 682 20 0) 682 17) < ((upS (upS (upS (upS (upS S34 682 22 0) 682 17 0) 682 18 0) 682 19 0) 682 20 0) 682 18)) by first | omega | (simp [upS, hz, za1, z1a1, ca1, za2, z1a2, ca2, E900, E34]; done) | (simp [upS, hz, za1, z1a1, ca1, za2, z1a2, ca2, E900, E34]; omega))]
        refine b268_79 ?_
        rw [if_neg (show ¬ (((upS (upS (upS (upS (upS S34 682 22 0) 682 17 0) 682 18 0) 682 19 0) 682 20 0) 682 17) < ((upS (upS (upS (upS (upS S34 682 22 0) 682 17 0) 682 18 0) 682 19 0) 682 20 0) 682 18)) by first | omega | (simp [upS, hz, za1, z1a1, ca1, za2, z1a2, ca2, E900, E34]; done) | (simp [upS, hz, za1, z1a1, ca1, za2, z1a2, ca2, E900, E34]; omega))]
        all_goals rfl
      refine ⟨_, hD35, ?_⟩
      clear hD35
      rw [if_pos (show a3 = 1 by first | omega | (simp [upS, hz, za1, z1a1, ca1, za2, z1a2, ca2, E900, E34]; done) | (simp [upS, hz, za1, z1a1, ca1, za2, z1a2, ca2, E900, E34]; omega))]
      have hD41 : Dd 272 [(.inr (.inr (some 682)))] (upS (upS (upS (upS (upS S34 682 22 0) 682 17 0) 682 18 0) 682 19 0) 682 20 0) (.inl none, (upS (upS (upS (upS (upS (upS S34 682 22 0) 682 17 0) 682 18 0) 682 19 0) 682 20 0) 694 0 0)) := by
        refine b272 ?_
        rw [show ((upS (upS (upS (upS (upS S34 682 22 0) 682 17 0) 682 18 0) 682 19 0) 682 20 0) 682 17) = 0 by (first | omega | (simp [upS, hz, za1, z1a1, ca1, za2, z1a2, ca2, E900, E34]; done) | (simp [upS, hz, za1, z1a1, ca1, za2, z1a2, ca2, E900, E34]; omega))]
        refine b272_7 ?_
        rw [if_neg (show ¬ ((0 : Int) < ((upS (upS (upS (upS (upS S34 682 22 0) 682 17 0) 682 18 0) 682 19 0) 682 20 0) 682 18)) by first | omega | (simp [upS, hz, za1, z1a1, ca1, za2, z1a2, ca2, E900, E34]; done) | (simp [upS, hz, za1, z1a1, ca1, za2, z1a2, ca2, E900, E34]; omega))]
        rw [if_pos (show (0 : Int) = 0 by first | omega | (simp [upS, hz, za1, z1a1, ca1, za2, z1a2, ca2, E900, E34]; done) | (simp [upS, hz, za1, z1a1, ca1, za2, z1a2, ca2, E900, E34]; omega))]
        have hD39 : Dd 266 [(.inr (.inr (some 682)))] (upS (upS (upS (upS (upS S34 682 22 0) 682 17 0) 682 18 0) 682 19 0) 682 20 0) (.inl none, (upS (upS (upS (upS (upS (upS S34 682 22 0) 682 17 0) 682 18 0) 682 19 0) 682 20 0) 694 0 0)) := by
          refine b266 ?_
          rw [show ((upS (upS (upS (upS (upS S34 682 22 0) 682 17 0) 682 18 0) 682 19 0) 682 20 0) 682 17) = 0 by (first | omega | (simp [upS, hz, za1, z1a1, ca1, za2, z1a2, ca2, E900, E34]; done) | (simp [upS, hz, za1, z1a1, ca1, za2, z1a2, ca2, E900, E34]; omega))]
          rw [show ((upS (upS (upS (upS (upS S34 682 22 0) 682 17 0) 682 18 0) 682 19 0) 682 20 0) 682 18) = 0 by (first | omega | (simp [upS, hz, za1, z1a1, ca1, za2, z1a2, ca2, E900, E34]; done) | (simp [upS, hz, za1, z1a1, ca1, za2, z1a2, ca2, E900, E34]; omega))]
          rw [show ((upS (upS (upS (upS (upS S34 682 22 0) 682 17 0) 682 18 0) 682 19 0) 682 20 0) 682 19) = 0 by (first | omega | (simp [upS, hz, za1, z1a1, ca1, za2, z1a2, ca2, E900, E34]; done) | (simp [upS, hz, za1, z1a1, ca1, za2, z1a2, ca2, E900, E34]; omega))]
          rw [show ((upS (upS (upS (upS (upS S34 682 22 0) 682 17 0) 682 18 0) 682 19 0) 682 20 0) 682 20) = 0 by (first | omega | (simp [upS, hz, za1, z1a1, ca1, za2, z1a2, ca2, E900, E34]; done) | (simp [upS, hz, za1, z1a1, ca1, za2, z1a2, ca2, E900, E34]; omega))]
          have hD37 : Dd 265 [(.inr (.inr (some 682))), (.inl 0), (.inl 0), (.inl 0), (.inl 0)] (upS (upS (upS (upS (upS S34 682 22 0) 682 17 0) 682 18 0) 682 19 0) 682 20 0) (.inl none, (upS (upS (upS (upS (upS (upS S34 682 22 0) 682 17 0) 682 18 0) 682 19 0) 682 20 0) 694 0 0)) := by
            refine b265 ?_
            refine b265_3 ?_
            rw [if_pos (show (0 : Int) ≤ 0 by first | omega | (simp [upS, hz, za1, z1a1, ca1, za2, z1a2, ca2, E900, E34]; done) | (simp [upS, hz, za1, z1a1, ca1, za2, z1a2, ca2, E900, E34]; omega))]
            refine b265_13 ?_
            rw [if_pos (show (0 : Int) ≤ 0 by first | omega | (simp [upS, hz, za1, z1a1, ca1, za2, z1a2, ca2, E900, E34]; done) | (simp [upS, hz, za1, z1a1, ca1, za2, z1a2, ca2, E900, E34]; omega))]
            rw [if_neg (show ¬ ((0 : Int) < 0) by first | omega | (simp [upS, hz, za1, z1a1, ca1, za2, z1a2, ca2, E900, E34]; done) | (simp [upS, hz, za1, z1a1, ca1, za2, z1a2, ca2, E900, E34]; omega))]
            refine b265_124 ?_
            refine ⟨(show (-2147483648 : Int) ≤ (65 * 0) ∧ ((65 * 0) : Int) ≤ 2147483647 by first | omega | (simp [upS, hz, za1, z1a1, ca1, za2, z1a2, ca2, E900, E34]; done) | (simp [upS, hz, za1, z1a1, ca1, za2, z1a2, ca2, E900, E34]; omega)), ?_⟩
            refine ⟨(show (-2147483648 : Int) ≤ ((65 * 0) + 0) ∧ (((65 * 0) + 0) : Int) ≤ 2147483647 by first | omega | (simp [upS, hz, za1, z1a1, ca1, za2, z1a2, ca2, E900, E34]; done) | (simp [upS, hz, za1, z1a1, ca1, za2, z1a2, ca2, E900, E34]; omega)), ?_⟩
            refine ⟨(show (0 : Int) ≤ ((65 * 0) + 0) ∧ (((65 * 0) + 0) : Int) < 4225 by first | omega | (simp [upS, hz, za1, z1a1, ca1, za2, z1a2, ca2, E900, E34]; done) | (simp [upS, hz, za1, z1a1, ca1, za2, z1a2, ca2, E900, E34]; omega)), ?_⟩
            refine ⟨(show (-2147483648 : Int) ≤ (0 + (-1)) ∧ ((0 + (-1)) : Int) ≤ 2147483647 by first | omega | (simp [upS, hz, za1, z1a1, ca1, za2, z1a2, ca2, E900, E34]; done) | (simp [upS, hz, za1, z1a1, ca1, za2, z1a2, ca2, E900, E34]; omega)), ?_⟩
            rw [(show (upS (upS (upS (upS (upS (upS S34 682 22 0) 682 17 0) 682 18 0) 682 19 0) 682 20 0) 694 ((((65 * 0) + 0) : Int).toNat) 0) = (upS (upS (upS (upS (upS (upS S34 682 22 0) 682 17 0) 682 18 0) 682 19 0) 682 20 0) 694 0 0) from by rw [show ((((65 * 0) + 0) : Int).toNat) = 0 by (first | omega | (simp [upS, hz, za1, z1a1, ca1, za2, z1a2, ca2, E900, E34]; done) | (simp [upS, hz, za1, z1a1, ca1, za2, z1a2, ca2, E900, E34]; omega))])]
            obtain ⟨S36, E36⟩ : ∃ s : Sg, s = (upS (upS (upS (upS (upS (upS S34 682 22 0) 682 17 0) 682 18 0) 682 19 0) 682 20 0) 694 0 0) := ⟨_, rfl⟩
            rw [← E36]
            rw [show ((0 + (-1)) : Int) = (-1) by (first | omega | (simp [upS, hz, za1, z1a1, ca1, za2, z1a2, ca2, E900, E34, E36]; done) | (simp [upS, hz, za1, z1a1, ca1, za2, z1a2, ca2, E900, E34, E36]; omega))]
            refine b265_13 ?_
            rw [if_neg (show ¬ ((0 : Int) ≤ (-1)) by first | omega | (simp [upS, hz, za1, z1a1, ca1, za2, z1a2, ca2, E900, E34, E36]; done) | (simp [upS, hz, za1, z1a1, ca1, za2, z1a2, ca2, E900, E34, E36]; omega))]
            refine ⟨(show (-2147483648 : Int) ≤ (0 + (-1)) ∧ ((0 + (-1)) : Int) ≤ 2147483647 by first | omega | (simp [upS, hz, za1, z1a1, ca1, za2, z1a2, ca2, E900, E34, E36]; done) | (simp [upS, hz, za1, z1a1, ca1, za2, z1a2, ca2, E900, E34, E36]; omega)), ?_⟩
            rw [show ((0 + (-1)) : Int) = (-1) by (first | omega | (simp [upS, hz, za1, z1a1, ca1, za2, z1a2, ca2, E900, E34, E36]; done) | (simp [upS, hz, za1, z1a1, ca1, za2, z1a2, ca2, E900, E34, E36]; omega))]
            refine b265_3 ?_
            rw [if_neg (show ¬ ((0 : Int) ≤ (-1)) by first | omega | (simp [upS, hz, za1, z1a1, ca1, za2, z1a2, ca2, E900, E34, E36]; done) | (simp [upS, hz, za1, z1a1, ca1, za2, z1a2, ca2, E900, E34, E36]; omega))]
            all_goals (first | rfl | (simp only [E36]))
          obtain ⟨S38, E38⟩ : ∃ s : Sg, s = (upS (upS (upS (upS (upS (upS S34 682 22 0) 682 17 0) 682 18 0) 682 19 0) 682 20 0) 694 0 0) := ⟨_, rfl⟩
          rw [← E38] at hD37
          refine ⟨_, hD37, ?_⟩
          clear hD37
          rw [show (S38 682 17) = 0 by (first | omega | (simp [upS, hz, za1, z1a1, ca1, za2, z1a2, ca2, E900, E34, E38]; done) | (simp [upS, hz, za1, z1a1, ca1, za2, z1a2, ca2, E900, E34, E38]; omega))]
          rw [show (S38 682 19) = 0 by (first | omega | (simp [upS, hz, za1, z1a1, ca1, za2, z1a2, ca2, E900, E34, E38]; done) | (simp [upS, hz, za1, z1a1, ca1, za2, z1a2, ca2, E900, E34, E38]; omega))]
          refine b266_30 ?_
          rw [if_neg (show ¬ ((0 : Int) < (S38 682 18)) by first | omega | (simp [upS, hz, za1, z1a1, ca1, za2, z1a2, ca2, E900, E34, E38]; done) | (simp [upS, hz, za1, z1a1, ca1, za2, z1a2, ca2, E900, E34, E38]; omega))]
          all_goals (first | rfl | (simp only [E38]))
        obtain ⟨S40, E40⟩ : ∃ s : Sg, s = (upS (upS (upS (upS (upS (upS S34 682 22 0) 682 17 0) 682 18 0) 682 19 0) 682 20 0) 694 0 0) := ⟨_, rfl⟩
        rw [← E40] at hD39
        refine ⟨_, hD39, ?_⟩
        clear hD39
        all_goals (first | rfl | (simp only [E40]))
      obtain ⟨S42, E42⟩ : ∃ s : Sg, s = (upS (upS (upS (upS (upS (upS S34 682 22 0) 682 17 0) 682 18 0) 682 19 0) 682 20 0) 694 0 0) := ⟨_, rfl⟩
      rw [← E42] at hD41
      refine ⟨_, hD41, ?_⟩
      clear hD41
      refine b274_42 ?_
      rw [if_neg (show ¬ ((0 : Int) < (S42 682 22)) by first | omega | (simp [upS, hz, za1, z1a1, ca1, za2, z1a2, ca2, E900, E34, E42]; done) | (simp [upS, hz, za1, z1a1, ca1, za2, z1a2, ca2, E900, E34, E42]; omega))]
      refine b274_163 ?_
      rw [if_neg (show ¬ ((0 : Int) < (S42 682 12)) by first | omega | (simp [upS, hz, za1, z1a1, ca1, za2, z1a2, ca2, E900, E34, E42]; done) | (simp [upS, hz, za1, z1a1, ca1, za2, z1a2, ca2, E900, E34, E42]; omega))]
      all_goals (first | rfl | (simp only [E34, E42]))
    obtain ⟨S44, E44⟩ : ∃ s : Sg, s = (upS (upS (upS (upS (upS (upS (upS (upS (upS (upS (upS (upS (upS (upS (upS S900 682 0 0) 682 12 0) 682 13 0) 682 22 0) 696 0 0) 696 1 0) 696 2 0) 696 3 0) 682 22 1) 682 22 0) 682 17 0) 682 18 0) 682 19 0) 682 20 0) 694 0 0) := ⟨_, rfl⟩
    rw [← E44] at hD43
    refine ⟨_, _, hD43, ?_⟩
    clear hD43
    all_goals (first | rfl | (simp only [E44]))
  refine ⟨_, _, _, _, hA, hB, ?_, ?_, ?_, ?_, ?_⟩
  all_goals subst E900
  · (first | rfl | (simp [upS, SCR, hz, za1, z1a1, ca1, za2, z1a2, ca2]; done) | (simp [upS, SCR, hz, za1, z1a1, ca1, za2, z1a2, ca2]; omega))
  · first | (intro h9; omega) | (intro _; first | rfl | (simp [upS, SCR, hz, za1, z1a1, ca1, za2, z1a2, ca2]; done) | (simp [upS, SCR, hz, za1, z1a1, ca1, za2, z1a2, ca2]; omega))
  · intro i; first | rfl | (unfold upS SCR; (repeat' split) <;> first | rfl | omega)
  · first | rfl | (unfold upS SCR; (repeat' split) <;> first | rfl | omega)
  · first | rfl | (unfold upS SCR; (repeat' split) <;> first | rfl | omega)
theorem q7_8 {σ : Sg} {a1 : Int} {a2 : Int} {a3 : Int} (hz : ∀ a i, a < 1000 → σ a i = 0) (h0 : 0 ≤ a1 ∧ a1 < 4) (h1 : 0 ≤ a2 ∧ a2 < 4) (h2 : a3 = 2) : ∃ (kx b : Int) (s1 s2 : Sg), Dd 397 [(.inr (.inr (some 0))), (.inl a1), (.inl a2), (.inl a3), (.inr (.inr (some 726)))] σ (.inl (some (.inl kx)), s1) ∧ Dd 278 [(.inr (.inr (some 682))), (.inl a1), (.inl a2), (.inl a3)] s1 (.inl (some (.inl b)), s2) ∧ s2 682 0 = kx ∧ (kx = 0 → s2 726 0 = b) ∧ (∀ i, s1 SCR i = σ SCR i) ∧ s1 (SCR + 1) 0 = σ (SCR + 1) 0 ∧ s2 (SCR + 1) 0 = σ (SCR + 1) 0 := by
  have za1 : ∀ i, σ (2 + 2 * ((a1)).toNat) i = 0 := fun i => hz _ i (by omega)
  have z1a1 : ∀ i, σ ((2 + 2 * ((a1)).toNat) + 1) i = 0 := fun i => hz _ i (by omega)
  have ca1 : (cap (2 + 2 * ((a1)).toNat) : Int) = 16 := cp_1 (by omega)
  have za2 : ∀ i, σ (2 + 2 * ((a2)).toNat) i = 0 := fun i => hz _ i (by omega)
  have z1a2 : ∀ i, σ ((2 + 2 * ((a2)).toNat) + 1) i = 0 := fun i => hz _ i (by omega)
  have ca2 : (cap (2 + 2 * ((a2)).toNat) : Int) = 16 := cp_1 (by omega)
  have hA : Dd 397 [(.inr (.inr (some 0))), (.inl a1), (.inl a2), (.inl a3), (.inr (.inr (some 726)))] σ (.inl (some (.inl 0)), (upS (upS (upS (upS (upS σ 333 1 0) 335 1 0) 337 1 0) 343 1 0) 726 0 0)) := by
    refine b397 ?_
    have hD22 : Dd 179 [(.inr (.inr (some 0))), (.inl a1), (.inl a2), (.inl a3)] σ (.inl (some (.inl 0)), (upS (upS (upS (upS σ 333 1 0) 335 1 0) 337 1 0) 343 1 0)) := by
      refine b179 ?_
      have hD3 : Dd 227 [(.inr (.inr (some 0))), (.inl a1)] σ (.inl (some (.inr (.inr (some (2 + 2 * ((a1)).toNat))))), σ) := by
        refine b227 ?_
        have hD1 : Dd 145 [(.inr (.inr (some 1))), (.inl a1)] σ (.inl (some (.inr (.inr (some (2 + 2 * ((a1)).toNat))))), σ) := by
          refine b145 ?_
          rw [if_pos (show (0 : Int) ≤ a1 by first | omega | (simp [upS, hz, za1, z1a1, ca1, za2, z1a2, ca2]; done) | (simp [upS, hz, za1, z1a1, ca1, za2, z1a2, ca2]; omega))]
          refine ⟨4, (by decide +kernel), (by decide), ?_⟩
          rw [if_pos (show a1 < ((4 : Nat) : Int) by first | omega | (simp [upS, hz, za1, z1a1, ca1, za2, z1a2, ca2]; done) | (simp [upS, hz, za1, z1a1, ca1, za2, z1a2, ca2]; omega))]
          refine ⟨(show 0 ≤ a1 by first | omega | (simp [upS, hz, za1, z1a1, ca1, za2, z1a2, ca2]; done) | (simp [upS, hz, za1, z1a1, ca1, za2, z1a2, ca2]; omega)), ?_⟩
          refine ⟨(2 + 2 * ((a1)).toNat), (el_1 (i := (a1)) (by first | omega | (simp [upS, hz, za1, z1a1, ca1, za2, z1a2, ca2]; done) | (simp [upS, hz, za1, z1a1, ca1, za2, z1a2, ca2]; omega))).1, (el_1 (i := (a1)) (by first | omega | (simp [upS, hz, za1, z1a1, ca1, za2, z1a2, ca2]; done) | (simp [upS, hz, za1, z1a1, ca1, za2, z1a2, ca2]; omega))).2, ?_⟩
          all_goals rfl
        refine ⟨_, _, hD1, ?_⟩
        clear hD1
        refine ⟨fun hz2 => (by cases hz2), fun _ hz2 => ?_⟩
        cases hz2
        refine ⟨(el_1 (i := (a1)) (by first | omega | (simp [upS, hz, za1, z1a1, ca1, za2, z1a2, ca2]; done) | (simp [upS, hz, za1, z1a1, ca1, za2, z1a2, ca2]; omega))).2, ?_⟩
        all_goals rfl
      refine Or.inl ⟨_, _, hD3, (el_1 (i := (a1)) (by first | omega | (simp [upS, hz, za1, z1a1, ca1, za2, z1a2, ca2]; done) | (simp [upS, hz, za1, z1a1, ca1, za2, z1a2, ca2]; omega))).2, ?_⟩
      clear hD3
      have hD6 : Dd 227 [(.inr (.inr (some 0))), (.inl a2)] σ (.inl (some (.inr (.inr (some (2 + 2 * ((a2)).toNat))))), σ) := by
        refine b227 ?_
        have hD4 : Dd 145 [(.inr (.inr (some 1))), (.inl a2)] σ (.inl (some (.inr (.inr (some (2 + 2 * ((a2)).toNat))))), σ) := by
          refine b145 ?_
          rw [if_pos (show (0 : Int) ≤ a2 by first | omega | (simp [upS, hz, za1, z1a1, ca1, za2, z1a2, ca2]; done) | (simp [upS, hz, za1, z1a1, ca1, za2, z1a2, ca2]; omega))]
          refine ⟨4, (by decide +kernel), (by decide), ?_⟩
          rw [if_pos (show a2 < ((4 : Nat) : Int) by first | omega | (simp [upS, hz, za1, z1a1, ca1, za2, z1a2, ca2]; done) | (simp [upS, hz, za1, z1a1, ca1, za2, z1a2, ca2]; omega))]
          refine ⟨(show 0 ≤ a2 by first | omega | (simp [upS, hz, za1, z1a1, ca1, za2, z1a2, ca2]; done) | (simp [upS, hz, za1, z1a1, ca1, za2, z1a2, ca2]; omega)), ?_⟩
          refine ⟨(2 + 2 * ((a2)).toNat), (el_1 (i := (a2)) (by first | omega | (simp [upS, hz, za1, z1a1, ca1, za2, z1a2, ca2]; done) | (simp [upS, hz, za1, z1a1, ca1, za2, z1a2, ca2]; omega))).1, (el_1 (i := (a2)) (by first | omega | (simp [upS, hz, za1, z1a1, ca1, za2, z1a2, ca2]; done) | (simp [upS, hz, za1, z1a1, ca1, za2, z1a2, ca2]; omega))).2, ?_⟩
          all_goals rfl
        refine ⟨_, _, hD4, ?_⟩
        clear hD4
        refine ⟨fun hz5 => (by cases hz5), fun _ hz5 => ?_⟩
        cases hz5
        refine ⟨(el_1 (i := (a2)) (by first | omega | (simp [upS, hz, za1, z1a1, ca1, za2, z1a2, ca2]; done) | (simp [upS, hz, za1, z1a1, ca1, za2, z1a2, ca2]; omega))).2, ?_⟩
        all_goals rfl
      refine Or.inl ⟨_, _, hD6, (el_1 (i := (a2)) (by first | omega | (simp [upS, hz, za1, z1a1, ca1, za2, z1a2, ca2]; done) | (simp [upS, hz, za1, z1a1, ca1, za2, z1a2, ca2]; omega))).2, ?_⟩
      clear hD6
      have hD7 : Dd 236 [(.inr (.inr (some 0))), (.inl a3)] σ (.inl none, σ) := by
        refine b236 ?_
        rw [if_neg (show ¬ (a3 = 0) by first | omega | (simp [upS, hz, za1, z1a1, ca1, za2, z1a2, ca2]; done) | (simp [upS, hz, za1, z1a1, ca1, za2, z1a2, ca2]; omega))]
        rw [if_neg (show ¬ (a3 = 1) by first | omega | (simp [upS, hz, za1, z1a1, ca1, za2, z1a2, ca2]; done) | (simp [upS, hz, za1, z1a1, ca1, za2, z1a2, ca2]; omega))]
        rw [if_pos (show a3 = 2 by first | omega | (simp [upS, hz, za1, z1a1, ca1, za2, z1a2, ca2]; done) | (simp [upS, hz, za1, z1a1, ca1, za2, z1a2, ca2]; omega))]
        all_goals rfl
      refine Or.inl ⟨_, hD7, ?_⟩
      clear hD7
      have hD18 : Dd 15 [(.inr (.inr (some 332))), (.inr (.inr (some (2 + 2 * ((a1)).toNat)))), (.inr (.inr (some (2 + 2 * ((a2)).toNat)))), (.inl a3)] σ (.inl (some (.inr (.inr (some 337)))), (upS (upS (upS (upS σ 333 1 0) 335 1 0) 337 1 0) 343 1 0)) := by
        refine b15 ?_
        have hD13 : Dd 19 [(.inr (.inr (some 332))), (.inr (.inr (some (2 + 2 * ((a1)).toNat)))), (.inr (.inr (some (2 + 2 * ((a2)).toNat))))] σ (.inl none, (upS (upS (upS (upS σ 333 1 0) 335 1 0) 337 1 0) 343 1 0)) := by
          refine b19 ?_
          have hD8 : Dd 155 [(.inr (.inr (some 333))), (.inr (.inr (some (2 + 2 * ((a1)).toNat))))] σ (.inl none, (upS σ 333 1 0)) := by
            refine b155 (el_1 (i := (a1)) (by first | omega | (simp [upS, hz, za1, z1a1, ca1, za2, z1a2, ca2]; done) | (simp [upS, hz, za1, z1a1, ca1, za2, z1a2, ca2]; omega))).2 (by decide +kernel) ?_
            refine ⟨(show -2147483648 ≤ ((cap 333) : Int) ∧ ((cap 333) : Int) ≤ 2147483647 by have e333 : (cap 333 : Int) = 40 := (by decide +kernel); first | omega | (simp [upS, hz, za1, z1a1, ca1, za2, z1a2, ca2]; done) | (simp [upS, hz, za1, z1a1, ca1, za2, z1a2, ca2]; omega)), ?_⟩
            rw [(show (upS σ 333 1 (if ((cap 333) : Int) < (σ (2 + 2 * ((a1)).toNat) 1) then ((cap 333) : Int) else (σ (2 + 2 * ((a1)).toNat) 1))) = (upS σ 333 1 0) from by rw [show (if ((cap 333) : Int) < (σ (2 + 2 * ((a1)).toNat) 1) then ((cap 333) : Int) else (σ (2 + 2 * ((a1)).toNat) 1)) = 0 by (have e333 : (cap 333 : Int) = 40 := (by decide +kernel); first | omega | (simp [upS, hz, za1, z1a1, ca1, za2, z1a2, ca2]; done) | (simp [upS, hz, za1, z1a1, ca1, za2, z1a2, ca2]; omega))])]
            refine b155_18 (by decide +kernel) (el_1 (i := (a1)) (by first | omega | (simp [upS, hz, za1, z1a1, ca1, za2, z1a2, ca2]; done) | (simp [upS, hz, za1, z1a1, ca1, za2, z1a2, ca2]; omega))).2 ?_
            rw [if_neg (show ¬ ((0 : Int) < ((upS σ 333 1 0) 333 1)) by first | omega | (simp [upS, hz, za1, z1a1, ca1, za2, z1a2, ca2]; done) | (simp [upS, hz, za1, z1a1, ca1, za2, z1a2, ca2]; omega))]
            all_goals rfl
          refine ⟨_, hD8, ?_⟩
          clear hD8
          have hD9 : Dd 155 [(.inr (.inr (some 335))), (.inr (.inr (some (2 + 2 * ((a2)).toNat))))] (upS σ 333 1 0) (.inl none, (upS (upS σ 333 1 0) 335 1 0)) := by
            refine b155 (el_1 (i := (a2)) (by first | omega | (simp [upS, hz, za1, z1a1, ca1, za2, z1a2, ca2]; done) | (simp [upS, hz, za1, z1a1, ca1, za2, z1a2, ca2]; omega))).2 (by decide +kernel) ?_
            refine ⟨(show -2147483648 ≤ ((cap 335) : Int) ∧ ((cap 335) : Int) ≤ 2147483647 by have e335 : (cap 335 : Int) = 40 := (by decide +kernel); first | omega | (simp [upS, hz, za1, z1a1, ca1, za2, z1a2, ca2]; done) | (simp [upS, hz, za1, z1a1, ca1, za2, z1a2, ca2]; omega)), ?_⟩
            rw [(show (upS (upS σ 333 1 0) 335 1 (if ((cap 335) : Int) < ((upS σ 333 1 0) (2 + 2 * ((a2)).toNat) 1) then ((cap 335) : Int) else ((upS σ 333 1 0) (2 + 2 * ((a2)).toNat) 1))) = (upS (upS σ 333 1 0) 335 1 0) from by rw [show (if ((cap 335) : Int) < ((upS σ 333 1 0) (2 + 2 * ((a2)).toNat) 1) then ((cap 335) : Int) else ((upS σ 333 1 0) (2 + 2 * ((a2)).toNat) 1)) = 0 by (have e335 : (cap 335 : Int) = 40 := (by decide +kernel); first | omega | (simp [upS, hz, za1, z1a1, ca1, za2, z1a2, ca2]; done) | (simp [upS, hz, za1, z1a1, ca1, za2, z1a2, ca2]; omega))])]
            refine b155_18 (by decide +kernel) (el_1 (i := (a2)) (by first | omega | (simp [upS, hz, za1, z1a1, ca1, za2, z1a2, ca2]; done) | (simp [upS, hz, za1, z1a1, ca1, za2, z1a2, ca2]; omega))).2 ?_
            rw [if_neg (show ¬ ((0 : Int) < ((upS (upS σ 333 1 0) 335 1 0) 335 1)) by first | omega | (simp [upS, hz, za1, z1a1, ca1, za2, z1a2, ca2]; done) | (simp [upS, hz, za1, z1a1, ca1, za2, z1a2, ca2]; omega))]
            all_goals rfl
          refine ⟨_, hD9, ?_⟩
          clear hD9
          have hD10 : Dd 146 [(.inr (.inr (some 333)))] (upS (upS σ 333 1 0) 335 1 0) (.inl (some (.inl 0)), (upS (upS σ 333 1 0) 335 1 0)) := by
            refine b146 (by decide +kernel) ?_
            rw [show ((upS (upS σ 333 1 0) 335 1 0) 333 1) = 0 by (first | omega | (simp [upS, hz, za1, z1a1, ca1, za2, z1a2, ca2]; done) | (simp [upS, hz, za1, z1a1, ca1, za2, z1a2, ca2]; omega))]
            all_goals rfl
          refine ⟨_, _, hD10, ?_⟩
          clear hD10
          have hD11 : Dd 153 [(.inr (.inr (some 337))), (.inl 0), (.inl (-1))] (upS (upS σ 333 1 0) 335 1 0) (.inl none, (upS (upS (upS σ 333 1 0) 335 1 0) 337 1 0)) := by
            refine b153 (by decide +kernel) ?_
            refine ⟨(show -2147483648 ≤ ((cap 337) : Int) ∧ ((cap 337) : Int) ≤ 2147483647 by have e337 : (cap 337 : Int) = 40 := (by decide +kernel); first | omega | (simp [upS, hz, za1, z1a1, ca1, za2, z1a2, ca2]; done) | (simp [upS, hz, za1, z1a1, ca1, za2, z1a2, ca2]; omega)), ?_⟩
            rw [(show (upS (upS (upS σ 333 1 0) 335 1 0) 337 1 (if 0 < (if ((cap 337) : Int) < 0 then ((cap 337) : Int) else 0) then (if ((cap 337) : Int) < 0 then ((cap 337) : Int) else 0) else 0)) = (upS (upS (upS σ 333 1 0) 335 1 0) 337 1 0) from by rw [show (if (0 : Int) < (if ((cap 337) : Int) < 0 then ((cap 337) : Int) else 0) then (if ((cap 337) : Int) < 0 then ((cap 337) : Int) else 0) else 0) = 0 by (have e337 : (cap 337 : Int) = 40 := (by decide +kernel); first | omega | (simp [upS, hz, za1, z1a1, ca1, za2, z1a2, ca2]; done) | (simp [upS, hz, za1, z1a1, ca1, za2, z1a2, ca2]; omega))])]
            refine b153_19 (by decide +kernel) ?_
            rw [if_neg (show ¬ ((0 : Int) < ((upS (upS (upS σ 333 1 0) 335 1 0) 337 1 0) 337 1)) by first | omega | (simp [upS, hz, za1, z1a1, ca1, za2, z1a2, ca2]; done) | (simp [upS, hz, za1, z1a1, ca1, za2, z1a2, ca2]; omega))]
            all_goals rfl
          refine ⟨_, hD11, ?_⟩
          clear hD11
          have hD12 : Dd 152 [(.inr (.inr (some 343)))] (upS (upS (upS σ 333 1 0) 335 1 0) 337 1 0) (.inl none, (upS (upS (upS (upS σ 333 1 0) 335 1 0) 337 1 0) 343 1 0)) := by
            refine b152 (by decide +kernel) ?_
            all_goals rfl
          refine ⟨_, hD12, ?_⟩
          clear hD12
          all_goals rfl
        refine ⟨_, hD13, ?_⟩
        clear hD13
        have hD14 : Dd 146 [(.inr (.inr (some 333)))] (upS (upS (upS (upS σ 333 1 0) 335 1 0) 337 1 0) 343 1 0) (.inl (some (.inl 0)), (upS (upS (upS (upS σ 333 1 0) 335 1 0) 337 1 0) 343 1 0)) := by
          refine b146 (by decide +kernel) ?_
          rw [show ((upS (upS (upS (upS σ 333 1 0) 335 1 0) 337 1 0) 343 1 0) 333 1) = 0 by (first | omega | (simp [upS, hz, za1, z1a1, ca1, za2, z1a2, ca2]; done) | (simp [upS, hz, za1, z1a1, ca1, za2, z1a2, ca2]; omega))]
          all_goals rfl
        refine ⟨_, _, hD14, ?_⟩
        clear hD14
        have hD15 : Dd 146 [(.inr (.inr (some 335)))] (upS (upS (upS (upS σ 333 1 0) 335 1 0) 337 1 0) 343 1 0) (.inl (some (.inl 0)), (upS (upS (upS (upS σ 333 1 0) 335 1 0) 337 1 0) 343 1 0)) := by
          refine b146 (by decide +kernel) ?_
          rw [show ((upS (upS (upS (upS σ 333 1 0) 335 1 0) 337 1 0) 343 1 0) 335 1) = 0 by (first | omega | (simp [upS, hz, za1, z1a1, ca1, za2, z1a2, ca2]; done) | (simp [upS, hz, za1, z1a1, ca1, za2, z1a2, ca2]; omega))]
          all_goals rfl
        refine ⟨_, _, hD15, ?_⟩
        clear hD15
        have hD16 : Dd 20 [(.inr (.inr (some 332))), (.inl 0), (.inl 0), (.inl 0), (.inl 0)] (upS (upS (upS (upS σ 333 1 0) 335 1 0) 337 1 0) 343 1 0) (.inl none, (upS (upS (upS (upS σ 333 1 0) 335 1 0) 337 1 0) 343 1 0)) := by
          refine b20 ?_
          rw [if_neg (show ¬ ((0 : Int) < 0) by first | omega | (simp [upS, hz, za1, z1a1, ca1, za2, z1a2, ca2]; done) | (simp [upS, hz, za1, z1a1, ca1, za2, z1a2, ca2]; omega))]
          all_goals rfl
        refine ⟨_, hD16, ?_⟩
        clear hD16
        refine b15_29 ?_
        rw [if_pos (show (0 : Int) < 160 by first | omega | (simp [upS, hz, za1, z1a1, ca1, za2, z1a2, ca2]; done) | (simp [upS, hz, za1, z1a1, ca1, za2, z1a2, ca2]; omega))]
        refine ⟨(show (-2147483648 : Int) ≤ (4 * 0) ∧ ((4 * 0) : Int) ≤ 2147483647 by first | omega | (simp [upS, hz, za1, z1a1, ca1, za2, z1a2, ca2]; done) | (simp [upS, hz, za1, z1a1, ca1, za2, z1a2, ca2]; omega)), ?_⟩
        have hD17 : Dd 146 [(.inr (.inr (some 343)))] (upS (upS (upS (upS σ 333 1 0) 335 1 0) 337 1 0) 343 1 0) (.inl (some (.inl 0)), (upS (upS (upS (upS σ 333 1 0) 335 1 0) 337 1 0) 343 1 0)) := by
          refine b146 (by decide +kernel) ?_
          rw [show ((upS (upS (upS (upS σ 333 1 0) 335 1 0) 337 1 0) 343 1 0) 343 1) = 0 by (first | omega | (simp [upS, hz, za1, z1a1, ca1, za2, z1a2, ca2]; done) | (simp [upS, hz, za1, z1a1, ca1, za2, z1a2, ca2]; omega))]
          all_goals rfl
        refine ⟨_, _, hD17, ?_⟩
        clear hD17
        rw [if_neg (show ¬ (((4 * 0) : Int) < 0) by first | omega | (simp [upS, hz, za1, z1a1, ca1, za2, z1a2, ca2]; done) | (simp [upS, hz, za1, z1a1, ca1, za2, z1a2, ca2]; omega))]
        refine b15_147 ?_
        all_goals rfl
      refine ⟨_, _, hD18, (by decide +kernel), ?_⟩
      clear hD18
      have hD19 : Dd 146 [(.inr (.inr (some 337)))] (upS (upS (upS (upS σ 333 1 0) 335 1 0) 337 1 0) 343 1 0) (.inl (some (.inl 0)), (upS (upS (upS (upS σ 333 1 0) 335 1 0) 337 1 0) 343 1 0)) := by
        refine b146 (by decide +kernel) ?_
        rw [show ((upS (upS (upS (upS σ 333 1 0) 335 1 0) 337 1 0) 343 1 0) 337 1) = 0 by (first | omega | (simp [upS, hz, za1, z1a1, ca1, za2, z1a2, ca2]; done) | (simp [upS, hz, za1, z1a1, ca1, za2, z1a2, ca2]; omega))]
        all_goals rfl
      refine ⟨_, _, hD19, ?_⟩
      clear hD19
      have hD20 : Dd 146 [(.inr (.inr (some 337)))] (upS (upS (upS (upS σ 333 1 0) 335 1 0) 337 1 0) 343 1 0) (.inl (some (.inl 0)), (upS (upS (upS (upS σ 333 1 0) 335 1 0) 337 1 0) 343 1 0)) := by
        refine b146 (by decide +kernel) ?_
        rw [show ((upS (upS (upS (upS σ 333 1 0) 335 1 0) 337 1 0) 343 1 0) 337 1) = 0 by (first | omega | (simp [upS, hz, za1, z1a1, ca1, za2, z1a2, ca2]; done) | (simp [upS, hz, za1, z1a1, ca1, za2, z1a2, ca2]; omega))]
        all_goals rfl
      refine ⟨_, _, hD20, ?_⟩
      clear hD20
      have hD21 : Dd 157 [(.inr (.inr (some 337))), (.inl (-1)), (.inl 0), (.inl 0)] (upS (upS (upS (upS σ 333 1 0) 335 1 0) 337 1 0) 343 1 0) (.inl (some (.inl 0)), (upS (upS (upS (upS σ 333 1 0) 335 1 0) 337 1 0) 343 1 0)) := by
        refine b157 ?_
        try rw [show (if (0 : Int) < 0 then (0 : Int) else 0) = 0 by (first | omega | (simp [upS, hz, za1, z1a1, ca1, za2, z1a2, ca2]; done) | (simp [upS, hz, za1, z1a1, ca1, za2, z1a2, ca2]; omega))]
        refine b157_10 (by decide +kernel) ?_
        rw [if_neg (show ¬ ((0 : Int) < 0) by first | omega | (simp [upS, hz, za1, z1a1, ca1, za2, z1a2, ca2]; done) | (simp [upS, hz, za1, z1a1, ca1, za2, z1a2, ca2]; omega))]
        all_goals rfl
      refine ⟨_, _, hD21, ?_⟩
      clear hD21
      refine ⟨(show (-2147483648 : Int) ≤ (0 - 0) ∧ ((0 - 0) : Int) ≤ 2147483647 by first | omega | (simp [upS, hz, za1, z1a1, ca1, za2, z1a2, ca2]; done) | (simp [upS, hz, za1, z1a1, ca1, za2, z1a2, ca2]; omega)), ?_⟩
      rw [show ((0 - 0) : Int) = 0 by (first | omega | (simp [upS, hz, za1, z1a1, ca1, za2, z1a2, ca2]; done) | (simp [upS, hz, za1, z1a1, ca1, za2, z1a2, ca2]; omega))]
      all_goals rfl
    refine Or.inl ⟨_, _, hD22, ?_⟩
    clear hD22
    rw [(show (upS (upS (upS (upS (upS σ 333 1 0) 335 1 0) 337 1 0) 343 1 0) 726 ((0 : Int).toNat) 0) = (upS (upS (upS (upS (upS σ 333 1 0) 335 1 0) 337 1 0) 343 1 0) 726 0 0) from by rw [show ((0 : Int).toNat) = 0 by (first | omega | (simp [upS, hz, za1, z1a1, ca1, za2, z1a2, ca2]; done) | (simp [upS, hz, za1, z1a1, ca1, za2, z1a2, ca2]; omega))])]
    all_goals rfl
  obtain ⟨S900, E900⟩ : ∃ s : Sg, s = (upS (upS (upS (upS (upS σ 333 1 0) 335 1 0) 337 1 0) 343 1 0) 726 0 0) := ⟨_, rfl⟩
  rw [← E900] at hA
  have hB : Dd 278 [(.inr (.inr (some 682))), (.inl a1), (.inl a2), (.inl a3)] S900 (.inl (some (.inl 0)), (upS (upS (upS (upS (upS (upS (upS (upS (upS (upS (upS (upS (upS (upS (upS S900 682 0 0) 682 12 0) 682 13 0) 682 22 0) 696 0 0) 696 1 0) 696 2 0) 696 3 0) 682 22 1) 682 22 0) 682 17 0) 682 18 0) 682 19 0) 682 20 0) 694 0 0)) := by
    refine b278 ?_
    have hD24 : Dd 247 [(.inl a1)] S900 (.inl (some (.inl 1)), S900) := by
      refine b247 ?_
      have hD23 : Dd 246 [(.inl a1), (.inl 4)] S900 (.inl (some (.inl 1)), S900) := by
        refine b246 ?_
        try rw [if_pos (show (0 : Int) ≤ a1 by first | omega | (simp [upS, hz, za1, z1a1, ca1, za2, z1a2, ca2, E900]; done) | (simp [upS, hz, za1, z1a1, ca1, za2, z1a2, ca2, E900]; omega))]
        try rw [if_pos (show a1 < 4 by first | omega | (simp [upS, hz, za1, z1a1, ca1, za2, z1a2, ca2, E900]; done) | (simp [upS, hz, za1, z1a1, ca1, za2, z1a2, ca2, E900]; omega))]
        all_goals rfl
      refine ⟨_, _, hD23, ?_⟩
      clear hD23
      refine ⟨(show 1 = 0 ∨ 1 = 1 by first | omega | (simp [upS, hz, za1, z1a1, ca1, za2, z1a2, ca2, E900]; done) | (simp [upS, hz, za1, z1a1, ca1, za2, z1a2, ca2, E900]; omega)), ?_⟩
      all_goals rfl
    refine ⟨_, _, hD24, ?_⟩
    clear hD24
    rw [if_neg (show ¬ ((1 : Int) = 0) by first | omega | (simp [upS, hz, za1, z1a1, ca1, za2, z1a2, ca2, E900]; done) | (simp [upS, hz, za1, z1a1, ca1, za2, z1a2, ca2, E900]; omega))]
    have hD26 : Dd 247 [(.inl a2)] S900 (.inl (some (.inl 1)), S900) := by
      refine b247 ?_
      have hD25 : Dd 246 [(.inl a2), (.inl 4)] S900 (.inl (some (.inl 1)), S900) := by
        refine b246 ?_
        try rw [if_pos (show (0 : Int) ≤ a2 by first | omega | (simp [upS, hz, za1, z1a1, ca1, za2, z1a2, ca2, E900]; done) | (simp [upS, hz, za1, z1a1, ca1, za2, z1a2, ca2, E900]; omega))]
        try rw [if_pos (show a2 < 4 by first | omega | (simp [upS, hz, za1, z1a1, ca1, za2, z1a2, ca2, E900]; done) | (simp [upS, hz, za1, z1a1, ca1, za2, z1a2, ca2, E900]; omega))]
        all_goals rfl
      refine ⟨_, _, hD25, ?_⟩
      clear hD25
      refine ⟨(show 1 = 0 ∨ 1 = 1 by first | omega | (simp [upS, hz, za1, z1a1, ca1, za2, z1a2, ca2, E900]; done) | (simp [upS, hz, za1, z1a1, ca1, za2, z1a2, ca2, E900]; omega)), ?_⟩
      all_goals rfl
    refine ⟨_, _, hD26, ?_⟩
    clear hD26
    rw [if_neg (show ¬ ((1 : Int) = 0) by first | omega | (simp [upS, hz, za1, z1a1, ca1, za2, z1a2, ca2, E900]; done) | (simp [upS, hz, za1, z1a1, ca1, za2, z1a2, ca2, E900]; omega))]
    have hD28 : Dd 275 [(.inl a3)] S900 (.inl (some (.inl 1)), S900) := by
      refine b275 ?_
      have hD27 : Dd 246 [(.inl a3), (.inl 3)] S900 (.inl (some (.inl 1)), S900) := by
        refine b246 ?_
        try rw [if_pos (show (0 : Int) ≤ a3 by first | omega | (simp [upS, hz, za1, z1a1, ca1, za2, z1a2, ca2, E900]; done) | (simp [upS, hz, za1, z1a1, ca1, za2, z1a2, ca2, E900]; omega))]
        try rw [if_pos (show a3 < 3 by first | omega | (simp [upS, hz, za1, z1a1, ca1, za2, z1a2, ca2, E900]; done) | (simp [upS, hz, za1, z1a1, ca1, za2, z1a2, ca2, E900]; omega))]
        all_goals rfl
      refine ⟨_, _, hD27, ?_⟩
      clear hD27
      refine ⟨(show 1 = 0 ∨ 1 = 1 by first | omega | (simp [upS, hz, za1, z1a1, ca1, za2, z1a2, ca2, E900]; done) | (simp [upS, hz, za1, z1a1, ca1, za2, z1a2, ca2, E900]; omega)), ?_⟩
      all_goals rfl
    refine ⟨_, _, hD28, ?_⟩
    clear hD28
    try rw [if_neg (show ¬ ((1 : Int) = 0) by first | omega | (simp [upS, hz, za1, z1a1, ca1, za2, z1a2, ca2, E900]; done) | (simp [upS, hz, za1, z1a1, ca1, za2, z1a2, ca2, E900]; omega))]
    refine b278_31 ?_
    have hD29 : Dd 245 [(.inr (.inr (some 682))), (.inl 0)] S900 (.inl (some (.inl 1)), (upS S900 682 0 0)) := by
      refine b245 ?_
      try rw [if_pos (show (0 : Int) = 0 by first | omega | (simp [upS, hz, za1, z1a1, ca1, za2, z1a2, ca2, E900]; done) | (simp [upS, hz, za1, z1a1, ca1, za2, z1a2, ca2, E900]; omega))]
      all_goals rfl
    refine ⟨_, _, hD29, ?_⟩
    clear hD29
    rw [if_neg (show ¬ ((1 : Int) = 0) by first | omega | (simp [upS, hz, za1, z1a1, ca1, za2, z1a2, ca2, E900]; done) | (simp [upS, hz, za1, z1a1, ca1, za2, z1a2, ca2, E900]; omega))]
    have hD32 : Dd 276 [(.inr (.inr (some 682))), (.inl a1), (.inl a2)] (upS S900 682 0 0) (.inl none, (upS (upS (upS S900 682 0 0) 682 12 0) 682 13 0)) := by
      refine b276 ?_
      refine ⟨(show -2147483648 ≤ (16 * a1) ∧ (16 * a1) ≤ 2147483647 by first | omega | (simp [upS, hz, za1, z1a1, ca1, za2, z1a2, ca2, E900]; done) | (simp [upS, hz, za1, z1a1, ca1, za2, z1a2, ca2, E900]; omega)), ?_⟩
      refine ⟨(show 0 ≤ a1 ∧ a1 < 4 by first | omega | (simp [upS, hz, za1, z1a1, ca1, za2, z1a2, ca2, E900]; done) | (simp [upS, hz, za1, z1a1, ca1, za2, z1a2, ca2, E900]; omega)), ?_⟩
      rw [show ((upS S900 682 0 0) 684 (a1).toNat) = 0 by (first | omega | (simp [upS, hz, za1, z1a1, ca1, za2, z1a2, ca2, E900]; done) | (simp [upS, hz, za1, z1a1, ca1, za2, z1a2, ca2, E900]; omega))]
      have hD30 : Dd 263 [(.inr (.inr (some 682))), (.inr (.inr (some 683))), (.inl (16 * a1)), (.inl 0)] (upS S900 682 0 0) (.inl none, (upS (upS S900 682 0 0) 682 12 0)) := by
        refine b263 ?_
        refine b263_8 (show qA 683 0 64 = true by decide +kernel) ?_
        rw [if_neg (show ¬ ((0 : Int) < 0) by first | omega | (simp [upS, hz, za1, z1a1, ca1, za2, z1a2, ca2, E900]; done) | (simp [upS, hz, za1, z1a1, ca1, za2, z1a2, ca2, E900]; omega))]
        all_goals rfl
      refine ⟨_, hD30, ?_⟩
      clear hD30
      refine ⟨(show -2147483648 ≤ (16 * a2) ∧ (16 * a2) ≤ 2147483647 by first | omega | (simp [upS, hz, za1, z1a1, ca1, za2, z1a2, ca2, E900]; done) | (simp [upS, hz, za1, z1a1, ca1, za2, z1a2, ca2, E900]; omega)), ?_⟩
      refine ⟨(show 0 ≤ a2 ∧ a2 < 4 by first | omega | (simp [upS, hz, za1, z1a1, ca1, za2, z1a2, ca2, E900]; done) | (simp [upS, hz, za1, z1a1, ca1, za2, z1a2, ca2, E900]; omega)), ?_⟩
      rw [show ((upS (upS S900 682 0 0) 682 12 0) 684 (a2).toNat) = 0 by (first | omega | (simp [upS, hz, za1, z1a1, ca1, za2, z1a2, ca2, E900]; done) | (simp [upS, hz, za1, z1a1, ca1, za2, z1a2, ca2, E900]; omega))]
      have hD31 : Dd 264 [(.inr (.inr (some 682))), (.inr (.inr (some 683))), (.inl (16 * a2)), (.inl 0)] (upS (upS S900 682 0 0) 682 12 0) (.inl none, (upS (upS (upS S900 682 0 0) 682 12 0) 682 13 0)) := by
        refine b264 ?_
        refine b264_8 (show qA 683 0 64 = true by decide +kernel) ?_
        rw [if_neg (show ¬ ((0 : Int) < 0) by first | omega | (simp [upS, hz, za1, z1a1, ca1, za2, z1a2, ca2, E900]; done) | (simp [upS, hz, za1, z1a1, ca1, za2, z1a2, ca2, E900]; omega))]
        all_goals rfl
      refine ⟨_, hD31, ?_⟩
      clear hD31
      all_goals rfl
    refine ⟨_, hD32, ?_⟩
    clear hD32
    have hD43 : Dd 274 [(.inr (.inr (some 682))), (.inl a3)] (upS (upS (upS S900 682 0 0) 682 12 0) 682 13 0) (.inl (some (.inl 0)), (upS (upS (upS (upS (upS (upS (upS (upS (upS (upS (upS (upS (upS (upS (upS S900 682 0 0) 682 12 0) 682 13 0) 682 22 0) 696 0 0) 696 1 0) 696 2 0) 696 3 0) 682 22 1) 682 22 0) 682 17 0) 682 18 0) 682 19 0) 682 20 0) 694 0 0)) := by
      refine b274 ?_
      refine b274_2 ?_
      rw [if_neg (show ¬ ((0 : Int) < ((upS (upS (upS S900 682 0 0) 682 12 0) 682 13 0) 682 12)) by first | omega | (simp [upS, hz, za1, z1a1, ca1, za2, z1a2, ca2, E900]; done) | (simp [upS, hz, za1, z1a1, ca1, za2, z1a2, ca2, E900]; omega))]
      rw [show ((upS (upS (upS (upS S900 682 0 0) 682 12 0) 682 13 0) 682 22 0) 682 12) = 0 by (first | omega | (simp [upS, hz, za1, z1a1, ca1, za2, z1a2, ca2, E900]; done) | (simp [upS, hz, za1, z1a1, ca1, za2, z1a2, ca2, E900]; omega))]
      rw [show ((upS (upS (upS (upS S900 682 0 0) 682 12 0) 682 13 0) 682 22 0) 682 13) = 0 by (first | omega | (simp [upS, hz, za1, z1a1, ca1, za2, z1a2, ca2, E900]; done) | (simp [upS, hz, za1, z1a1, ca1, za2, z1a2, ca2, E900]; omega))]
      have hD33 : Dd 267 [(.inr (.inr (some 682))), (.inl 0), (.inl 0), (.inl 0), (.inl 0)] (upS (upS (upS (upS S900 682 0 0) 682 12 0) 682 13 0) 682 22 0) (.inl none, (upS (upS (upS (upS (upS (upS (upS (upS (upS S900 682 0 0) 682 12 0) 682 13 0) 682 22 0) 696 0 0) 696 1 0) 696 2 0) 696 3 0) 682 22 1)) := by
        refine b267 ?_
        refine ⟨(show -2147483648 ≤ (4 * ((upS (upS (upS (upS S900 682 0 0) 682 12 0) 682 13 0) 682 22 0) 682 22)) ∧ (4 * ((upS (upS (upS (upS S900 682 0 0) 682 12 0) 682 13 0) 682 22 0) 682 22)) ≤ 2147483647 by first | omega | (simp [upS, hz, za1, z1a1, ca1, za2, z1a2, ca2, E900]; done) | (simp [upS, hz, za1, z1a1, ca1, za2, z1a2, ca2, E900]; omega)), ?_⟩
        refine ⟨(show 0 ≤ (4 * ((upS (upS (upS (upS S900 682 0 0) 682 12 0) 682 13 0) 682 22 0) 682 22)) ∧ (4 * ((upS (upS (upS (upS S900 682 0 0) 682 12 0) 682 13 0) 682 22 0) 682 22)) < 512 by first | omega | (simp [upS, hz, za1, z1a1, ca1, za2, z1a2, ca2, E900]; done) | (simp [upS, hz, za1, z1a1, ca1, za2, z1a2, ca2, E900]; omega)), ?_⟩
        refine ⟨(show -2147483648 ≤ (4 * ((upS (upS (upS (upS (upS S900 682 0 0) 682 12 0) 682 13 0) 682 22 0) 696 (((4 * ((upS (upS (upS (upS S900 682 0 0) 682 12 0) 682 13 0) 682 22 0) 682 22))).toNat) 0) 682 22)) ∧ (4 * ((upS (upS (upS (upS (upS S900 682 0 0) 682 12 0) 682 13 0) 682 22 0) 696 (((4 * ((upS (upS (upS (upS S900 682 0 0) 682 12 0) 682 13 0) 682 22 0) 682 22))).toNat) 0) 682 22)) ≤ 2147483647 by first | omega | (simp [upS, hz, za1, z1a1, ca1, za2, z1a2, ca2, E900]; done) | (simp [upS, hz, za1, z1a1, ca1, za2, z1a2, ca2, E900]; omega)), ?_⟩
        refine ⟨(show -2147483648 ≤ ((4 * ((upS (upS (upS (upS (upS S900 682 0 0) 682 12 0) 682 13 0) 682 22 0) 696 (((4 * ((upS (upS (upS (upS S900 682 0 0) 682 12 0) 682 13 0) 682 22 0) 682 22))).toNat) 0) 682 22)) + 1) ∧ ((4 * ((upS (upS (upS (upS (upS S900 682 0 0) 682 12 0) 682 13 0) 682 22 0) 696 (((4 * ((upS (upS (upS (upS S900 682 0 0) 682 12 0) 682 13 0) 682 22 0) 682 22))).toNat) 0) 682 22)) + 1) ≤ 2147483647 by first | omega | (simp [upS, hz, za1, z1a1, ca1, za2, z1a2, ca2, E900]; done) | (simp [upS, hz, za1, z1a1, ca1, za2, z1a2, ca2, E900]; omega)), ?_⟩
        refine ⟨(show 0 ≤ ((4 * ((upS (upS (upS (upS (upS S900 682 0 0) 682 12 0) 682 13 0) 682 22 0) 696 (((4 * ((upS (upS (upS (upS S900 682 0 0) 682 12 0) 682 13 0) 682 22 0) 682 22))).toNat) 0) 682 22)) + 1) ∧ ((4 * ((upS (upS (upS (upS (upS S900 682 0 0) 682 12 0) 682 13 0) 682 22 0) 696 (((4 * ((upS (upS (upS (upS S900 682 0 0) 682 12 0) 682 13 0) 682 22 0) 682 22))).toNat) 0) 682 22)) + 1) < 512 by first | omega | (simp [upS, hz, za1, z1a1, ca1, za2, z1a2, ca2, E900]; done) | (simp [upS, hz, za1, z1a1, ca1, za2, z1a2, ca2, E900]; omega)), ?_⟩
        refine ⟨(show -2147483648 ≤ (4 * ((upS (upS (upS (upS (upS (upS S900 682 0 0) 682 12 0) 682 13 0) 682 22 0) 696 (((4 * ((upS (upS (upS (upS S900 682 0 0) 682 12 0) 682 13 0) 682 22 0) 682 22))).toNat) 0) 696 ((((4 * ((upS (upS (upS (upS (upS S900 682 0 0) 682 12 0) 682 13 0) 682 22 0) 696 (((4 * ((upS (upS (upS (upS S900 682 0 0) 682 12 0) 682 13 0) 682 22 0) 682 22))).toNat) 0) 682 22)) + 1)).toNat) 0) 682 22)) ∧ (4 * ((upS (upS (upS (upS (upS (upS S900 682 0 0) 682 12 0) 682 13 0) 682 22 0) 696 (((4 * ((upS (upS (upS (upS S900 682 0 0) 682 12 0) 682 13 0) 682 22 0) 682 22))).toNat) 0) 696 ((((4 * ((upS (upS (upS (upS (upS S900 682 0 0) 682 12 0) 682 13 0) 682 22 0) 696 (((4 * ((upS (upS (upS (upS S900 682 0 0) 682 12 0) 682 13 0) 682 22 0) 682 22))).toNat) 0) 682 22)) + 1)).toNat) 0) 682 22)) ≤ 2147483647 by first | omega | (simp [upS, hz, za1, z1a1, ca1, za2, z1a2, ca2, E900]; done) | (simp [upS, hz, za1, z1a1, ca1, za2, z1a2, ca2, E900]; omega)), ?_⟩
        refine ⟨(show -2147483648 ≤ ((4 * ((upS (upS (upS (upS (upS (upS S900 682 0 0) 682 12 0) 682 13 0) 682 22 0) 696 (((4 * ((upS (upS (upS (upS S900 682 0 0) 682 12 0) 682 13 0) 682 22 0) 682 22))).toNat) 0) 696 ((((4 * ((upS (upS (upS (upS (upS S900 682 0 0) 682 12 0) 682 13 0) 682 22 0) 696 (((4 * ((upS (upS (upS (upS S900 682 0 0) 682 12 0) 682 13 0) 682 22 0) 682 22))).toNat) 0) 682 22)) + 1)).toNat) 0) 682 22)) + 2) ∧ ((4 * ((upS (upS (upS (upS (upS (upS S900 682 0 0) 682 12 0) 682 13 0) 682 22 0) 696 (((4 * ((upS (upS (upS (upS S900 682 0 0) 682 12 0) 682 13 0) 682 22 0) 682 22))).toNat) 0) 696 ((((4 * ((upS (upS (upS (upS (upS S900 682 0 0) 682 12 0) 682 13 0) 682 22 0) 696 (((4 * ((upS (upS (upS (upS S900 682 0 0) 682 12 0) 682 13 0) 682 22 0) 682 22))).toNat) 0) 682 22)) + 1)).toNat) 0) 682 22)) + 2) ≤ 2147483647 by first | omega | (simp [upS, hz, za1, z1a1, ca1, za2, z1a2, ca2, E900]; done) | (simp [upS, hz, za1, z1a1, ca1, za2, z1a2, ca2, E900]; omega)), ?_⟩
        refine ⟨(show 0 ≤ ((4 * ((upS (upS (upS (upS (upS (upS S900 682 0 0) 682 12 0) 682 13 0) 682 22 0) 696 (((4 * ((upS (upS (upS (upS S900 682 0 0) 682 12 0) 682 13 0) 682 22 0) 682 22))).toNat) 0) 696 ((((4 * ((upS (upS (upS (upS (upS S900 682 0 0) 682 12 0) 682 13 0) 682 22 0) 696 (((4 * ((upS (upS (upS (upS S900 682 0 0) 682 12 0) 682 13 0) 682 22 0) 682 22))).toNat) 0) 682 22)) + 1)).toNat) 0) 682 22)) + 2) ∧ ((4 * ((upS (upS (upS (upS (upS (upS S900 682 0 0) 682 12 0) 682 13 0) 682 22 0) 696 (((4 * ((upS (upS (upS (upS S900 682 0 0) 682 12 0) 682 13 0) 682 22 0) 682 22))).toNat) 0) 696 ((((4 * ((upS (upS (upS (upS (upS S900 682 0 0) 682 12 0) 682 13 0) 682 22 0) 696 (((4 * ((upS (upS (upS (upS S900 682 0 0) 682 12 0) 682 13 0) 682 22 0) 682 22))).toNat) 0) 682 22)) + 1)).toNat) 0) 682 22)) + 2) < 512 by first | omega | (simp [upS, hz, za1, z1a1, ca1, za2, z1a2, ca2, E900]; done) | (simp [upS, hz, za1, z1a1, ca1, za2, z1a2, ca2, E900]; omega)), ?_⟩
        refine ⟨(show -2147483648 ≤ (4 * ((upS (upS (upS (upS (upS (upS (upS S900 682 0 0) 682 12 0) 682 13 0) 682 22 0) 696 (((4 * ((upS (upS (upS (upS S900 682 0 0) 682 12 0) 682 13 0) 682 22 0) 682 22))).toNat) 0) 696 ((((4 * ((upS (upS (upS (upS (upS S900 682 0 0) 682 12 0) 682 13 0) 682 22 0) 696 (((4 * ((upS (upS (upS (upS S900 682 0 0) 682 12 0) 682 13 0) 682 22 0) 682 22))).toNat) 0) 682 22)) + 1)).toNat) 0) 696 ((((4 * ((upS (upS (upS (upS (upS (upS S900 682 0 0) 682 12 0) 682 13 0) 682 22 0) 696 (((4 * ((upS (upS (upS (upS S900 682 0 0) 682 12 0) 682 13 0) 682 22 0) 682 22))).toNat) 0) 696 ((((4 * ((upS (upS (upS (upS (upS S900 682 0 0) 682 12 0) 682 13 0) 682 22 0) 696 (((4 * ((upS (upS (upS (upS S900 682 0 0) 682 12 0) 682 13 0) 682 22 0) 682 22))).toNat) 0) 682 22)) + 1)).toNat) 0) 682 22)) + 2)).toNat) 0) 682 22)) ∧ (4 * ((upS (upS (upS (upS (upS (upS (upS S900 682 0 0) 682 12 0) 682 13 0) 682 22 0) 696 (((4 * ((upS (upS (upS (upS S900 682 0 0) 682 12 0) 682 13 0) 682 22 0) 682 22))).toNat) 0) 696 ((((4 * ((upS (upS (upS (upS (upS S900 682 0 0) 682 12 0) 682 13 0) 682 22 0) 696 (((4 * ((upS (upS (upS (upS S900 682 0 0) 682 12 0) 682 13 0) 682 22 0) 682 22))).toNat) 0) 682 22)) + 1)).toNat) 0) 696 ((((4 * ((upS (upS (upS (upS (upS (upS S900 682 0 0) 682 12 0) 682 13 0) 682 22 0) 696 (((4 * ((upS (upS (upS (upS S900 682 0 0) 682 12 0) 682 13 0) 682 22 0) 682 22))).toNat) 0) 696 ((((4 * ((upS (upS (upS (upS (upS S900 682 0 0) 682 12 0) 682 13 0) 682 22 0) 696 (((4 * ((upS (upS (upS (upS S900 682 0 0) 682 12 0) 682 13 0) 682 22 0) 682 22))).toNat) 0) 682 22)) + 1)).toNat) 0) 682 22)) + 2)).toNat) 0) 682 22)) ≤ 2147483647 by first | omega | (simp [upS, hz, za1, z1a1, ca1, za2, z1a2, ca2, E900]; done) | (simp [upS, hz, za1, z1a1, ca1, za2, z1a2, ca2, E900]; omega)), ?_⟩
        refine ⟨(show -2147483648 ≤ ((4 * ((upS (upS (upS (upS (upS (upS (upS S900 682 0 0) 682 12 0) 682 13 0) 682 22 0) 696 (((4 * ((upS (upS (upS (upS S900 682 0 0) 682 12 0) 682 13 0) 682 22 0) 682 22))).toNat) 0) 696 ((((4 * ((upS (upS (upS (upS (upS S900 682 0 0) 682 12 0) 682 13 0) 682 22 0) 696 (((4 * ((upS (upS (upS (upS S900 682 0 0) 682 12 0) 682 13 0) 682 22 0) 682 22))).toNat) 0) 682 22)) + 1)).toNat) 0) 696 ((((4 * ((upS (upS (upS (upS (upS (upS S900 682 0 0) 682 12 0) 682 13 0) 682 22 0) 696 (((4 * ((upS (upS (upS (upS S900 682 0 0) 682 12 0) 682 13 0) 682 22 0) 682 22))).toNat) 0) 696 ((((4 * ((upS (upS (upS (upS (upS S900 682 0 0) 682 12 0) 682 13 0) 682 22 0) 696 (((4 * ((upS (upS (upS (upS S900 682 0 0) 682 12 0) 682 13 0) 682 22 0) 682 22))).toNat) 0) 682 22)) + 1)).toNat) 0) 682 22)) + 2)).toNat) 0) 682 22)) + 3) ∧ ((4 * ((upS (upS (upS (upS (upS (upS (upS S900 682 0 0) 682 12 0) 682 13 0) 682 22 0) 696 (((4 * ((upS (upS (upS (upS S900 682 0 0) 682 12 0) 682 13 0) 682 22 0) 682 22))).toNat) 0) 696 ((((4 * ((upS (upS (upS (upS (upS S900 682 0 0) 682 12 0) 682 13 0) 682 22 0) 696 (((4 * ((upS (upS (upS (upS S900 682 0 0) 682 12 0) 682 13 0) 682 22 0) 682 22))).toNat) 0) 682 22)) + 1)).toNat) 0) 696 ((((4 * ((upS (upS (upS (upS (upS (upS S900 682 0 0) 682 12 0) 682 13 0) 682 22 0) 696 (((4 * ((upS (upS (upS (upS S900 682 0 0) 682 12 0) 682 13 0) 682 22 0) 682 22))).toNat) 0) 696 ((((4 * ((upS (upS (upS (upS (upS S900 682 0 0) 682 12 0) 682 13 0) 682 22 0) 696 (((4 * ((upS (upS (upS (upS S900 682 0 0) 682 12 0) 682 13 0) 682 22 0) 682 22))).toNat) 0) 682 22)) + 1)).toNat) 0) 682 22)) + 2)).toNat) 0) 682 22)) + 3) ≤ 2147483647 by first | omega | (simp [upS, hz, za1, z1a1, ca1, za2, z1a2, ca2, E900]; done) | (simp [upS, hz, za1, z1a1, ca1, za2, z1a2, ca2, E900]; omega)), ?_⟩
        refine ⟨(show 0 ≤ ((4 * ((upS (upS (upS (upS (upS (upS (upS S900 682 0 0) 682 12 0) 682 13 0) 682 22 0) 696 (((4 * ((upS (upS (upS (upS S900 682 0 0) 682 12 0) 682 13 0) 682 22 0) 682 22))).toNat) 0) 696 ((((4 * ((upS (upS (upS (upS (upS S900 682 0 0) 682 12 0) 682 13 0) 682 22 0) 696 (((4 * ((upS (upS (upS (upS S900 682 0 0) 682 12 0) 682 13 0) 682 22 0) 682 22))).toNat) 0) 682 22)) + 1)).toNat) 0) 696 ((((4 * ((upS (upS (upS (upS (upS (upS S900 682 0 0) 682 12 0) 682 13 0) 682 22 0) 696 (((4 * ((upS (upS (upS (upS S900 682 0 0) 682 12 0) 682 13 0) 682 22 0) 682 22))).toNat) 0) 696 ((((4 * ((upS (upS (upS (upS (upS S900 682 0 0) 682 12 0) 682 13 0) 682 22 0) 696 (((4 * ((upS (upS (upS (upS S900 682 0 0) 682 12 0) 682 13 0) 682 22 0) 682 22))).toNat) 0) 682 22)) + 1)).toNat) 0) 682 22)) + 2)).toNat) 0) 682 22)) + 3) ∧ ((4 * ((upS (upS (upS (upS (upS (upS (upS S900 682 0 0) 682 12 0) 682 13 0) 682 22 0) 696 (((4 * ((upS (upS (upS (upS S900 682 0 0) 682 12 0) 682 13 0) 682 22 0) 682 22))).toNat) 0) 696 ((((4 * ((upS (upS (upS (upS (upS S900 682 0 0) 682 12 0) 682 13 0) 682 22 0) 696 (((4 * ((upS (upS (upS (upS S900 682 0 0) 682 12 0) 682 13 0) 682 22 0) 682 22))).toNat) 0) 682 22)) + 1)).toNat) 0) 696 ((((4 * ((upS (upS (upS (upS (upS (upS S900 682 0 0) 682 12 0) 682 13 0) 682 22 0) 696 (((4 * ((upS (upS (upS (upS S900 682 0 0) 682 12 0) 682 13 0) 682 22 0) 682 22))).toNat) 0) 696 ((((4 * ((upS (upS (upS (upS (upS S900 682 0 0) 682 12 0) 682 13 0) 682 22 0) 696 (((4 * ((upS (upS (upS (upS S900 682 0 0) 682 12 0) 682 13 0) 682 22 0) 682 22))).toNat) 0) 682 22)) + 1)).toNat) 0) 682 22)) + 2)).toNat) 0) 682 22)) + 3) < 512 by first | omega | (simp [upS, hz, za1, z1a1, ca1, za2, z1a2, ca2, E900]; done) | (simp [upS, hz, za1, z1a1, ca1, za2, z1a2, ca2, E900]; omega)), ?_⟩
        refine ⟨(show -2147483648 ≤ (((upS (upS (upS (upS (upS (upS (upS (upS S900 682 0 0) 682 12 0) 682 13 0) 682 22 0) 696 (((4 * ((upS (upS (upS (upS S900 682 0 0) 682 12 0) 682 13 0) 682 22 0) 682 22))).toNat) 0) 696 ((((4 * ((upS (upS (upS (upS (upS S900 682 0 0) 682 12 0) 682 13 0) 682 22 0) 696 (((4 * ((upS (upS (upS (upS S900 682 0 0) 682 12 0) 682 13 0) 682 22 0) 682 22))).toNat) 0) 682 22)) + 1)).toNat) 0) 696 ((((4 * ((upS (upS (upS (upS (upS (upS S900 682 0 0) 682 12 0) 682 13 0) 682 22 0) 696 (((4 * ((upS (upS (upS (upS S900 682 0 0) 682 12 0) 682 13 0) 682 22 0) 682 22))).toNat) 0) 696 ((((4 * ((upS (upS (upS (upS (upS S900 682 0 0) 682 12 0) 682 13 0) 682 22 0) 696 (((4 * ((upS (upS (upS (upS S900 682 0 0) 682 12 0) 682 13 0) 682 22 0) 682 22))).toNat) 0) 682 22)) + 1)).toNat) 0) 682 22)) + 2)).toNat) 0) 696 ((((4 * ((upS (upS (upS (upS (upS (upS (upS S900 682 0 0) 682 12 0) 682 13 0) 682 22 0) 696 (((4 * ((upS (upS (upS (upS S900 682 0 0) 682 12 0) 682 13 0) 682 22 0) 682 22))).toNat) 0) 696 ((((4 * ((upS (upS (upS (upS (upS S900 682 0 0) 682 12 0) 682 13 0) 682 22 0) 696 (((4 * ((upS (upS (upS (upS S900 682 0 0) 682 12 0) 682 13 0) 682 22 0) 682 22))).toNat) 0) 682 22)) + 1)).toNat) 0) 696 ((((4 * ((upS (upS (upS (upS (upS (upS S900 682 0 0) 682 12 0) 682 13 0) 682 22 0) 696 (((4 * ((upS (upS (upS (upS S900 682 0 0) 682 12 0) 682 13 0) 682 22 0) 682 22))).toNat) 0) 696 ((((4 * ((upS (upS (upS (upS (upS S900 682 0 0) 682 12 0) 682 13 0) 682 22 0) 696 (((4 * ((upS (upS (upS (upS S900 682 0 0) 682 12 0) 682 13 0) 682 22 0) 682 22))).toNat) 0) 682 22)) + 1)).toNat) 0) 682 22)) + 2)).toNat) 0) 682 22)) + 3)).toNat) 0) 682 22) + 1) ∧ (((upS (upS (upS (upS (upS (upS (upS (upS S900 682 0 0) 682 12 0) 682 13 0) 682 22 0) 696 (((4 * ((upS (upS (upS (upS S900 682 0 0) 682 12 0) 682 13 0) 682 22 0) 682 22))).toNat) 0) 696 ((((4 * ((upS (upS (upS (upS (upS S900 682 0 0) 682 12 0) 682 13 0) 682 22 0) 696 (((4 * ((upS (upS (upS (upS S900 682 0 0) 682 12 0) 682 13 0) 682 22 0) 682 22))).toNat) 0) 682 22)) + 1)).toNat) 0) 696 ((((4 * ((upS (upS (upS (upS (upS (upS S900 682 0 0) 682 12 0) 682 13 0) 682 22 0) 696 (((4 * ((upS (upS (upS (upS S900 682 0 0) 682 12 0) 682 13 0) 682 22 0) 682 22))).toNat) 0) 696 ((((4 * ((upS (upS (upS (upS (upS S900 682 0 0) 682 12 0) 682 13 0) 682 22 0) 696 (((4 * ((upS (upS (upS (upS S900 682 0 0) 682 12 0) 682 13 0) 682 22 0) 682 22))).toNat) 0) 682 22)) + 1)).toNat) 0) 682 22)) + 2)).toNat) 0) 696 ((((4 * ((upS (upS (upS (upS (upS (upS (upS S900 682 0 0) 682 12 0) 682 13 0) 682 22 0) 696 (((4 * ((upS (upS (upS (upS S900 682 0 0) 682 12 0) 682 13 0) 682 22 0) 682 22))).toNat) 0) 696 ((((4 * ((upS (upS (upS (upS (upS S900 682 0 0) 682 12 0) 682 13 0) 682 22 0) 696 (((4 * ((upS (upS (upS (upS S900 682 0 0) 682 12 0) 682 13 0) 682 22 0) 682 22))).toNat) 0) 682 22)) + 1)).toNat) 0) 696 ((((4 * ((upS (upS (upS (upS (upS (upS S900 682 0 0) 682 12 0) 682 13 0) 682 22 0) 696 (((4 * ((upS (upS (upS (upS S900 682 0 0) 682 12 0) 682 13 0) 682 22 0) 682 22))).toNat) 0) 696 ((((4 * ((upS (upS (upS (upS (upS S900 682 0 0) 682 12 0) 682 13 0) 682 22 0) 696 (((4 * ((upS (upS (upS (upS S900 682 0 0) 682 12 0) 682 13 0) 682 22 0) 682 22))).toNat) 0) 682 22)) + 1)).toNat) 0) 682 22)) + 2)).toNat) 0) 682 22)) + 3)).toNat) 0) 682 22) + 1) ≤ 2147483647 by first | omega | (simp [upS, hz, za1, z1a1, ca1, za2, z1a2, ca2, E900]; done) | (simp [upS, hz, za1, z1a1, ca1, za2, z1a2, ca2, E900]; omega)), ?_⟩
        rw [(show (upS (upS (upS (upS (upS (upS (upS (upS (upS S900 682 0 0) 682 12 0) 682 13 0) 682 22 0) 696 (((4 * ((upS (upS (upS (upS S900 682 0 0) 682 12 0) 682 13 0) 682 22 0) 682 22))).toNat) 0) 696 ((((4 * ((upS (upS (upS (upS (upS S900 682 0 0) 682 12 0) 682 13 0) 682 22 0) 696 (((4 * ((upS (upS (upS (upS S900 682 0 0) 682 12 0) 682 13 0) 682 22 0) 682 22))).toNat) 0) 682 22)) + 1)).toNat) 0) 696 ((((4 * ((upS (upS (upS (upS (upS (upS S900 682 0 0) 682 12 0) 682 13 0) 682 22 0) 696 (((4 * ((upS (upS (upS (upS S900 682 0 0) 682 12 0) 682 13 0) 682 22 0) 682 22))).toNat) 0) 696 ((((4 * ((upS (upS (upS (upS (upS S900 682 0 0) 682 12 0) 682 13 0) 682 22 0) 696 (((4 * ((upS (upS (upS (upS S900 682 0 0) 682 12 0) 682 13 0) 682 22 0) 682 22))).toNat) 0) 682 22)) + 1)).toNat) 0) 682 22)) + 2)).toNat) 0) 696 ((((4 * ((upS (upS (upS (upS (upS (upS (upS S900 682 0 0) 682 12 0) 682 13 0) 682 22 0) 696 (((4 * ((upS (upS (upS (upS S900 682 0 0) 682 12 0) 682 13 0) 682 22 0) 682 22))).toNat) 0) 696 ((((4 * ((upS (upS (upS (upS (upS S900 682 0 0) 682 12 0) 682 13 0) 682 22 0) 696 (((4 * ((upS (upS (upS (upS S900 682 0 0) 682 12 0) 682 13 0) 682 22 0) 682 22))).toNat) 0) 682 22)) + 1)).toNat) 0) 696 ((((4 * ((upS (upS (upS (upS (upS (upS S900 682 0 0) 682 12 0) 682 13 0) 682 22 0) 696 (((4 * ((upS (upS (upS (upS S900 682 0 0) 682 12 0) 682 13 0) 682 22 0) 682 22))).toNat) 0) 696 ((((4 * ((upS (upS (upS (upS (upS S900 682 0 0) 682 12 0) 682 13 0) 682 22 0) 696 (((4 * ((upS (upS (upS (upS S900 682 0 0) 682 12 0) 682 13 0) 682 22 0) 682 22))).toNat) 0) 682 22)) + 1)).toNat) 0) 682 22)) + 2)).toNat) 0) 682 22)) + 3)).toNat) 0) 682 22 (((upS (upS (upS (upS (upS (upS (upS (upS S900 682 0 0) 682 12 0) 682 13 0) 682 22 0) 696 (((4 * ((upS (upS (upS (upS S900 682 0 0) 682 12 0) 682 13 0) 682 22 0) 682 22))).toNat) 0) 696 ((((4 * ((upS (upS (upS (upS (upS S900 682 0 0) 682 12 0) 682 13 0) 682 22 0) 696 (((4 * ((upS (upS (upS (upS S900 682 0 0) 682 12 0) 682 13 0) 682 22 0) 682 22))).toNat) 0) 682 22)) + 1)).toNat) 0) 696 ((((4 * ((upS (upS (upS (upS (upS (upS S900 682 0 0) 682 12 0) 682 13 0) 682 22 0) 696 (((4 * ((upS (upS (upS (upS S900 682 0 0) 682 12 0) 682 13 0) 682 22 0) 682 22))).toNat) 0) 696 ((((4 * ((upS (upS (upS (upS (upS S900 682 0 0) 682 12 0) 682 13 0) 682 22 0) 696 (((4 * ((upS (upS (upS (upS S900 682 0 0) 682 12 0) 682 13 0) 682 22 0) 682 22))).toNat) 0) 682 22)) + 1)).toNat) 0) 682 22)) + 2)).toNat) 0) 696 ((((4 * ((upS (upS (upS (upS (upS (upS (upS S900 682 0 0) 682 12 0) 682 13 0) 682 22 0) 696 (((4 * ((upS (upS (upS (upS S900 682 0 0) 682 12 0) 682 13 0) 682 22 0) 682 22))).toNat) 0) 696 ((((4 * ((upS (upS (upS (upS (upS S900 682 0 0) 682 12 0) 682 13 0) 682 22 0) 696 (((4 * ((upS (upS (upS (upS S900 682 0 0) 682 12 0) 682 13 0) 682 22 0) 682 22))).toNat) 0) 682 22)) + 1)).toNat) 0) 696 ((((4 * ((upS (upS (upS (upS (upS (upS S900 682 0 0) 682 12 0) 682 13 0) 682 22 0) 696 (((4 * ((upS (upS (upS (upS S900 682 0 0) 682 12 0) 682 13 0) 682 22 0) 682 22))).toNat) 0) 696 ((((4 * ((upS (upS (upS (upS (upS S900 682 0 0) 682 12 0) 682 13 0) 682 22 0) 696 (((4 * ((upS (upS (upS (upS S900 682 0 0) 682 12 0) 682 13 0) 682 22 0) 682 22))).toNat) 0) 682 22)) + 1)).toNat) 0) 682 22)) + 2)).toNat) 0) 682 22)) + 3)).toNat) 0) 682 22) + 1)) = (upS (upS (upS (upS (upS (upS (upS (upS (upS S900 682 0 0) 682 12 0) 682 13 0) 682 22 0) 696 0 0) 696 1 0) 696 2 0) 696 3 0) 682 22 1) from by rw [show (((upS (upS (upS (upS (upS (upS (upS (upS S900 682 0 0) 682 12 0) 682 13 0) 682 22 0) 696 (((4 * ((upS (upS (upS (upS S900 682 0 0) 682 12 0) 682 13 0) 682 22 0) 682 22))).toNat) 0) 696 ((((4 * ((upS (upS (upS (upS (upS S900 682 0 0) 682 12 0) 682 13 0) 682 22 0) 696 (((4 * ((upS (upS (upS (upS S900 682 0 0) 682 12 0) 682 13 0) 682 22 0) 682 22))).toNat) 0) 682 22)) + 1)).toNat) 0) 696 ((((4 * ((upS (upS (upS (upS (upS (upS S900 682 0 0) 682 12 0) 682 13 0) 682 22 0) 696 (((4 * ((upS (upS (upS (upS S900 682 0 0) 682 12 0) 682 13 0) 682 22 0) 682 22))).toNat) 0) 696 ((((4 * ((upS (upS (upS (upS (upS S900 682 0 0) 682 12 0) 682 13 0) 682 22 0) 696 (((4 * ((upS (upS (upS (upS S900 682 0 0) 682 12 0) 682 13 0) 682 22 0) 682 22))).toNat) 0) 682 22)) + 1)).toNat) 0) 682 22)) + 2)).toNat) 0) 696 ((((4 * ((upS (upS (upS (upS (upS (upS (upS S900 682 0 0) 682 12 0) 682 13 0) 682 22 0) 696 (((4 * ((upS (upS (upS (upS S900 682 0 0) 682 12 0) 682 13 0) 682 22 0) 682 22))).toNat) 0) 696 ((((4 * ((upS (upS (upS (upS (upS S900 682 0 0) 682 12 0) 682 13 0) 682 22 0) 696 (((4 * ((upS (upS (upS (upS S900 682 0 0) 682 12 0) 682 13 0) 682 22 0) 682 22))).toNat) 0) 682 22)) + 1)).toNat) 0) 696 ((((4 * ((upS (upS (upS (upS (upS (upS S900 682 0 0) 682 12 0) 682 13 0) 682 22 0) 696 (((4 * ((upS (upS (upS (upS S900 682 0 0) 682 12 0) 682 13 0) 682 22 0) 682 22))).toNat) 0) 696 ((((4 * ((upS (upS (upS (upS (upS S900 682 0 0) 682 12 0) 682 13 0) 682 22 0) 696 (((4 * ((upS (upS (upS (upS S900 682 0 0) 682 12 0) 682 13 0) 682 22 0) 682 22))).toNat) 0) 682 22)) + 1)).toNat) 0) 682 22)) + 2)).toNat) 0) 682 22)) + 3)).toNat) 0) 682 22) + 1) = 1 by (first | omega | (simp [upS, hz, za1, z1a1, ca1, za2, z1a2, ca2, E900]; done) | (simp [upS, hz, za1, z1a1, ca1, za2, z1a2, ca2, E900]; omega)), show ((((4 * ((upS (upS (upS (upS (upS (upS (upS S900 682 0 0) 682 12 0) 682 13 0) 682 22 0) 696 (((4 * ((upS (upS (upS (upS S900 682 0 0) 682 12 0) 682 13 0) 682 22 0) 682 22))).toNat) 0) 696 ((((4 * ((upS (upS (upS (upS (upS S900 682 0 0) 682 12 0) 682 13 0) 682 22 0) 696 (((4 * ((upS (upS (upS (upS S900 682 0 0) 682 12 0) 682 13 0) 682 22 0) 682 22))).toNat) 0) 682 22)) + 1)).toNat) 0) 696 ((((4 * ((upS (upS (upS (upS (upS (upS S900 682 0 0) 682 12 0) 682 13 0) 682 22 0) 696 (((4 * ((upS (upS (upS (upS S900 682 0 0) 682 12 0) 682 13 0) 682 22 0) 682 22))).toNat) 0) 696 ((((4 * ((upS (upS (upS (upS (upS S900 682 0 0) 682 12 0) 682 13 0) 682 22 0) 696 (((4 * ((upS (upS (upS (upS S900 682 0 0) 682 12 0) 682 13 0) 682 22 0) 682 22))).toNat) 0) 682 22)) + 1)).toNat) 0) 682 22)) + 2)).toNat) 0) 682 22)) + 3)).toNat) = 3 by (first | omega | (simp [upS, hz, za1, z1a1, ca1, za2, z1a2, ca2, E900]; done) | (simp [upS, hz, za1, z1a1, ca1, za2, z1a2, ca2, E900]; omega)), show ((((4 * ((upS (upS (upS (upS (upS (upS S900 682 0 0) 682 12 0) 682 13 0) 682 22 0) 696 (((4 * ((upS (upS (upS (upS S900 682 0 0) 682 12 0) 682 13 0) 682 22 0) 682 22))).toNat) 0) 696 ((((4 * ((upS (upS (upS (upS (upS S900 682 0 0) 682 12 0) 682 13 0) 682 22 0) 696 (((4 * ((upS (upS (upS (upS S900 682 0 0) 682 12 0) 682 13 0) 682 22 0) 682 22))).toNat) 0) 682 22)) + 1)).toNat) 0) 682 22)) + 2)).toNat) = 2 by (first | omega | (simp [upS, hz, za1, z1a1, ca1, za2, z1a2, ca2, E900]; done) | (simp [upS, hz, za1, z1a1, ca1, za2, z1a2, ca2, E900]; omega)), show ((((4 * ((upS (upS (upS (upS (upS S900 682 0 0) 682 12 0) 682 13 0) 682 22 0) 696 (((4 * ((upS (upS (upS (upS S900 682 0 0) 682 12 0) 682 13 0) 682 22 0) 682 22))).toNat) 0) 682 22)) + 1)).toNat) = 1 by (first | omega | (simp [upS, hz, za1, z1a1, ca1, za2, z1a2, ca2, E900]; done) | (simp [upS, hz, za1, z1a1, ca1, za2, z1a2, ca2, E900]; omega)), show (((4 * ((upS (upS (upS (upS S900 682 0 0) 682 12 0) 682 13 0) 682 22 0) 682 22))).toNat) = 0 by (first | omega | (simp [upS, hz, za1, z1a1, ca1, za2, z1a2, ca2, E900]; done) | (simp [upS, hz, za1, z1a1, ca1, za2, z1a2, ca2, E900]; omega))])]
        all_goals rfl
      obtain ⟨S34, E34⟩ : ∃ s : Sg, s = (upS (upS (upS (upS (upS (upS (upS (upS (upS S900 682 0 0) 682 12 0) 682 13 0) 682 22 0) 696 0 0) 696 1 0) 696 2 0) 696 3 0) 682 22 1) := ⟨_, rfl⟩
      rw [← E34] at hD33
      refine ⟨_, hD33, ?_⟩
      clear hD33
      refine b274_42 ?_
      rw [if_pos (show (0 : Int) < (S34 682 22) by first | omega | (simp [upS, hz, za1, z1a1, ca1, za2, z1a2, ca2, E900, E34]; done) | (simp [upS, hz, za1, z1a1, ca1, za2, z1a2, ca2, E900, E34]; omega))]
      refine ⟨(show -2147483648 ≤ ((S34 682 22) - 1) ∧ ((S34 682 22) - 1) ≤ 2147483647 by first | omega | (simp [upS, hz, za1, z1a1, ca1, za2, z1a2, ca2, E900, E34]; done) | (simp [upS, hz, za1, z1a1, ca1, za2, z1a2, ca2, E900, E34]; omega)), ?_⟩
      refine ⟨(show -2147483648 ≤ (4 * ((upS S34 682 22 ((S34 682 22) - 1)) 682 22)) ∧ (4 * ((upS S34 682 22 ((S34 682 22) - 1)) 682 22)) ≤ 2147483647 by first | omega | (simp [upS, hz, za1, z1a1, ca1, za2, z1a2, ca2, E900, E34]; done) | (simp [upS, hz, za1, z1a1, ca1, za2, z1a2, ca2, E900, E34]; omega)), ?_⟩
      refine ⟨(show 0 ≤ (4 * ((upS S34 682 22 ((S34 682 22) - 1)) 682 22)) ∧ (4 * ((upS S34 682 22 ((S34 682 22) - 1)) 682 22)) < 512 by first | omega | (simp [upS, hz, za1, z1a1, ca1, za2, z1a2, ca2, E900, E34]; done) | (simp [upS, hz, za1, z1a1, ca1, za2, z1a2, ca2, E900, E34]; omega)), ?_⟩
      refine ⟨(show -2147483648 ≤ (4 * ((upS (upS S34 682 22 ((S34 682 22) - 1)) 682 17 ((upS S34 682 22 ((S34 682 22) - 1)) 696 ((4 * ((upS S34 682 22 ((S34 682 22) - 1)) 682 22))).toNat)) 682 22)) ∧ (4 * ((upS (upS S34 682 22 ((S34 682 22) - 1)) 682 17 ((upS S34 682 22 ((S34 682 22) - 1)) 696 ((4 * ((upS S34 682 22 ((S34 682 22) - 1)) 682 22))).toNat)) 682 22)) ≤ 2147483647 by first | omega | (simp [upS, hz, za1, z1a1, ca1, za2, z1a2, ca2, E900, E34]; done) | (simp [upS, hz, za1, z1a1, ca1, za2, z1a2, ca2, E900, E34]; omega)), ?_⟩
      refine ⟨(show -2147483648 ≤ ((4 * ((upS (upS S34 682 22 ((S34 682 22) - 1)) 682 17 ((upS S34 682 22 ((S34 682 22) - 1)) 696 ((4 * ((upS S34 682 22 ((S34 682 22) - 1)) 682 22))).toNat)) 682 22)) + 1) ∧ ((4 * ((upS (upS S34 682 22 ((S34 682 22) - 1)) 682 17 ((upS S34 682 22 ((S34 682 22) - 1)) 696 ((4 * ((upS S34 682 22 ((S34 682 22) - 1)) 682 22))).toNat)) 682 22)) + 1) ≤ 2147483647 by first | omega | (simp [upS, hz, za1, z1a1, ca1, za2, z1a2, ca2, E900, E34]; done) | (simp [upS, hz, za1, z1a1, ca1, za2, z1a2, ca2, E900, E34]; omega)), ?_⟩
      refine ⟨(show 0 ≤ ((4 * ((upS (upS S34 682 22 ((S34 682 22) - 1)) 682 17 ((upS S34 682 22 ((S34 682 22) - 1)) 696 ((4 * ((upS S34 682 22 ((S34 682 22) - 1)) 682 22))).toNat)) 682 22)) + 1) ∧ ((4 * ((upS (upS S34 682 22 ((S34 682 22) - 1)) 682 17 ((upS S34 682 22 ((S34 682 22) - 1)) 696 ((4 * ((upS S34 682 22 ((S34 682 22) - 1)) 682 22))).toNat)) 682 22)) + 1) < 512 by first | omega | (simp [upS, hz, za1, z1a1, ca1, za2, z1a2, ca2, E900, E34]; done) | (simp [upS, hz, za1, z1a1, ca1, za2, z1a2, ca2, E900, E34]; omega)), ?_⟩
      refine ⟨(show -2147483648 ≤ (4 * ((upS (upS (upS S34 682 22 ((S34 682 22) - 1)) 682 17 ((upS S34 682 22 ((S34 682 22) - 1)) 696 ((4 * ((upS S34 682 22 ((S34 682 22) - 1)) 682 22))).toNat)) 682 18 ((upS (upS S34 682 22 ((S34 682 22) - 1)) 682 17 ((upS S34 682 22 ((S34 682 22) - 1)) 696 ((4 * ((upS S34 682 22 ((S34 682 22) - 1)) 682 22))).toNat)) 696 (((4 * ((upS (upS S34 682 22 ((S34 682 22) - 1)) 682 17 ((upS S34 682 22 ((S34 682 22) - 1)) 696 ((4 * ((upS S34 682 22 ((S34 682 22) - 1)) 682 22))).toNat)) 682 22)) + 1)).toNat)) 682 22)) ∧ (4 * ((upS (upS (upS S34 682 22 ((S34 682 22) - 1)) 682 17 ((upS S34 682 22 ((S34 682 22) - 1)) 696 ((4 * ((upS S34 682 22 ((S34 682 22) - 1)) 682 22))).toNat)) 682 18 ((upS (upS S34 682 22 ((S34 682 22) - 1)) 682 17 ((upS S34 682 22 ((S34 682 22) - 1)) 696 ((4 * ((upS S34 682 22 ((S34 682 22) - 1)) 682 22))).toNat)) 696 (((4 * ((upS (upS S34 682 22 ((S34 682 22) - 1)) 682 17 ((upS S34 682 22 ((S34 682 22) - 1)) 696 ((4 * ((upS S34 682 22 ((S34 682 22) - 1)) 682 22))).toNat)) 682 22)) + 1)).toNat)) 682 22)) ≤ 2147483647 by first | omega | (simp [upS, hz, za1, z1a1, ca1, za2, z1a2, ca2, E900, E34]; done) | (simp [upS, hz, za1, z1a1, ca1, za2, z1a2, ca2, E900, E34]; omega)), ?_⟩
      refine ⟨(show -2147483648 ≤ ((4 * ((upS (upS (upS S34 682 22 ((S34 682 22) - 1)) 682 17 ((upS S34 682 22 ((S34 682 22) - 1)) 696 ((4 * ((upS S34 682 22 ((S34 682 22) - 1)) 682 22))).toNat)) 682 18 ((upS (upS S34 682 22 ((S34 682 22) - 1)) 682 17 ((upS S34 682 22 ((S34 682 22) - 1)) 696 ((4 * ((upS S34 682 22 ((S34 682 22) - 1)) 682 22))).toNat)) 696 (((4 * ((upS (upS S34 682 22 ((S34 682 22) - 1)) 682 17 ((upS S34 682 22 ((S34 682 22) - 1)) 696 ((4 * ((upS S34 682 22 ((S34 682 22) - 1)) 682 22))).toNat)) 682 22)) + 1)).toNat)) 682 22)) + 2) ∧ ((4 * ((upS (upS (upS S34 682 22 ((S34 682 22) - 1)) 682 17 ((upS S34 682 22 ((S34 682 22) - 1)) 696 ((4 * ((upS S34 682 22 ((S34 682 22) - 1)) 682 22))).toNat)) 682 18 ((upS (upS S34 682 22 ((S34 682 22) - 1)) 682 17 ((upS S34 682 22 ((S34 682 22) - 1)) 696 ((4 * ((upS S34 682 22 ((S34 682 22) - 1)) 682 22))).toNat)) 696 (((4 * ((upS (upS S34 682 22 ((S34 682 22) - 1)) 682 17 ((upS S34 682 22 ((S34 682 22) - 1)) 696 ((4 * ((upS S34 682 22 ((S34 682 22) - 1)) 682 22))).toNat)) 682 22)) + 1)).toNat)) 682 22)) + 2) ≤ 2147483647 by first | omega | (simp [upS, hz, za1, z1a1, ca1, za2, z1a2, ca2, E900, E34]; done) | (simp [upS, hz, za1, z1a1, ca1, za2, z1a2, ca2, E900, E34]; omega)), ?_⟩
      refine ⟨(show 0 ≤ ((4 * ((upS (upS (upS S34 682 22 ((S34 682 22) - 1)) 682 17 ((upS S34 682 22 ((S34 682 22) - 1)) 696 ((4 * ((upS S34 682 22 ((S34 682 22) - 1)) 682 22))).toNat)) 682 18 ((upS (upS S34 682 22 ((S34 682 22) - 1)) 682 17 ((upS S34 682 22 ((S34 682 22) - 1)) 696 ((4 * ((upS S34 682 22 ((S34 682 22) - 1)) 682 22))).toNat)) 696 (((4 * ((upS (upS S34 682 22 ((S34 682 22) - 1)) 682 17 ((upS S34 682 22 ((S34 682 22) - 1)) 696 ((4 * ((upS S34 682 22 ((S34 682 22) - 1)) 682 22))).toNat)) 682 22)) + 1)).toNat)) 682 22)) + 2) ∧ ((4 * ((upS (upS (upS S34 682 22 ((S34 682 22) - 1)) 682 17 ((upS S34 682 22 ((S34 682 22) - 1)) 696 ((4 * ((upS S34 682 22 ((S34 682 22) - 1)) 682 22))).toNat)) 682 18 ((upS (upS S34 682 22 ((S34 682 22) - 1)) 682 17 ((upS S34 682 22 ((S34 682 22) - 1)) 696 ((4 * ((upS S34 682 22 ((S34 682 22) - 1)) 682 22))).toNat)) 696 (((4 * ((upS (upS S34 682 22 ((S34 682 22) - 1)) 682 17 ((upS S34 682 22 ((S34 682 22) - 1)) 696 ((4 * ((upS S34 682 22 ((S34 682 22) - 1)) 682 22))).toNat)) 682 22)) + 1)).toNat)) 682 22)) + 2) < 512 by first | omega | (simp [upS, hz, za1, z1a1, ca1, za2, z1a2, ca2, E900, E34]; done) | (simp [upS, hz, za1, z1a1, ca1, za2, z1a2, ca2, E900, E34]; omega)), ?_⟩
      refine ⟨(show -2147483648 ≤ (4 * ((upS (upS (upS (upS S34 682 22 ((S34 682 22) - 1)) 682 17 ((upS S34 682 22 ((S34 682 22) - 1)) 696 ((4 * ((upS S34 682 22 ((S34 682 22) - 1)) 682 22))).toNat)) 682 18 ((upS (upS S34 682 22 ((S34 682 22) - 1)) 682 17 ((upS S34 682 22 ((S34 682 22) - 1)) 696 ((4 * ((upS S34 682 22 ((S34 682 22) - 1)) 682 22))).toNat)) 696 (((4 * ((upS (upS S34 682 22 ((S34 682 22) - 1)) 682 17 ((upS S34 682 22 ((S34 682 22) - 1)) 696 ((4 * ((upS S34 682 22 ((S34 682 22) - 1)) 682 22))).toNat)) 682 22)) + 1)).toNat)) 682 19 ((upS (upS (upS S34 682 22 ((S34 682 22) - 1)) 682 17 ((upS S34 682 22 ((S34 682 22) - 1)) 696 ((4 * ((upS S34 682 22 ((S34 682 22) - 1)) 682 22))).toNat)) 682 18 ((upS (upS S34 682 22 ((S34 682 22) - 1)) 682 17 ((upS S34 682 22 ((S34 682 22) - 1)) 696 ((4 * ((upS S34 682 22 ((S34 682 22) - 1)) 682 22))).toNat)) 696 (((4 * ((upS (upS S34 682 22 ((S34 682 22) - 1)) 682 17 ((upS S34 682 22 ((S34 682 22) - 1)) 696 ((4 * ((upS S34 682 22 ((S34 682 22) - 1)) 682 22))).toNat)) 682 22)) + 1)).toNat)) 696 (((4 * ((upS (upS (upS S34 682 22 ((S34 682 22) - 1)) 682 17 ((upS S34 682 22 ((S34 682 22) - 1)) 696 ((4 * ((upS S34 682 22 ((S34 682 22) - 1)) 682 22))).toNat)) 682 18 ((upS (upS S34 682 22 ((S34 682 22) - 1)) 682 17 ((upS S34 682 22 ((S34 682 22) - 1)) 696 ((4 * ((upS S34 682 22 ((S34 682 22) - 1)) 682 22))).toNat)) 696 (((4 * ((upS (upS S34 682 22 ((S34 682 22) - 1)) 682 17 ((upS S34 682 22 ((S34 682 22) - 1)) 696 ((4 * ((upS S34 682 22 ((S34 682 22) - 1)) 682 22))).toNat)) 682 22)) + 1)).toNat)) 682 22)) + 2)).toNat)) 682 22)) ∧ (4 * ((upS (upS (upS (upS S34 682 22 ((S34 682 22) - 1)) 682 17 ((upS S34 682 22 ((S34 682 22) - 1)) 696 ((4 * ((upS S34 682 22 ((S34 682 22) - 1)) 682 22))).toNat)) 682 18 ((upS (upS S34 682 22 ((S34 682 22) - 1)) 682 17 ((upS S34 682 22 ((S34 682 22) - 1)) 696 ((4 * ((upS S34 682 22 ((S34 682 22) - 1)) 682 22))).toNat)) 696 (((4 * ((upS (upS S34 682 22 ((S34 682 22) - 1)) 682 17 ((upS S34 682 22 ((S34 682 22) - 1)) 696 ((4 * ((upS S34 682 22 ((S34 682 22) - 1)) 682 22))).toNat)) 682 22)) + 1)).toNat)) 682 19 ((upS (upS (upS S34 682 22 ((S34 682 22) - 1)) 682 17 ((upS S34 682 22 ((S34 682 22) - 1)) 696 ((4 * ((upS S34 682 22 ((S34 682 22) - 1)) 682 22))).toNat)) 682 18 ((upS (upS S34 682 22 ((S34 682 22) - 1)) 682 17 ((upS S34 682 22 ((S34 682 22) - 1)) 696 ((4 * ((upS S34 682 22 ((S34 682 22) - 1)) 682 22))).toNat)) 696 (((4 * ((upS (upS S34 682 22 ((S34 682 22) - 1)) 682 17 ((upS S34 682 22 ((S34 682 22) - 1)) 696 ((4 * ((upS S34 682 22 ((S34 682 22) - 1)) 682 22))).toNat)) 682 22)) + 1)).toNat)) 696 (((4 * ((upS (upS (upS S34 682 22 ((S34 682 22) - 1)) 682 17 ((upS S34 682 22 ((S34 682 22) - 1)) 696 ((4 * ((upS S34 682 22 ((S34 682 22) - 1)) 682 22))).toNat)) 682 18 ((upS (upS S34 682 22 ((S34 682 22) - 1)) 682 17 ((upS S34 682 22 ((S34 682 22) - 1)) 696 ((4 * ((upS S34 682 22 ((S34 682 22) - 1)) 682 22))).toNat)) 696 (((4 * ((upS (upS S34 682 22 ((S34 682 22) - 1)) 682 17 ((upS S34 682 22 ((S34 682 22) - 1)) 696 ((4 * ((upS S34 682 22 ((S34 682 22) - 1)) 682 22))).toNat)) 682 22)) + 1)).toNat)) 682 22)) + 2)).toNat)) 682 22)) ≤ 2147483647 by first | omega | (simp [upS, hz, za1, z1a1, ca1, za2, z1a2, ca2, E900, E34]; done) | (simp [upS, hz, za1, z1a1, ca1, za2, z1a2, ca2, E900, E34]; omega)), ?_⟩
      refine ⟨(show -2147483648 ≤ ((4 * ((upS (upS (upS (upS S34 682 22 ((S34 682 22) - 1)) 682 17 ((upS S34 682 22 ((S34 682 22) - 1)) 696 ((4 * ((upS S34 682 22 ((S34 682 22) - 1)) 682 22))).toNat)) 682 18 ((upS (upS S34 682 22 ((S34 682 22) - 1)) 682 17 ((upS S34 682 22 ((S34 682 22) - 1)) 696 ((4 * ((upS S34 682 22 ((S34 682 22) - 1)) 682 22))).toNat)) 696 (((4 * ((upS (upS S34 682 22 ((S34 682 22) - 1)) 682 17 ((upS S34 682 22 ((S34 682 22) - 1)) 696 ((4 * ((upS S34 682 22 ((S34 682 22) - 1)) 682 22))).toNat)) 682 22)) + 1)).toNat)) 682 19 ((upS (upS (upS S34 682 22 ((S34 682 22) - 1)) 682 17 ((upS S34 682 22 ((S34 682 22) - 1)) 696 ((4 * ((upS S34 682 22 ((S34 682 22) - 1)) 682 22))).toNat)) 682 18 ((upS (upS S34 682 22 ((S34 682 22) - 1)) 682 17 ((upS S34 682 22 ((S34 682 22) - 1)) 696 ((4 * ((upS S34 682 22 ((S34 682 22) - 1)) 682 22))).toNat)) 696 (((4 * ((upS (upS S34 682 22 ((S34 682 22) - 1)) 682 17 ((upS S34 682 22 ((S34 682 22) - 1)) 696 ((4 * ((upS S34 682 22 ((S34 682 22) - 1)) 682 22))).toNat)) 682 22)) + 1)).toNat)) 696 (((4 * ((upS (upS (upS S34 682 22 ((S34 682 22) - 1)) 682 17 ((upS S34 682 22 ((S34 682 22) - 1)) 696 ((4 * ((upS S34 682 22 ((S34 682 22) - 1)) 682 22))).toNat)) 682 18 ((upS (upS S34 682 22 ((S34 682 22) - 1)) 682 17 ((upS S34 682 22 ((S34 682 22) - 1)) 696 ((4 * ((upS S34 682 22 ((S34 682 22) - 1)) 682 22))).toNat)) 696 (((4 * ((upS (upS S34 682 22 ((S34 682 22) - 1)) 682 17 ((upS S34 682 22 ((S34 682 22) - 1)) 696 ((4 * ((upS S34 682 22 ((S34 682 22) - 1)) 682 22))).toNat)) 682 22)) + 1)).toNat)) 682 22)) + 2)).toNat)) 682 22)) + 3) ∧ ((4 * ((upS (upS (upS (upS S34 682 22 ((S34 682 22) - 1)) 682 17 ((upS S34 682 22 ((S34 682 22) - 1)) 696 ((4 * ((upS S34 682 22 ((S34 682 22) - 1)) 682 22))).toNat)) 682 18 ((upS (upS S34 682 22 ((S34 682 22) - 1)) 682 17 ((upS S34 682 22 ((S34 682 22) - 1)) 696 ((4 * ((upS S34 682 22 ((S34 682 22) - 1)) 682 22))).toNat)) 696 (((4 * ((upS (upS S34 682 22 ((S34 682 22) - 1)) 682 17 ((upS S34 682 22 ((S34 682 22) - 1)) 696 ((4 * ((upS S34 682 22 ((S34 682 22) - 1)) 682 22))).toNat)) 682 22)) + 1)).toNat)) 682 19 ((upS (upS (upS S34 682 22 ((S34 682 22) - 1)) 682 17 ((upS S34 682 22 ((S34 682 22) - 1)) 696 ((4 * ((upS S34 682 22 ((S34 682 22) - 1)) 682 22))).toNat)) 682 18 ((upS (upS S34 682 22 ((S34 682 22) - 1)) 682 17 ((upS S34 682 22 ((S34 682 22) - 1)) 696 ((4 * ((upS S34 682 22 ((S34 682 22) - 1)) 682 22))).toNat)) 696 (((4 * ((upS (upS S34 682 22 ((S34 682 22) - 1)) 682 17 ((upS S34 682 22 ((S34 682 22) - 1)) 696 ((4 * ((upS S34 682 22 ((S34 682 22) - 1)) 682 22))).toNat)) 682 22)) + 1)).toNat)) 696 (((4 * ((upS (upS (upS S34 682 22 ((S34 682 22) - 1)) 682 17 ((upS S34 682 22 ((S34 682 22) - 1)) 696 ((4 * ((upS S34 682 22 ((S34 682 22) - 1)) 682 22))).toNat)) 682 18 ((upS (upS S34 682 22 ((S34 682 22) - 1)) 682 17 ((upS S34 682 22 ((S34 682 22) - 1)) 696 ((4 * ((upS S34 682 22 ((S34 682 22) - 1)) 682 22))).toNat)) 696 (((4 * ((upS (upS S34 682 22 ((S34 682 22) - 1)) 682 17 ((upS S34 682 22 ((S34 682 22) - 1)) 696 ((4 * ((upS S34 682 22 ((S34 682 22) - 1)) 682 22))).toNat)) 682 22)) + 1)).toNat)) 682 22)) + 2)).toNat)) 682 22)) + 3) ≤ 2147483647 by first | omega | (simp [upS, hz, za1, z1a1, ca1, za2, z1a2, ca2, E900, E34]; done) | (simp [upS, hz, za1, z1a1, ca1, za2, z1a2, ca2, E900, E34]; omega)), ?_⟩
      refine ⟨(show 0 ≤ ((4 * ((upS (upS (upS (upS S34 682 22 ((S34 682 22) - 1)) 682 17 ((upS S34 682 22 ((S34 682 22) - 1)) 696 ((4 * ((upS S34 682 22 ((S34 682 22) - 1)) 682 22))).toNat)) 682 18 ((upS (upS S34 682 22 ((S34 682 22) - 1)) 682 17 ((upS S34 682 22 ((S34 682 22) - 1)) 696 ((4 * ((upS S34 682 22 ((S34 682 22) - 1)) 682 22))).toNat)) 696 (((4 * ((upS (upS S34 682 22 ((S34 682 22) - 1)) 682 17 ((upS S34 682 22 ((S34 682 22) - 1)) 696 ((4 * ((upS S34 682 22 ((S34 682 22) - 1)) 682 22))).toNat)) 682 22)) + 1)).toNat)) 682 19 ((upS (upS (upS S34 682 22 ((S34 682 22) - 1)) 682 17 ((upS S34 682 22 ((S34 682 22) - 1)) 696 ((4 * ((upS S34 682 22 ((S34 682 22) - 1)) 682 22))).toNat)) 682 18 ((upS (upS S34 682 22 ((S34 682 22) - 1)) 682 17 ((upS S34 682 22 ((S34 682 22) - 1)) 696 ((4 * ((upS S34 682 22 ((S34 682 22) - 1)) 682 22))).toNat)) 696 (((4 * ((upS (upS S34 682 22 ((S34 682 22) - 1)) 682 17 ((upS S34 682 22 ((S34 682 22) - 1)) 696 ((4 * ((upS S34 682 22 ((S34 682 22) - 1)) 682 22))).toNat)) 682 22)) + 1)).toNat)) 696 (((4 * ((upS (upS (upS S34 682 22 ((S34 682 22) - 1)) 682 17 ((upS S34 682 22 ((S34 682 22) - 1)) 696 ((4 * ((upS S34 682 22 ((S34 682 22) - 1)) 682 22))).toNat)) 682 18 ((upS (upS S34 682 22 ((S34 682 22) - 1)) 682 17 ((upS S34 682 22 ((S34 682 22) - 1)) 696 ((4 * ((upS S34 682 22 ((S34 682 22) - 1)) 682 22))).toNat)) 696 (((4 * ((upS (upS S34 682 22 ((S34 682 22) - 1)) 682 17 ((upS S34 682 22 ((S34 682 22) - 1)) 696 ((4 * ((upS S34 682 22 ((S34 682 22) - 1)) 682 22))).toNat)) 682 22)) + 1)).toNat)) 682 22)) + 2)).toNat)) 682 22)) + 3) ∧ ((4 * ((upS (upS (upS (upS S34 682 22 ((S34 682 22) - 1)) 682 17 ((upS S34 682 22 ((S34 682 22) - 1)) 696 ((4 * ((upS S34 682 22 ((S34 682 22) - 1)) 682 22))).toNat)) 682 18 ((upS (upS S34 682 22 ((S34 682 22) - 1)) 682 17 ((upS S34 682 22 ((S34 682 22) - 1)) 696 ((4 * ((upS S34 682 22 ((S34 682 22) - 1)) 682 22))).toNat)) 696 (((4 * ((upS (upS S34 682 22 ((S34 682 22) - 1)) 682 17 ((upS S34 682 22 ((S34 682 22) - 1)) 696 ((4 * ((upS S34 682 22 ((S34 682 22) - 1)) 682 22))).toNat)) 682 22)) + 1)).toNat)) 682 19 ((upS (upS (upS S34 682 22 ((S34 682 22) - 1)) 682 17 ((upS S34 682 22 ((S34 682 22) - 1)) 696 ((4 * ((upS S34 682 22 ((S34 682 22) - 1)) 682 22))).toNat)) 682 18 ((upS (upS S34 682 22 ((S34 682 22) - 1)) 682 17 ((upS S34 682 22 ((S34 682 22) - 1)) 696 ((4 * ((upS S34 682 22 ((S34 682 22) - 1)) 682 22))).toNat)) 696 (((4 * ((upS (upS S34 682 22 ((S34 682 22) - 1)) 682 17 ((upS S34 682 22 ((S34 682 22) - 1)) 696 ((4 * ((upS S34 682 22 ((S34 682 22) - 1)) 682 22))).toNat)) 682 22)) + 1)).toNat)) 696 (((4 * ((upS (upS (upS S34 682 22 ((S34 682 22) - 1)) 682 17 ((upS S34 682 22 ((S34 682 22) - 1)) 696 ((4 * ((upS S34 682 22 ((S34 682 22) - 1)) 682 22))).toNat)) 682 18 ((upS (upS S34 682 22 ((S34 682 22) - 1)) 682 17 ((upS S34 682 22 ((S34 682 22) - 1)) 696 ((4 * ((upS S34 682 22 ((S34 682 22) - 1)) 682 22))).toNat)) 696 (((4 * ((upS (upS S34 682 22 ((S34 682 22) - 1)) 682 17 ((upS S34 682 22 ((S34 682 22) - 1)) 696 ((4 * ((upS S34 682 22 ((S34 682 22) - 1)) 682 22))).toNat)) 682 22)) + 1)).toNat)) 682 22)) + 2)).toNat)) 682 22)) + 3) < 512 by first | omega | (simp [upS, hz, za1, z1a1, ca1, za2, z1a2, ca2, E900, E34]; done) | (simp [upS, hz, za1, z1a1, ca1, za2, z1a2, ca2, E900, E34]; omega)), ?_⟩
      rw [if_neg (show ¬ (a3 = 0) by first | omega | (simp [upS, hz, za1, z1a1, ca1, za2, z1a2, ca2, E900, E34]; done) | (simp [upS, hz, za1, z1a1, ca1, za2, z1a2, ca2, E900, E34]; omega))]
      rw [(show (upS (upS (upS (upS (upS S34 682 22 ((S34 682 22) - 1)) 682 17 ((upS S34 682 22 ((S34 682 22) - 1)) 696 ((4 * ((upS S34 682 22 ((S34 682 22) - 1)) 682 22))).toNat)) 682 18 ((upS (upS S34 682 22 ((S34 682 22) - 1)) 682 17 ((upS S34 682 22 ((S34 682 22) - 1)) 696 ((4 * ((upS S34 682 22 ((S34 682 22) - 1)) 682 22))).toNat)) 696 (((4 * ((upS (upS S34 682 22 ((S34 682 22) - 1)) 682 17 ((upS S34 682 22 ((S34 682 22) - 1)) 696 ((4 * ((upS S34 682 22 ((S34 682 22) - 1)) 682 22))).toNat)) 682 22)) + 1)).toNat)) 682 19 ((upS (upS (upS S34 682 22 ((S34 682 22) - 1)) 682 17 ((upS S34 682 22 ((S34 682 22) - 1)) 696 ((4 * ((upS S34 682 22 ((S34 682 22) - 1)) 682 22))).toNat)) 682 18 ((upS (upS S34 682 22 ((S34 682 22) - 1)) 682 17 ((upS S34 682 22 ((S34 682 22) - 1)) 696 ((4 * ((upS S34 682 22 ((S34 682 22) - 1)) 682 22))).toNat)) 696 (((4 * ((upS (upS S34 682 22 ((S34 682 22) - 1)) 682 17 ((upS S34 682 22 ((S34 682 22) - 1)) 696 ((4 * ((upS S34 682 22 ((S34 682 22) - 1)) 682 22))).toNat)) 682 22)) + 1)).toNat)) 696 (((4 * ((upS (upS (upS S34 682 22 ((S34 682 22) - 1)) 682 17 ((upS S34 682 22 ((S34 682 22) - 1)) 696 ((4 * ((upS S34 682 22 ((S34 682 22) - 1)) 682 22))).toNat)) 682 18 ((upS (upS S34 682 22 ((S34 682 22) - 1)) 682 17 ((upS S34 682 22 ((S34 682 22) - 1)) 696 ((4 * ((upS S34 682 22 ((S34 682 22) - 1)) 682 22))).toNat)) 696 (((4 * ((upS (upS S34 682 22 ((S34 682 22) - 1)) 682 17 ((upS S34 682 22 ((S34 682 22) - 1)) 696 ((4 * ((upS S34 682 22 ((S34 682 22) - 1)) 682 22))).toNat)) 682 22)) + 1)).toNat)) 682 22)) + 2)).toNat)) 682 20 ((upS (upS (upS (upS S34 682 22 ((S34 682 22) - 1)) 682 17 ((upS S34 682 22 ((S34 682 22) - 1)) 696 ((4 * ((upS S34 682 22 ((S34 682 22) - 1)) 682 22))).toNat)) 682 18 ((upS (upS S34 682 22 ((S34 682 22) - 1)) 682 17 ((upS S34 682 22 ((S34 682 22) - 1)) 696 ((4 * ((upS S34 682 22 ((S34 682 22) - 1)) 682 22))).toNat)) 696 (((4 * ((upS (upS S34 682 22 ((S34 682 22) - 1)) 682 17 ((upS S34 682 22 ((S34 682 22) - 1)) 696 ((4 * ((upS S34 682 22 ((S34 682 22) - 1)) 682 22))).toNat)) 682 22)) + 1)).toNat)) 682 19 ((upS (upS (upS S34 682 22 ((S34 682 22) - 1)) 682 17 ((upS S34 682 22 ((S34 682 22) - 1)) 696 ((4 * ((upS S34 682 22 ((S34 682 22) - 1)) 682 22))).toNat)) 682 18 ((upS (upS S34 682 22 ((S34 682 22) - 1)) 682 17 ((upS S34 682 22 ((S34 682 22) - 1)) 696 ((4 * ((upS S34 682 22 ((S34 682 22) - 1)) 682 22))).toNat)) 696 (((4 * ((upS (upS S34 682 22 ((S34 682 22) - 1)) 682 17 ((upS S34 682 22 ((S34 682 22) - 1)) 696 ((4 * ((upS S34 682 22 ((S34 682 22) - 1)) 682 22))).toNat)) 682 22)) + 1)).toNat)) 696 (((4 * ((upS (upS (upS S34 682 22 ((S34 682 22) - 1)) 682 17 ((upS S34 682 22 ((S34 682 22) - 1)) 696 ((4 * ((upS S34 682 22 ((S34 682 22) - 1)) 682 22))).toNat)) 682 18 ((upS (upS S34 682 22 ((S34 682 22) - 1)) 682 17 ((upS S34 682 22 ((S34 682 22) - 1)) 696 ((4 * ((upS S34 682 22 ((S34 682 22) - 1)) 682 22))).toNat)) 696 (((4 * ((upS (upS S34 682 22 ((S34 682 22) - 1)) 682 17 ((upS S34 682 22 ((S34 682 22) - 1)) 696 ((4 * ((upS S34 682 22 ((S34 682 22) - 1)) 682 22))).toNat)) 682 22)) + 1)).toNat)) 682 22)) + 2)).toNat)) 696 (((4 * ((upS (upS (upS (upS S34 682 22 ((S34 682 22) - 1)) 682 17 ((upS S34 682 22 ((S34 682 22) - 1)) 696 ((4 * ((upS S34 682 22 ((S34 682 22) - 1)) 682 22))).toNat)) 682 18 ((upS (upS S34 682 22 ((S34 682 22) - 1)) 682 17 ((upS S34 682 22 ((S34 682 22) - 1)) 696 ((4 * ((upS S34 682 22 ((S34 682 22) - 1)) 682 22))).toNat)) 696 (((4 * ((upS (upS S34 682 22 ((S34 682 22) - 1)) 682 17 ((upS S34 682 22 ((S34 682 22) - 1)) 696 ((4 * ((upS S34 682 22 ((S34 682 22) - 1)) 682 22))).toNat)) 682 22)) + 1)).toNat)) 682 19 ((upS (upS (upS S34 682 22 ((S34 682 22) - 1)) 682 17 ((upS S34 682 22 ((S34 682 22) - 1)) 696 ((4 * ((upS S34 682 22 ((S34 682 22) - 1)) 682 22))).toNat)) 682 18 ((upS (upS S34 682 22 ((S34 682 22) - 1)) 682 17 ((upS S34 682 22 ((S34 682 22) - 1)) 696 ((4 * ((upS S34 682 22 ((S34 682 22) - 1)) 682 22))).toNat)) 696 (((4 * ((upS (upS S34 682 22 ((S34 682 22) - 1)) 682 17 ((upS S34 682 22 ((S34 682 22) - 1)) 696 ((4 * ((upS S34 682 22 ((S34 682 22) - 1)) 682 22))).toNat)) 682 22)) + 1)).toNat)) 696 (((4 * ((upS (upS (upS S34 682 22 ((S34 682 22) - 1)) 682 17 ((upS S34 682 22 ((S34 682 22) - 1)) 696 ((4 * ((upS S34 682 22 ((S34 682 22) - 1)) 682 22))).toNat)) 682 18 ((upS (upS S34 682 22 ((S34 682 22) - 1)) 682 17 ((upS S34 682 22 ((S34 682 22) - 1)) 696 ((4 * ((upS S34 682 22 ((S34 682 22) - 1)) 682 22))).toNat)) 696 (((4 * ((upS (upS S34 682 22 ((S34 682 22) - 1)) 682 17 ((upS S34 682 22 ((S34 682 22) - 1)) 696 ((4 * ((upS S34 682 22 ((S34 682 22) - 1)) 682 22))).toNat)) 682 22)) + 1)).toNat)) 682 22)) + 2)).toNat)) 682 22)) + 3)).toNat)) = (upS (upS (upS (upS (upS S34 682 22 0) 682 17 0) 682 18 0) 682 19 0) 682 20 0) from by rw [show ((upS (upS (upS (upS S34 682 22 ((S34 682 22) - 1)) 682 17 ((upS S34 682 22 ((S34 682 22) - 1)) 696 ((4 * ((upS S34 682 22 ((S34 682 22) - 1)) 682 22))).toNat)) 682 18 ((upS (upS S34 682 22 ((S34 682 22) - 1)) 682 17 ((upS S34 682 22 ((S34 682 22) - 1)) 696 ((4 * ((upS S34 682 22 ((S34 682 22) - 1)) 682 22))).toNat)) 696 (((4 * ((upS (upS S34 682 22 ((S34 682 22) - 1)) 682 17 ((upS S34 682 22 ((S34 682 22) - 1)) 696 ((4 * ((upS S34 682 22 ((S34 682 22) - 1)) 682 22))).toNat)) 682 22)) + 1)).toNat)) 682 19 ((upS (upS (upS S34 682 22 ((S34 682 22) - 1)) 682 17 ((upS S34 682 22 ((S34 682 22) - 1)) 696 ((4 * ((upS S34 682 22 ((S34 682 22) - 1)) 682 22))).toNat)) 682 18 ((upS (upS S34 682 22 ((S34 682 22) - 1)) 682 17 ((upS S34 682 22 ((S34 682 22) - 1)) 696 ((4 * ((upS S34 682 22 ((S34 682 22) - 1)) 682 22))).toNat)) 696 (((4 * ((upS (upS S34 682 22 ((S34 682 22) - 1)) 682 17 ((upS S34 682 22 ((S34 682 22) - 1)) 696 ((4 * ((upS S34 682 22 ((S34 682 22) - 1)) 682 22))).toNat)) 682 22)) + 1)).toNat)) 696 (((4 * ((upS (upS (upS S34 682 22 ((S34 682 22) - 1)) 682 17 ((upS S34 682 22 ((S34 682 22) - 1)) 696 ((4 * ((upS S34 682 22 ((S34 682 22) - 1)) 682 22))).toNat)) 682 18 ((upS (upS S34 682 22 ((S34 682 22) - 1)) 682 17 ((upS S34 682 22 ((S34 682 22) - 1)) 696 ((4 * ((upS S34 682 22 ((S34 682 22) - 1)) 682 22))).toNat)) 696 (((4 * ((upS (upS S34 682 22 ((S34 682 22) - 1)) 682 17 ((upS S34 682 22 ((S34 682 22) - 1)) 696 ((4 * ((upS S34 682 22 ((S34 682 22) - 1)) 682 22))).toNat)) 682 22)) + 1)).toNat)) 682 22)) + 2)).toNat)) 696 (((4 * ((upS (upS (upS (upS S34 682 22 ((S34 682 22) - 1)) 682 17 ((upS S34 682 22 ((S34 682 22) - 1)) 696 ((4 * ((upS S34 682 22 ((S34 682 22) - 1)) 682 22))).toNat)) 682 18 ((upS (upS S34 682 22 ((S34 682 22) - 1)) 682 17 ((upS S34 682 22 ((S34 682 22) - 1)) 696 ((4 * ((upS S34 682 22 ((S34 682 22) - 1)) 682 22))).toNat)) 696 (((4 * ((upS (upS S34 682 22 ((S34 682 22) - 1)) 682 17 ((upS S34 682 22 ((S34 682 22) - 1)) 696 ((4 * ((upS S34 682 22 ((S34 682 22) - 1)) 682 22))).toNat)) 682 22)) + 1)).toNat)) 682 19 ((upS (upS (upS S34 682 22 ((S34 682 22) - 1)) 682 17 ((upS S34 682 22 ((S34 682 22) - 1)) 696 ((4 * ((upS S34 682 22 ((S34 682 22) - 1)) 682 22))).toNat)) 682 18 ((upS (upS S34 682 22 ((S34 682 22) - 1)) 682 17 ((upS S34 682 22 ((S34 682 22) - 1)) 696 ((4 * ((upS S34 682 22 ((S34 682 22) - 1)) 682 22))).toNat)) 696 (((4 * ((upS (upS S34 682 22 ((S34 682 22) - 1)) 682 17 ((upS S34 682 22 ((S34 682 22) - 1)) 696 ((4 * ((upS S34 682 22 ((S34 682 22) - 1)) 682 22))).toNat)) 682 22)) + 1)).toNat)) 696 (((4 * ((upS (upS (upS S34 682 22 ((S34 682 22) - 1)) 682 17 ((upS S34 682 22 ((S34 682 22) - 1)) 696 ((4 * ((upS S34 682 22 ((S34 682 22) - 1)) 682 22))).toNat)) 682 18 ((upS (upS S34 682 22 ((S34 682 22) - 1)) 682 17 ((upS S34 682 22 ((S34 682 22) - 1)) 696 ((4 * ((upS S34 682 22 ((S34 682 22) - 1)) 682 22))).toNat)) 696 (((4 * ((upS (upS S34 682 22 ((S34 682 22) - 1)) 682 17 ((upS S34 682 22 ((S34 682 22) - 1)) 696 ((4 * ((upS S34 682 22 ((S34 682 22) - 1)) 682 22))).toNat)) 682 22)) + 1)).toNat)) 682 22)) + 2)).toNat)) 682 22)) + 3)).toNat) = 0 by (first | omega | (simp [upS, hz, za1, z1a1, ca1, za2, z1a2, ca2, E900, E34]; done) | (simp [upS, hz, za1, z1a1, ca1, za2, z1a2, ca2, E900, E34]; omega)), show ((upS (upS (upS S34 682 22 ((S34 682 22) - 1)) 682 17 ((upS S34 682 22 ((S34 682 22) - 1)) 696 ((4 * ((upS S34 682 22 ((S34 682 22) - 1)) 682 22))).toNat)) 682 18 ((upS (upS S34 682 22 ((S34 682 22) - 1)) 682 17 ((upS S34 682 22 ((S34 682 22) - 1)) 696 ((4 * ((upS S34 682 22 ((S34 682 22) - 1)) 682 22))).toNat)) 696 (((4 * ((upS (upS S34 682 22 ((S34 682 22) - 1)) 682 17 ((upS S34 682 22 ((S34 682 22) - 1)) 696 ((4 * ((upS S34 682 22 ((S34 682 22) - 1)) 682 22))).toNat)) 682 22)) + 1)).toNat)) 696 (((4 * ((upS (upS (upS S34 682 22 ((S34 682 22) - 1)) 682 17 ((upS S34 682 22 ((S34 682 22) - 1)) 696 ((4 * ((upS S34 682 22 ((S34 682 22) - 1)) 682 22))).toNat)) 682 18 ((upS (upS S34 682 22 ((S34 682 22) - 1)) 682 17 ((upS S34 682 22 ((S34 682 22) - 1)) 696 ((4 * ((upS S34 682 22 ((S34 682 22) - 1)) 682 22))).toNat)) 696 (((4 * ((upS (upS S34 682 22 ((S34 682 22) - 1)) 682 17 ((upS S34 682 22 ((S34 682 22) - 1)) 696 ((4 * ((upS S34 682 22 ((S34 682 22) - 1)) 682 22))).toNat)) 682 22)) + 1)).toNat)) 682 22)) + 2)).toNat) = 0 by (first | omega | (simp [upS, hz, za1, z1a1, ca1, za2, z1a2, ca2, E900, E34]; done) | (simp [upS, hz, za1, z1a1, ca1, za2, z1a2, ca2, E900, E34]; omega)), show ((upS (upS S34 682 22 ((S34 682 22) - 1)) 682 17 ((upS S34 682 22 ((S34 682 22) - 1)) 696 ((4 * ((upS S34 682 22 ((S34 682 22) - 1)) 682 22))).toNat)) 696 (((4 * ((upS (upS S34 682 22 ((S34 682 22) - 1)) 682 17 ((upS S34 682 22 ((S34 682 22) - 1)) 696 ((4 * ((upS S34 682 22 ((S34 682 22) - 1)) 682 22))).toNat)) 682 22)) + 1)).toNat) = 0 by (first | omega | (simp [upS, hz, za1, z1a1, ca1, za2, z1a2, ca2, E900, E34]; done) | (simp [upS, hz, za1, z1a1, ca1, za2, z1a2, ca2, E900, E34]; omega)), show ((upS S34 682 22 ((S34 682 22) - 1)) 696 ((4 * ((upS S34 682 22 ((S34 682 22) - 1)) 682 22))).toNat) = 0 by (first | omega | (simp [upS, hz, za1, z1a1, ca1, za2, z1a2, ca2, E900, E34]; done) | (simp [upS, hz, za1, z1a1, ca1, za2, z1a2, ca2, E900, E34]; omega)), show ((S34 682 22) - 1) = 0 by (first | omega | (simp [upS, hz, za1, z1a1, ca1, za2, z1a2, ca2, E900, E34]; done) | (simp [upS, hz, za1, z1a1, ca1, za2, z1a2, ca2, E900, E34]; omega))])]
      have hD35 : Dd 268 [(.inr (.inr (some 682)))] (upS (upS (upS (upS (upS S34 682 22 0) 682 17 0) 682 18 0) 682 19 0) 682 20 0) (.inl none, (upS (upS (upS (upS (upS S34 682 22 0) 682 17 0) 682 18 0) 682 19 0) 682 20 0)) := by
        refine b268 ?_
        refine b268_0 ?_
        rw [if_neg (show ¬ (((upS (upS (upS (upS (upS S34 682 22 0) 682 17 0) 682 18 0) 682 19 0) 682 20 0) 682 17) < ((upS (upS (upS (upS (upS S34 682 22 0) 682 17 0) 682 18 0) 682 19 0) 682 20 0) 682 18)) by first | omega | (simp [upS, hz, za1, z1a1, ca1, za2, z1a2, ca2, E900, E34]; done) | (simp [upS, hz, za1, z1a1, ca1, za2, z1a2, ca2, E900, E34]; omega))]
        refine b268_79 ?_
        rw [if_neg (show ¬ (((upS (upS (upS (upS (upS S34 682 22 0) 682 17 0) 682 18 0) 682 19 0) 682 20 0) 682 17) < ((upS (upS (upS (upS (upS S34 682 22 0) 682 17 0) 682 18 0) 682 19 0) 682 20 0) 682 18)) by first | omega | (simp [upS, hz, za1, z1a1, ca1, za2, z1a2, ca2, E900, E34]; done) | (simp [upS, hz, za1, z1a1, ca1, za2, z1a2, ca2, E900, E34]; omega))]
        all_goals rfl
      refine ⟨_, hD35, ?_⟩
      clear hD35
      rw [if_neg (show ¬ (a3 = 1) by first | omega | (simp [upS, hz, za1, z1a1, ca1, za2, z1a2, ca2, E900, E34]; done) | (simp [upS, hz, za1, z1a1, ca1, za2, z1a2, ca2, E900, E34]; omega))]
      have hD41 : Dd 273 [(.inr (.inr (some 682)))] (upS (upS (upS (upS (upS S34 682 22 0) 682 17 0) 682 18 0) 682 19 0) 682 20 0) (.inl none, (upS (upS (upS (upS (upS (upS S34 682 22 0) 682 17 0) 682 18 0) 682 19 0) 682 20 0) 694 0 0)) := by
        refine b273 ?_
        rw [show ((upS (upS (upS (upS (upS S34 682 22 0) 682 17 0) 682 18 0) 682 19 0) 682 20 0) 682 17) = 0 by (first | omega | (simp [upS, hz, za1, z1a1, ca1, za2, z1a2, ca2, E900, E34]; done) | (simp [upS, hz, za1, z1a1, ca1, za2, z1a2, ca2, E900, E34]; omega))]
        refine b273_9 ?_
        rw [if_neg (show ¬ ((0 : Int) < ((upS (upS (upS (upS (upS S34 682 22 0) 682 17 0) 682 18 0) 682 19 0) 682 20 0) 682 18)) by first | omega | (simp [upS, hz, za1, z1a1, ca1, za2, z1a2, ca2, E900, E34]; done) | (simp [upS, hz, za1, z1a1, ca1, za2, z1a2, ca2, E900, E34]; omega))]
        rw [if_pos (show ((-1) : Int) = (-1) by first | omega | (simp [upS, hz, za1, z1a1, ca1, za2, z1a2, ca2, E900, E34]; done) | (simp [upS, hz, za1, z1a1, ca1, za2, z1a2, ca2, E900, E34]; omega))]
        have hD39 : Dd 266 [(.inr (.inr (some 682)))] (upS (upS (upS (upS (upS S34 682 22 0) 682 17 0) 682 18 0) 682 19 0) 682 20 0) (.inl none, (upS (upS (upS (upS (upS (upS S34 682 22 0) 682 17 0) 682 18 0) 682 19 0) 682 20 0) 694 0 0)) := by
          refine b266 ?_
          rw [show ((upS (upS (upS (upS (upS S34 682 22 0) 682 17 0) 682 18 0) 682 19 0) 682 20 0) 682 17) = 0 by (first | omega | (simp [upS, hz, za1, z1a1, ca1, za2, z1a2, ca2, E900, E34]; done) | (simp [upS, hz, za1, z1a1, ca1, za2, z1a2, ca2, E900, E34]; omega))]
          rw [show ((upS (upS (upS (upS (upS S34 682 22 0) 682 17 0) 682 18 0) 682 19 0) 682 20 0) 682 18) = 0 by (first | omega | (simp [upS, hz, za1, z1a1, ca1, za2, z1a2, ca2, E900, E34]; done) | (simp [upS, hz, za1, z1a1, ca1, za2, z1a2, ca2, E900, E34]; omega))]
          rw [show ((upS (upS (upS (upS (upS S34 682 22 0) 682 17 0) 682 18 0) 682 19 0) 682 20 0) 682 19) = 0 by (first | omega | (simp [upS, hz, za1, z1a1, ca1, za2, z1a2, ca2, E900, E34]; done) | (simp [upS, hz, za1, z1a1, ca1, za2, z1a2, ca2, E900, E34]; omega))]
          rw [show ((upS (upS (upS (upS (upS S34 682 22 0) 682 17 0) 682 18 0) 682 19 0) 682 20 0) 682 20) = 0 by (first | omega | (simp [upS, hz, za1, z1a1, ca1, za2, z1a2, ca2, E900, E34]; done) | (simp [upS, hz, za1, z1a1, ca1, za2, z1a2, ca2, E900, E34]; omega))]
          have hD37 : Dd 265 [(.inr (.inr (some 682))), (.inl 0), (.inl 0), (.inl 0), (.inl 0)] (upS (upS (upS (upS (upS S34 682 22 0) 682 17 0) 682 18 0) 682 19 0) 682 20 0) (.inl none, (upS (upS (upS (upS (upS (upS S34 682 22 0) 682 17 0) 682 18 0) 682 19 0) 682 20 0) 694 0 0)) := by
            refine b265 ?_
            refine b265_3 ?_
            rw [if_pos (show (0 : Int) ≤ 0 by first | omega | (simp [upS, hz, za1, z1a1, ca1, za2, z1a2, ca2, E900, E34]; done) | (simp [upS, hz, za1, z1a1, ca1, za2, z1a2, ca2, E900, E34]; omega))]
            refine b265_13 ?_
            rw [if_pos (show (0 : Int) ≤ 0 by first | omega | (simp [upS, hz, za1, z1a1, ca1, za2, z1a2, ca2, E900, E34]; done) | (simp [upS, hz, za1, z1a1, ca1, za2, z1a2, ca2, E900, E34]; omega))]
            rw [if_neg (show ¬ ((0 : Int) < 0) by first | omega | (simp [upS, hz, za1, z1a1, ca1, za2, z1a2, ca2, E900, E34]; done) | (simp [upS, hz, za1, z1a1, ca1, za2, z1a2, ca2, E900, E34]; omega))]
            refine b265_124 ?_
            refine ⟨(show (-2147483648 : Int) ≤ (65 * 0) ∧ ((65 * 0) : Int) ≤ 2147483647 by first | omega | (simp [upS, hz, za1, z1a1, ca1, za2, z1a2, ca2, E900, E34]; done) | (simp [upS, hz, za1, z1a1, ca1, za2, z1a2, ca2, E900, E34]; omega)), ?_⟩
            refine ⟨(show (-2147483648 : Int) ≤ ((65 * 0) + 0) ∧ (((65 * 0) + 0) : Int) ≤ 2147483647 by first | omega | (simp [upS, hz, za1, z1a1, ca1, za2, z1a2, ca2, E900, E34]; done) | (simp [upS, hz, za1, z1a1, ca1, za2, z1a2, ca2, E900, E34]; omega)), ?_⟩
            refine ⟨(show (0 : Int) ≤ ((65 * 0) + 0) ∧ (((65 * 0) + 0) : Int) < 4225 by first | omega | (simp [upS, hz, za1, z1a1, ca1, za2, z1a2, ca2, E900, E34]; done) | (simp [upS, hz, za1, z1a1, ca1, za2, z1a2, ca2, E900, E34]; omega)), ?_⟩
            refine ⟨(show (-2147483648 : Int) ≤ (0 + (-1)) ∧ ((0 + (-1)) : Int) ≤ 2147483647 by first | omega | (simp [upS, hz, za1, z1a1, ca1, za2, z1a2, ca2, E900, E34]; done) | (simp [upS, hz, za1, z1a1, ca1, za2, z1a2, ca2, E900, E34]; omega)), ?_⟩
            rw [(show (upS (upS (upS (upS (upS (upS S34 682 22 0) 682 17 0) 682 18 0) 682 19 0) 682 20 0) 694 ((((65 * 0) + 0) : Int).toNat) 0) = (upS (upS (upS (upS (upS (upS S34 682 22 0) 682 17 0) 682 18 0) 682 19 0) 682 20 0) 694 0 0) from by rw [show ((((65 * 0) + 0) : Int).toNat) = 0 by (first | omega | (simp [upS, hz, za1, z1a1, ca1, za2, z1a2, ca2, E900, E34]; done) | (simp [upS, hz, za1, z1a1, ca1, za2, z1a2, ca2, E900, E34]; omega))])]
            obtain ⟨S36, E36⟩ : ∃ s : Sg, s = (upS (upS (upS (upS (upS (upS S34 682 22 0) 682 17 0) 682 18 0) 682 19 0) 682 20 0) 694 0 0) := ⟨_, rfl⟩
            rw [← E36]
            rw [show ((0 + (-1)) : Int) = (-1) by (first | omega | (simp [upS, hz, za1, z1a1, ca1, za2, z1a2, ca2, E900, E34, E36]; done) | (simp [upS, hz, za1, z1a1, ca1, za2, z1a2, ca2, E900, E34, E36]; omega))]
            refine b265_13 ?_
            rw [if_neg (show ¬ ((0 : Int) ≤ (-1)) by first | omega | (simp [upS, hz, za1, z1a1, ca1, za2, z1a2, ca2, E900, E34, E36]; done) | (simp [upS, hz, za1, z1a1, ca1, za2, z1a2, ca2, E900, E34, E36]; omega))]
            refine ⟨(show (-2147483648 : Int) ≤ (0 + (-1)) ∧ ((0 + (-1)) : Int) ≤ 2147483647 by first | omega | (simp [upS, hz, za1, z1a1, ca1, za2, z1a2, ca2, E900, E34, E36]; done) | (simp [upS, hz, za1, z1a1, ca1, za2, z1a2, ca2, E900, E34, E36]; omega)), ?_⟩
            rw [show ((0 + (-1)) : Int) = (-1) by (first | omega | (simp [upS, hz, za1, z1a1, ca1, za2, z1a2, ca2, E900, E34, E36]; done) | (simp [upS, hz, za1, z1a1, ca1, za2, z1a2, ca2, E900, E34, E36]; omega))]
            refine b265_3 ?_
            rw [if_neg (show ¬ ((0 : Int) ≤ (-1)) by first | omega | (simp [upS, hz, za1, z1a1, ca1, za2, z1a2, ca2, E900, E34, E36]; done) | (simp [upS, hz, za1, z1a1, ca1, za2, z1a2, ca2, E900, E34, E36]; omega))]
            all_goals (first | rfl | (simp only [E36]))
          obtain ⟨S38, E38⟩ : ∃ s : Sg, s = (upS (upS (upS (upS (upS (upS S34 682 22 0) 682 17 0) 682 18 0) 682 19 0) 682 20 0) 694 0 0) := ⟨_, rfl⟩
          rw [← E38] at hD37
          refine ⟨_, hD37, ?_⟩
          clear hD37
          rw [show (S38 682 17) = 0 by (first | omega | (simp [upS, hz, za1, z1a1, ca1, za2, z1a2, ca2, E900, E34, E38]; done) | (simp [upS, hz, za1, z1a1, ca1, za2, z1a2, ca2, E900, E34, E38]; omega))]
          rw [show (S38 682 19) = 0 by (first | omega | (simp [upS, hz, za1, z1a1, ca1, za2, z1a2, ca2, E900, E34, E38]; done) | (simp [upS, hz, za1, z1a1, ca1, za2, z1a2, ca2, E900, E34, E38]; omega))]
          refine b266_30 ?_
          rw [if_neg (show ¬ ((0 : Int) < (S38 682 18)) by first | omega | (simp [upS, hz, za1, z1a1, ca1, za2, z1a2, ca2, E900, E34, E38]; done) | (simp [upS, hz, za1, z1a1, ca1, za2, z1a2, ca2, E900, E34, E38]; omega))]
          all_goals (first | rfl | (simp only [E38]))
        obtain ⟨S40, E40⟩ : ∃ s : Sg, s = (upS (upS (upS (upS (upS (upS S34 682 22 0) 682 17 0) 682 18 0) 682 19 0) 682 20 0) 694 0 0) := ⟨_, rfl⟩
        rw [← E40] at hD39
        refine ⟨_, hD39, ?_⟩
        clear hD39
        all_goals (first | rfl | (simp only [E40]))
      obtain ⟨S42, E42⟩ : ∃ s : Sg, s = (upS (upS (upS (upS (upS (upS S34 682 22 0) 682 17 0) 682 18 0) 682 19 0) 682 20 0) 694 0 0) := ⟨_, rfl⟩
      rw [← E42] at hD41
      refine ⟨_, hD41, ?_⟩
      clear hD41
      refine b274_42 ?_
      rw [if_neg (show ¬ ((0 : Int) < (S42 682 22)) by first | omega | (simp [upS, hz, za1, z1a1, ca1, za2, z1a2, ca2, E900, E34, E42]; done) | (simp [upS, hz, za1, z1a1, ca1, za2, z1a2, ca2, E900, E34, E42]; omega))]
      refine b274_163 ?_
      rw [if_neg (show ¬ ((0 : Int) < (S42 682 12)) by first | omega | (simp [upS, hz, za1, z1a1, ca1, za2, z1a2, ca2, E900, E34, E42]; done) | (simp [upS, hz, za1, z1a1, ca1, za2, z1a2, ca2, E900, E34, E42]; omega))]
      all_goals (first | rfl | (simp only [E34, E42]))
    obtain ⟨S44, E44⟩ : ∃ s : Sg, s = (upS (upS (upS (upS (upS (upS (upS (upS (upS (upS (upS (upS (upS (upS (upS S900 682 0 0) 682 12 0) 682 13 0) 682 22 0) 696 0 0) 696 1 0) 696 2 0) 696 3 0) 682 22 1) 682 22 0) 682 17 0) 682 18 0) 682 19 0) 682 20 0) 694 0 0) := ⟨_, rfl⟩
    rw [← E44] at hD43
    refine ⟨_, _, hD43, ?_⟩
    clear hD43
    all_goals (first | rfl | (simp only [E44]))
  refine ⟨_, _, _, _, hA, hB, ?_, ?_, ?_, ?_, ?_⟩
  all_goals subst E900
  · (first | rfl | (simp [upS, SCR, hz, za1, z1a1, ca1, za2, z1a2, ca2]; done) | (simp [upS, SCR, hz, za1, z1a1, ca1, za2, z1a2, ca2]; omega))
  · first | (intro h9; omega) | (intro _; first | rfl | (simp [upS, SCR, hz, za1, z1a1, ca1, za2, z1a2, ca2]; done) | (simp [upS, SCR, hz, za1, z1a1, ca1, za2, z1a2, ca2]; omega))
  · intro i; first | rfl | (unfold upS SCR; (repeat' split) <;> first | rfl | omega)
  · first | rfl | (unfold upS SCR; (repeat' split) <;> first | rfl | omega)
  · first | rfl | (unfold upS SCR; (repeat' split) <;> first | rfl | omega)
end
