noncomputable section
theorem q9_0 {σ : Sg} {a1 : Int} {a2 : Int} {a3 : Int} (hz : ∀ a i, a < 1000 → σ a i = 0) (h0 : a1 < 0) : ∃ (kx b : Int) (s1 s2 : Sg), Dd 399 [(.inr (.inr (some 0))), (.inl a1), (.inl a2), (.inl a3), (.inr (.inr (some 726)))] σ (.inl (some (.inl kx)), s1) ∧ Dd 299 [(.inr (.inr (some 682))), (.inl a1), (.inl a2), (.inl a3)] s1 (.inl (some (.inl b)), s2) ∧ s2 682 0 = kx ∧ (kx = 0 → s2 726 0 = b) ∧ (∀ i, s1 SCR i = σ SCR i) ∧ s1 (SCR + 1) 0 = σ (SCR + 1) 0 ∧ s2 (SCR + 1) 0 = σ (SCR + 1) 0 := by
  have hA : Dd 399 [(.inr (.inr (some 0))), (.inl a1), (.inl a2), (.inl a3), (.inr (.inr (some 726)))] σ (.inl (some (.inl 1)), σ) := by
    refine b399 ?_
    have hD4 : Dd 181 [(.inr (.inr (some 0))), (.inl a1), (.inl a2), (.inl a3)] σ (.inr 0, σ) := by
      refine b181 ?_
      have hD3 : Dd 227 [(.inr (.inr (some 0))), (.inl a1)] σ (.inr 0, σ) := by
        refine b227 ?_
        have hD1 : Dd 145 [(.inr (.inr (some 1))), (.inl a1)] σ (.inl (some (.inr (.inr none))), σ) := by
          refine b145 ?_
          rw [if_neg (show ¬ ((0 : Int) ≤ a1) by first | omega | (simp [upS, hz]; done) | (simp [upS, hz]; omega))]
          all_goals rfl
        refine ⟨_, _, hD1, ?_⟩
        clear hD1
        refine ⟨fun _ => ?_, fun _ hz2 => (by cases hz2)⟩
        all_goals rfl
      refine Or.inr ⟨_, _, hD3, ?_⟩
      all_goals rfl
    exact Or.inr (Or.inl ⟨_, hD4, rfl⟩)
  have hB : Dd 299 [(.inr (.inr (some 682))), (.inl a1), (.inl a2), (.inl a3)] σ (.inl (some (.inl 0)), (upS σ 682 0 1)) := by
    refine b299 ?_
    have hD6 : Dd 247 [(.inl a1)] σ (.inl (some (.inl 0)), σ) := by
      refine b247 ?_
      have hD5 : Dd 246 [(.inl a1), (.inl 4)] σ (.inl (some (.inl 0)), σ) := by
        refine b246 ?_
        try rw [if_neg (show ¬ ((0 : Int) ≤ a1) by first | omega | (simp [upS, hz]; done) | (simp [upS, hz]; omega))]
        all_goals rfl
      refine ⟨_, _, hD5, ?_⟩
      clear hD5
      refine ⟨(show 0 = 0 ∨ 0 = 1 by first | omega | (simp [upS, hz]; done) | (simp [upS, hz]; omega)), ?_⟩
      all_goals rfl
    refine ⟨_, _, hD6, ?_⟩
    clear hD6
    rw [if_pos (show (0 : Int) = 0 by first | omega | (simp [upS, hz]; done) | (simp [upS, hz]; omega))]
    refine b299_15 ?_
    refine b299_44 ?_
    have hD7 : Dd 245 [(.inr (.inr (some 682))), (.inl 1)] σ (.inl (some (.inl 0)), (upS σ 682 0 1)) := by
      refine b245 ?_
      try rw [if_neg (show ¬ ((1 : Int) = 0) by first | omega | (simp [upS, hz]; done) | (simp [upS, hz]; omega))]
      all_goals rfl
    refine ⟨_, _, hD7, ?_⟩
    clear hD7
    rw [if_pos (show (0 : Int) = 0 by first | omega | (simp [upS, hz]; done) | (simp [upS, hz]; omega))]
    all_goals rfl
  refine ⟨_, _, _, _, hA, hB, ?_, ?_, ?_, ?_, ?_⟩
  · (first | rfl | (simp [upS, SCR, hz]; done) | (simp [upS, SCR, hz]; omega))
  · first | (intro h9; omega) | (intro _; first | rfl | (simp [upS, SCR, hz]; done) | (simp [upS, SCR, hz]; omega))
  · intro i; first | rfl | (unfold upS SCR; (repeat' split) <;> first | rfl | omega)
  · first | rfl | (unfold upS SCR; (repeat' split) <;> first | rfl | omega)
  · first | rfl | (unfold upS SCR; (repeat' split) <;> first | rfl | omega)
theorem q9_1 {σ : Sg} {a1 : Int} {a2 : Int} {a3 : Int} (hz : ∀ a i, a < 1000 → σ a i = 0) (h0 : 4 ≤ a1) : ∃ (kx b : Int) (s1 s2 : Sg), Dd 399 [(.inr (.inr (some 0))), (.inl a1), (.inl a2), (.inl a3), (.inr (.inr (some 726)))] σ (.inl (some (.inl kx)), s1) ∧ Dd 299 [(.inr (.inr (some 682))), (.inl a1), (.inl a2), (.inl a3)] s1 (.inl (some (.inl b)), s2) ∧ s2 682 0 = kx ∧ (kx = 0 → s2 726 0 = b) ∧ (∀ i, s1 SCR i = σ SCR i) ∧ s1 (SCR + 1) 0 = σ (SCR + 1) 0 ∧ s2 (SCR + 1) 0 = σ (SCR + 1) 0 := by
  have hA : Dd 399 [(.inr (.inr (some 0))), (.inl a1), (.inl a2), (.inl a3), (.inr (.inr (some 726)))] σ (.inl (some (.inl 1)), σ) := by
    refine b399 ?_
    have hD4 : Dd 181 [(.inr (.inr (some 0))), (.inl a1), (.inl a2), (.inl a3)] σ (.inr 0, σ) := by
      refine b181 ?_
      have hD3 : Dd 227 [(.inr (.inr (some 0))), (.inl a1)] σ (.inr 0, σ) := by
        refine b227 ?_
        have hD1 : Dd 145 [(.inr (.inr (some 1))), (.inl a1)] σ (.inl (some (.inr (.inr none))), σ) := by
          refine b145 ?_
          rw [if_pos (show (0 : Int) ≤ a1 by first | omega | (simp [upS, hz]; done) | (simp [upS, hz]; omega))]
          refine ⟨4, (by decide +kernel), (by decide), ?_⟩
          rw [if_neg (show ¬ (a1 < ((4 : Nat) : Int)) by first | omega | (simp [upS, hz]; done) | (simp [upS, hz]; omega))]
          all_goals rfl
        refine ⟨_, _, hD1, ?_⟩
        clear hD1
        refine ⟨fun _ => ?_, fun _ hz2 => (by cases hz2)⟩
        all_goals rfl
      refine Or.inr ⟨_, _, hD3, ?_⟩
      all_goals rfl
    exact Or.inr (Or.inl ⟨_, hD4, rfl⟩)
  have hB : Dd 299 [(.inr (.inr (some 682))), (.inl a1), (.inl a2), (.inl a3)] σ (.inl (some (.inl 0)), (upS σ 682 0 1)) := by
    refine b299 ?_
    have hD6 : Dd 247 [(.inl a1)] σ (.inl (some (.inl 0)), σ) := by
      refine b247 ?_
      have hD5 : Dd 246 [(.inl a1), (.inl 4)] σ (.inl (some (.inl 0)), σ) := by
        refine b246 ?_
        try rw [if_pos (show (0 : Int) ≤ a1 by first | omega | (simp [upS, hz]; done) | (simp [upS, hz]; omega))]
        try rw [if_neg (show ¬ (a1 < 4) by first | omega | (simp [upS, hz]; done) | (simp [upS, hz]; omega))]
        all_goals rfl
      refine ⟨_, _, hD5, ?_⟩
      clear hD5
      refine ⟨(show 0 = 0 ∨ 0 = 1 by first | omega | (simp [upS, hz]; done) | (simp [upS, hz]; omega)), ?_⟩
      all_goals rfl
    refine ⟨_, _, hD6, ?_⟩
    clear hD6
    rw [if_pos (show (0 : Int) = 0 by first | omega | (simp [upS, hz]; done) | (simp [upS, hz]; omega))]
    refine b299_15 ?_
    refine b299_44 ?_
    have hD7 : Dd 245 [(.inr (.inr (some 682))), (.inl 1)] σ (.inl (some (.inl 0)), (upS σ 682 0 1)) := by
      refine b245 ?_
      try rw [if_neg (show ¬ ((1 : Int) = 0) by first | omega | (simp [upS, hz]; done) | (simp [upS, hz]; omega))]
      all_goals rfl
    refine ⟨_, _, hD7, ?_⟩
    clear hD7
    rw [if_pos (show (0 : Int) = 0 by first | omega | (simp [upS, hz]; done) | (simp [upS, hz]; omega))]
    all_goals rfl
  refine ⟨_, _, _, _, hA, hB, ?_, ?_, ?_, ?_, ?_⟩
  · (first | rfl | (simp [upS, SCR, hz]; done) | (simp [upS, SCR, hz]; omega))
  · first | (intro h9; omega) | (intro _; first | rfl | (simp [upS, SCR, hz]; done) | (simp [upS, SCR, hz]; omega))
  · intro i; first | rfl | (unfold upS SCR; (repeat' split) <;> first | rfl | omega)
  · first | rfl | (unfold upS SCR; (repeat' split) <;> first | rfl | omega)
  · first | rfl | (unfold upS SCR; (repeat' split) <;> first | rfl | omega)
theorem q9_2 {σ : Sg} {a1 : Int} {a2 : Int} {a3 : Int} (hz : ∀ a i, a < 1000 → σ a i = 0) (h0 : 0 ≤ a1 ∧ a1 < 4) (h1 : a2 < 0) : ∃ (kx b : Int) (s1 s2 : Sg), Dd 399 [(.inr (.inr (some 0))), (.inl a1), (.inl a2), (.inl a3), (.inr (.inr (some 726)))] σ (.inl (some (.inl kx)), s1) ∧ Dd 299 [(.inr (.inr (some 682))), (.inl a1), (.inl a2), (.inl a3)] s1 (.inl (some (.inl b)), s2) ∧ s2 682 0 = kx ∧ (kx = 0 → s2 726 0 = b) ∧ (∀ i, s1 SCR i = σ SCR i) ∧ s1 (SCR + 1) 0 = σ (SCR + 1) 0 ∧ s2 (SCR + 1) 0 = σ (SCR + 1) 0 := by
  have za1 : ∀ i, σ (2 + 2 * ((a1)).toNat) i = 0 := fun i => hz _ i (by omega)
  have z1a1 : ∀ i, σ ((2 + 2 * ((a1)).toNat) + 1) i = 0 := fun i => hz _ i (by omega)
  have ca1 : (cap (2 + 2 * ((a1)).toNat) : Int) = 16 := cp_1 (by omega)
  have hA : Dd 399 [(.inr (.inr (some 0))), (.inl a1), (.inl a2), (.inl a3), (.inr (.inr (some 726)))] σ (.inl (some (.inl 1)), σ) := by
    refine b399 ?_
    have hD7 : Dd 181 [(.inr (.inr (some 0))), (.inl a1), (.inl a2), (.inl a3)] σ (.inr 0, σ) := by
      refine b181 ?_
      have hD3 : Dd 227 [(.inr (.inr (some 0))), (.inl a1)] σ (.inl (some (.inr (.inr (some (2 + 2 * ((a1)).toNat))))), σ) := by
        refine b227 ?_
        have hD1 : Dd 145 [(.inr (.inr (some 1))), (.inl a1)] σ (.inl (some (.inr (.inr (some (2 + 2 * ((a1)).toNat))))), σ) := by
          refine b145 ?_
          rw [if_pos (show (0 : Int) ≤ a1 by first | omega | (simp [upS, hz, za1, z1a1, ca1]; done) | (simp [upS, hz, za1, z1a1, ca1]; omega))]
          refine ⟨4, (by decide +kernel), (by decide), ?_⟩
          rw [if_pos (show a1 < ((4 : Nat) : Int) by first | omega | (simp [upS, hz, za1, z1a1, ca1]; done) | (simp [upS, hz, za1, z1a1, ca1]; omega))]
          refine ⟨(show 0 ≤ a1 by first | omega | (simp [upS, hz, za1, z1a1, ca1]; done) | (simp [upS, hz, za1, z1a1, ca1]; omega)), ?_⟩
          refine ⟨(2 + 2 * ((a1)).toNat), (el_1 (i := (a1)) (by first | omega | (simp [upS, hz, za1, z1a1, ca1]; done) | (simp [upS, hz, za1, z1a1, ca1]; omega))).1, (el_1 (i := (a1)) (by first | omega | (simp [upS, hz, za1, z1a1, ca1]; done) | (simp [upS, hz, za1, z1a1, ca1]; omega))).2, ?_⟩
          all_goals rfl
        refine ⟨_, _, hD1, ?_⟩
        clear hD1
        refine ⟨fun hz2 => (by cases hz2), fun _ hz2 => ?_⟩
        cases hz2
        refine ⟨(el_1 (i := (a1)) (by first | omega | (simp [upS, hz, za1, z1a1, ca1]; done) | (simp [upS, hz, za1, z1a1, ca1]; omega))).2, ?_⟩
        all_goals rfl
      refine Or.inl ⟨_, _, hD3, (el_1 (i := (a1)) (by first | omega | (simp [upS, hz, za1, z1a1, ca1]; done) | (simp [upS, hz, za1, z1a1, ca1]; omega))).2, ?_⟩
      clear hD3
      have hD6 : Dd 227 [(.inr (.inr (some 0))), (.inl a2)] σ (.inr 0, σ) := by
        refine b227 ?_
        have hD4 : Dd 145 [(.inr (.inr (some 1))), (.inl a2)] σ (.inl (some (.inr (.inr none))), σ) := by
          refine b145 ?_
          rw [if_neg (show ¬ ((0 : Int) ≤ a2) by first | omega | (simp [upS, hz, za1, z1a1, ca1]; done) | (simp [upS, hz, za1, z1a1, ca1]; omega))]
          all_goals rfl
        refine ⟨_, _, hD4, ?_⟩
        clear hD4
        refine ⟨fun _ => ?_, fun _ hz5 => (by cases hz5)⟩
        all_goals rfl
      refine Or.inr ⟨_, _, hD6, ?_⟩
      all_goals rfl
    exact Or.inr (Or.inl ⟨_, hD7, rfl⟩)
  have hB : Dd 299 [(.inr (.inr (some 682))), (.inl a1), (.inl a2), (.inl a3)] σ (.inl (some (.inl 0)), (upS σ 682 0 1)) := by
    refine b299 ?_
    have hD9 : Dd 247 [(.inl a1)] σ (.inl (some (.inl 1)), σ) := by
      refine b247 ?_
      have hD8 : Dd 246 [(.inl a1), (.inl 4)] σ (.inl (some (.inl 1)), σ) := by
        refine b246 ?_
        try rw [if_pos (show (0 : Int) ≤ a1 by first | omega | (simp [upS, hz, za1, z1a1, ca1]; done) | (simp [upS, hz, za1, z1a1, ca1]; omega))]
        try rw [if_pos (show a1 < 4 by first | omega | (simp [upS, hz, za1, z1a1, ca1]; done) | (simp [upS, hz, za1, z1a1, ca1]; omega))]
        all_goals rfl
      refine ⟨_, _, hD8, ?_⟩
      clear hD8
      refine ⟨(show 1 = 0 ∨ 1 = 1 by first | omega | (simp [upS, hz, za1, z1a1, ca1]; done) | (simp [upS, hz, za1, z1a1, ca1]; omega)), ?_⟩
      all_goals rfl
    refine ⟨_, _, hD9, ?_⟩
    clear hD9
    rw [if_neg (show ¬ ((1 : Int) = 0) by first | omega | (simp [upS, hz, za1, z1a1, ca1]; done) | (simp [upS, hz, za1, z1a1, ca1]; omega))]
    have hD11 : Dd 247 [(.inl a2)] σ (.inl (some (.inl 0)), σ) := by
      refine b247 ?_
      have hD10 : Dd 246 [(.inl a2), (.inl 4)] σ (.inl (some (.inl 0)), σ) := by
        refine b246 ?_
        try rw [if_neg (show ¬ ((0 : Int) ≤ a2) by first | omega | (simp [upS, hz, za1, z1a1, ca1]; done) | (simp [upS, hz, za1, z1a1, ca1]; omega))]
        all_goals rfl
      refine ⟨_, _, hD10, ?_⟩
      clear hD10
      refine ⟨(show 0 = 0 ∨ 0 = 1 by first | omega | (simp [upS, hz, za1, z1a1, ca1]; done) | (simp [upS, hz, za1, z1a1, ca1]; omega)), ?_⟩
      all_goals rfl
    refine ⟨_, _, hD11, ?_⟩
    clear hD11
    rw [if_pos (show (0 : Int) = 0 by first | omega | (simp [upS, hz, za1, z1a1, ca1]; done) | (simp [upS, hz, za1, z1a1, ca1]; omega))]
    refine b299_15 ?_
    refine b299_44 ?_
    have hD12 : Dd 245 [(.inr (.inr (some 682))), (.inl 1)] σ (.inl (some (.inl 0)), (upS σ 682 0 1)) := by
      refine b245 ?_
      try rw [if_neg (show ¬ ((1 : Int) = 0) by first | omega | (simp [upS, hz, za1, z1a1, ca1]; done) | (simp [upS, hz, za1, z1a1, ca1]; omega))]
      all_goals rfl
    refine ⟨_, _, hD12, ?_⟩
    clear hD12
    rw [if_pos (show (0 : Int) = 0 by first | omega | (simp [upS, hz, za1, z1a1, ca1]; done) | (simp [upS, hz, za1, z1a1, ca1]; omega))]
    all_goals rfl
  refine ⟨_, _, _, _, hA, hB, ?_, ?_, ?_, ?_, ?_⟩
  · (first | rfl | (simp [upS, SCR, hz, za1, z1a1, ca1]; done) | (simp [upS, SCR, hz, za1, z1a1, ca1]; omega))
  · first | (intro h9; omega) | (intro _; first | rfl | (simp [upS, SCR, hz, za1, z1a1, ca1]; done) | (simp [upS, SCR, hz, za1, z1a1, ca1]; omega))
  · intro i; first | rfl | (unfold upS SCR; (repeat' split) <;> first | rfl | omega)
  · first | rfl | (unfold upS SCR; (repeat' split) <;> first | rfl | omega)
  · first | rfl | (unfold upS SCR; (repeat' split) <;> first | rfl | omega)
theorem q9_3 {σ : Sg} {a1 : Int} {a2 : Int} {a3 : Int} (hz : ∀ a i, a < 1000 → σ a i = 0) (h0 : 0 ≤ a1 ∧ a1 < 4) (h1 : 4 ≤ a2) : ∃ (kx b : Int) (s1 s2 : Sg), Dd 399 [(.inr (.inr (some 0))), (.inl a1), (.inl a2), (.inl a3), (.inr (.inr (some 726)))] σ (.inl (some (.inl kx)), s1) ∧ Dd 299 [(.inr (.inr (some 682))), (.inl a1), (.inl a2), (.inl a3)] s1 (.inl (some (.inl b)), s2) ∧ s2 682 0 = kx ∧ (kx = 0 → s2 726 0 = b) ∧ (∀ i, s1 SCR i = σ SCR i) ∧ s1 (SCR + 1) 0 = σ (SCR + 1) 0 ∧ s2 (SCR + 1) 0 = σ (SCR + 1) 0 := by
  have za1 : ∀ i, σ (2 + 2 * ((a1)).toNat) i = 0 := fun i => hz _ i (by omega)
  have z1a1 : ∀ i, σ ((2 + 2 * ((a1)).toNat) + 1) i = 0 := fun i => hz _ i (by omega)
  have ca1 : (cap (2 + 2 * ((a1)).toNat) : Int) = 16 := cp_1 (by omega)
  have hA : Dd 399 [(.inr (.inr (some 0))), (.inl a1), (.inl a2), (.inl a3), (.inr (.inr (some 726)))] σ (.inl (some (.inl 1)), σ) := by
    refine b399 ?_
    have hD7 : Dd 181 [(.inr (.inr (some 0))), (.inl a1), (.inl a2), (.inl a3)] σ (.inr 0, σ) := by
      refine b181 ?_
      have hD3 : Dd 227 [(.inr (.inr (some 0))), (.inl a1)] σ (.inl (some (.inr (.inr (some (2 + 2 * ((a1)).toNat))))), σ) := by
        refine b227 ?_
        have hD1 : Dd 145 [(.inr (.inr (some 1))), (.inl a1)] σ (.inl (some (.inr (.inr (some (2 + 2 * ((a1)).toNat))))), σ) := by
          refine b145 ?_
          rw [if_pos (show (0 : Int) ≤ a1 by first | omega | (simp [upS, hz, za1, z1a1, ca1]; done) | (simp [upS, hz, za1, z1a1, ca1]; omega))]
          refine ⟨4, (by decide +kernel), (by decide), ?_⟩
          rw [if_pos (show a1 < ((4 : Nat) : Int) by first | omega | (simp [upS, hz, za1, z1a1, ca1]; done) | (simp [upS, hz, za1, z1a1, ca1]; omega))]
          refine ⟨(show 0 ≤ a1 by first | omega | (simp [upS, hz, za1, z1a1, ca1]; done) | (simp [upS, hz, za1, z1a1, ca1]; omega)), ?_⟩
          refine ⟨(2 + 2 * ((a1)).toNat), (el_1 (i := (a1)) (by first | omega | (simp [upS, hz, za1, z1a1, ca1]; done) | (simp [upS, hz, za1, z1a1, ca1]; omega))).1, (el_1 (i := (a1)) (by first | omega | (simp [upS, hz, za1, z1a1, ca1]; done) | (simp [upS, hz, za1, z1a1, ca1]; omega))).2, ?_⟩
          all_goals rfl
        refine ⟨_, _, hD1, ?_⟩
        clear hD1
        refine ⟨fun hz2 => (by cases hz2), fun _ hz2 => ?_⟩
        cases hz2
        refine ⟨(el_1 (i := (a1)) (by first | omega | (simp [upS, hz, za1, z1a1, ca1]; done) | (simp [upS, hz, za1, z1a1, ca1]; omega))).2, ?_⟩
        all_goals rfl
      refine Or.inl ⟨_, _, hD3, (el_1 (i := (a1)) (by first | omega | (simp [upS, hz, za1, z1a1, ca1]; done) | (simp [upS, hz, za1, z1a1, ca1]; omega))).2, ?_⟩
      clear hD3
      have hD6 : Dd 227 [(.inr (.inr (some 0))), (.inl a2)] σ (.inr 0, σ) := by
        refine b227 ?_
        have hD4 : Dd 145 [(.inr (.inr (some 1))), (.inl a2)] σ (.inl (some (.inr (.inr none))), σ) := by
          refine b145 ?_
          rw [if_pos (show (0 : Int) ≤ a2 by first | omega | (simp [upS, hz, za1, z1a1, ca1]; done) | (simp [upS, hz, za1, z1a1, ca1]; omega))]
          refine ⟨4, (by decide +kernel), (by decide), ?_⟩
          rw [if_neg (show ¬ (a2 < ((4 : Nat) : Int)) by first | omega | (simp [upS, hz, za1, z1a1, ca1]; done) | (simp [upS, hz, za1, z1a1, ca1]; omega))]
          all_goals rfl
        refine ⟨_, _, hD4, ?_⟩
        clear hD4
        refine ⟨fun _ => ?_, fun _ hz5 => (by cases hz5)⟩
        all_goals rfl
      refine Or.inr ⟨_, _, hD6, ?_⟩
      all_goals rfl
    exact Or.inr (Or.inl ⟨_, hD7, rfl⟩)
  have hB : Dd 299 [(.inr (.inr (some 682))), (.inl a1), (.inl a2), (.inl a3)] σ (.inl (some (.inl 0)), (upS σ 682 0 1)) := by
    refine b299 ?_
    have hD9 : Dd 247 [(.inl a1)] σ (.inl (some (.inl 1)), σ) := by
      refine b247 ?_
      have hD8 : Dd 246 [(.inl a1), (.inl 4)] σ (.inl (some (.inl 1)), σ) := by
        refine b246 ?_
        try rw [if_pos (show (0 : Int) ≤ a1 by first | omega | (simp [upS, hz, za1, z1a1, ca1]; done) | (simp [upS, hz, za1, z1a1, ca1]; omega))]
        try rw [if_pos (show a1 < 4 by first | omega | (simp [upS, hz, za1, z1a1, ca1]; done) | (simp [upS, hz, za1, z1a1, ca1]; omega))]
        all_goals rfl
      refine ⟨_, _, hD8, ?_⟩
      clear hD8
      refine ⟨(show 1 = 0 ∨ 1 = 1 by first | omega | (simp [upS, hz, za1, z1a1, ca1]; done) | (simp [upS, hz, za1, z1a1, ca1]; omega)), ?_⟩
      all_goals rfl
    refine ⟨_, _, hD9, ?_⟩
    clear hD9
    rw [if_neg (show ¬ ((1 : Int) = 0) by first | omega | (simp [upS, hz, za1, z1a1, ca1]; done) | (simp [upS, hz, za1, z1a1, ca1]; omega))]
    have hD11 : Dd 247 [(.inl a2)] σ (.inl (some (.inl 0)), σ) := by
      refine b247 ?_
      have hD10 : Dd 246 [(.inl a2), (.inl 4)] σ (.inl (some (.inl 0)), σ) := by
        refine b246 ?_
        try rw [if_pos (show (0 : Int) ≤ a2 by first | omega | (simp [upS, hz, za1, z1a1, ca1]; done) | (simp [upS, hz, za1, z1a1, ca1]; omega))]
        try rw [if_neg (show ¬ (a2 < 4) by first | omega | (simp [upS, hz, za1, z1a1, ca1]; done) | (simp [upS, hz, za1, z1a1, ca1]; omega))]
        all_goals rfl
      refine ⟨_, _, hD10, ?_⟩
      clear hD10
      refine ⟨(show 0 = 0 ∨ 0 = 1 by first | omega | (simp [upS, hz, za1, z1a1, ca1]; done) | (simp [upS, hz, za1, z1a1, ca1]; omega)), ?_⟩
      all_goals rfl
    refine ⟨_, _, hD11, ?_⟩
    clear hD11
    rw [if_pos (show (0 : Int) = 0 by first | omega | (simp [upS, hz, za1, z1a1, ca1]; done) | (simp [upS, hz, za1, z1a1, ca1]; omega))]
    refine b299_15 ?_
    refine b299_44 ?_
    have hD12 : Dd 245 [(.inr (.inr (some 682))), (.inl 1)] σ (.inl (some (.inl 0)), (upS σ 682 0 1)) := by
      refine b245 ?_
      try rw [if_neg (show ¬ ((1 : Int) = 0) by first | omega | (simp [upS, hz, za1, z1a1, ca1]; done) | (simp [upS, hz, za1, z1a1, ca1]; omega))]
      all_goals rfl
    refine ⟨_, _, hD12, ?_⟩
    clear hD12
    rw [if_pos (show (0 : Int) = 0 by first | omega | (simp [upS, hz, za1, z1a1, ca1]; done) | (simp [upS, hz, za1, z1a1, ca1]; omega))]
    all_goals rfl
  refine ⟨_, _, _, _, hA, hB, ?_, ?_, ?_, ?_, ?_⟩
  · (first | rfl | (simp [upS, SCR, hz, za1, z1a1, ca1]; done) | (simp [upS, SCR, hz, za1, z1a1, ca1]; omega))
  · first | (intro h9; omega) | (intro _; first | rfl | (simp [upS, SCR, hz, za1, z1a1, ca1]; done) | (simp [upS, SCR, hz, za1, z1a1, ca1]; omega))
  · intro i; first | rfl | (unfold upS SCR; (repeat' split) <;> first | rfl | omega)
  · first | rfl | (unfold upS SCR; (repeat' split) <;> first | rfl | omega)
  · first | rfl | (unfold upS SCR; (repeat' split) <;> first | rfl | omega)
theorem q9_4 {σ : Sg} {a1 : Int} {a2 : Int} {a3 : Int} (hz : ∀ a i, a < 1000 → σ a i = 0) (h0 : 0 ≤ a1 ∧ a1 < 4) (h1 : 0 ≤ a2 ∧ a2 < 4) (h2 : a3 < 0) : ∃ (kx b : Int) (s1 s2 : Sg), Dd 399 [(.inr (.inr (some 0))), (.inl a1), (.inl a2), (.inl a3), (.inr (.inr (some 726)))] σ (.inl (some (.inl kx)), s1) ∧ Dd 299 [(.inr (.inr (some 682))), (.inl a1), (.inl a2), (.inl a3)] s1 (.inl (some (.inl b)), s2) ∧ s2 682 0 = kx ∧ (kx = 0 → s2 726 0 = b) ∧ (∀ i, s1 SCR i = σ SCR i) ∧ s1 (SCR + 1) 0 = σ (SCR + 1) 0 ∧ s2 (SCR + 1) 0 = σ (SCR + 1) 0 := by
  have za1 : ∀ i, σ (2 + 2 * ((a1)).toNat) i = 0 := fun i => hz _ i (by omega)
  have z1a1 : ∀ i, σ ((2 + 2 * ((a1)).toNat) + 1) i = 0 := fun i => hz _ i (by omega)
  have ca1 : (cap (2 + 2 * ((a1)).toNat) : Int) = 16 := cp_1 (by omega)
  have za2 : ∀ i, σ (2 + 2 * ((a2)).toNat) i = 0 := fun i => hz _ i (by omega)
  have z1a2 : ∀ i, σ ((2 + 2 * ((a2)).toNat) + 1) i = 0 := fun i => hz _ i (by omega)
  have ca2 : (cap (2 + 2 * ((a2)).toNat) : Int) = 16 := cp_1 (by omega)
  have hA : Dd 399 [(.inr (.inr (some 0))), (.inl a1), (.inl a2), (.inl a3), (.inr (.inr (some 726)))] σ (.inl (some (.inl 2)), σ) := by
    refine b399 ?_
    have hD8 : Dd 181 [(.inr (.inr (some 0))), (.inl a1), (.inl a2), (.inl a3)] σ (.inr 1, σ) := by
      refine b181 ?_
      have hD3 : Dd 227 [(.inr (.inr (some 0))), (.inl a1)] σ (.inl (some (.inr (.inr (some (2 + 2 * ((a1)).toNat))))), σ) := by
        refine b227 ?_
        have hD1 : Dd 145 [(.inr (.inr (some 1))), (.inl a1)] σ (.inl (some (.inr (.inr (some (2 + 2 * ((a1)).toNat))))), σ) := by
          refine b145 ?_
          rw [if_pos (show (0 : Int) ≤ a1 by first | omega | (simp [upS, hz, za1, z1a1, ca1, za2, z1a2, ca2]; done) | (simp [upS, hz, za1, z1a1, ca1, za2, z1a2, ca2]; omega))]
          refine ⟨4, (by decide +kernel), (by decide), ?_⟩
          rw [if_pos (show a1 < ((4 : Nat) : Int) by first | omega | (simp [upS, hz, za1, z1a1, ca1, za2, z1a2, ca2]; done) | (simp [upS, hz, za1, z1a1, ca1, za2, z1a2, ca2]; omega))]
          refine ⟨(show 0 ≤ a1 by first | omega | (simp [upS, hz, za1, z1a1, ca1, za2, z1a2, ca2]; done) | (simp [upS, hz, za1, z1a1, ca1, za2, z1a2, ca2]; omega)), ?_⟩
          refine ⟨(2 + 2 * ((a1)).toNat), (el_1 (i := (a1)) (by first | omega | (simp [upS, hz, za1, z1a1, ca1, za2, z1a2, ca2]; done) | (simp [upS, hz, za1, z1a1, ca1, za2, z1a2, ca2]; omega))).1, (el_1 (i := (a1)) (by first | omega | (simp [upS, hz, za1, z1a1, ca1, za2, z1a2, ca2]; done) | (simp [upS, hz, za1, z1a1, ca1, za2, z1a2, ca2]; omega))).2, ?_⟩
          all_goals rfl
        refine ⟨_, _, hD1, ?_⟩
        clear hD1
        refine ⟨fun hz2 => (by cases hz2), fun _ hz2 => ?_⟩
        cases hz2
        refine ⟨(el_1 (i := (a1)) (by first | omega | (simp [upS, hz, za1, z1a1, ca1, za2, z1a2, ca2]; done) | (simp [upS, hz, za1, z1a1, ca1, za2, z1a2, ca2]; omega))).2, ?_⟩
        all_goals rfl
      refine Or.inl ⟨_, _, hD3, (el_1 (i := (a1)) (by first | omega | (simp [upS, hz, za1, z1a1, ca1, za2, z1a2, ca2]; done) | (simp [upS, hz, za1, z1a1, ca1, za2, z1a2, ca2]; omega))).2, ?_⟩
      clear hD3
      have hD6 : Dd 227 [(.inr (.inr (some 0))), (.inl a2)] σ (.inl (some (.inr (.inr (some (2 + 2 * ((a2)).toNat))))), σ) := by
        refine b227 ?_
        have hD4 : Dd 145 [(.inr (.inr (some 1))), (.inl a2)] σ (.inl (some (.inr (.inr (some (2 + 2 * ((a2)).toNat))))), σ) := by
          refine b145 ?_
          rw [if_pos (show (0 : Int) ≤ a2 by first | omega | (simp [upS, hz, za1, z1a1, ca1, za2, z1a2, ca2]; done) | (simp [upS, hz, za1, z1a1, ca1, za2, z1a2, ca2]; omega))]
          refine ⟨4, (by decide +kernel), (by decide), ?_⟩
          rw [if_pos (show a2 < ((4 : Nat) : Int) by first | omega | (simp [upS, hz, za1, z1a1, ca1, za2, z1a2, ca2]; done) | (simp [upS, hz, za1, z1a1, ca1, za2, z1a2, ca2]; omega))]
          refine ⟨(show 0 ≤ a2 by first | omega | (simp [upS, hz, za1, z1a1, ca1, za2, z1a2, ca2]; done) | (simp [upS, hz, za1, z1a1, ca1, za2, z1a2, ca2]; omega)), ?_⟩
          refine ⟨(2 + 2 * ((a2)).toNat), (el_1 (i := (a2)) (by first | omega | (simp [upS, hz, za1, z1a1, ca1, za2, z1a2, ca2]; done) | (simp [upS, hz, za1, z1a1, ca1, za2, z1a2, ca2]; omega))).1, (el_1 (i := (a2)) (by first | omega | (simp [upS, hz, za1, z1a1, ca1, za2, z1a2, ca2]; done) | (simp [upS, hz, za1, z1a1, ca1, za2, z1a2, ca2]; omega))).2, ?_⟩
          all_goals rfl
        refine ⟨_, _, hD4, ?_⟩
        clear hD4
        refine ⟨fun hz5 => (by cases hz5), fun _ hz5 => ?_⟩
        cases hz5
        refine ⟨(el_1 (i := (a2)) (by first | omega | (simp [upS, hz, za1, z1a1, ca1, za2, z1a2, ca2]; done) | (simp [upS, hz, za1, z1a1, ca1, za2, z1a2, ca2]; omega))).2, ?_⟩
        all_goals rfl
      refine Or.inl ⟨_, _, hD6, (el_1 (i := (a2)) (by first | omega | (simp [upS, hz, za1, z1a1, ca1, za2, z1a2, ca2]; done) | (simp [upS, hz, za1, z1a1, ca1, za2, z1a2, ca2]; omega))).2, ?_⟩
      clear hD6
      have hD7 : Dd 236 [(.inr (.inr (some 0))), (.inl a3)] σ (.inr 1, σ) := by
        refine b236 ?_
        rw [if_neg (show ¬ (a3 = 0) by first | omega | (simp [upS, hz, za1, z1a1, ca1, za2, z1a2, ca2]; done) | (simp [upS, hz, za1, z1a1, ca1, za2, z1a2, ca2]; omega))]
        rw [if_neg (show ¬ (a3 = 1) by first | omega | (simp [upS, hz, za1, z1a1, ca1, za2, z1a2, ca2]; done) | (simp [upS, hz, za1, z1a1, ca1, za2, z1a2, ca2]; omega))]
        rw [if_neg (show ¬ (a3 = 2) by first | omega | (simp [upS, hz, za1, z1a1, ca1, za2, z1a2, ca2]; done) | (simp [upS, hz, za1, z1a1, ca1, za2, z1a2, ca2]; omega))]
        all_goals rfl
      refine Or.inr ⟨_, _, hD7, ?_⟩
      all_goals rfl
    exact Or.inr (Or.inr (Or.inl ⟨_, hD8, rfl⟩))
  have hB : Dd 299 [(.inr (.inr (some 682))), (.inl a1), (.inl a2), (.inl a3)] σ (.inl (some (.inl 0)), (upS σ 682 0 2)) := by
    refine b299 ?_
    have hD10 : Dd 247 [(.inl a1)] σ (.inl (some (.inl 1)), σ) := by
      refine b247 ?_
      have hD9 : Dd 246 [(.inl a1), (.inl 4)] σ (.inl (some (.inl 1)), σ) := by
        refine b246 ?_
        try rw [if_pos (show (0 : Int) ≤ a1 by first | omega | (simp [upS, hz, za1, z1a1, ca1, za2, z1a2, ca2]; done) | (simp [upS, hz, za1, z1a1, ca1, za2, z1a2, ca2]; omega))]
        try rw [if_pos (show a1 < 4 by first | omega | (simp [upS, hz, za1, z1a1, ca1, za2, z1a2, ca2]; done) | (simp [upS, hz, za1, z1a1, ca1, za2, z1a2, ca2]; omega))]
        all_goals rfl
      refine ⟨_, _, hD9, ?_⟩
      clear hD9
      refine ⟨(show 1 = 0 ∨ 1 = 1 by first | omega | (simp [upS, hz, za1, z1a1, ca1, za2, z1a2, ca2]; done) | (simp [upS, hz, za1, z1a1, ca1, za2, z1a2, ca2]; omega)), ?_⟩
      all_goals rfl
    refine ⟨_, _, hD10, ?_⟩
    clear hD10
    rw [if_neg (show ¬ ((1 : Int) = 0) by first | omega | (simp [upS, hz, za1, z1a1, ca1, za2, z1a2, ca2]; done) | (simp [upS, hz, za1, z1a1, ca1, za2, z1a2, ca2]; omega))]
    have hD12 : Dd 247 [(.inl a2)] σ (.inl (some (.inl 1)), σ) := by
      refine b247 ?_
      have hD11 : Dd 246 [(.inl a2), (.inl 4)] σ (.inl (some (.inl 1)), σ) := by
        refine b246 ?_
        try rw [if_pos (show (0 : Int) ≤ a2 by first | omega | (simp [upS, hz, za1, z1a1, ca1, za2, z1a2, ca2]; done) | (simp [upS, hz, za1, z1a1, ca1, za2, z1a2, ca2]; omega))]
        try rw [if_pos (show a2 < 4 by first | omega | (simp [upS, hz, za1, z1a1, ca1, za2, z1a2, ca2]; done) | (simp [upS, hz, za1, z1a1, ca1, za2, z1a2, ca2]; omega))]
        all_goals rfl
      refine ⟨_, _, hD11, ?_⟩
      clear hD11
      refine ⟨(show 1 = 0 ∨ 1 = 1 by first | omega | (simp [upS, hz, za1, z1a1, ca1, za2, z1a2, ca2]; done) | (simp [upS, hz, za1, z1a1, ca1, za2, z1a2, ca2]; omega)), ?_⟩
      all_goals rfl
    refine ⟨_, _, hD12, ?_⟩
    clear hD12
    rw [if_neg (show ¬ ((1 : Int) = 0) by first | omega | (simp [upS, hz, za1, z1a1, ca1, za2, z1a2, ca2]; done) | (simp [upS, hz, za1, z1a1, ca1, za2, z1a2, ca2]; omega))]
    have hD14 : Dd 275 [(.inl a3)] σ (.inl (some (.inl 0)), σ) := by
      refine b275 ?_
      have hD13 : Dd 246 [(.inl a3), (.inl 3)] σ (.inl (some (.inl 0)), σ) := by
        refine b246 ?_
        try rw [if_neg (show ¬ ((0 : Int) ≤ a3) by first | omega | (simp [upS, hz, za1, z1a1, ca1, za2, z1a2, ca2]; done) | (simp [upS, hz, za1, z1a1, ca1, za2, z1a2, ca2]; omega))]
        all_goals rfl
      refine ⟨_, _, hD13, ?_⟩
      clear hD13
      refine ⟨(show 0 = 0 ∨ 0 = 1 by first | omega | (simp [upS, hz, za1, z1a1, ca1, za2, z1a2, ca2]; done) | (simp [upS, hz, za1, z1a1, ca1, za2, z1a2, ca2]; omega)), ?_⟩
      all_goals rfl
    refine ⟨_, _, hD14, ?_⟩
    clear hD14
    try rw [if_pos (show (0 : Int) = 0 by first | omega | (simp [upS, hz, za1, z1a1, ca1, za2, z1a2, ca2]; done) | (simp [upS, hz, za1, z1a1, ca1, za2, z1a2, ca2]; omega))]
    refine b299_44 ?_
    have hD15 : Dd 245 [(.inr (.inr (some 682))), (.inl 2)] σ (.inl (some (.inl 0)), (upS σ 682 0 2)) := by
      refine b245 ?_
      try rw [if_neg (show ¬ ((2 : Int) = 0) by first | omega | (simp [upS, hz, za1, z1a1, ca1, za2, z1a2, ca2]; done) | (simp [upS, hz, za1, z1a1, ca1, za2, z1a2, ca2]; omega))]
      all_goals rfl
    refine ⟨_, _, hD15, ?_⟩
    clear hD15
    rw [if_pos (show (0 : Int) = 0 by first | omega | (simp [upS, hz, za1, z1a1, ca1, za2, z1a2, ca2]; done) | (simp [upS, hz, za1, z1a1, ca1, za2, z1a2, ca2]; omega))]
    all_goals rfl
  refine ⟨_, _, _, _, hA, hB, ?_, ?_, ?_, ?_, ?_⟩
  · (first | rfl | (simp [upS, SCR, hz, za1, z1a1, ca1, za2, z1a2, ca2]; done) | (simp [upS, SCR, hz, za1, z1a1, ca1, za2, z1a2, ca2]; omega))
  · first | (intro h9; omega) | (intro _; first | rfl | (simp [upS, SCR, hz, za1, z1a1, ca1, za2, z1a2, ca2]; done) | (simp [upS, SCR, hz, za1, z1a1, ca1, za2, z1a2, ca2]; omega))
  · intro i; first | rfl | (unfold upS SCR; (repeat' split) <;> first | rfl | omega)
  · first | rfl | (unfold upS SCR; (repeat' split) <;> first | rfl | omega)
  · first | rfl | (unfold upS SCR; (repeat' split) <;> first | rfl | omega)
theorem q9_5 {σ : Sg} {a1 : Int} {a2 : Int} {a3 : Int} (hz : ∀ a i, a < 1000 → σ a i = 0) (h0 : 0 ≤ a1 ∧ a1 < 4) (h1 : 0 ≤ a2 ∧ a2 < 4) (h2 : 2 < a3) : ∃ (kx b : Int) (s1 s2 : Sg), Dd 399 [(.inr (.inr (some 0))), (.inl a1), (.inl a2), (.inl a3), (.inr (.inr (some 726)))] σ (.inl (some (.inl kx)), s1) ∧ Dd 299 [(.inr (.inr (some 682))), (.inl a1), (.inl a2), (.inl a3)] s1 (.inl (some (.inl b)), s2) ∧ s2 682 0 = kx ∧ (kx = 0 → s2 726 0 = b) ∧ (∀ i, s1 SCR i = σ SCR i) ∧ s1 (SCR + 1) 0 = σ (SCR + 1) 0 ∧ s2 (SCR + 1) 0 = σ (SCR + 1) 0 := by
  have za1 : ∀ i, σ (2 + 2 * ((a1)).toNat) i = 0 := fun i => hz _ i (by omega)
  have z1a1 : ∀ i, σ ((2 + 2 * ((a1)).toNat) + 1) i = 0 := fun i => hz _ i (by omega)
  have ca1 : (cap (2 + 2 * ((a1)).toNat) : Int) = 16 := cp_1 (by omega)
  have za2 : ∀ i, σ (2 + 2 * ((a2)).toNat) i = 0 := fun i => hz _ i (by omega)
  have z1a2 : ∀ i, σ ((2 + 2 * ((a2)).toNat) + 1) i = 0 := fun i => hz _ i (by omega)
  have ca2 : (cap (2 + 2 * ((a2)).toNat) : Int) = 16 := cp_1 (by omega)
  have hA : Dd 399 [(.inr (.inr (some 0))), (.inl a1), (.inl a2), (.inl a3), (.inr (.inr (some 726)))] σ (.inl (some (.inl 2)), σ) := by
    refine b399 ?_
    have hD8 : Dd 181 [(.inr (.inr (some 0))), (.inl a1), (.inl a2), (.inl a3)] σ (.inr 1, σ) := by
      refine b181 ?_
      have hD3 : Dd 227 [(.inr (.inr (some 0))), (.inl a1)] σ (.inl (some (.inr (.inr (some (2 + 2 * ((a1)).toNat))))), σ) := by
        refine b227 ?_
        have hD1 : Dd 145 [(.inr (.inr (some 1))), (.inl a1)] σ (.inl (some (.inr (.inr (some (2 + 2 * ((a1)).toNat))))), σ) := by
          refine b145 ?_
          rw [if_pos (show (0 : Int) ≤ a1 by first | omega | (simp [upS, hz, za1, z1a1, ca1, za2, z1a2, ca2]; done) | (simp [upS, hz, za1, z1a1, ca1, za2, z1a2, ca2]; omega))]
          refine ⟨4, (by decide +kernel), (by decide), ?_⟩
          rw [if_pos (show a1 < ((4 : Nat) : Int) by first | omega | (simp [upS, hz, za1, z1a1, ca1, za2, z1a2, ca2]; done) | (simp [upS, hz, za1, z1a1, ca1, za2, z1a2, ca2]; omega))]
          refine ⟨(show 0 ≤ a1 by first | omega | (simp [upS, hz, za1, z1a1, ca1, za2, z1a2, ca2]; done) | (simp [upS, hz, za1, z1a1, ca1, za2, z1a2, ca2]; omega)), ?_⟩
          refine ⟨(2 + 2 * ((a1)).toNat), (el_1 (i := (a1)) (by first | omega | (simp [upS, hz, za1, z1a1, ca1, za2, z1a2, ca2]; done) | (simp [upS, hz, za1, z1a1, ca1, za2, z1a2, ca2]; omega))).1, (el_1 (i := (a1)) (by first | omega | (simp [upS, hz, za1, z1a1, ca1, za2, z1a2, ca2]; done) | (simp [upS, hz, za1, z1a1, ca1, za2, z1a2, ca2]; omega))).2, ?_⟩
          all_goals rfl
        refine ⟨_, _, hD1, ?_⟩
        clear hD1
        refine ⟨fun hz2 => (by cases hz2), fun _ hz2 => ?_⟩
        cases hz2
        refine ⟨(el_1 (i := (a1)) (by first | omega | (simp [upS, hz, za1, z1a1, ca1, za2, z1a2, ca2]; done) | (simp [upS, hz, za1, z1a1, ca1, za2, z1a2, ca2]; omega))).2, ?_⟩
        all_goals rfl
      refine Or.inl ⟨_, _, hD3, (el_1 (i := (a1)) (by first | omega | (simp [upS, hz, za1, z1a1, ca1, za2, z1a2, ca2]; done) | (simp [upS, hz, za1, z1a1, ca1, za2, z1a2, ca2]; omega))).2, ?_⟩
      clear hD3
      have hD6 : Dd 227 [(.inr (.inr (some 0))), (.inl a2)] σ (.inl (some (.inr (.inr (some (2 + 2 * ((a2)).toNat))))), σ) := by
        refine b227 ?_
        have hD4 : Dd 145 [(.inr (.inr (some 1))), (.inl a2)] σ (.inl (some (.inr (.inr (some (2 + 2 * ((a2)).toNat))))), σ) := by
          refine b145 ?_
          rw [if_pos (show (0 : Int) ≤ a2 by first | omega | (simp [upS, hz, za1, z1a1, ca1, za2, z1a2, ca2]; done) | (simp [upS, hz, za1, z1a1, ca1, za2, z1a2, ca2]; omega))]
          refine ⟨4, (by decide +kernel), (by decide), ?_⟩
          rw [if_pos (show a2 < ((4 : Nat) : Int) by first | omega | (simp [upS, hz, za1, z1a1, ca1, za2, z1a2, ca2]; done) | (simp [upS, hz, za1, z1a1, ca1, za2, z1a2, ca2]; omega))]
          refine ⟨(show 0 ≤ a2 by first | omega | (simp [upS, hz, za1, z1a1, ca1, za2, z1a2, ca2]; done) | (simp [upS, hz, za1, z1a1, ca1, za2, z1a2, ca2]; omega)), ?_⟩
          refine ⟨(2 + 2 * ((a2)).toNat), (el_1 (i := (a2)) (by first | omega | (simp [upS, hz, za1, z1a1, ca1, za2, z1a2, ca2]; done) | (simp [upS, hz, za1, z1a1, ca1, za2, z1a2, ca2]; omega))).1, (el_1 (i := (a2)) (by first | omega | (simp [upS, hz, za1, z1a1, ca1, za2, z1a2, ca2]; done) | (simp [upS, hz, za1, z1a1, ca1, za2, z1a2, ca2]; omega))).2, ?_⟩
          all_goals rfl
        refine ⟨_, _, hD4, ?_⟩
        clear hD4
        refine ⟨fun hz5 => (by cases hz5), fun _ hz5 => ?_⟩
        cases hz5
        refine ⟨(el_1 (i := (a2)) (by first | omega | (simp [upS, hz, za1, z1a1, ca1, za2, z1a2, ca2]; done) | (simp [upS, hz, za1, z1a1, ca1, za2, z1a2, ca2]; omega))).2, ?_⟩
        all_goals rfl
      refine Or.inl ⟨_, _, hD6, (el_1 (i := (a2)) (by first | omega | (simp [upS, hz, za1, z1a1, ca1, za2, z1a2, ca2]; done) | (simp [upS, hz, za1, z1a1, ca1, za2, z1a2, ca2]; omega))).2, ?_⟩
      clear hD6
      have hD7 : Dd 236 [(.inr (.inr (some 0))), (.inl a3)] σ (.inr 1, σ) := by
        refine b236 ?_
        rw [if_neg (show ¬ (a3 = 0) by first | omega | (simp [upS, hz, za1, z1a1, ca1, za2, z1a2, ca2]; done) | (simp [upS, hz, za1, z1a1, ca1, za2, z1a2, ca2]; omega))]
        rw [if_neg (show ¬ (a3 = 1) by first | omega | (simp [upS, hz, za1, z1a1, ca1, za2, z1a2, ca2]; done) | (simp [upS, hz, za1, z1a1, ca1, za2, z1a2, ca2]; omega))]
        rw [if_neg (show ¬ (a3 = 2) by first | omega | (simp [upS, hz, za1, z1a1, ca1, za2, z1a2, ca2]; done) | (simp [upS, hz, za1, z1a1, ca1, za2, z1a2, ca2]; omega))]
        all_goals rfl
      refine Or.inr ⟨_, _, hD7, ?_⟩
      all_goals rfl
    exact Or.inr (Or.inr (Or.inl ⟨_, hD8, rfl⟩))
  have hB : Dd 299 [(.inr (.inr (some 682))), (.inl a1), (.inl a2), (.inl a3)] σ (.inl (some (.inl 0)), (upS σ 682 0 2)) := by
    refine b299 ?_
    have hD10 : Dd 247 [(.inl a1)] σ (.inl (some (.inl 1)), σ) := by
      refine b247 ?_
      have hD9 : Dd 246 [(.inl a1), (.inl 4)] σ (.inl (some (.inl 1)), σ) := by
        refine b246 ?_
        try rw [if_pos (show (0 : Int) ≤ a1 by first | omega | (simp [upS, hz, za1, z1a1, ca1, za2, z1a2, ca2]; done) | (simp [upS, hz, za1, z1a1, ca1, za2, z1a2, ca2]; omega))]
        try rw [if_pos (show a1 < 4 by first | omega | (simp [upS, hz, za1, z1a1, ca1, za2, z1a2, ca2]; done) | (simp [upS, hz, za1, z1a1, ca1, za2, z1a2, ca2]; omega))]
        all_goals rfl
      refine ⟨_, _, hD9, ?_⟩
      clear hD9
      refine ⟨(show 1 = 0 ∨ 1 = 1 by first | omega | (simp [upS, hz, za1, z1a1, ca1, za2, z1a2, ca2]; done) | (simp [upS, hz, za1, z1a1, ca1, za2, z1a2, ca2]; omega)), ?_⟩
      all_goals rfl
    refine ⟨_, _, hD10, ?_⟩
    clear hD10
    rw [if_neg (show ¬ ((1 : Int) = 0) by first | omega | (simp [upS, hz, za1, z1a1, ca1, za2, z1a2, ca2]; done) | (simp [upS, hz, za1, z1a1, ca1, za2, z1a2, ca2]; omega))]
    have hD12 : Dd 247 [(.inl a2)] σ (.inl (some (.inl 1)), σ) := by
      refine b247 ?_
      have hD11 : Dd 246 [(.inl a2), (.inl 4)] σ (.inl (some (.inl 1)), σ) := by
        refine b246 ?_
        try rw [if_pos (show (0 : Int) ≤ a2 by first | omega | (simp [upS, hz, za1, z1a1, ca1, za2, z1a2, ca2]; done) | (simp [upS, hz, za1, z1a1, ca1, za2, z1a2, ca2]; omega))]
        try rw [if_pos (show a2 < 4 by first | omega | (simp [upS, hz, za1, z1a1, ca1, za2, z1a2, ca2]; done) | (simp [upS, hz, za1, z1a1, ca1, za2, z1a2, ca2]; omega))]
        all_goals rfl
      refine ⟨_, _, hD11, ?_⟩
      clear hD11
      refine ⟨(show 1 = 0 ∨ 1 = 1 by first | omega | (simp [upS, hz, za1, z1a1, ca1, za2, z1a2, ca2]; done) | (simp [upS, hz, za1, z1a1, ca1, za2, z1a2, ca2]; omega)), ?_⟩
      all_goals rfl
    refine ⟨_, _, hD12, ?_⟩
    clear hD12
    rw [if_neg (show ¬ ((1 : Int) = 0) by first | omega | (simp [upS, hz, za1, z1a1, ca1, za2, z1a2, ca2]; done) | (simp [upS, hz, za1, z1a1, ca1, za2, z1a2, ca2]; omega))]
    have hD14 : Dd 275 [(.inl a3)] σ (.inl (some (.inl 0)), σ) := by
      refine b275 ?_
      have hD13 : Dd 246 [(.inl a3), (.inl 3)] σ (.inl (some (.inl 0)), σ) := by
        refine b246 ?_
        try rw [if_pos (show (0 : Int) ≤ a3 by first | omega | (simp [upS, hz, za1, z1a1, ca1, za2, z1a2, ca2]; done) | (simp [upS, hz, za1, z1a1, ca1, za2, z1a2, ca2]; omega))]
        try rw [if_neg (show ¬ (a3 < 3) by first | omega | (simp [upS, hz, za1, z1a1, ca1, za2, z1a2, ca2]; done) | (simp [upS, hz, za1, z1a1, ca1, za2, z1a2, ca2]; omega))]
        all_goals rfl
      refine ⟨_, _, hD13, ?_⟩
      clear hD13
      refine ⟨(show 0 = 0 ∨ 0 = 1 by first | omega | (simp [upS, hz, za1, z1a1, ca1, za2, z1a2, ca2]; done) | (simp [upS, hz, za1, z1a1, ca1, za2, z1a2, ca2]; omega)), ?_⟩
      all_goals rfl
    refine ⟨_, _, hD14, ?_⟩
    clear hD14
    try rw [if_pos (show (0 : Int) = 0 by first | omega | (simp [upS, hz, za1, z1a1, ca1, za2, z1a2, ca2]; done) | (simp [upS, hz, za1, z1a1, ca1, za2, z1a2, ca2]; omega))]
    refine b299_44 ?_
    have hD15 : Dd 245 [(.inr (.inr (some 682))), (.inl 2)] σ (.inl (some (.inl 0)), (upS σ 682 0 2)) := by
      refine b245 ?_
      try rw [if_neg (show ¬ ((2 : Int) = 0) by first | omega | (simp [upS, hz, za1, z1a1, ca1, za2, z1a2, ca2]; done) | (simp [upS, hz, za1, z1a1, ca1, za2, z1a2, ca2]; omega))]
      all_goals rfl
    refine ⟨_, _, hD15, ?_⟩
    clear hD15
    rw [if_pos (show (0 : Int) = 0 by first | omega | (simp [upS, hz, za1, z1a1, ca1, za2, z1a2, ca2]; done) | (simp [upS, hz, za1, z1a1, ca1, za2, z1a2, ca2]; omega))]
    all_goals rfl
  refine ⟨_, _, _, _, hA, hB, ?_, ?_, ?_, ?_, ?_⟩
  · (first | rfl | (simp [upS, SCR, hz, za1, z1a1, ca1, za2, z1a2, ca2]; done) | (simp [upS, SCR, hz, za1, z1a1, ca1, za2, z1a2, ca2]; omega))
  · first | (intro h9; omega) | (intro _; first | rfl | (simp [upS, SCR, hz, za1, z1a1, ca1, za2, z1a2, ca2]; done) | (simp [upS, SCR, hz, za1, z1a1, ca1, za2, z1a2, ca2]; omega))
  · intro i; first | rfl | (unfold upS SCR; (repeat' split) <;> first | rfl | omega)
  · first | rfl | (unfold upS SCR; (repeat' split) <;> first | rfl | omega)
  · first | rfl | (unfold upS SCR; (repeat' split) <;> first | rfl | omega)
theorem q9_6 {σ : Sg} {a1 : Int} {a2 : Int} {a3 : Int} (hz : ∀ a i, a < 1000 → σ a i = 0) (h0 : 0 ≤ a1 ∧ a1 < 4) (h1 : 0 ≤ a2 ∧ a2 < 4) (h2 : a3 = 0) : ∃ (kx b : Int) (s1 s2 : Sg), Dd 399 [(.inr (.inr (some 0))), (.inl a1), (.inl a2), (.inl a3), (.inr (.inr (some 726)))] σ (.inl (some (.inl kx)), s1) ∧ Dd 299 [(.inr (.inr (some 682))), (.inl a1), (.inl a2), (.inl a3)] s1 (.inl (some (.inl b)), s2) ∧ s2 682 0 = kx ∧ (kx = 0 → s2 726 0 = b) ∧ (∀ i, s1 SCR i = σ SCR i) ∧ s1 (SCR + 1) 0 = σ (SCR + 1) 0 ∧ s2 (SCR + 1) 0 = σ (SCR + 1) 0 := by
  have za1 : ∀ i, σ (2 + 2 * ((a1)).toNat) i = 0 := fun i => hz _ i (by omega)
  have z1a1 : ∀ i, σ ((2 + 2 * ((a1)).toNat) + 1) i = 0 := fun i => hz _ i (by omega)
  have ca1 : (cap (2 + 2 * ((a1)).toNat) : Int) = 16 := cp_1 (by omega)
  have za2 : ∀ i, σ (2 + 2 * ((a2)).toNat) i = 0 := fun i => hz _ i (by omega)
  have z1a2 : ∀ i, σ ((2 + 2 * ((a2)).toNat) + 1) i = 0 := fun i => hz _ i (by omega)
  have ca2 : (cap (2 + 2 * ((a2)).toNat) : Int) = 16 := cp_1 (by omega)
  have hA : Dd 399 [(.inr (.inr (some 0))), (.inl a1), (.inl a2), (.inl a3), (.inr (.inr (some 726)))] σ (.inl (some (.inl 0)), (upS (upS (upS (upS (upS (upS (upS (upS (upS (upS (upS (upS (upS (upS (upS (upS (upS (upS σ 333 1 0) 335 1 0) 337 1 0) 343 1 0) 380 1 0) 382 1 0) 384 1 0) 386 1 0) 388 1 0) 384 1 0) 386 1 0) 21 1 0) 23 1 0) 25 1 0) 27 1 0) 29 1 0) 0 3 1) 726 0 0)) := by
    refine b399 ?_
    have hD61 : Dd 181 [(.inr (.inr (some 0))), (.inl a1), (.inl a2), (.inl a3)] σ (.inl (some (.inl 0)), (upS (upS (upS (upS (upS (upS (upS (upS (upS (upS (upS (upS (upS (upS (upS (upS (upS σ 333 1 0) 335 1 0) 337 1 0) 343 1 0) 380 1 0) 382 1 0) 384 1 0) 386 1 0) 388 1 0) 384 1 0) 386 1 0) 21 1 0) 23 1 0) 25 1 0) 27 1 0) 29 1 0) 0 3 1)) := by
      refine b181 ?_
      have hD3 : Dd 227 [(.inr (.inr (some 0))), (.inl a1)] σ (.inl (some (.inr (.inr (some (2 + 2 * ((a1)).toNat))))), σ) := by
        refine b227 ?_
        have hD1 : Dd 145 [(.inr (.inr (some 1))), (.inl a1)] σ (.inl (some (.inr (.inr (some (2 + 2 * ((a1)).toNat))))), σ) := by
          refine b145 ?_
          rw [if_pos (show (0 : Int) ≤ a1 by first | omega | (simp [upS, hz, za1, z1a1, ca1, za2, z1a2, ca2]; done) | (simp [upS, hz, za1, z1a1, ca1, za2, z1a2, ca2]; omega))]
          refine ⟨4, (by decide +kernel), (by decide), ?_⟩
          rw [if_pos (show a1 < ((4 : Nat) : Int) by first | omega | (simp [upS, hz, za1, z1a1, ca1, za2, z1a2, ca2]; done) | (simp [upS, hz, za1, z1a1, ca1, za2, z1a2, ca2]; omega))]
          refine ⟨(show 0 ≤ a1 by first | omega | (simp [upS, hz, za1, z1a1, ca1, za2, z1a2, ca2]; done) | (simp [upS, hz, za1, z1a1, ca1, za2, z1a2, ca2]; omega)), ?_⟩
          refine ⟨(2 + 2 * ((a1)).toNat), (el_1 (i := (a1)) (by first | omega | (simp [upS, hz, za1, z1a1, ca1, za2, z1a2, ca2]; done) | (simp [upS, hz, za1, z1a1, ca1, za2, z1a2, ca2]; omega))).1, (el_1 (i := (a1)) (by first | omega | (simp [upS, hz, za1, z1a1, ca1, za2, z1a2, ca2]; done) | (simp [upS, hz, za1, z1a1, ca1, za2, z1a2, ca2]; omega))).2, ?_⟩
          all_goals rfl
        refine ⟨_, _, hD1, ?_⟩
        clear hD1
        refine ⟨fun hz2 => (by cases hz2), fun _ hz2 => ?_⟩
        cases hz2
        refine ⟨(el_1 (i := (a1)) (by first | omega | (simp [upS, hz, za1, z1a1, ca1, za2, z1a2, ca2]; done) | (simp [upS, hz, za1, z1a1, ca1, za2, z1a2, ca2]; omega))).2, ?_⟩
        all_goals rfl
      refine Or.inl ⟨_, _, hD3, (el_1 (i := (a1)) (by first | omega | (simp [upS, hz, za1, z1a1, ca1, za2, z1a2, ca2]; done) | (simp [upS, hz, za1, z1a1, ca1, za2, z1a2, ca2]; omega))).2, ?_⟩
      clear hD3
      have hD6 : Dd 227 [(.inr (.inr (some 0))), (.inl a2)] σ (.inl (some (.inr (.inr (some (2 + 2 * ((a2)).toNat))))), σ) := by
        refine b227 ?_
        have hD4 : Dd 145 [(.inr (.inr (some 1))), (.inl a2)] σ (.inl (some (.inr (.inr (some (2 + 2 * ((a2)).toNat))))), σ) := by
          refine b145 ?_
          rw [if_pos (show (0 : Int) ≤ a2 by first | omega | (simp [upS, hz, za1, z1a1, ca1, za2, z1a2, ca2]; done) | (simp [upS, hz, za1, z1a1, ca1, za2, z1a2, ca2]; omega))]
          refine ⟨4, (by decide +kernel), (by decide), ?_⟩
          rw [if_pos (show a2 < ((4 : Nat) : Int) by first | omega | (simp [upS, hz, za1, z1a1, ca1, za2, z1a2, ca2]; done) | (simp [upS, hz, za1, z1a1, ca1, za2, z1a2, ca2]; omega))]
          refine ⟨(show 0 ≤ a2 by first | omega | (simp [upS, hz, za1, z1a1, ca1, za2, z1a2, ca2]; done) | (simp [upS, hz, za1, z1a1, ca1, za2, z1a2, ca2]; omega)), ?_⟩
          refine ⟨(2 + 2 * ((a2)).toNat), (el_1 (i := (a2)) (by first | omega | (simp [upS, hz, za1, z1a1, ca1, za2, z1a2, ca2]; done) | (simp [upS, hz, za1, z1a1, ca1, za2, z1a2, ca2]; omega))).1, (el_1 (i := (a2)) (by first | omega | (simp [upS, hz, za1, z1a1, ca1, za2, z1a2, ca2]; done) | (simp [upS, hz, za1, z1a1, ca1, za2, z1a2, ca2]; omega))).2, ?_⟩
          all_goals rfl
        refine ⟨_, _, hD4, ?_⟩
        clear hD4
        refine ⟨fun hz5 => (by cases hz5), fun _ hz5 => ?_⟩
        cases hz5
        refine ⟨(el_1 (i := (a2)) (by first | omega | (simp [upS, hz, za1, z1a1, ca1, za2, z1a2, ca2]; done) | (simp [upS, hz, za1, z1a1, ca1, za2, z1a2, ca2]; omega))).2, ?_⟩
        all_goals rfl
      refine Or.inl ⟨_, _, hD6, (el_1 (i := (a2)) (by first | omega | (simp [upS, hz, za1, z1a1, ca1, za2, z1a2, ca2]; done) | (simp [upS, hz, za1, z1a1, ca1, za2, z1a2, ca2]; omega))).2, ?_⟩
      clear hD6
      have hD7 : Dd 236 [(.inr (.inr (some 0))), (.inl a3)] σ (.inl none, σ) := by
        refine b236 ?_
        rw [if_pos (show a3 = 0 by first | omega | (simp [upS, hz, za1, z1a1, ca1, za2, z1a2, ca2]; done) | (simp [upS, hz, za1, z1a1, ca1, za2, z1a2, ca2]; omega))]
        all_goals rfl
      refine Or.inl ⟨_, hD7, ?_⟩
      clear hD7
      have hD18 : Dd 15 [(.inr (.inr (some 332))), (.inr (.inr (some (2 + 2 * ((a1)).toNat)))), (.inr (.inr (some (2 + 2 * ((a2)).toNat)))), (.inl a3)] σ (.inl (some (.inr (.inr (some 337)))), (upS (upS (upS (upS σ 333 1 0) 335 1 0) 337 1 0) 343 1 0)) := by
        refine b15 ?_
        have hD13 : Dd 19 [(.inr (.inr (some 332))), (.inr (.inr (some (2 + 2 * ((a1)).toNat)))), (.inr (.inr (some (2 + 2 * ((a2)).toNat))))] σ (.inl none, (upS (upS (upS (upS σ 333 1 0) 335 1 0) 337 1 0) 343 1 0)) := by
          refine b19 ?_
          have hD8 : Dd 155 [(.inr (.inr (some 333))), (.inr (.inr (some (2 + 2 * ((a1)).toNat))))] σ (.inl none, (upS σ 333 1 0)) := by
            refine b155 (el_1 (i := (a1)) (by first | omega | (simp [upS, hz, za1, z1a1, ca1, za2, z1a2, ca2]; done) | (simp [upS, hz, za1, z1a1, ca1, za2, z1a2, ca2]; omega))).2 (by decide +kernel) ?_
            refine ⟨(show -2147483648 ≤ ((cap 333) : Int) ∧ ((cap 333) : Int) ≤ 2147483647 by have e333 : (cap 333 : Int) = 40 := (by decide +kernel); first | omega | (simp [upS, hz, za1, z1a1, ca1, za2, z1a2, ca2]; done) | (simp [upS, hz, za1, z1a1, ca1, za2, z1a2, ca2]; omega)), ?_⟩
            rw [(show (upS σ 333 1 (if ((cap 333) : Int) < (σ (2 + 2 * ((a1)).toNat) 1) then ((cap 333) : Int) else (σ (2 + 2 * ((a1)).toNat) 1))) = (upS σ 333 1 0) from by rw [show (if ((cap 333) : Int) < (σ (2 + 2 * ((a1)).toNat) 1) then ((cap 333) : Int) else (σ (2 + 2 * ((a1)).toNat) 1)) = 0 by (have e333 : (cap 333 : Int) = 40 := (by decide +kernel); first | omega | (simp [upS, hz, za1, z1a1, ca1, za2, z1a2, ca2]; done) | (simp [upS, hz, za1, z1a1, ca1, za2, z1a2, ca2]; omega))])]
            refine b155_18 (by decide +kernel) (el_1 (i := (a1)) (by first | omega | (simp [upS, hz, za1, z1a1, ca1, za2, z1a2, ca2]; done) | (simp [upS, hz, za1, z1a1, ca1, za2, z1a2, ca2]; omega))).2 ?_
            rw [if_neg (show ¬ ((0 : Int) < ((upS σ 333 1 0) 333 1)) by first | omega | (simp [upS, hz, za1, z1a1, ca1, za2, z1a2, ca2]; done) | (simp [upS, hz, za1, z1a1, ca1, za2, z1a2, ca2]; omega))]
            all_goals rfl
          refine ⟨_, hD8, ?_⟩
          clear hD8
          have hD9 : Dd 155 [(.inr (.inr (some 335))), (.inr (.inr (some (2 + 2 * ((a2)).toNat))))] (upS σ 333 1 0) (.inl none, (upS (upS σ 333 1 0) 335 1 0)) := by
            refine b155 (el_1 (i := (a2)) (by first | omega | (simp [upS, hz, za1, z1a1, ca1, za2, z1a2, ca2]; done) | (simp [upS, hz, za1, z1a1, ca1, za2, z1a2, ca2]; omega))).2 (by decide +kernel) ?_
            refine ⟨(show -2147483648 ≤ ((cap 335) : Int) ∧ ((cap 335) : Int) ≤ 2147483647 by have e335 : (cap 335 : Int) = 40 := (by decide +kernel); first | omega | (simp [upS, hz, za1, z1a1, ca1, za2, z1a2, ca2]; done) | (simp [upS, hz, za1, z1a1, ca1, za2, z1a2, ca2]; omega)), ?_⟩
            rw [(show (upS (upS σ 333 1 0) 335 1 (if ((cap 335) : Int) < ((upS σ 333 1 0) (2 + 2 * ((a2)).toNat) 1) then ((cap 335) : Int) else ((upS σ 333 1 0) (2 + 2 * ((a2)).toNat) 1))) = (upS (upS σ 333 1 0) 335 1 0) from by rw [show (if ((cap 335) : Int) < ((upS σ 333 1 0) (2 + 2 * ((a2)).toNat) 1) then ((cap 335) : Int) else ((upS σ 333 1 0) (2 + 2 * ((a2)).toNat) 1)) = 0 by (have e335 : (cap 335 : Int) = 40 := (by decide +kernel); first | omega | (simp [upS, hz, za1, z1a1, ca1, za2, z1a2, ca2]; done) | (simp [upS, hz, za1, z1a1, ca1, za2, z1a2, ca2]; omega))])]
            refine b155_18 (by decide +kernel) (el_1 (i := (a2)) (by first | omega | (simp [upS, hz, za1, z1a1, ca1, za2, z1a2, ca2]; done) | (simp [upS, hz, za1, z1a1, ca1, za2, z1a2, ca2]; omega))).2 ?_
            rw [if_neg (show ¬ ((0 : Int) < ((upS (upS σ 333 1 0) 335 1 0) 335 1)) by first | omega | (simp [upS, hz, za1, z1a1, ca1, za2, z1a2, ca2]; done) | (simp [upS, hz, za1, z1a1, ca1, za2, z1a2, ca2]; omega))]
            all_goals rfl
          refine ⟨_, hD9, ?_⟩
          clear hD9
          have hD10 : Dd 146 [(.inr (.inr (some 333)))] (upS (upS σ 333 1 0) 335 1 0) (.inl (some (.inl 0)), (upS (upS σ 333 1 0) 335 1 0)) := by
            refine b146 (by decide +kernel) ?_
            rw [show ((upS (upS σ 333 1 0) 335 1 0) 333 1) = 0 by (first | omega | (simp [upS, hz, za1, z1a1, ca1, za2, z1a2, ca2]; done) | (simp [upS, hz, za1, z1a1, ca1, za2, z1a2, ca2]; omega))]
            all_goals rfl
          refine ⟨_, _, hD10, ?_⟩
          clear hD10
          have hD11 : Dd 153 [(.inr (.inr (some 337))), (.inl 0), (.inl (-1))] (upS (upS σ 333 1 0) 335 1 0) (.inl none, (upS (upS (upS σ 333 1 0) 335 1 0) 337 1 0)) := by
            refine b153 (by decide +kernel) ?_
            refine ⟨(show -2147483648 ≤ ((cap 337) : Int) ∧ ((cap 337) : Int) ≤ 2147483647 by have e337 : (cap 337 : Int) = 40 := (by decide +kernel); first | omega | (simp [upS, hz, za1, z1a1, ca1, za2, z1a2, ca2]; done) | (simp [upS, hz, za1, z1a1, ca1, za2, z1a2, ca2]; omega)), ?_⟩
            rw [(show (upS (upS (upS σ 333 1 0) 335 1 0) 337 1 (if 0 < (if ((cap 337) : Int) < 0 then ((cap 337) : Int) else 0) then (if ((cap 337) : Int) < 0 then ((cap 337) : Int) else 0) else 0)) = (upS (upS (upS σ 333 1 0) 335 1 0) 337 1 0) from by rw [show (if (0 : Int) < (if ((cap 337) : Int) < 0 then ((cap 337) : Int) else 0) then (if ((cap 337) : Int) < 0 then ((cap 337) : Int) else 0) else 0) = 0 by (have e337 : (cap 337 : Int) = 40 := (by decide +kernel); first | omega | (simp [upS, hz, za1, z1a1, ca1, za2, z1a2, ca2]; done) | (simp [upS, hz, za1, z1a1, ca1, za2, z1a2, ca2]; omega))])]
            refine b153_19 (by decide +kernel) ?_
            rw [if_neg (show ¬ ((0 : Int) < ((upS (upS (upS σ 333 1 0) 335 1 0) 337 1 0) 337 1)) by first | omega | (simp [upS, hz, za1, z1a1, ca1, za2, z1a2, ca2]; done) | (simp [upS, hz, za1, z1a1, ca1, za2, z1a2, ca2]; omega))]
            all_goals rfl
          refine ⟨_, hD11, ?_⟩
          clear hD11
          have hD12 : Dd 152 [(.inr (.inr (some 343)))] (upS (upS (upS σ 333 1 0) 335 1 0) 337 1 0) (.inl none, (upS (upS (upS (upS σ 333 1 0) 335 1 0) 337 1 0) 343 1 0)) := by
            refine b152 (by decide +kernel) ?_
            all_goals rfl
          refine ⟨_, hD12, ?_⟩
          clear hD12
          all_goals rfl
        refine ⟨_, hD13, ?_⟩
        clear hD13
        have hD14 : Dd 146 [(.inr (.inr (some 333)))] (upS (upS (upS (upS σ 333 1 0) 335 1 0) 337 1 0) 343 1 0) (.inl (some (.inl 0)), (upS (upS (upS (upS σ 333 1 0) 335 1 0) 337 1 0) 343 1 0)) := by
          refine b146 (by decide +kernel) ?_
          rw [show ((upS (upS (upS (upS σ 333 1 0) 335 1 0) 337 1 0) 343 1 0) 333 1) = 0 by (first | omega | (simp [upS, hz, za1, z1a1, ca1, za2, z1a2, ca2]; done) | (simp [upS, hz, za1, z1a1, ca1, za2, z1a2, ca2]; omega))]
          all_goals rfl
        refine ⟨_, _, hD14, ?_⟩
        clear hD14
        have hD15 : Dd 146 [(.inr (.inr (some 335)))] (upS (upS (upS (upS σ 333 1 0) 335 1 0) 337 1 0) 343 1 0) (.inl (some (.inl 0)), (upS (upS (upS (upS σ 333 1 0) 335 1 0) 337 1 0) 343 1 0)) := by
          refine b146 (by decide +kernel) ?_
          rw [show ((upS (upS (upS (upS σ 333 1 0) 335 1 0) 337 1 0) 343 1 0) 335 1) = 0 by (first | omega | (simp [upS, hz, za1, z1a1, ca1, za2, z1a2, ca2]; done) | (simp [upS, hz, za1, z1a1, ca1, za2, z1a2, ca2]; omega))]
          all_goals rfl
        refine ⟨_, _, hD15, ?_⟩
        clear hD15
        have hD16 : Dd 20 [(.inr (.inr (some 332))), (.inl 0), (.inl 0), (.inl 0), (.inl 0)] (upS (upS (upS (upS σ 333 1 0) 335 1 0) 337 1 0) 343 1 0) (.inl none, (upS (upS (upS (upS σ 333 1 0) 335 1 0) 337 1 0) 343 1 0)) := by
          refine b20 ?_
          rw [if_neg (show ¬ ((0 : Int) < 0) by first | omega | (simp [upS, hz, za1, z1a1, ca1, za2, z1a2, ca2]; done) | (simp [upS, hz, za1, z1a1, ca1, za2, z1a2, ca2]; omega))]
          all_goals rfl
        refine ⟨_, hD16, ?_⟩
        clear hD16
        refine b15_29 ?_
        rw [if_pos (show (0 : Int) < 160 by first | omega | (simp [upS, hz, za1, z1a1, ca1, za2, z1a2, ca2]; done) | (simp [upS, hz, za1, z1a1, ca1, za2, z1a2, ca2]; omega))]
        refine ⟨(show (-2147483648 : Int) ≤ (4 * 0) ∧ ((4 * 0) : Int) ≤ 2147483647 by first | omega | (simp [upS, hz, za1, z1a1, ca1, za2, z1a2, ca2]; done) | (simp [upS, hz, za1, z1a1, ca1, za2, z1a2, ca2]; omega)), ?_⟩
        have hD17 : Dd 146 [(.inr (.inr (some 343)))] (upS (upS (upS (upS σ 333 1 0) 335 1 0) 337 1 0) 343 1 0) (.inl (some (.inl 0)), (upS (upS (upS (upS σ 333 1 0) 335 1 0) 337 1 0) 343 1 0)) := by
          refine b146 (by decide +kernel) ?_
          rw [show ((upS (upS (upS (upS σ 333 1 0) 335 1 0) 337 1 0) 343 1 0) 343 1) = 0 by (first | omega | (simp [upS, hz, za1, z1a1, ca1, za2, z1a2, ca2]; done) | (simp [upS, hz, za1, z1a1, ca1, za2, z1a2, ca2]; omega))]
          all_goals rfl
        refine ⟨_, _, hD17, ?_⟩
        clear hD17
        rw [if_neg (show ¬ (((4 * 0) : Int) < 0) by first | omega | (simp [upS, hz, za1, z1a1, ca1, za2, z1a2, ca2]; done) | (simp [upS, hz, za1, z1a1, ca1, za2, z1a2, ca2]; omega))]
        refine b15_147 ?_
        all_goals rfl
      refine ⟨_, _, hD18, (by decide +kernel), ?_⟩
      clear hD18
      have hD31 : Dd 95 [(.inr (.inr (some 379))), (.inr (.inr (some (2 + 2 * ((a1)).toNat)))), (.inr (.inr (some (2 + 2 * ((a2)).toNat)))), (.inr (.inr (some 337)))] (upS (upS (upS (upS σ 333 1 0) 335 1 0) 337 1 0) 343 1 0) (.inl none, (upS (upS (upS (upS (upS (upS (upS (upS (upS σ 333 1 0) 335 1 0) 337 1 0) 343 1 0) 380 1 0) 382 1 0) 384 1 0) 386 1 0) 388 1 0)) := by
        refine b95 (by decide +kernel) (el_1 (i := (a2)) (by first | omega | (simp [upS, hz, za1, z1a1, ca1, za2, z1a2, ca2]; done) | (simp [upS, hz, za1, z1a1, ca1, za2, z1a2, ca2]; omega))).2 ?_
        rw [show (379 + 1) = 380 from rfl]
        have hD19 : Dd 155 [(.inr (.inr (some 380))), (.inr (.inr (some (2 + 2 * ((a1)).toNat))))] (upS (upS (upS (upS σ 333 1 0) 335 1 0) 337 1 0) 343 1 0) (.inl none, (upS (upS (upS (upS (upS σ 333 1 0) 335 1 0) 337 1 0) 343 1 0) 380 1 0)) := by
          refine b155 (el_1 (i := (a1)) (by first | omega | (simp [upS, hz, za1, z1a1, ca1, za2, z1a2, ca2]; done) | (simp [upS, hz, za1, z1a1, ca1, za2, z1a2, ca2]; omega))).2 (by decide +kernel) ?_
          refine ⟨(show -2147483648 ≤ ((cap 380) : Int) ∧ ((cap 380) : Int) ≤ 2147483647 by have e380 : (cap 380 : Int) = 16 := (by decide +kernel); first | omega | (simp [upS, hz, za1, z1a1, ca1, za2, z1a2, ca2]; done) | (simp [upS, hz, za1, z1a1, ca1, za2, z1a2, ca2]; omega)), ?_⟩
          rw [(show (upS (upS (upS (upS (upS σ 333 1 0) 335 1 0) 337 1 0) 343 1 0) 380 1 (if ((cap 380) : Int) < ((upS (upS (upS (upS σ 333 1 0) 335 1 0) 337 1 0) 343 1 0) (2 + 2 * ((a1)).toNat) 1) then ((cap 380) : Int) else ((upS (upS (upS (upS σ 333 1 0) 335 1 0) 337 1 0) 343 1 0) (2 + 2 * ((a1)).toNat) 1))) = (upS (upS (upS (upS (upS σ 333 1 0) 335 1 0) 337 1 0) 343 1 0) 380 1 0) from by rw [show (if ((cap 380) : Int) < ((upS (upS (upS (upS σ 333 1 0) 335 1 0) 337 1 0) 343 1 0) (2 + 2 * ((a1)).toNat) 1) then ((cap 380) : Int) else ((upS (upS (upS (upS σ 333 1 0) 335 1 0) 337 1 0) 343 1 0) (2 + 2 * ((a1)).toNat) 1)) = 0 by (have e380 : (cap 380 : Int) = 16 := (by decide +kernel); first | omega | (simp [upS, hz, za1, z1a1, ca1, za2, z1a2, ca2]; done) | (simp [upS, hz, za1, z1a1, ca1, za2, z1a2, ca2]; omega))])]
          refine b155_18 (by decide +kernel) (el_1 (i := (a1)) (by first | omega | (simp [upS, hz, za1, z1a1, ca1, za2, z1a2, ca2]; done) | (simp [upS, hz, za1, z1a1, ca1, za2, z1a2, ca2]; omega))).2 ?_
          rw [if_neg (show ¬ ((0 : Int) < ((upS (upS (upS (upS (upS σ 333 1 0) 335 1 0) 337 1 0) 343 1 0) 380 1 0) 380 1)) by first | omega | (simp [upS, hz, za1, z1a1, ca1, za2, z1a2, ca2]; done) | (simp [upS, hz, za1, z1a1, ca1, za2, z1a2, ca2]; omega))]
          all_goals rfl
        refine ⟨_, hD19, ?_⟩
        clear hD19
        rw [show (379 + 3) = 382 from rfl]
        have hD20 : Dd 155 [(.inr (.inr (some 382))), (.inr (.inr (some (2 + 2 * ((a2)).toNat))))] (upS (upS (upS (upS (upS σ 333 1 0) 335 1 0) 337 1 0) 343 1 0) 380 1 0) (.inl none, (upS (upS (upS (upS (upS (upS σ 333 1 0) 335 1 0) 337 1 0) 343 1 0) 380 1 0) 382 1 0)) := by
          refine b155 (el_1 (i := (a2)) (by first | omega | (simp [upS, hz, za1, z1a1, ca1, za2, z1a2, ca2]; done) | (simp [upS, hz, za1, z1a1, ca1, za2, z1a2, ca2]; omega))).2 (by decide +kernel) ?_
          refine ⟨(show -2147483648 ≤ ((cap 382) : Int) ∧ ((cap 382) : Int) ≤ 2147483647 by have e382 : (cap 382 : Int) = 16 := (by decide +kernel); first | omega | (simp [upS, hz, za1, z1a1, ca1, za2, z1a2, ca2]; done) | (simp [upS, hz, za1, z1a1, ca1, za2, z1a2, ca2]; omega)), ?_⟩
          rw [(show (upS (upS (upS (upS (upS (upS σ 333 1 0) 335 1 0) 337 1 0) 343 1 0) 380 1 0) 382 1 (if ((cap 382) : Int) < ((upS (upS (upS (upS (upS σ 333 1 0) 335 1 0) 337 1 0) 343 1 0) 380 1 0) (2 + 2 * ((a2)).toNat) 1) then ((cap 382) : Int) else ((upS (upS (upS (upS (upS σ 333 1 0) 335 1 0) 337 1 0) 343 1 0) 380 1 0) (2 + 2 * ((a2)).toNat) 1))) = (upS (upS (upS (upS (upS (upS σ 333 1 0) 335 1 0) 337 1 0) 343 1 0) 380 1 0) 382 1 0) from by rw [show (if ((cap 382) : Int) < ((upS (upS (upS (upS (upS σ 333 1 0) 335 1 0) 337 1 0) 343 1 0) 380 1 0) (2 + 2 * ((a2)).toNat) 1) then ((cap 382) : Int) else ((upS (upS (upS (upS (upS σ 333 1 0) 335 1 0) 337 1 0) 343 1 0) 380 1 0) (2 + 2 * ((a2)).toNat) 1)) = 0 by (have e382 : (cap 382 : Int) = 16 := (by decide +kernel); first | omega | (simp [upS, hz, za1, z1a1, ca1, za2, z1a2, ca2]; done) | (simp [upS, hz, za1, z1a1, ca1, za2, z1a2, ca2]; omega))])]
          refine b155_18 (by decide +kernel) (el_1 (i := (a2)) (by first | omega | (simp [upS, hz, za1, z1a1, ca1, za2, z1a2, ca2]; done) | (simp [upS, hz, za1, z1a1, ca1, za2, z1a2, ca2]; omega))).2 ?_
          rw [if_neg (show ¬ ((0 : Int) < ((upS (upS (upS (upS (upS (upS σ 333 1 0) 335 1 0) 337 1 0) 343 1 0) 380 1 0) 382 1 0) 382 1)) by first | omega | (simp [upS, hz, za1, z1a1, ca1, za2, z1a2, ca2]; done) | (simp [upS, hz, za1, z1a1, ca1, za2, z1a2, ca2]; omega))]
          all_goals rfl
        refine ⟨_, hD20, ?_⟩
        clear hD20
        rw [show (379 + 5) = 384 from rfl]
        have hD22 : Dd 155 [(.inr (.inr (some 384))), (.inr (.inr (some 337)))] (upS (upS (upS (upS (upS (upS σ 333 1 0) 335 1 0) 337 1 0) 343 1 0) 380 1 0) 382 1 0) (.inl none, (upS (upS (upS (upS (upS (upS (upS σ 333 1 0) 335 1 0) 337 1 0) 343 1 0) 380 1 0) 382 1 0) 384 1 0)) := by
          refine b155 (by decide +kernel) (by decide +kernel) ?_
          refine ⟨(show -2147483648 ≤ ((cap 384) : Int) ∧ ((cap 384) : Int) ≤ 2147483647 by have e384 : (cap 384 : Int) = 16 := (by decide +kernel); first | omega | (simp [upS, hz, za1, z1a1, ca1, za2, z1a2, ca2]; done) | (simp [upS, hz, za1, z1a1, ca1, za2, z1a2, ca2]; omega)), ?_⟩
          rw [(show (upS (upS (upS (upS (upS (upS (upS σ 333 1 0) 335 1 0) 337 1 0) 343 1 0) 380 1 0) 382 1 0) 384 1 (if ((cap 384) : Int) < ((upS (upS (upS (upS (upS (upS σ 333 1 0) 335 1 0) 337 1 0) 343 1 0) 380 1 0) 382 1 0) 337 1) then ((cap 384) : Int) else ((upS (upS (upS (upS (upS (upS σ 333 1 0) 335 1 0) 337 1 0) 343 1 0) 380 1 0) 382 1 0) 337 1))) = (upS (upS (upS (upS (upS (upS (upS σ 333 1 0) 335 1 0) 337 1 0) 343 1 0) 380 1 0) 382 1 0) 384 1 0) from by rw [show (if ((cap 384) : Int) < ((upS (upS (upS (upS (upS (upS σ 333 1 0) 335 1 0) 337 1 0) 343 1 0) 380 1 0) 382 1 0) 337 1) then ((cap 384) : Int) else ((upS (upS (upS (upS (upS (upS σ 333 1 0) 335 1 0) 337 1 0) 343 1 0) 380 1 0) 382 1 0) 337 1)) = 0 by (have e384 : (cap 384 : Int) = 16 := (by decide +kernel); first | omega | (simp [upS, hz, za1, z1a1, ca1, za2, z1a2, ca2]; done) | (simp [upS, hz, za1, z1a1, ca1, za2, z1a2, ca2]; omega))])]
          obtain ⟨S21, E21⟩ : ∃ s : Sg, s = (upS (upS (upS (upS (upS (upS (upS σ 333 1 0) 335 1 0) 337 1 0) 343 1 0) 380 1 0) 382 1 0) 384 1 0) := ⟨_, rfl⟩
          rw [← E21]
          refine b155_18 (by decide +kernel) (by decide +kernel) ?_
          rw [if_neg (show ¬ ((0 : Int) < (S21 384 1)) by first | omega | (simp [upS, hz, za1, z1a1, ca1, za2, z1a2, ca2, E21]; done) | (simp [upS, hz, za1, z1a1, ca1, za2, z1a2, ca2, E21]; omega))]
          all_goals (first | rfl | (simp only [E21]))
        obtain ⟨S23, E23⟩ : ∃ s : Sg, s = (upS (upS (upS (upS (upS (upS (upS σ 333 1 0) 335 1 0) 337 1 0) 343 1 0) 380 1 0) 382 1 0) 384 1 0) := ⟨_, rfl⟩
        rw [← E23] at hD22
        refine ⟨_, hD22, ?_⟩
        clear hD22
        have hD24 : Dd 146 [(.inr (.inr (some (2 + 2 * ((a2)).toNat))))] S23 (.inl (some (.inl 0)), S23) := by
          refine b146 (el_1 (i := (a2)) (by first | omega | (simp [upS, hz, za1, z1a1, ca1, za2, z1a2, ca2]; done) | (simp [upS, hz, za1, z1a1, ca1, za2, z1a2, ca2]; omega))).2 ?_
          rw [show (S23 (2 + 2 * ((a2)).toNat) 1) = 0 by (first | omega | (simp [upS, hz, za1, z1a1, ca1, za2, z1a2, ca2, E23]; done) | (simp [upS, hz, za1, z1a1, ca1, za2, z1a2, ca2, E23]; omega))]
          all_goals rfl
        refine ⟨_, _, hD24, ?_⟩
        clear hD24
        rw [show (379 + 7) = 386 from rfl]
        have hD25 : Dd 153 [(.inr (.inr (some 386))), (.inl 0), (.inl (-1))] S23 (.inl none, (upS S23 386 1 0)) := by
          refine b153 (by decide +kernel) ?_
          refine ⟨(show -2147483648 ≤ ((cap 386) : Int) ∧ ((cap 386) : Int) ≤ 2147483647 by have e386 : (cap 386 : Int) = 16 := (by decide +kernel); first | omega | (simp [upS, hz, za1, z1a1, ca1, za2, z1a2, ca2, E23]; done) | (simp [upS, hz, za1, z1a1, ca1, za2, z1a2, ca2, E23]; omega)), ?_⟩
          rw [(show (upS S23 386 1 (if 0 < (if ((cap 386) : Int) < 0 then ((cap 386) : Int) else 0) then (if ((cap 386) : Int) < 0 then ((cap 386) : Int) else 0) else 0)) = (upS S23 386 1 0) from by rw [show (if (0 : Int) < (if ((cap 386) : Int) < 0 then ((cap 386) : Int) else 0) then (if ((cap 386) : Int) < 0 then ((cap 386) : Int) else 0) else 0) = 0 by (have e386 : (cap 386 : Int) = 16 := (by decide +kernel); first | omega | (simp [upS, hz, za1, z1a1, ca1, za2, z1a2, ca2, E23]; done) | (simp [upS, hz, za1, z1a1, ca1, za2, z1a2, ca2, E23]; omega))])]
          refine b153_19 (by decide +kernel) ?_
          rw [if_neg (show ¬ ((0 : Int) < ((upS S23 386 1 0) 386 1)) by first | omega | (simp [upS, hz, za1, z1a1, ca1, za2, z1a2, ca2, E23]; done) | (simp [upS, hz, za1, z1a1, ca1, za2, z1a2, ca2, E23]; omega))]
          all_goals rfl
        refine ⟨_, hD25, ?_⟩
        clear hD25
        refine b95_39 (by decide +kernel) (by decide +kernel) ?_
        have hD26 : Dd 146 [(.inr (.inr (some 337)))] (upS S23 386 1 0) (.inl (some (.inl 0)), (upS S23 386 1 0)) := by
          refine b146 (by decide +kernel) ?_
          rw [show ((upS S23 386 1 0) 337 1) = 0 by (first | omega | (simp [upS, hz, za1, z1a1, ca1, za2, z1a2, ca2, E23]; done) | (simp [upS, hz, za1, z1a1, ca1, za2, z1a2, ca2, E23]; omega))]
          all_goals rfl
        refine ⟨_, _, hD26, ?_⟩
        clear hD26
        rw [if_neg (show ¬ ((0 : Int) < 0) by first | omega | (simp [upS, hz, za1, z1a1, ca1, za2, z1a2, ca2, E23]; done) | (simp [upS, hz, za1, z1a1, ca1, za2, z1a2, ca2, E23]; omega))]
        have hD30 : Dd 94 [(.inr (.inr (some 379)))] (upS S23 386 1 0) (.inl none, (upS (upS S23 386 1 0) 388 1 0)) := by
          refine b94 (by decide +kernel) ?_
          rw [show (379 + 9) = 388 from rfl]
          have hD27 : Dd 152 [(.inr (.inr (some 388)))] (upS S23 386 1 0) (.inl none, (upS (upS S23 386 1 0) 388 1 0)) := by
            refine b152 (by decide +kernel) ?_
            all_goals rfl
          refine ⟨_, hD27, ?_⟩
          clear hD27
          refine b94_11 (by decide +kernel) ?_
          rw [show (379 + 1) = 380 from rfl]
          have hD28 : Dd 146 [(.inr (.inr (some 380)))] (upS (upS S23 386 1 0) 388 1 0) (.inl (some (.inl 0)), (upS (upS S23 386 1 0) 388 1 0)) := by
            refine b146 (by decide +kernel) ?_
            rw [show ((upS (upS S23 386 1 0) 388 1 0) 380 1) = 0 by (first | omega | (simp [upS, hz, za1, z1a1, ca1, za2, z1a2, ca2, E23]; done) | (simp [upS, hz, za1, z1a1, ca1, za2, z1a2, ca2, E23]; omega))]
            all_goals rfl
          refine ⟨_, _, hD28, ?_⟩
          clear hD28
          rw [if_pos (show (0 : Int) ≤ 0 by first | omega | (simp [upS, hz, za1, z1a1, ca1, za2, z1a2, ca2, E23]; done) | (simp [upS, hz, za1, z1a1, ca1, za2, z1a2, ca2, E23]; omega))]
          rw [show (379 + 3) = 382 from rfl]
          have hD29 : Dd 146 [(.inr (.inr (some 382)))] (upS (upS S23 386 1 0) 388 1 0) (.inl (some (.inl 0)), (upS (upS S23 386 1 0) 388 1 0)) := by
            refine b146 (by decide +kernel) ?_
            rw [show ((upS (upS S23 386 1 0) 388 1 0) 382 1) = 0 by (first | omega | (simp [upS, hz, za1, z1a1, ca1, za2, z1a2, ca2, E23]; done) | (simp [upS, hz, za1, z1a1, ca1, za2, z1a2, ca2, E23]; omega))]
            all_goals rfl
          refine ⟨_, _, hD29, ?_⟩
          clear hD29
          rw [if_neg (show ¬ ((0 : Int) < 0) by first | omega | (simp [upS, hz, za1, z1a1, ca1, za2, z1a2, ca2, E23]; done) | (simp [upS, hz, za1, z1a1, ca1, za2, z1a2, ca2, E23]; omega))]
          all_goals rfl
        refine ⟨_, hD30, ?_⟩
        clear hD30
        all_goals (first | rfl | (simp only [E23]))
      obtain ⟨S32, E32⟩ : ∃ s : Sg, s = (upS (upS (upS (upS (upS (upS (upS (upS (upS σ 333 1 0) 335 1 0) 337 1 0) 343 1 0) 380 1 0) 382 1 0) 384 1 0) 386 1 0) 388 1 0) := ⟨_, rfl⟩
      rw [← E32] at hD31
      refine ⟨_, hD31, ?_⟩
      clear hD31
      have hD49 : Dd 108 [(.inr (.inr (some 379)))] S32 (.inl none, (upS (upS S32 384 1 0) 386 1 0)) := by
        refine b108 ?_
        refine b108_2 (by decide +kernel) ?_
        have hD34 : Dd 98 [(.inr (.inr (some 379)))] S32 (.inl (some (.inl 0)), S32) := by
          refine b98 (by decide +kernel) ?_
          rw [show (379 + 9) = 388 from rfl]
          have hD33 : Dd 146 [(.inr (.inr (some 388)))] S32 (.inl (some (.inl 0)), S32) := by
            refine b146 (by decide +kernel) ?_
            rw [show (S32 388 1) = 0 by (first | omega | (simp [upS, hz, za1, z1a1, ca1, za2, z1a2, ca2, E32]; done) | (simp [upS, hz, za1, z1a1, ca1, za2, z1a2, ca2, E32]; omega))]
            all_goals rfl
          refine ⟨_, _, hD33, ?_⟩
          clear hD33
          rw [show (Int.tdiv 0 4) = 0 by (first | omega | (simp [upS, hz, za1, z1a1, ca1, za2, z1a2, ca2, E32]; done) | (simp [upS, hz, za1, z1a1, ca1, za2, z1a2, ca2, E32]; omega))]
          all_goals rfl
        refine ⟨_, _, hD34, ?_⟩
        clear hD34
        rw [if_neg (show ¬ ((0 : Int) < 0) by first | omega | (simp [upS, hz, za1, z1a1, ca1, za2, z1a2, ca2, E32]; done) | (simp [upS, hz, za1, z1a1, ca1, za2, z1a2, ca2, E32]; omega))]
        have hD48 : Dd 113 [(.inr (.inr (some 379)))] S32 (.inl none, (upS (upS S32 384 1 0) 386 1 0)) := by
          refine b113 (by decide +kernel) ?_
          rw [show (379 + 1) = 380 from rfl]
          have hD35 : Dd 146 [(.inr (.inr (some 380)))] S32 (.inl (some (.inl 0)), S32) := by
            refine b146 (by decide +kernel) ?_
            rw [show (S32 380 1) = 0 by (first | omega | (simp [upS, hz, za1, z1a1, ca1, za2, z1a2, ca2, E32]; done) | (simp [upS, hz, za1, z1a1, ca1, za2, z1a2, ca2, E32]; omega))]
            all_goals rfl
          refine ⟨_, _, hD35, ?_⟩
          clear hD35
          rw [show (379 + 5) = 384 from rfl]
          have hD36 : Dd 153 [(.inr (.inr (some 384))), (.inl 0), (.inl (-1))] S32 (.inl none, (upS S32 384 1 0)) := by
            refine b153 (by decide +kernel) ?_
            refine ⟨(show -2147483648 ≤ ((cap 384) : Int) ∧ ((cap 384) : Int) ≤ 2147483647 by have e384 : (cap 384 : Int) = 16 := (by decide +kernel); first | omega | (simp [upS, hz, za1, z1a1, ca1, za2, z1a2, ca2, E32]; done) | (simp [upS, hz, za1, z1a1, ca1, za2, z1a2, ca2, E32]; omega)), ?_⟩
            rw [(show (upS S32 384 1 (if 0 < (if ((cap 384) : Int) < 0 then ((cap 384) : Int) else 0) then (if ((cap 384) : Int) < 0 then ((cap 384) : Int) else 0) else 0)) = (upS S32 384 1 0) from by rw [show (if (0 : Int) < (if ((cap 384) : Int) < 0 then ((cap 384) : Int) else 0) then (if ((cap 384) : Int) < 0 then ((cap 384) : Int) else 0) else 0) = 0 by (have e384 : (cap 384 : Int) = 16 := (by decide +kernel); first | omega | (simp [upS, hz, za1, z1a1, ca1, za2, z1a2, ca2, E32]; done) | (simp [upS, hz, za1, z1a1, ca1, za2, z1a2, ca2, E32]; omega))])]
            refine b153_19 (by decide +kernel) ?_
            rw [if_neg (show ¬ ((0 : Int) < ((upS S32 384 1 0) 384 1)) by first | omega | (simp [upS, hz, za1, z1a1, ca1, za2, z1a2, ca2, E32]; done) | (simp [upS, hz, za1, z1a1, ca1, za2, z1a2, ca2, E32]; omega))]
            all_goals rfl
          refine ⟨_, hD36, ?_⟩
          clear hD36
          rw [show (379 + 3) = 382 from rfl]
          have hD37 : Dd 146 [(.inr (.inr (some 382)))] (upS S32 384 1 0) (.inl (some (.inl 0)), (upS S32 384 1 0)) := by
            refine b146 (by decide +kernel) ?_
            rw [show ((upS S32 384 1 0) 382 1) = 0 by (first | omega | (simp [upS, hz, za1, z1a1, ca1, za2, z1a2, ca2, E32]; done) | (simp [upS, hz, za1, z1a1, ca1, za2, z1a2, ca2, E32]; omega))]
            all_goals rfl
          refine ⟨_, _, hD37, ?_⟩
          clear hD37
          rw [show (379 + 7) = 386 from rfl]
          have hD38 : Dd 153 [(.inr (.inr (some 386))), (.inl 0), (.inl (-1))] (upS S32 384 1 0) (.inl none, (upS (upS S32 384 1 0) 386 1 0)) := by
            refine b153 (by decide +kernel) ?_
            refine ⟨(show -2147483648 ≤ ((cap 386) : Int) ∧ ((cap 386) : Int) ≤ 2147483647 by have e386 : (cap 386 : Int) = 16 := (by decide +kernel); first | omega | (simp [upS, hz, za1, z1a1, ca1, za2, z1a2, ca2, E32]; done) | (simp [upS, hz, za1, z1a1, ca1, za2, z1a2, ca2, E32]; omega)), ?_⟩
            rw [(show (upS (upS S32 384 1 0) 386 1 (if 0 < (if ((cap 386) : Int) < 0 then ((cap 386) : Int) else 0) then (if ((cap 386) : Int) < 0 then ((cap 386) : Int) else 0) else 0)) = (upS (upS S32 384 1 0) 386 1 0) from by rw [show (if (0 : Int) < (if ((cap 386) : Int) < 0 then ((cap 386) : Int) else 0) then (if ((cap 386) : Int) < 0 then ((cap 386) : Int) else 0) else 0) = 0 by (have e386 : (cap 386 : Int) = 16 := (by decide +kernel); first | omega | (simp [upS, hz, za1, z1a1, ca1, za2, z1a2, ca2, E32]; done) | (simp [upS, hz, za1, z1a1, ca1, za2, z1a2, ca2, E32]; omega))])]
            refine b153_19 (by decide +kernel) ?_
            rw [if_neg (show ¬ ((0 : Int) < ((upS (upS S32 384 1 0) 386 1 0) 386 1)) by first | omega | (simp [upS, hz, za1, z1a1, ca1, za2, z1a2, ca2, E32]; done) | (simp [upS, hz, za1, z1a1, ca1, za2, z1a2, ca2, E32]; omega))]
            all_goals rfl
          refine ⟨_, hD38, ?_⟩
          clear hD38
          refine b113_34 (by decide +kernel) ?_
          have hD40 : Dd 98 [(.inr (.inr (some 379)))] (upS (upS S32 384 1 0) 386 1 0) (.inl (some (.inl 0)), (upS (upS S32 384 1 0) 386 1 0)) := by
            refine b98 (by decide +kernel) ?_
            rw [show (379 + 9) = 388 from rfl]
            have hD39 : Dd 146 [(.inr (.inr (some 388)))] (upS (upS S32 384 1 0) 386 1 0) (.inl (some (.inl 0)), (upS (upS S32 384 1 0) 386 1 0)) := by
              refine b146 (by decide +kernel) ?_
              rw [show ((upS (upS S32 384 1 0) 386 1 0) 388 1) = 0 by (first | omega | (simp [upS, hz, za1, z1a1, ca1, za2, z1a2, ca2, E32]; done) | (simp [upS, hz, za1, z1a1, ca1, za2, z1a2, ca2, E32]; omega))]
              all_goals rfl
            refine ⟨_, _, hD39, ?_⟩
            clear hD39
            rw [show (Int.tdiv 0 4) = 0 by (first | omega | (simp [upS, hz, za1, z1a1, ca1, za2, z1a2, ca2, E32]; done) | (simp [upS, hz, za1, z1a1, ca1, za2, z1a2, ca2, E32]; omega))]
            all_goals rfl
          refine ⟨_, _, hD40, ?_⟩
          clear hD40
          rw [if_pos (show (0 : Int) ≤ 0 by first | omega | (simp [upS, hz, za1, z1a1, ca1, za2, z1a2, ca2, E32]; done) | (simp [upS, hz, za1, z1a1, ca1, za2, z1a2, ca2, E32]; omega))]
          have hD42 : Dd 98 [(.inr (.inr (some 379)))] (upS (upS S32 384 1 0) 386 1 0) (.inl (some (.inl 0)), (upS (upS S32 384 1 0) 386 1 0)) := by
            refine b98 (by decide +kernel) ?_
            rw [show (379 + 9) = 388 from rfl]
            have hD41 : Dd 146 [(.inr (.inr (some 388)))] (upS (upS S32 384 1 0) 386 1 0) (.inl (some (.inl 0)), (upS (upS S32 384 1 0) 386 1 0)) := by
              refine b146 (by decide +kernel) ?_
              rw [show ((upS (upS S32 384 1 0) 386 1 0) 388 1) = 0 by (first | omega | (simp [upS, hz, za1, z1a1, ca1, za2, z1a2, ca2, E32]; done) | (simp [upS, hz, za1, z1a1, ca1, za2, z1a2, ca2, E32]; omega))]
              all_goals rfl
            refine ⟨_, _, hD41, ?_⟩
            clear hD41
            rw [show (Int.tdiv 0 4) = 0 by (first | omega | (simp [upS, hz, za1, z1a1, ca1, za2, z1a2, ca2, E32]; done) | (simp [upS, hz, za1, z1a1, ca1, za2, z1a2, ca2, E32]; omega))]
            all_goals rfl
          refine ⟨_, _, hD42, ?_⟩
          clear hD42
          rw [if_neg (show ¬ ((0 : Int) < 0) by first | omega | (simp [upS, hz, za1, z1a1, ca1, za2, z1a2, ca2, E32]; done) | (simp [upS, hz, za1, z1a1, ca1, za2, z1a2, ca2, E32]; omega))]
          rw [show (379 + 1) = 380 from rfl]
          have hD43 : Dd 146 [(.inr (.inr (some 380)))] (upS (upS S32 384 1 0) 386 1 0) (.inl (some (.inl 0)), (upS (upS S32 384 1 0) 386 1 0)) := by
            refine b146 (by decide +kernel) ?_
            rw [show ((upS (upS S32 384 1 0) 386 1 0) 380 1) = 0 by (first | omega | (simp [upS, hz, za1, z1a1, ca1, za2, z1a2, ca2, E32]; done) | (simp [upS, hz, za1, z1a1, ca1, za2, z1a2, ca2, E32]; omega))]
            all_goals rfl
          refine ⟨_, _, hD43, ?_⟩
          clear hD43
          refine b113_65 ?_
          refine b113_69 (by decide +kernel) ?_
          rw [if_neg (show ¬ ((0 : Int) < 0) by first | omega | (simp [upS, hz, za1, z1a1, ca1, za2, z1a2, ca2, E32]; done) | (simp [upS, hz, za1, z1a1, ca1, za2, z1a2, ca2, E32]; omega))]
          have hD45 : Dd 98 [(.inr (.inr (some 379)))] (upS (upS S32 384 1 0) 386 1 0) (.inl (some (.inl 0)), (upS (upS S32 384 1 0) 386 1 0)) := by
            refine b98 (by decide +kernel) ?_
            rw [show (379 + 9) = 388 from rfl]
            have hD44 : Dd 146 [(.inr (.inr (some 388)))] (upS (upS S32 384 1 0) 386 1 0) (.inl (some (.inl 0)), (upS (upS S32 384 1 0) 386 1 0)) := by
              refine b146 (by decide +kernel) ?_
              rw [show ((upS (upS S32 384 1 0) 386 1 0) 388 1) = 0 by (first | omega | (simp [upS, hz, za1, z1a1, ca1, za2, z1a2, ca2, E32]; done) | (simp [upS, hz, za1, z1a1, ca1, za2, z1a2, ca2, E32]; omega))]
              all_goals rfl
            refine ⟨_, _, hD44, ?_⟩
            clear hD44
            rw [show (Int.tdiv 0 4) = 0 by (first | omega | (simp [upS, hz, za1, z1a1, ca1, za2, z1a2, ca2, E32]; done) | (simp [upS, hz, za1, z1a1, ca1, za2, z1a2, ca2, E32]; omega))]
            all_goals rfl
          refine ⟨_, _, hD45, ?_⟩
          clear hD45
          rw [if_neg (show ¬ ((0 : Int) < 0) by first | omega | (simp [upS, hz, za1, z1a1, ca1, za2, z1a2, ca2, E32]; done) | (simp [upS, hz, za1, z1a1, ca1, za2, z1a2, ca2, E32]; omega))]
          refine b113_132 ?_
          refine ⟨(show (-2147483648 : Int) ≤ (0 + 1) ∧ ((0 + 1) : Int) ≤ 2147483647 by first | omega | (simp [upS, hz, za1, z1a1, ca1, za2, z1a2, ca2, E32]; done) | (simp [upS, hz, za1, z1a1, ca1, za2, z1a2, ca2, E32]; omega)), ?_⟩
          rw [show ((0 + 1) : Int) = 1 by (first | omega | (simp [upS, hz, za1, z1a1, ca1, za2, z1a2, ca2, E32]; done) | (simp [upS, hz, za1, z1a1, ca1, za2, z1a2, ca2, E32]; omega))]
          refine b113_34 (by decide +kernel) ?_
          have hD47 : Dd 98 [(.inr (.inr (some 379)))] (upS (upS S32 384 1 0) 386 1 0) (.inl (some (.inl 0)), (upS (upS S32 384 1 0) 386 1 0)) := by
            refine b98 (by decide +kernel) ?_
            rw [show (379 + 9) = 388 from rfl]
            have hD46 : Dd 146 [(.inr (.inr (some 388)))] (upS (upS S32 384 1 0) 386 1 0) (.inl (some (.inl 0)), (upS (upS S32 384 1 0) 386 1 0)) := by
              refine b146 (by decide +kernel) ?_
              rw [show ((upS (upS S32 384 1 0) 386 1 0) 388 1) = 0 by (first | omega | (simp [upS, hz, za1, z1a1, ca1, za2, z1a2, ca2, E32]; done) | (simp [upS, hz, za1, z1a1, ca1, za2, z1a2, ca2, E32]; omega))]
              all_goals rfl
            refine ⟨_, _, hD46, ?_⟩
            clear hD46
            rw [show (Int.tdiv 0 4) = 0 by (first | omega | (simp [upS, hz, za1, z1a1, ca1, za2, z1a2, ca2, E32]; done) | (simp [upS, hz, za1, z1a1, ca1, za2, z1a2, ca2, E32]; omega))]
            all_goals rfl
          refine ⟨_, _, hD47, ?_⟩
          clear hD47
          rw [if_neg (show ¬ ((1 : Int) ≤ 0) by first | omega | (simp [upS, hz, za1, z1a1, ca1, za2, z1a2, ca2, E32]; done) | (simp [upS, hz, za1, z1a1, ca1, za2, z1a2, ca2, E32]; omega))]
          all_goals rfl
        refine ⟨_, hD48, ?_⟩
        clear hD48
        all_goals rfl
      refine ⟨_, hD49, ?_⟩
      clear hD49
      have hD59 : Dd 242 [(.inr (.inr (some 0))), (.inr (.inr (some 379)))] (upS (upS S32 384 1 0) 386 1 0) (.inl (some (.inl 0)), (upS (upS (upS (upS (upS (upS (upS (upS S32 384 1 0) 386 1 0) 21 1 0) 23 1 0) 25 1 0) 27 1 0) 29 1 0) 0 3 1)) := by
        refine b242 ?_
        rw [if_pos (show ((upS (upS S32 384 1 0) 386 1 0) 0 3) < 24 by first | omega | (simp [upS, hz, za1, z1a1, ca1, za2, z1a2, ca2, E32]; done) | (simp [upS, hz, za1, z1a1, ca1, za2, z1a2, ca2, E32]; omega))]
        rw [if_neg (show ¬ ((24 : Int) ≤ ((upS (upS S32 384 1 0) 386 1 0) 0 3)) by first | omega | (simp [upS, hz, za1, z1a1, ca1, za2, z1a2, ca2, E32]; done) | (simp [upS, hz, za1, z1a1, ca1, za2, z1a2, ca2, E32]; omega))]
        refine ⟨(show 0 ≤ ((upS (upS S32 384 1 0) 386 1 0) 0 3) by first | omega | (simp [upS, hz, za1, z1a1, ca1, za2, z1a2, ca2, E32]; done) | (simp [upS, hz, za1, z1a1, ca1, za2, z1a2, ca2, E32]; omega)), ?_⟩
        rw [show ((((upS (upS S32 384 1 0) 386 1 0) 0 3))).toNat = 0 by (first | omega | (simp [upS, hz, za1, z1a1, ca1, za2, z1a2, ca2, E32]; done) | (simp [upS, hz, za1, z1a1, ca1, za2, z1a2, ca2, E32]; omega))]
        refine ⟨20, (by decide +kernel), (by decide +kernel), ?_⟩
        have hD57 : Dd 96 [(.inr (.inr (some 20))), (.inr (.inr (some 379)))] (upS (upS S32 384 1 0) 386 1 0) (.inl none, (upS (upS (upS (upS (upS (upS (upS S32 384 1 0) 386 1 0) 21 1 0) 23 1 0) 25 1 0) 27 1 0) 29 1 0)) := by
          refine b96 (by decide +kernel) (by decide +kernel) ?_
          rw [show (20 + 1) = 21 from rfl]
          rw [show (379 + 1) = 380 from rfl]
          have hD50 : Dd 155 [(.inr (.inr (some 21))), (.inr (.inr (some 380)))] (upS (upS S32 384 1 0) 386 1 0) (.inl none, (upS (upS (upS S32 384 1 0) 386 1 0) 21 1 0)) := by
            refine b155 (by decide +kernel) (by decide +kernel) ?_
            refine ⟨(show -2147483648 ≤ ((cap 21) : Int) ∧ ((cap 21) : Int) ≤ 2147483647 by have e21 : (cap 21 : Int) = 16 := (by decide +kernel); first | omega | (simp [upS, hz, za1, z1a1, ca1, za2, z1a2, ca2, E32]; done) | (simp [upS, hz, za1, z1a1, ca1, za2, z1a2, ca2, E32]; omega)), ?_⟩
            rw [(show (upS (upS (upS S32 384 1 0) 386 1 0) 21 1 (if ((cap 21) : Int) < ((upS (upS S32 384 1 0) 386 1 0) 380 1) then ((cap 21) : Int) else ((upS (upS S32 384 1 0) 386 1 0) 380 1))) = (upS (upS (upS S32 384 1 0) 386 1 0) 21 1 0) from by rw [show (if ((cap 21) : Int) < ((upS (upS S32 384 1 0) 386 1 0) 380 1) then ((cap 21) : Int) else ((upS (upS S32 384 1 0) 386 1 0) 380 1)) = 0 by (have e21 : (cap 21 : Int) = 16 := (by decide +kernel); first | omega | (simp [upS, hz, za1, z1a1, ca1, za2, z1a2, ca2, E32]; done) | (simp [upS, hz, za1, z1a1, ca1, za2, z1a2, ca2, E32]; omega))])]
            refine b155_18 (by decide +kernel) (by decide +kernel) ?_
            rw [if_neg (show ¬ ((0 : Int) < ((upS (upS (upS S32 384 1 0) 386 1 0) 21 1 0) 21 1)) by first | omega | (simp [upS, hz, za1, z1a1, ca1, za2, z1a2, ca2, E32]; done) | (simp [upS, hz, za1, z1a1, ca1, za2, z1a2, ca2, E32]; omega))]
            all_goals rfl
          refine ⟨_, hD50, ?_⟩
          clear hD50
          rw [show (20 + 3) = 23 from rfl]
          rw [show (379 + 3) = 382 from rfl]
          have hD51 : Dd 155 [(.inr (.inr (some 23))), (.inr (.inr (some 382)))] (upS (upS (upS S32 384 1 0) 386 1 0) 21 1 0) (.inl none, (upS (upS (upS (upS S32 384 1 0) 386 1 0) 21 1 0) 23 1 0)) := by
            refine b155 (by decide +kernel) (by decide +kernel) ?_
            refine ⟨(show -2147483648 ≤ ((cap 23) : Int) ∧ ((cap 23) : Int) ≤ 2147483647 by have e23 : (cap 23 : Int) = 16 := (by decide +kernel); first | omega | (simp [upS, hz, za1, z1a1, ca1, za2, z1a2, ca2, E32]; done) | (simp [upS, hz, za1, z1a1, ca1, za2, z1a2, ca2, E32]; omega)), ?_⟩
            rw [(show (upS (upS (upS (upS S32 384 1 0) 386 1 0) 21 1 0) 23 1 (if ((cap 23) : Int) < ((upS (upS (upS S32 384 1 0) 386 1 0) 21 1 0) 382 1) then ((cap 23) : Int) else ((upS (upS (upS S32 384 1 0) 386 1 0) 21 1 0) 382 1))) = (upS (upS (upS (upS S32 384 1 0) 386 1 0) 21 1 0) 23 1 0) from by rw [show (if ((cap 23) : Int) < ((upS (upS (upS S32 384 1 0) 386 1 0) 21 1 0) 382 1) then ((cap 23) : Int) else ((upS (upS (upS S32 384 1 0) 386 1 0) 21 1 0) 382 1)) = 0 by (have e23 : (cap 23 : Int) = 16 := (by decide +kernel); first | omega | (simp [upS, hz, za1, z1a1, ca1, za2, z1a2, ca2, E32]; done) | (simp [upS, hz, za1, z1a1, ca1, za2, z1a2, ca2, E32]; omega))])]
            refine b155_18 (by decide +kernel) (by decide +kernel) ?_
            rw [if_neg (show ¬ ((0 : Int) < ((upS (upS (upS (upS S32 384 1 0) 386 1 0) 21 1 0) 23 1 0) 23 1)) by first | omega | (simp [upS, hz, za1, z1a1, ca1, za2, z1a2, ca2, E32]; done) | (simp [upS, hz, za1, z1a1, ca1, za2, z1a2, ca2, E32]; omega))]
            all_goals rfl
          refine ⟨_, hD51, ?_⟩
          clear hD51
          rw [show (20 + 5) = 25 from rfl]
          rw [show (379 + 5) = 384 from rfl]
          have hD52 : Dd 155 [(.inr (.inr (some 25))), (.inr (.inr (some 384)))] (upS (upS (upS (upS S32 384 1 0) 386 1 0) 21 1 0) 23 1 0) (.inl none, (upS (upS (upS (upS (upS S32 384 1 0) 386 1 0) 21 1 0) 23 1 0) 25 1 0)) := by
            refine b155 (by decide +kernel) (by decide +kernel) ?_
            refine ⟨(show -2147483648 ≤ ((cap 25) : Int) ∧ ((cap 25) : Int) ≤ 2147483647 by have e25 : (cap 25 : Int) = 16 := (by decide +kernel); first | omega | (simp [upS, hz, za1, z1a1, ca1, za2, z1a2, ca2, E32]; done) | (simp [upS, hz, za1, z1a1, ca1, za2, z1a2, ca2, E32]; omega)), ?_⟩
            rw [(show (upS (upS (upS (upS (upS S32 384 1 0) 386 1 0) 21 1 0) 23 1 0) 25 1 (if ((cap 25) : Int) < ((upS (upS (upS (upS S32 384 1 0) 386 1 0) 21 1 0) 23 1 0) 384 1) then ((cap 25) : Int) else ((upS (upS (upS (upS S32 384 1 0) 386 1 0) 21 1 0) 23 1 0) 384 1))) = (upS (upS (upS (upS (upS S32 384 1 0) 386 1 0) 21 1 0) 23 1 0) 25 1 0) from by rw [show (if ((cap 25) : Int) < ((upS (upS (upS (upS S32 384 1 0) 386 1 0) 21 1 0) 23 1 0) 384 1) then ((cap 25) : Int) else ((upS (upS (upS (upS S32 384 1 0) 386 1 0) 21 1 0) 23 1 0) 384 1)) = 0 by (have e25 : (cap 25 : Int) = 16 := (by decide +kernel); first | omega | (simp [upS, hz, za1, z1a1, ca1, za2, z1a2, ca2, E32]; done) | (simp [upS, hz, za1, z1a1, ca1, za2, z1a2, ca2, E32]; omega))])]
            refine b155_18 (by decide +kernel) (by decide +kernel) ?_
            rw [if_neg (show ¬ ((0 : Int) < ((upS (upS (upS (upS (upS S32 384 1 0) 386 1 0) 21 1 0) 23 1 0) 25 1 0) 25 1)) by first | omega | (simp [upS, hz, za1, z1a1, ca1, za2, z1a2, ca2, E32]; done) | (simp [upS, hz, za1, z1a1, ca1, za2, z1a2, ca2, E32]; omega))]
            all_goals rfl
          refine ⟨_, hD52, ?_⟩
          clear hD52
          rw [show (20 + 7) = 27 from rfl]
          rw [show (379 + 7) = 386 from rfl]
          have hD53 : Dd 155 [(.inr (.inr (some 27))), (.inr (.inr (some 386)))] (upS (upS (upS (upS (upS S32 384 1 0) 386 1 0) 21 1 0) 23 1 0) 25 1 0) (.inl none, (upS (upS (upS (upS (upS (upS S32 384 1 0) 386 1 0) 21 1 0) 23 1 0) 25 1 0) 27 1 0)) := by
            refine b155 (by decide +kernel) (by decide +kernel) ?_
            refine ⟨(show -2147483648 ≤ ((cap 27) : Int) ∧ ((cap 27) : Int) ≤ 2147483647 by have e27 : (cap 27 : Int) = 16 := (by decide +kernel); first | omega | (simp [upS, hz, za1, z1a1, ca1, za2, z1a2, ca2, E32]; done) | (simp [upS, hz, za1, z1a1, ca1, za2, z1a2, ca2, E32]; omega)), ?_⟩
            rw [(show (upS (upS (upS (upS (upS (upS S32 384 1 0) 386 1 0) 21 1 0) 23 1 0) 25 1 0) 27 1 (if ((cap 27) : Int) < ((upS (upS (upS (upS (upS S32 384 1 0) 386 1 0) 21 1 0) 23 1 0) 25 1 0) 386 1) then ((cap 27) : Int) else ((upS (upS (upS (upS (upS S32 384 1 0) 386 1 0) 21 1 0) 23 1 0) 25 1 0) 386 1))) = (upS (upS (upS (upS (upS (upS S32 384 1 0) 386 1 0) 21 1 0) 23 1 0) 25 1 0) 27 1 0) from by rw [show (if ((cap 27) : Int) < ((upS (upS (upS (upS (upS S32 384 1 0) 386 1 0) 21 1 0) 23 1 0) 25 1 0) 386 1) then ((cap 27) : Int) else ((upS (upS (upS (upS (upS S32 384 1 0) 386 1 0) 21 1 0) 23 1 0) 25 1 0) 386 1)) = 0 by (have e27 : (cap 27 : Int) = 16 := (by decide +kernel); first | omega | (simp [upS, hz, za1, z1a1, ca1, za2, z1a2, ca2, E32]; done) | (simp [upS, hz, za1, z1a1, ca1, za2, z1a2, ca2, E32]; omega))])]
            refine b155_18 (by decide +kernel) (by decide +kernel) ?_
            rw [if_neg (show ¬ ((0 : Int) < ((upS (upS (upS (upS (upS (upS S32 384 1 0) 386 1 0) 21 1 0) 23 1 0) 25 1 0) 27 1 0) 27 1)) by first | omega | (simp [upS, hz, za1, z1a1, ca1, za2, z1a2, ca2, E32]; done) | (simp [upS, hz, za1, z1a1, ca1, za2, z1a2, ca2, E32]; omega))]
            all_goals rfl
          refine ⟨_, hD53, ?_⟩
          clear hD53
          rw [show (20 + 9) = 29 from rfl]
          rw [show (379 + 9) = 388 from rfl]
          have hD55 : Dd 155 [(.inr (.inr (some 29))), (.inr (.inr (some 388)))] (upS (upS (upS (upS (upS (upS S32 384 1 0) 386 1 0) 21 1 0) 23 1 0) 25 1 0) 27 1 0) (.inl none, (upS (upS (upS (upS (upS (upS (upS S32 384 1 0) 386 1 0) 21 1 0) 23 1 0) 25 1 0) 27 1 0) 29 1 0)) := by
            refine b155 (by decide +kernel) (by decide +kernel) ?_
            refine ⟨(show -2147483648 ≤ ((cap 29) : Int) ∧ ((cap 29) : Int) ≤ 2147483647 by have e29 : (cap 29 : Int) = 68 := (by decide +kernel); first | omega | (simp [upS, hz, za1, z1a1, ca1, za2, z1a2, ca2, E32]; done) | (simp [upS, hz, za1, z1a1, ca1, za2, z1a2, ca2, E32]; omega)), ?_⟩
            rw [(show (upS (upS (upS (upS (upS (upS (upS S32 384 1 0) 386 1 0) 21 1 0) 23 1 0) 25 1 0) 27 1 0) 29 1 (if ((cap 29) : Int) < ((upS (upS (upS (upS (upS (upS S32 384 1 0) 386 1 0) 21 1 0) 23 1 0) 25 1 0) 27 1 0) 388 1) then ((cap 29) : Int) else ((upS (upS (upS (upS (upS (upS S32 384 1 0) 386 1 0) 21 1 0) 23 1 0) 25 1 0) 27 1 0) 388 1))) = (upS (upS (upS (upS (upS (upS (upS S32 384 1 0) 386 1 0) 21 1 0) 23 1 0) 25 1 0) 27 1 0) 29 1 0) from by rw [show (if ((cap 29) : Int) < ((upS (upS (upS (upS (upS (upS S32 384 1 0) 386 1 0) 21 1 0) 23 1 0) 25 1 0) 27 1 0) 388 1) then ((cap 29) : Int) else ((upS (upS (upS (upS (upS (upS S32 384 1 0) 386 1 0) 21 1 0) 23 1 0) 25 1 0) 27 1 0) 388 1)) = 0 by (have e29 : (cap 29 : Int) = 68 := (by decide +kernel); first | omega | (simp [upS, hz, za1, z1a1, ca1, za2, z1a2, ca2, E32]; done) | (simp [upS, hz, za1, z1a1, ca1, za2, z1a2, ca2, E32]; omega))])]
            obtain ⟨S54, E54⟩ : ∃ s : Sg, s = (upS (upS (upS (upS (upS (upS (upS S32 384 1 0) 386 1 0) 21 1 0) 23 1 0) 25 1 0) 27 1 0) 29 1 0) := ⟨_, rfl⟩
            rw [← E54]
            refine b155_18 (by decide +kernel) (by decide +kernel) ?_
            rw [if_neg (show ¬ ((0 : Int) < (S54 29 1)) by first | omega | (simp [upS, hz, za1, z1a1, ca1, za2, z1a2, ca2, E32, E54]; done) | (simp [upS, hz, za1, z1a1, ca1, za2, z1a2, ca2, E32, E54]; omega))]
            all_goals (first | rfl | (simp only [E54]))
          obtain ⟨S56, E56⟩ : ∃ s : Sg, s = (upS (upS (upS (upS (upS (upS (upS S32 384 1 0) 386 1 0) 21 1 0) 23 1 0) 25 1 0) 27 1 0) 29 1 0) := ⟨_, rfl⟩
          rw [← E56] at hD55
          refine ⟨_, hD55, ?_⟩
          clear hD55
          all_goals (first | rfl | (simp only [E56]))
        obtain ⟨S58, E58⟩ : ∃ s : Sg, s = (upS (upS (upS (upS (upS (upS (upS S32 384 1 0) 386 1 0) 21 1 0) 23 1 0) 25 1 0) 27 1 0) 29 1 0) := ⟨_, rfl⟩
        rw [← E58] at hD57
        refine ⟨_, hD57, ?_⟩
        clear hD57
        refine ⟨(show -2147483648 ≤ ((S58 0 3) + 1) ∧ ((S58 0 3) + 1) ≤ 2147483647 by first | omega | (simp [upS, hz, za1, z1a1, ca1, za2, z1a2, ca2, E32, E58]; done) | (simp [upS, hz, za1, z1a1, ca1, za2, z1a2, ca2, E32, E58]; omega)), ?_⟩
        refine ⟨(show -2147483648 ≤ (((upS S58 0 3 ((S58 0 3) + 1)) 0 3) - 1) ∧ (((upS S58 0 3 ((S58 0 3) + 1)) 0 3) - 1) ≤ 2147483647 by first | omega | (simp [upS, hz, za1, z1a1, ca1, za2, z1a2, ca2, E32, E58]; done) | (simp [upS, hz, za1, z1a1, ca1, za2, z1a2, ca2, E32, E58]; omega)), ?_⟩
        rw [(show (upS S58 0 3 ((S58 0 3) + 1)) = (upS S58 0 3 1) from by rw [show ((S58 0 3) + 1) = 1 by (first | omega | (simp [upS, hz, za1, z1a1, ca1, za2, z1a2, ca2, E32, E58]; done) | (simp [upS, hz, za1, z1a1, ca1, za2, z1a2, ca2, E32, E58]; omega))])]
        rw [show (((upS S58 0 3 1) 0 3) - 1) = 0 by (first | omega | (simp [upS, hz, za1, z1a1, ca1, za2, z1a2, ca2, E32, E58]; done) | (simp [upS, hz, za1, z1a1, ca1, za2, z1a2, ca2, E32, E58]; omega))]
        all_goals (first | rfl | (simp only [E58]))
      obtain ⟨S60, E60⟩ : ∃ s : Sg, s = (upS (upS (upS (upS (upS (upS (upS (upS S32 384 1 0) 386 1 0) 21 1 0) 23 1 0) 25 1 0) 27 1 0) 29 1 0) 0 3 1) := ⟨_, rfl⟩
      rw [← E60] at hD59
      refine Or.inl ⟨_, _, hD59, ?_⟩
      clear hD59
      all_goals (first | rfl | (simp only [E32, E60]))
    obtain ⟨S62, E62⟩ : ∃ s : Sg, s = (upS (upS (upS (upS (upS (upS (upS (upS (upS (upS (upS (upS (upS (upS (upS (upS (upS σ 333 1 0) 335 1 0) 337 1 0) 343 1 0) 380 1 0) 382 1 0) 384 1 0) 386 1 0) 388 1 0) 384 1 0) 386 1 0) 21 1 0) 23 1 0) 25 1 0) 27 1 0) 29 1 0) 0 3 1) := ⟨_, rfl⟩
    rw [← E62] at hD61
    refine Or.inl ⟨_, _, hD61, ?_⟩
    clear hD61
    rw [(show (upS S62 726 ((0 : Int).toNat) 0) = (upS S62 726 0 0) from by rw [show ((0 : Int).toNat) = 0 by (first | omega | (simp [upS, hz, za1, z1a1, ca1, za2, z1a2, ca2, E62]; done) | (simp [upS, hz, za1, z1a1, ca1, za2, z1a2, ca2, E62]; omega))])]
    all_goals (first | rfl | (simp only [E62]))
  obtain ⟨S900, E900⟩ : ∃ s : Sg, s = (upS (upS (upS (upS (upS (upS (upS (upS (upS (upS (upS (upS (upS (upS (upS (upS (upS (upS σ 333 1 0) 335 1 0) 337 1 0) 343 1 0) 380 1 0) 382 1 0) 384 1 0) 386 1 0) 388 1 0) 384 1 0) 386 1 0) 21 1 0) 23 1 0) 25 1 0) 27 1 0) 29 1 0) 0 3 1) 726 0 0) := ⟨_, rfl⟩
  rw [← E900] at hA
  have hB : Dd 299 [(.inr (.inr (some 682))), (.inl a1), (.inl a2), (.inl a3)] S900 (.inl (some (.inl 0)), (upS (upS (upS (upS (upS (upS (upS (upS (upS (upS (upS (upS (upS (upS (upS (upS (upS (upS (upS S900 682 0 0) 682 12 0) 682 13 0) 682 22 0) 696 0 0) 696 1 0) 696 2 0) 696 3 0) 682 22 1) 682 22 0) 682 17 0) 682 18 0) 682 19 0) 682 20 0) 694 0 0) 688 0 0) 689 0 0) 704 0 0) 682 3 1)) := by
    refine b299 ?_
    have hD64 : Dd 247 [(.inl a1)] S900 (.inl (some (.inl 1)), S900) := by
      refine b247 ?_
      have hD63 : Dd 246 [(.inl a1), (.inl 4)] S900 (.inl (some (.inl 1)), S900) := by
        refine b246 ?_
        try rw [if_pos (show (0 : Int) ≤ a1 by first | omega | (simp [upS, hz, za1, z1a1, ca1, za2, z1a2, ca2, E900]; done) | (simp [upS, hz, za1, z1a1, ca1, za2, z1a2, ca2, E900]; omega))]
        try rw [if_pos (show a1 < 4 by first | omega | (simp [upS, hz, za1, z1a1, ca1, za2, z1a2, ca2, E900]; done) | (simp [upS, hz, za1, z1a1, ca1, za2, z1a2, ca2, E900]; omega))]
        all_goals rfl
      refine ⟨_, _, hD63, ?_⟩
      clear hD63
      refine ⟨(show 1 = 0 ∨ 1 = 1 by first | omega | (simp [upS, hz, za1, z1a1, ca1, za2, z1a2, ca2, E900]; done) | (simp [upS, hz, za1, z1a1, ca1, za2, z1a2, ca2, E900]; omega)), ?_⟩
      all_goals rfl
    refine ⟨_, _, hD64, ?_⟩
    clear hD64
    rw [if_neg (show ¬ ((1 : Int) = 0) by first | omega | (simp [upS, hz, za1, z1a1, ca1, za2, z1a2, ca2, E900]; done) | (simp [upS, hz, za1, z1a1, ca1, za2, z1a2, ca2, E900]; omega))]
    have hD66 : Dd 247 [(.inl a2)] S900 (.inl (some (.inl 1)), S900) := by
      refine b247 ?_
      have hD65 : Dd 246 [(.inl a2), (.inl 4)] S900 (.inl (some (.inl 1)), S900) := by
        refine b246 ?_
        try rw [if_pos (show (0 : Int) ≤ a2 by first | omega | (simp [upS, hz, za1, z1a1, ca1, za2, z1a2, ca2, E900]; done) | (simp [upS, hz, za1, z1a1, ca1, za2, z1a2, ca2, E900]; omega))]
        try rw [if_pos (show a2 < 4 by first | omega | (simp [upS, hz, za1, z1a1, ca1, za2, z1a2, ca2, E900]; done) | (simp [upS, hz, za1, z1a1, ca1, za2, z1a2, ca2, E900]; omega))]
        all_goals rfl
      refine ⟨_, _, hD65, ?_⟩
      clear hD65
      refine ⟨(show 1 = 0 ∨ 1 = 1 by first | omega | (simp [upS, hz, za1, z1a1, ca1, za2, z1a2, ca2, E900]; done) | (simp [upS, hz, za1, z1a1, ca1, za2, z1a2, ca2, E900]; omega)), ?_⟩
      all_goals rfl
    refine ⟨_, _, hD66, ?_⟩
    clear hD66
    rw [if_neg (show ¬ ((1 : Int) = 0) by first | omega | (simp [upS, hz, za1, z1a1, ca1, za2, z1a2, ca2, E900]; done) | (simp [upS, hz, za1, z1a1, ca1, za2, z1a2, ca2, E900]; omega))]
    have hD68 : Dd 275 [(.inl a3)] S900 (.inl (some (.inl 1)), S900) := by
      refine b275 ?_
      have hD67 : Dd 246 [(.inl a3), (.inl 3)] S900 (.inl (some (.inl 1)), S900) := by
        refine b246 ?_
        try rw [if_pos (show (0 : Int) ≤ a3 by first | omega | (simp [upS, hz, za1, z1a1, ca1, za2, z1a2, ca2, E900]; done) | (simp [upS, hz, za1, z1a1, ca1, za2, z1a2, ca2, E900]; omega))]
        try rw [if_pos (show a3 < 3 by first | omega | (simp [upS, hz, za1, z1a1, ca1, za2, z1a2, ca2, E900]; done) | (simp [upS, hz, za1, z1a1, ca1, za2, z1a2, ca2, E900]; omega))]
        all_goals rfl
      refine ⟨_, _, hD67, ?_⟩
      clear hD67
      refine ⟨(show 1 = 0 ∨ 1 = 1 by first | omega | (simp [upS, hz, za1, z1a1, ca1, za2, z1a2, ca2, E900]; done) | (simp [upS, hz, za1, z1a1, ca1, za2, z1a2, ca2, E900]; omega)), ?_⟩
      all_goals rfl
    refine ⟨_, _, hD68, ?_⟩
    clear hD68
    try rw [if_neg (show ¬ ((1 : Int) = 0) by first | omega | (simp [upS, hz, za1, z1a1, ca1, za2, z1a2, ca2, E900]; done) | (simp [upS, hz, za1, z1a1, ca1, za2, z1a2, ca2, E900]; omega))]
    try rw [if_neg (show ¬ ((S900 682 3) = 24) by first | omega | (simp [upS, hz, za1, z1a1, ca1, za2, z1a2, ca2, E900]; done) | (simp [upS, hz, za1, z1a1, ca1, za2, z1a2, ca2, E900]; omega))]
    refine b299_44 ?_
    have hD69 : Dd 245 [(.inr (.inr (some 682))), (.inl 0)] S900 (.inl (some (.inl 1)), (upS S900 682 0 0)) := by
      refine b245 ?_
      try rw [if_pos (show (0 : Int) = 0 by first | omega | (simp [upS, hz, za1, z1a1, ca1, za2, z1a2, ca2, E900]; done) | (simp [upS, hz, za1, z1a1, ca1, za2, z1a2, ca2, E900]; omega))]
      all_goals rfl
    refine ⟨_, _, hD69, ?_⟩
    clear hD69
    rw [if_neg (show ¬ ((1 : Int) = 0) by first | omega | (simp [upS, hz, za1, z1a1, ca1, za2, z1a2, ca2, E900]; done) | (simp [upS, hz, za1, z1a1, ca1, za2, z1a2, ca2, E900]; omega))]
    have hD72 : Dd 276 [(.inr (.inr (some 682))), (.inl a1), (.inl a2)] (upS S900 682 0 0) (.inl none, (upS (upS (upS S900 682 0 0) 682 12 0) 682 13 0)) := by
      refine b276 ?_
      refine ⟨(show -2147483648 ≤ (16 * a1) ∧ (16 * a1) ≤ 2147483647 by first | omega | (simp [upS, hz, za1, z1a1, ca1, za2, z1a2, ca2, E900]; done) | (simp [upS, hz, za1, z1a1, ca1, za2, z1a2, ca2, E900]; omega)), ?_⟩
      refine ⟨(show 0 ≤ a1 ∧ a1 < 4 by first | omega | (simp [upS, hz, za1, z1a1, ca1, za2, z1a2, ca2, E900]; done) | (simp [upS, hz, za1, z1a1, ca1, za2, z1a2, ca2, E900]; omega)), ?_⟩
      rw [show ((upS S900 682 0 0) 684 (a1).toNat) = 0 by (first | omega | (simp [upS, hz, za1, z1a1, ca1, za2, z1a2, ca2, E900]; done) | (simp [upS, hz, za1, z1a1, ca1, za2, z1a2, ca2, E900]; omega))]
      have hD70 : Dd 263 [(.inr (.inr (some 682))), (.inr (.inr (some 683))), (.inl (16 * a1)), (.inl 0)] (upS S900 682 0 0) (.inl none, (upS (upS S900 682 0 0) 682 12 0)) := by
        refine b263 ?_
        refine b263_8 (show qA 683 0 64 = true by decide +kernel) ?_
        rw [if_neg (show ¬ ((0 : Int) < 0) by first | omega | (simp [upS, hz, za1, z1a1, ca1, za2, z1a2, ca2, E900]; done) | (simp [upS, hz, za1, z1a1, ca1, za2, z1a2, ca2, E900]; omega))]
        all_goals rfl
      refine ⟨_, hD70, ?_⟩
      clear hD70
      refine ⟨(show -2147483648 ≤ (16 * a2) ∧ (16 * a2) ≤ 2147483647 by first | omega | (simp [upS, hz, za1, z1a1, ca1, za2, z1a2, ca2, E900]; done) | (simp [upS, hz, za1, z1a1, ca1, za2, z1a2, ca2, E900]; omega)), ?_⟩
      refine ⟨(show 0 ≤ a2 ∧ a2 < 4 by first | omega | (simp [upS, hz, za1, z1a1, ca1, za2, z1a2, ca2, E900]; done) | (simp [upS, hz, za1, z1a1, ca1, za2, z1a2, ca2, E900]; omega)), ?_⟩
      rw [show ((upS (upS S900 682 0 0) 682 12 0) 684 (a2).toNat) = 0 by (first | omega | (simp [upS, hz, za1, z1a1, ca1, za2, z1a2, ca2, E900]; done) | (simp [upS, hz, za1, z1a1, ca1, za2, z1a2, ca2, E900]; omega))]
      have hD71 : Dd 264 [(.inr (.inr (some 682))), (.inr (.inr (some 683))), (.inl (16 * a2)), (.inl 0)] (upS (upS S900 682 0 0) 682 12 0) (.inl none, (upS (upS (upS S900 682 0 0) 682 12 0) 682 13 0)) := by
        refine b264 ?_
        refine b264_8 (show qA 683 0 64 = true by decide +kernel) ?_
        rw [if_neg (show ¬ ((0 : Int) < 0) by first | omega | (simp [upS, hz, za1, z1a1, ca1, za2, z1a2, ca2, E900]; done) | (simp [upS, hz, za1, z1a1, ca1, za2, z1a2, ca2, E900]; omega))]
        all_goals rfl
      refine ⟨_, hD71, ?_⟩
      clear hD71
      all_goals rfl
    refine ⟨_, hD72, ?_⟩
    clear hD72
    rw [show ((upS (upS (upS S900 682 0 0) 682 12 0) 682 13 0) 682 3) = 0 by (first | omega | (simp [upS, hz, za1, z1a1, ca1, za2, z1a2, ca2, E900]; done) | (simp [upS, hz, za1, z1a1, ca1, za2, z1a2, ca2, E900]; omega))]
    have hD83 : Dd 287 [(.inr (.inr (some 682))), (.inl 0), (.inl a3)] (upS (upS (upS S900 682 0 0) 682 12 0) 682 13 0) (.inl none, (upS (upS (upS (upS (upS (upS (upS (upS (upS (upS (upS (upS (upS (upS (upS (upS (upS (upS S900 682 0 0) 682 12 0) 682 13 0) 682 22 0) 696 0 0) 696 1 0) 696 2 0) 696 3 0) 682 22 1) 682 22 0) 682 17 0) 682 18 0) 682 19 0) 682 20 0) 694 0 0) 688 0 0) 689 0 0) 704 0 0)) := by
      refine b287 ?_
      have hD80 : Dd 274 [(.inr (.inr (some 682))), (.inl a3)] (upS (upS (upS S900 682 0 0) 682 12 0) 682 13 0) (.inl (some (.inl 0)), (upS (upS (upS (upS (upS (upS (upS (upS (upS (upS (upS (upS (upS (upS (upS S900 682 0 0) 682 12 0) 682 13 0) 682 22 0) 696 0 0) 696 1 0) 696 2 0) 696 3 0) 682 22 1) 682 22 0) 682 17 0) 682 18 0) 682 19 0) 682 20 0) 694 0 0)) := by
        refine b274 ?_
        refine b274_2 ?_
        rw [if_neg (show ¬ ((0 : Int) < ((upS (upS (upS S900 682 0 0) 682 12 0) 682 13 0) 682 12)) by first | omega | (simp [upS, hz, za1, z1a1, ca1, za2, z1a2, ca2, E900]; done) | (simp [upS, hz, za1, z1a1, ca1, za2, z1a2, ca2, E900]; omega))]
        rw [show ((upS (upS (upS (upS S900 682 0 0) 682 12 0) 682 13 0) 682 22 0) 682 12) = 0 by (first | omega | (simp [upS, hz, za1, z1a1, ca1, za2, z1a2, ca2, E900]; done) | (simp [upS, hz, za1, z1a1, ca1, za2, z1a2, ca2, E900]; omega))]
        rw [show ((upS (upS (upS (upS S900 682 0 0) 682 12 0) 682 13 0) 682 22 0) 682 13) = 0 by (first | omega | (simp [upS, hz, za1, z1a1, ca1, za2, z1a2, ca2, E900]; done) | (simp [upS, hz, za1, z1a1, ca1, za2, z1a2, ca2, E900]; omega))]
        have hD73 : Dd 267 [(.inr (.inr (some 682))), (.inl 0), (.inl 0), (.inl 0), (.inl 0)] (upS (upS (upS (upS S900 682 0 0) 682 12 0) 682 13 0) 682 22 0) (.inl none, (upS (upS (upS (upS (upS (upS (upS (upS (upS S900 682 0 0) 682 12 0) 682 13 0) 682 22 0) 696 0 0) 696 1 0) 696 2 0) 696 3 0) 682 22 1)) := by
          refine b267 ?_
          refine ⟨(show -2147483648 ≤ (4 * ((upS (upS (upS (upS S900 682 0 0) 682 12 0) 682 13 0) 682 22 0) 682 22)) ∧ (4 * ((upS (upS (upS (upS S900 682 0 0) 682 12 0) 682 13 0) 682 22 0) 682 22)) ≤ 2147483647 by first | omega | (simp [upS, hz, za1, z1a1, ca1, za2, z1a2, ca2, E900]; done) | (simp [upS, hz, za1, z1a1, ca1, za2, z1a2, ca2, E900]; omega)), ?_⟩
          refine ⟨(show 0 ≤ (4 * ((upS (upS (upS (upS S900 682 0 0) 682 12 0) 682 13 0) 682 22 0) 682 22)) ∧ (4 * ((upS (upS (upS (upS S900 682 0 0) 682 12 0) 682 13 0) 682 22 0) 682 22)) < 512 by first | omega | (simp [upS, hz, za1, z1a1, ca1, za2, z1a2, ca2, E900]; done) | (simp [upS, hz, za1, z1a1, ca1, za2, z1a2, ca2, E900]; omega)), ?_⟩
          refine ⟨(show -2147483648 ≤ (4 * ((upS (upS (upS (upS (upS S900 682 0 0) 682 12 0) 682 13 0) 682 22 0) 696 (((4 * ((upS (upS (upS (upS S900 682 0 0) 682 12 0) 682 13 0) 682 22 0) 682 22))).toNat) 0) 682 22)) ∧ (4 * ((upS (upS (upS (upS (upS S900 682 0 0) 682 12 0) 682 13 0) 682 22 0) 696 (((4 * ((upS (upS (upS (upS S900 682 0 0) 682 12 0) 682 13 0) 682 22 0) 682 22))).toNat) 0) 682 22)) ≤ 2147483647 by first | omega | (simp [upS, hz, za1, z1a1, ca1, za2, z1a2, ca2, E900]; done) | (simp [upS, hz, za1, z1a1, ca1, za2, z1a2, ca2, E900]; omega)), ?_⟩
          refine ⟨(show -2147483648 ≤ ((4 * ((upS (upS (upS (upS (upS S900 682 0 0) 682 12 0) 682 13 0) 682 22 0) 696 (((4 * ((upS (upS (upS (upS S900 682 0 0) 682 12 0) 682 13 0) 682 22 0) 682 22))).toNat) 0) 682 22)) + 1) ∧ ((4 * ((upS (upS (upS (upS (upS S900 682 0 0) 682 12 0) 682 13 0) 682 22 0) 696 (((4 * ((upS (upS (upS (upS S900 682 0 0) 682 12 0) 682 13 0) 682 22 0) 682 22))).toNat) 0) 682 22)) + 1) ≤ 2147483647 by first | omega | (simp [upS, hz, za1, z1a1, ca1, za2, z1a2, ca2, E900]; done) | (simp [upS, hz, za1, z1a1, ca1, za2, z1a2, ca2, E900]; omega)), ?_⟩
          refine ⟨(show 0 ≤ ((4 * ((upS (upS (upS (upS (upS S900 682 0 0) 682 12 0) 682 13 0) 682 22 0) 696 (((4 * ((upS (upS (upS (upS S900 682 0 0) 682 12 0) 682 13 0) 682 22 0) 682 22))).toNat) 0) 682 22)) + 1) ∧ ((4 * ((upS (upS (upS (upS (upS S900 682 0 0) 682 12 0) 682 13 0) 682 22 0) 696 (((4 * ((upS (upS (upS (upS S900 682 0 0) 682 12 0) 682 13 0) 682 22 0) 682 22))).toNat) 0) 682 22)) + 1) < 512 by first | omega | (simp [upS, hz, za1, z1a1, ca1, za2, z1a2, ca2, E900]; done) | (simp [upS, hz, za1, z1a1, ca1, za2, z1a2, ca2, E900]; omega)), ?_⟩
          refine ⟨(show -2147483648 ≤ (4 * ((upS (upS (upS (upS (upS (upS S900 682 0 0) 682 12 0) 682 13 0) 682 22 0) 696 (((4 * ((upS (upS (upS (upS S900 682 0 0) 682 12 0) 682 13 0) 682 22 0) 682 22))).toNat) 0) 696 ((((4 * ((upS (upS (upS (upS (upS S900 682 0 0) 682 12 0) 682 13 0) 682 22 0) 696 (((4 * ((upS (upS (upS (upS S900 682 0 0) 682 12 0) 682 13 0) 682 22 0) 682 22))).toNat) 0) 682 22)) + 1)).toNat) 0) 682 22)) ∧ (4 * ((upS (upS (upS (upS (upS (upS S900 682 0 0) 682 12 0) 682 13 0) 682 22 0) 696 (((4 * ((upS (upS (upS (upS S900 682 0 0) 682 12 0) 682 13 0) 682 22 0) 682 22))).toNat) 0) 696 ((((4 * ((upS (upS (upS (upS (upS S900 682 0 0) 682 12 0) 682 13 0) 682 22 0) 696 (((4 * ((upS (upS (upS (upS S900 682 0 0) 682 12 0) 682 13 0) 682 22 0) 682 22))).toNat) 0) 682 22)) + 1)).toNat) 0) 682 22)) ≤ 2147483647 by first | omega | (simp [upS, hz, za1, z1a1, ca1, za2, z1a2, ca2, E900]; done) | (simp [upS, hz, za1, z1a1, ca1, za2, z1a2, ca2, E900]; omega)), ?_⟩
          refine ⟨(show -2147483648 ≤ ((4 * ((upS (upS (upS (upS (upS (upS S900 682 0 0) 682 12 0) 682 13 0) 682 22 0) 696 (((4 * ((upS (upS (upS (upS S900 682 0 0) 682 12 0) 682 13 0) 682 22 0) 682 22))).toNat) 0) 696 ((((4 * ((upS (upS (upS (upS (upS S900 682 0 0) 682 12 0) 682 13 0) 682 22 0) 696 (((4 * ((upS (upS (upS (upS S900 682 0 0) 682 12 0) 682 13 0) 682 22 0) 682 22))).toNat) 0) 682 22)) + 1)).toNat) 0) 682 22)) + 2) ∧ ((4 * ((upS (upS (upS (upS (upS (upS S900 682 0 0) 682 12 0) 682 13 0) 682 22 0) 696 (((4 * ((upS (upS (upS (upS S900 682 0 0) 682 12 0) 682 13 0) 682 22 0) 682 22))).toNat) 0) 696 ((((4 * ((upS (upS (upS (upS (upS S900 682 0 0) 682 12 0) 682 13 0) 682 22 0) 696 (((4 * ((upS (upS (upS (upS S900 682 0 0) 682 12 0) 682 13 0) 682 22 0) 682 22))).toNat) 0) 682 22)) + 1)).toNat) 0) 682 22)) + 2) ≤ 2147483647 by first | omega | (simp [upS, hz, za1, z1a1, ca1, za2, z1a2, ca2, E900]; done) | (simp [upS, hz, za1, z1a1, ca1, za2, z1a2, ca2, E900]; omega)), ?_⟩
          refine ⟨(show 0 ≤ ((4 * ((upS (upS (upS (upS (upS (upS S900 682 0 0) 682 12 0) 682 13 0) 682 22 0) 696 (((4 * ((upS (upS (upS (upS S900 682 0 0) 682 12 0) 682 13 0) 682 22 0) 682 22))).toNat) 0) 696 ((((4 * ((upS (upS (upS (upS (upS S900 682 0 0) 682 12 0) 682 13 0) 682 22 0) 696 (((4 * ((upS (upS (upS (upS S900 682 0 0) 682 12 0) 682 13 0) 682 22 0) 682 22))).toNat) 0) 682 22)) + 1)).toNat) 0) 682 22)) + 2) ∧ ((4 * ((upS (upS (upS (upS (upS (upS S900 682 0 0) 682 12 0) 682 13 0) 682 22 0) 696 (((4 * ((upS (upS (upS (upS S900 682 0 0) 682 12 0) 682 13 0) 682 22 0) 682 22))).toNat) 0) 696 ((((4 * ((upS (upS (upS (upS (upS S900 682 0 0) 682 12 0) 682 13 0) 682 22 0) 696 (((4 * ((upS (upS (upS (upS S900 682 0 0) 682 12 0) 682 13 0) 682 22 0) 682 22))).toNat) 0) 682 22)) + 1)).toNat) 0) 682 22)) + 2) < 512 by first | omega | (simp [upS, hz, za1, z1a1, ca1, za2, z1a2, ca2, E900]; done) | (simp [upS, hz, za1, z1a1, ca1, za2, z1a2, ca2, E900]; omega)), ?_⟩
          refine ⟨(show -2147483648 ≤ (4 * ((upS (upS (upS (upS (upS (upS (upS S900 682 0 0) 682 12 0) 682 13 0) 682 22 0) 696 (((4 * ((upS (upS (upS (upS S900 682 0 0) 682 12 0) 682 13 0) 682 22 0) 682 22))).toNat) 0) 696 ((((4 * ((upS (upS (upS (upS (upS S900 682 0 0) 682 12 0) 682 13 0) 682 22 0) 696 (((4 * ((upS (upS (upS (upS S900 682 0 0) 682 12 0) 682 13 0) 682 22 0) 682 22))).toNat) 0) 682 22)) + 1)).toNat) 0) 696 ((((4 * ((upS (upS (upS (upS (upS (upS S900 682 0 0) 682 12 0) 682 13 0) 682 22 0) 696 (((4 * ((upS (upS (upS (upS S900 682 0 0) 682 12 0) 682 13 0) 682 22 0) 682 22))).toNat) 0) 696 ((((4 * ((upS (upS (upS (upS (upS S900 682 0 0) 682 12 0) 682 13 0) 682 22 0) 696 (((4 * ((upS (upS (upS (upS S900 682 0 0) 682 12 0) 682 13 0) 682 22 0) 682 22))).toNat) 0) 682 22)) + 1)).toNat) 0) 682 22)) + 2)).toNat) 0) 682 22)) ∧ (4 * ((upS (upS (upS (upS (upS (upS (upS S900 682 0 0) 682 12 0) 682 13 0) 682 22 0) 696 (((4 * ((upS (upS (upS (upS S900 682 0 0) 682 12 0) 682 13 0) 682 22 0) 682 22))).toNat) 0) 696 ((((4 * ((upS (upS (upS (upS (upS S900 682 0 0) 682 12 0) 682 13 0) 682 22 0) 696 (((4 * ((upS (upS (upS (upS S900 682 0 0) 682 12 0) 682 13 0) 682 22 0) 682 22))).toNat) 0) 682 22)) + 1)).toNat) 0) 696 ((((4 * ((upS (upS (upS (upS (upS (upS S900 682 0 0) 682 12 0) 682 13 0) 682 22 0) 696 (((4 * ((upS (upS (upS (upS S900 682 0 0) 682 12 0) 682 13 0) 682 22 0) 682 22))).toNat) 0) 696 ((((4 * ((upS (upS (upS (upS (upS S900 682 0 0) 682 12 0) 682 13 0) 682 22 0) 696 (((4 * ((upS (upS (upS (upS S900 682 0 0) 682 12 0) 682 13 0) 682 22 0) 682 22))).toNat) 0) 682 22)) + 1)).toNat) 0) 682 22)) + 2)).toNat) 0) 682 22)) ≤ 2147483647 by first | omega | (simp [upS, hz, za1, z1a1, ca1, za2, z1a2, ca2, E900]; done) | (simp [upS, hz, za1, z1a1, ca1, za2, z1a2, ca2, E900]; omega)), ?_⟩
          refine ⟨(show -2147483648 ≤ ((4 * ((upS (upS (upS (upS (upS (upS (upS S900 682 0 0) 682 12 0) 682 13 0) 682 22 0) 696 (((4 * ((upS (upS (upS (upS S900 682 0 0) 682 12 0) 682 13 0) 682 22 0) 682 22))).toNat) 0) 696 ((((4 * ((upS (upS (upS (upS (upS S900 682 0 0) 682 12 0) 682 13 0) 682 22 0) 696 (((4 * ((upS (upS (upS (upS S900 682 0 0) 682 12 0) 682 13 0) 682 22 0) 682 22))).toNat) 0) 682 22)) + 1)).toNat) 0) 696 ((((4 * ((upS (upS (upS (upS (upS (upS S900 682 0 0) 682 12 0) 682 13 0) 682 22 0) 696 (((4 * ((upS (upS (upS (upS S900 682 0 0) 682 12 0) 682 13 0) 682 22 0) 682 22))).toNat) 0) 696 ((((4 * ((upS (upS (upS (upS (upS S900 682 0 0) 682 12 0) 682 13 0) 682 22 0) 696 (((4 * ((upS (upS (upS (upS S900 682 0 0) 682 12 0) 682 13 0) 682 22 0) 682 22))).toNat) 0) 682 22)) + 1)).toNat) 0) 682 22)) + 2)).toNat) 0) 682 22)) + 3) ∧ ((4 * ((upS (upS (upS (upS (upS (upS (upS S900 682 0 0) 682 12 0) 682 13 0) 682 22 0) 696 (((4 * ((upS (upS (upS (upS S900 682 0 0) 682 12 0) 682 13 0) 682 22 0) 682 22))).toNat) 0) 696 ((((4 * ((upS (upS (upS (upS (upS S900 682 0 0) 682 12 0) 682 13 0) 682 22 0) 696 (((4 * ((upS (upS (upS (upS S900 682 0 0) 682 12 0) 682 13 0) 682 22 0) 682 22))).toNat) 0) 682 22)) + 1)).toNat) 0) 696 ((((4 * ((upS (upS (upS (upS (upS (upS S900 682 0 0) 682 12 0) 682 13 0) 682 22 0) 696 (((4 * ((upS (upS (upS (upS S900 682 0 0) 682 12 0) 682 13 0) 682 22 0) 682 22))).toNat) 0) 696 ((((4 * ((upS (upS (upS (upS (upS S900 682 0 0) 682 12 0) 682 13 0) 682 22 0) 696 (((4 * ((upS (upS (upS (upS S900 682 0 0) 682 12 0) 682 13 0) 682 22 0) 682 22))).toNat) 0) 682 22)) + 1)).toNat) 0) 682 22)) + 2)).toNat) 0) 682 22)) + 3) ≤ 2147483647 by first | omega | (simp [upS, hz, za1, z1a1, ca1, za2, z1a2, ca2, E900]; done) | (simp [upS, hz, za1, z1a1, ca1, za2, z1a2, ca2, E900]; omega)), ?_⟩
          refine ⟨(show 0 ≤ ((4 * ((upS (upS (upS (upS (upS (upS (upS S900 682 0 0) 682 12 0) 682 13 0) 682 22 0) 696 (((4 * ((upS (upS (upS (upS S900 682 0 0) 682 12 0) 682 13 0) 682 22 0) 682 22))).toNat) 0) 696 ((((4 * ((upS (upS (upS (upS (upS S900 682 0 0) 682 12 0) 682 13 0) 682 22 0) 696 (((4 * ((upS (upS (upS (upS S900 682 0 0) 682 12 0) 682 13 0) 682 22 0) 682 22))).toNat) 0) 682 22)) + 1)).toNat) 0) 696 ((((4 * ((upS (upS (upS (upS (upS (upS S900 682 0 0) 682 12 0) 682 13 0) 682 22 0) 696 (((4 * ((upS (upS (upS (upS S900 682 0 0) 682 12 0) 682 13 0) 682 22 0) 682 22))).toNat) 0) 696 ((((4 * ((upS (upS (upS (upS (upS S900 682 0 0) 682 12 0) 682 13 0) 682 22 0) 696 (((4 * ((upS (upS (upS (upS S900 682 0 0) 682 12 0) 682 13 0) 682 22 0) 682 22))).toNat) 0) 682 22)) + 1)).toNat) 0) 682 22)) + 2)).toNat) 0) 682 22)) + 3) ∧ ((4 * ((upS (upS (upS (upS (upS (upS (upS S900 682 0 0) 682 12 0) 682 13 0) 682 22 0) 696 (((4 * ((upS (upS (upS (upS S900 682 0 0) 682 12 0) 682 13 0) 682 22 0) 682 22))).toNat) 0) 696 ((((4 * ((upS (upS (upS (upS (upS S900 682 0 0) 682 12 0) 682 13 0) 682 22 0) 696 (((4 * ((upS (upS (upS (upS S900 682 0 0) 682 12 0) 682 13 0) 682 22 0) 682 22))).toNat) 0) 682 22)) + 1)).toNat) 0) 696 ((((4 * ((upS (upS (upS (upS (upS (upS S900 682 0 0) 682 12 0) 682 13 0) 682 22 0) 696 (((4 * ((upS (upS (upS (upS S900 682 0 0) 682 12 0) 682 13 0) 682 22 0) 682 22))).toNat) 0) 696 ((((4 * ((upS (upS (upS (upS (upS S900 682 0 0) 682 12 0) 682 13 0) 682 22 0) 696 (((4 * ((upS (upS (upS (upS S900 682 0 0) 682 12 0) 682 13 0) 682 22 0) 682 22))).toNat) 0) 682 22)) + 1)).toNat) 0) 682 22)) + 2)).toNat) 0) 682 22)) + 3) < 512 by first | omega | (simp [upS, hz, za1, z1a1, ca1, za2, z1a2, ca2, E900]; done) | (simp [upS, hz, za1, z1a1, ca1, za2, z1a2, ca2, E900]; omega)), ?_⟩
          refine ⟨(show -2147483648 ≤ (((upS (upS (upS (upS (upS (upS (upS (upS S900 682 0 0) 682 12 0) 682 13 0) 682 22 0) 696 (((4 * ((upS (upS (upS (upS S900 682 0 0) 682 12 0) 682 13 0) 682 22 0) 682 22))).toNat) 0) 696 ((((4 * ((upS (upS (upS (upS (upS S900 682 0 0) 682 12 0) 682 13 0) 682 22 0) 696 (((4 * ((upS (upS (upS (upS S900 682 0 0) 682 12 0) 682 13 0) 682 22 0) 682 22))).toNat) 0) 682 22)) + 1)).toNat) 0) 696 ((((4 * ((upS (upS (upS (upS (upS (upS S900 682 0 0) 682 12 0) 682 13 0) 682 22 0) 696 (((4 * ((upS (upS (upS (upS S900 682 0 0) 682 12 0) 682 13 0) 682 22 0) 682 22))).toNat) 0) 696 ((((4 * ((upS (upS (upS (upS (upS S900 682 0 0) 682 12 0) 682 13 0) 682 22 0) 696 (((4 * ((upS (upS (upS (upS S900 682 0 0) 682 12 0) 682 13 0) 682 22 0) 682 22))).toNat) 0) 682 22)) + 1)).toNat) 0) 682 22)) + 2)).toNat) 0) 696 ((((4 * ((upS (upS (upS (upS (upS (upS (upS S900 682 0 0) 682 12 0) 682 13 0) 682 22 0) 696 (((4 * ((upS (upS (upS (upS S900 682 0 0) 682 12 0) 682 13 0) 682 22 0) 682 22))).toNat) 0) 696 ((((4 * ((upS (upS (upS (upS (upS S900 682 0 0) 682 12 0) 682 13 0) 682 22 0) 696 (((4 * ((upS (upS (upS (upS S900 682 0 0) 682 12 0) 682 13 0) 682 22 0) 682 22))).toNat) 0) 682 22)) + 1)).toNat) 0) 696 ((((4 * ((upS (upS (upS (upS (upS (upS S900 682 0 0) 682 12 0) 682 13 0) 682 22 0) 696 (((4 * ((upS (upS (upS (upS S900 682 0 0) 682 12 0) 682 13 0) 682 22 0) 682 22))).toNat) 0) 696 ((((4 * ((upS (upS (upS (upS (upS S900 682 0 0) 682 12 0) 682 13 0) 682 22 0) 696 (((4 * ((upS (upS (upS (upS S900 682 0 0) 682 12 0) 682 13 0) 682 22 0) 682 22))).toNat) 0) 682 22)) + 1)).toNat) 0) 682 22)) + 2)).toNat) 0) 682 22)) + 3)).toNat) 0) 682 22) + 1) ∧ (((upS (upS (upS (upS (upS (upS (upS (upS S900 682 0 0) 682 12 0) 682 13 0) 682 22 0) 696 (((4 * ((upS (upS (upS (upS S900 682 0 0) 682 12 0) 682 13 0) 682 22 0) 682 22))).toNat) 0) 696 ((((4 * ((upS (upS (upS (upS (upS S900 682 0 0) 682 12 0) 682 13 0) 682 22 0) 696 (((4 * ((upS (upS (upS (upS S900 682 0 0) 682 12 0) 682 13 0) 682 22 0) 682 22))).toNat) 0) 682 22)) + 1)).toNat) 0) 696 ((((4 * ((upS (upS (upS (upS (upS (upS S900 682 0 0) 682 12 0) 682 13 0) 682 22 0) 696 (((4 * ((upS (upS (upS (upS S900 682 0 0) 682 12 0) 682 13 0) 682 22 0) 682 22))).toNat) 0) 696 ((((4 * ((upS (upS (upS (upS (upS S900 682 0 0) 682 12 0) 682 13 0) 682 22 0) 696 (((4 * ((upS (upS (upS (upS S900 682 0 0) 682 12 0) 682 13 0) 682 22 0) 682 22))).toNat) 0) 682 22)) + 1)).toNat) 0) 682 22)) + 2)).toNat) 0) 696 ((((4 * ((upS (upS (upS (upS (upS (upS (upS S900 682 0 0) 682 12 0) 682 13 0) 682 22 0) 696 (((4 * ((upS (upS (upS (upS S900 682 0 0) 682 12 0) 682 13 0) 682 22 0) 682 22))).toNat) 0) 696 ((((4 * ((upS (upS (upS (upS (upS S900 682 0 0) 682 12 0) 682 13 0) 682 22 0) 696 (((4 * ((upS (upS (upS (upS S900 682 0 0) 682 12 0) 682 13 0) 682 22 0) 682 22))).toNat) 0) 682 22)) + 1)).toNat) 0) 696 ((((4 * ((upS (upS (upS (upS (upS (upS S900 682 0 0) 682 12 0) 682 13 0) 682 22 0) 696 (((4 * ((upS (upS (upS (upS S900 682 0 0) 682 12 0) 682 13 0) 682 22 0) 682 22))).toNat) 0) 696 ((((4 * ((upS (upS (upS (upS (upS S900 682 0 0) 682 12 0) 682 13 0) 682 22 0) 696 (((4 * ((upS (upS (upS (upS S900 682 0 0) 682 12 0) 682 13 0) 682 22 0) 682 22))).toNat) 0) 682 22)) + 1)).toNat) 0) 682 22)) + 2)).toNat) 0) 682 22)) + 3)).toNat) 0) 682 22) + 1) ≤ 2147483647 by first | omega | (simp [upS, hz, za1, z1a1, ca1, za2, z1a2, ca2, E900]; done) | (simp [upS, hz, za1, z1a1, ca1, za2, z1a2, ca2, E900]; omega)), ?_⟩
          rw [(show (upS (upS (upS (upS (upS (upS (upS (upS (upS S900 682 0 0) 682 12 0) 682 13 0) 682 22 0) 696 (((4 * ((upS (upS (upS (upS S900 682 0 0) 682 12 0) 682 13 0) 682 22 0) 682 22))).toNat) 0) 696 ((((4 * ((upS (upS (upS (upS (upS S900 682 0 0) 682 12 0) 682 13 0) 682 22 0) 696 (((4 * ((upS (upS (upS (upS S900 682 0 0) 682 12 0) 682 13 0) 682 22 0) 682 22))).toNat) 0) 682 22)) + 1)).toNat) 0) 696 ((((4 * ((upS (upS (upS (upS (upS (upS S900 682 0 0) 682 12 0) 682 13 0) 682 22 0) 696 (((4 * ((upS (upS (upS (upS S900 682 0 0) 682 12 0) 682 13 0) 682 22 0) 682 22))).toNat) 0) 696 ((((4 * ((upS (upS (upS (upS (upS S900 682 0 0) 682 12 0) 682 13 0) 682 22 0) 696 (((4 * ((upS (upS (upS (upS S900 682 0 0) 682 12 0) 682 13 0) 682 22 0) 682 22))).toNat) 0) 682 22)) + 1)).toNat) 0) 682 22)) + 2)).toNat) 0) 696 ((((4 * ((upS (upS (upS (upS (upS (upS (upS S900 682 0 0) 682 12 0) 682 13 0) 682 22 0) 696 (((4 * ((upS (upS (upS (upS S900 682 0 0) 682 12 0) 682 13 0) 682 22 0) 682 22))).toNat) 0) 696 ((((4 * ((upS (upS (upS (upS (upS S900 682 0 0) 682 12 0) 682 13 0) 682 22 0) 696 (((4 * ((upS (upS (upS (upS S900 682 0 0) 682 12 0) 682 13 0) 682 22 0) 682 22))).toNat) 0) 682 22)) + 1)).toNat) 0) 696 ((((4 * ((upS (upS (upS (upS (upS (upS S900 682 0 0) 682 12 0) 682 13 0) 682 22 0) 696 (((4 * ((upS (upS (upS (upS S900 682 0 0) 682 12 0) 682 13 0) 682 22 0) 682 22))).toNat) 0) 696 ((((4 * ((upS (upS (upS (upS (upS S900 682 0 0) 682 12 0) 682 13 0) 682 22 0) 696 (((4 * ((upS (upS (upS (upS S900 682 0 0) 682 12 0) 682 13 0) 682 22 0) 682 22))).toNat) 0) 682 22)) + 1)).toNat) 0) 682 22)) + 2)).toNat) 0) 682 22)) + 3)).toNat) 0) 682 22 (((upS (upS (upS (upS (upS (upS (upS (upS S900 682 0 0) 682 12 0) 682 13 0) 682 22 0) 696 (((4 * ((upS (upS (upS (upS S900 682 0 0) 682 12 0) 682 13 0) 682 22 0) 682 22))).toNat) 0) 696 ((((4 * ((upS (upS (upS (upS (upS S900 682 0 0) 682 12 0) 682 13 0) 682 22 0) 696 (((4 * ((upS (upS (upS (upS S900 682 0 0) 682 12 0) 682 13 0) 682 22 0) 682 22))).toNat) 0) 682 22)) + 1)).toNat) 0) 696 ((((4 * ((upS (upS (upS (upS (upS (upS S900 682 0 0) 682 12 0) 682 13 0) 682 22 0) 696 (((4 * ((upS (upS (upS (upS S900 682 0 0) 682 12 0) 682 13 0) 682 22 0) 682 22))).toNat) 0) 696 ((((4 * ((upS (upS (upS (upS (upS S900 682 0 0) 682 12 0) 682 13 0) 682 22 0) 696 (((4 * ((upS (upS (upS (upS S900 682 0 0) 682 12 0) 682 13 0) 682 22 0) 682 22))).toNat) 0) 682 22)) + 1)).toNat) 0) 682 22)) + 2)).toNat) 0) 696 ((((4 * ((upS (upS (upS (upS (upS (upS (upS S900 682 0 0) 682 12 0) 682 13 0) 682 22 0) 696 (((4 * ((upS (upS (upS (upS S900 682 0 0) 682 12 0) 682 13 0) 682 22 0) 682 22))).toNat) 0) 696 ((((4 * ((upS (upS (upS (upS (upS S900 682 0 0) 682 12 0) 682 13 0) 682 22 0) 696 (((4 * ((upS (upS (upS (upS S900 682 0 0) 682 12 0) 682 13 0) 682 22 0) 682 22))).toNat) 0) 682 22)) + 1)).toNat) 0) 696 ((((4 * ((upS (upS (upS (upS (upS (upS S900 682 0 0) 682 12 0) 682 13 0) 682 22 0) 696 (((4 * ((upS (upS (upS (upS S900 682 0 0) 682 12 0) 682 13 0) 682 22 0) 682 22))).toNat) 0) 696 ((((4 * ((upS (upS (upS (upS (upS S900 682 0 0) 682 12 0) 682 13 0) 682 22 0) 696 (((4 * ((upS (upS (upS (upS S900 682 0 0) 682 12 0) 682 13 0) 682 22 0) 682 22))).toNat) 0) 682 22)) + 1)).toNat) 0) 682 22)) + 2)).toNat) 0) 682 22)) + 3)).toNat) 0) 682 22) + 1)) = (upS (upS (upS (upS (upS (upS (upS (upS (upS S900 682 0 0) 682 12 0) 682 13 0) 682 22 0) 696 0 0) 696 1 0) 696 2 0) 696 3 0) 682 22 1) from by rw [show (((upS (upS (upS (upS (upS (upS (upS (upS S900 682 0 0) 682 12 0) 682 13 0) 682 22 0) 696 (((4 * ((upS (upS (upS (upS S900 682 0 0) 682 12 0) 682 13 0) 682 22 0) 682 22))).toNat) 0) 696 ((((4 * ((upS (upS (upS (upS (upS S900 682 0 0) 682 12 0) 682 13 0) 682 22 0) 696 (((4 * ((upS (upS (upS (upS S900 682 0 0) 682 12 0) 682 13 0) 682 22 0) 682 22))).toNat) 0) 682 22)) + 1)).toNat) 0) 696 ((((4 * ((upS (upS (upS (upS (upS (upS S900 682 0 0) 682 12 0) 682 13 0) 682 22 0) 696 (((4 * ((upS (upS (upS (upS S900 682 0 0) 682 12 0) 682 13 0) 682 22 0) 682 22))).toNat) 0) 696 ((((4 * ((upS (upS (upS (upS (upS S900 682 0 0) 682 12 0) 682 13 0) 682 22 0) 696 (((4 * ((upS (upS (upS (upS S900 682 0 0) 682 12 0) 682 13 0) 682 22 0) 682 22))).toNat) 0) 682 22)) + 1)).toNat) 0) 682 22)) + 2)).toNat) 0) 696 ((((4 * ((upS (upS (upS (upS (upS (upS (upS S900 682 0 0) 682 12 0) 682 13 0) 682 22 0) 696 (((4 * ((upS (upS (upS (upS S900 682 0 0) 682 12 0) 682 13 0) 682 22 0) 682 22))).toNat) 0) 696 ((((4 * ((upS (upS (upS (upS (upS S900 682 0 0) 682 12 0) 682 13 0) 682 22 0) 696 (((4 * ((upS (upS (upS (upS S900 682 0 0) 682 12 0) 682 13 0) 682 22 0) 682 22))).toNat) 0) 682 22)) + 1)).toNat) 0) 696 ((((4 * ((upS (upS (upS (upS (upS (upS S900 682 0 0) 682 12 0) 682 13 0) 682 22 0) 696 (((4 * ((upS (upS (upS (upS S900 682 0 0) 682 12 0) 682 13 0) 682 22 0) 682 22))).toNat) 0) 696 ((((4 * ((upS (upS (upS (upS (upS S900 682 0 0) 682 12 0) 682 13 0) 682 22 0) 696 (((4 * ((upS (upS (upS (upS S900 682 0 0) 682 12 0) 682 13 0) 682 22 0) 682 22))).toNat) 0) 682 22)) + 1)).toNat) 0) 682 22)) + 2)).toNat) 0) 682 22)) + 3)).toNat) 0) 682 22) + 1) = 1 by (first | omega | (simp [upS, hz, za1, z1a1, ca1, za2, z1a2, ca2, E900]; done) | (simp [upS, hz, za1, z1a1, ca1, za2, z1a2, ca2, E900]; omega)), show ((((4 * ((upS (upS (upS (upS (upS (upS (upS S900 682 0 0) 682 12 0) 682 13 0) 682 22 0) 696 (((4 * ((upS (upS (upS (upS S900 682 0 0) 682 12 0) 682 13 0) 682 22 0) 682 22))).toNat) 0) 696 ((((4 * ((upS (upS (upS (upS (upS S900 682 0 0) 682 12 0) 682 13 0) 682 22 0) 696 (((4 * ((upS (upS (upS (upS S900 682 0 0) 682 12 0) 682 13 0) 682 22 0) 682 22))).toNat) 0) 682 22)) + 1)).toNat) 0) 696 ((((4 * ((upS (upS (upS (upS (upS (upS S900 682 0 0) 682 12 0) 682 13 0) 682 22 0) 696 (((4 * ((upS (upS (upS (upS S900 682 0 0) 682 12 0) 682 13 0) 682 22 0) 682 22))).toNat) 0) 696 ((((4 * ((upS (upS (upS (upS (upS S900 682 0 0) 682 12 0) 682 13 0) 682 22 0) 696 (((4 * ((upS (upS (upS (upS S900 682 0 0) 682 12 0) 682 13 0) 682 22 0) 682 22))).toNat) 0) 682 22)) + 1)).toNat) 0) 682 22)) + 2)).toNat) 0) 682 22)) + 3)).toNat) = 3 by (first | omega | (simp [upS, hz, za1, z1a1, ca1, za2, z1a2, ca2, E900]; done) | (simp [upS, hz, za1, z1a1, ca1, za2, z1a2, ca2, E900]; omega)), show ((((4 * ((upS (upS (upS (upS (upS (upS S900 682 0 0) 682 12 0) 682 13 0) 682 22 0) 696 (((4 * ((upS (upS (upS (upS S900 682 0 0) 682 12 0) 682 13 0) 682 22 0) 682 22))).toNat) 0) 696 ((((4 * ((upS (upS (upS (upS (upS S900 682 0 0) 682 12 0) 682 13 0) 682 22 0) 696 (((4 * ((upS (upS (upS (upS S900 682 0 0) 682 12 0) 682 13 0) 682 22 0) 682 22))).toNat) 0) 682 22)) + 1)).toNat) 0) 682 22)) + 2)).toNat) = 2 by (first | omega | (simp [upS, hz, za1, z1a1, ca1, za2, z1a2, ca2, E900]; done) | (simp [upS, hz, za1, z1a1, ca1, za2, z1a2, ca2, E900]; omega)), show ((((4 * ((upS (upS (upS (upS (upS S900 682 0 0) 682 12 0) 682 13 0) 682 22 0) 696 (((4 * ((upS (upS (upS (upS S900 682 0 0) 682 12 0) 682 13 0) 682 22 0) 682 22))).toNat) 0) 682 22)) + 1)).toNat) = 1 by (first | omega | (simp [upS, hz, za1, z1a1, ca1, za2, z1a2, ca2, E900]; done) | (simp [upS, hz, za1, z1a1, ca1, za2, z1a2, ca2, E900]; omega)), show (((4 * ((upS (upS (upS (upS S900 682 0 0) 682 12 0) 682 13 0) 682 22 0) 682 22))).toNat) = 0 by (first | omega | (simp [upS, hz, za1, z1a1, ca1, za2, z1a2, ca2, E900]; done) | (simp [upS, hz, za1, z1a1, ca1, za2, z1a2, ca2, E900]; omega))])]
          all_goals rfl
        obtain ⟨S74, E74⟩ : ∃ s : Sg, s = (upS (upS (upS (upS (upS (upS (upS (upS (upS S900 682 0 0) 682 12 0) 682 13 0) 682 22 0) 696 0 0) 696 1 0) 696 2 0) 696 3 0) 682 22 1) := ⟨_, rfl⟩
        rw [← E74] at hD73
        refine ⟨_, hD73, ?_⟩
        clear hD73
        refine b274_42 ?_
        rw [if_pos (show (0 : Int) < (S74 682 22) by first | omega | (simp [upS, hz, za1, z1a1, ca1, za2, z1a2, ca2, E900, E74]; done) | (simp [upS, hz, za1, z1a1, ca1, za2, z1a2, ca2, E900, E74]; omega))]
        refine ⟨(show -2147483648 ≤ ((S74 682 22) - 1) ∧ ((S74 682 22) - 1) ≤ 2147483647 by first | omega | (simp [upS, hz, za1, z1a1, ca1, za2, z1a2, ca2, E900, E74]; done) | (simp [upS, hz, za1, z1a1, ca1, za2, z1a2, ca2, E900, E74]; omega)), ?_⟩
        refine ⟨(show -2147483648 ≤ (4 * ((upS S74 682 22 ((S74 682 22) - 1)) 682 22)) ∧ (4 * ((upS S74 682 22 ((S74 682 22) - 1)) 682 22)) ≤ 2147483647 by first | omega | (simp [upS, hz, za1, z1a1, ca1, za2, z1a2, ca2, E900, E74]; done) | (simp [upS, hz, za1, z1a1, ca1, za2, z1a2, ca2, E900, E74]; omega)), ?_⟩
        refine ⟨(show 0 ≤ (4 * ((upS S74 682 22 ((S74 682 22) - 1)) 682 22)) ∧ (4 * ((upS S74 682 22 ((S74 682 22) - 1)) 682 22)) < 512 by first | omega | (simp [upS, hz, za1, z1a1, ca1, za2, z1a2, ca2, E900, E74]; done) | (simp [upS, hz, za1, z1a1, ca1, za2, z1a2, ca2, E900, E74]; omega)), ?_⟩
        refine ⟨(show -2147483648 ≤ (4 * ((upS (upS S74 682 22 ((S74 682 22) - 1)) 682 17 ((upS S74 682 22 ((S74 682 22) - 1)) 696 ((4 * ((upS S74 682 22 ((S74 682 22) - 1)) 682 22))).toNat)) 682 22)) ∧ (4 * ((upS (upS S74 682 22 ((S74 682 22) - 1)) 682 17 ((upS S74 682 22 ((S74 682 22) - 1)) 696 ((4 * ((upS S74 682 22 ((S74 682 22) - 1)) 682 22))).toNat)) 682 22)) ≤ 2147483647 by first | omega | (simp [upS, hz, za1, z1a1, ca1, za2, z1a2, ca2, E900, E74]; done) | (simp [upS, hz, za1, z1a1, ca1, za2, z1a2, ca2, E900, E74]; omega)), ?_⟩
        refine ⟨(show -2147483648 ≤ ((4 * ((upS (upS S74 682 22 ((S74 682 22) - 1)) 682 17 ((upS S74 682 22 ((S74 682 22) - 1)) 696 ((4 * ((upS S74 682 22 ((S74 682 22) - 1)) 682 22))).toNat)) 682 22)) + 1) ∧ ((4 * ((upS (upS S74 682 22 ((S74 682 22) - 1)) 682 17 ((upS S74 682 22 ((S74 682 22) - 1)) 696 ((4 * ((upS S74 682 22 ((S74 682 22) - 1)) 682 22))).toNat)) 682 22)) + 1) ≤ 2147483647 by first | omega | (simp [upS, hz, za1, z1a1, ca1, za2, z1a2, ca2, E900, E74]; done) | (simp [upS, hz, za1, z1a1, ca1, za2, z1a2, ca2, E900, E74]; omega)), ?_⟩
        refine ⟨(show 0 ≤ ((4 * ((upS (upS S74 682 22 ((S74 682 22) - 1)) 682 17 ((upS S74 682 22 ((S74 682 22) - 1)) 696 ((4 * ((upS S74 682 22 ((S74 682 22) - 1)) 682 22))).toNat)) 682 22)) + 1) ∧ ((4 * ((upS (upS S74 682 22 ((S74 682 22) - 1)) 682 17 ((upS S74 682 22 ((S74 682 22) - 1)) 696 ((4 * ((upS S74 682 22 ((S74 682 22) - 1)) 682 22))).toNat)) 682 22)) + 1) < 512 by first | omega | (simp [upS, hz, za1, z1a1, ca1, za2, z1a2, ca2, E900, E74]; done) | (simp [upS, hz, za1, z1a1, ca1, za2, z1a2, ca2, E900, E74]; omega)), ?_⟩
        refine ⟨(show -2147483648 ≤ (4 * ((upS (upS (upS S74 682 22 ((S74 682 22) - 1)) 682 17 ((upS S74 682 22 ((S74 682 22) - 1)) 696 ((4 * ((upS S74 682 22 ((S74 682 22) - 1)) 682 22))).toNat)) 682 18 ((upS (upS S74 682 22 ((S74 682 22) - 1)) 682 17 ((upS S74 682 22 ((S74 682 22) - 1)) 696 ((4 * ((upS S74 682 22 ((S74 682 22) - 1)) 682 22))).toNat)) 696 (((4 * ((upS (upS S74 682 22 ((S74 682 22) - 1)) 682 17 ((upS S74 682 22 ((S74 682 22) - 1)) 696 ((4 * ((upS S74 682 22 ((S74 682 22) - 1)) 682 22))).toNat)) 682 22)) + 1)).toNat)) 682 22)) ∧ (4 * ((upS (upS (upS S74 682 22 ((S74 682 22) - 1)) 682 17 ((upS S74 682 22 ((S74 682 22) - 1)) 696 ((4 * ((upS S74 682 22 ((S74 682 22) - 1)) 682 22))).toNat)) 682 18 ((upS (upS S74 682 22 ((S74 682 22) - 1)) 682 17 ((upS S74 682 22 ((S74 682 22) - 1)) 696 ((4 * ((upS S74 682 22 ((S74 682 22) - 1)) 682 22))).toNat)) 696 (((4 * ((upS (upS S74 682 22 ((S74 682 22) - 1)) 682 17 ((upS S74 682 22 ((S74 682 22) - 1)) 696 ((4 * ((upS S74 682 22 ((S74 682 22) - 1)) 682 22))).toNat)) 682 22)) + 1)).toNat)) 682 22)) ≤ 2147483647 by first | omega | (simp [upS, hz, za1, z1a1, ca1, za2, z1a2, ca2, E900, E74]; done) | (simp [upS, hz, za1, z1a1, ca1, za2, z1a2, ca2, E900, E74]; omega)), ?_⟩
        refine ⟨(show -2147483648 ≤ ((4 * ((upS (upS (upS S74 682 22 ((S74 682 22) - 1)) 682 17 ((upS S74 682 22 ((S74 682 22) - 1)) 696 ((4 * ((upS S74 682 22 ((S74 682 22) - 1)) 682 22))).toNat)) 682 18 ((upS (upS S74 682 22 ((S74 682 22) - 1)) 682 17 ((upS S74 682 22 ((S74 682 22) - 1)) 696 ((4 * ((upS S74 682 22 ((S74 682 22) - 1)) 682 22))).toNat)) 696 (((4 * ((upS (upS S74 682 22 ((S74 682 22) - 1)) 682 17 ((upS S74 682 22 ((S74 682 22) - 1)) 696 ((4 * ((upS S74 682 22 ((S74 682 22) - 1)) 682 22))).toNat)) 682 22)) + 1)).toNat)) 682 22)) + 2) ∧ ((4 * ((upS (upS (upS S74 682 22 ((S74 682 22) - 1)) 682 17 ((upS S74 682 22 ((S74 682 22) - 1)) 696 ((4 * ((upS S74 682 22 ((S74 682 22) - 1)) 682 22))).toNat)) 682 18 ((upS (upS S74 682 22 ((S74 682 22) - 1)) 682 17 ((upS S74 682 22 ((S74 682 22) - 1)) 696 ((4 * ((upS S74 682 22 ((S74 682 22) - 1)) 682 22))).toNat)) 696 (((4 * ((upS (upS S74 682 22 ((S74 682 22) - 1)) 682 17 ((upS S74 682 22 ((S74 682 22) - 1)) 696 ((4 * ((upS S74 682 22 ((S74 682 22) - 1)) 682 22))).toNat)) 682 22)) + 1)).toNat)) 682 22)) + 2) ≤ 2147483647 by first | omega | (simp [upS, hz, za1, z1a1, ca1, za2, z1a2, ca2, E900, E74]; done) | (simp [upS, hz, za1, z1a1, ca1, za2, z1a2, ca2, E900, E74]; omega)), ?_⟩
        refine ⟨(show 0 ≤ ((4 * ((upS (upS (upS S74 682 22 ((S74 682 22) - 1)) 682 17 ((upS S74 682 22 ((S74 682 22) - 1)) 696 ((4 * ((upS S74 682 22 ((S74 682 22) - 1)) 682 22))).toNat)) 682 18 ((upS (upS S74 682 22 ((S74 682 22) - 1)) 682 17 ((upS S74 682 22 ((S74 682 22) - 1)) 696 ((4 * ((upS S74 682 22 ((S74 682 22) - 1)) 682 22))).toNat)) 696 (((4 * ((upS (upS S74 682 22 ((S74 682 22) - 1)) 682 17 ((upS S74 682 22 ((S74 682 22) - 1)) 696 ((4 * ((upS S74 682 22 ((S74 682 22) - 1)) 682 22))).toNat)) 682 22)) + 1)).toNat)) 682 22)) + 2) ∧ ((4 * ((upS (upS (upS S74 682 22 ((S74 682 22) - 1)) 682 17 ((upS S74 682 22 ((S74 682 22) - 1)) 696 ((4 * ((upS S74 682 22 ((S74 682 22) - 1)) 682 22))).toNat)) 682 18 ((upS (upS S74 682 22 ((S74 682 22) - 1)) 682 17 ((upS S74 682 22 ((S74 682 22) - 1)) 696 ((4 * ((upS S74 682 22 ((S74 682 22) - 1)) 682 22))).toNat)) 696 (((4 * ((upS (upS S74 682 22 ((S74 682 22) - 1)) 682 17 ((upS S74 682 22 ((S74 682 22) - 1)) 696 ((4 * ((upS S74 682 22 ((S74 682 22) - 1)) 682 22))).toNat)) 682 22)) + 1)).toNat)) 682 22)) + 2) < 512 by first | omega | (simp [upS, hz, za1, z1a1, ca1, za2, z1a2, ca2, E900, E74]; done) | (simp [upS, hz, za1, z1a1, ca1, za2, z1a2, ca2, E900, E74]; omega)), ?_⟩
        refine ⟨(show -2147483648 ≤ (4 * ((upS (upS (upS (upS S74 682 22 ((S74 682 22) - 1)) 682 17 ((upS S74 682 22 ((S74 682 22) - 1)) 696 ((4 * ((upS S74 682 22 ((S74 682 22) - 1)) 682 22))).toNat)) 682 18 ((upS (upS S74 682 22 ((S74 682 22) - 1)) 682 17 ((upS S74 682 22 ((S74 682 22) - 1)) 696 ((4 * ((upS S74 682 22 ((S74 682 22) - 1)) 682 22))).toNat)) 696 (((4 * ((upS (upS S74 682 22 ((S74 682 22) - 1)) 682 17 ((upS S74 682 22 ((S74 682 22) - 1)) 696 ((4 * ((upS S74 682 22 ((S74 682 22) - 1)) 682 22))).toNat)) 682 22)) + 1)).toNat)) 682 19 ((upS (upS (upS S74 682 22 ((S74 682 22) - 1)) 682 17 ((upS S74 682 22 ((S74 682 22) - 1)) 696 ((4 * ((upS S74 682 22 ((S74 682 22) - 1)) 682 22))).toNat)) 682 18 ((upS (upS S74 682 22 ((S74 682 22) - 1)) 682 17 ((upS S74 682 22 ((S74 682 22) - 1)) 696 ((4 * ((upS S74 682 22 ((S74 682 22) - 1)) 682 22))).toNat)) 696 (((4 * ((upS (upS S74 682 22 ((S74 682 22) - 1)) 682 17 ((upS S74 682 22 ((S74 682 22) - 1)) 696 ((4 * ((upS S74 682 22 ((S74 682 22) - 1)) 682 22))).toNat)) 682 22)) + 1)).toNat)) 696 (((4 * ((upS (upS (upS S74 682 22 ((S74 682 22) - 1)) 682 17 ((upS S74 682 22 ((S74 682 22) - 1)) 696 ((4 * ((upS S74 682 22 ((S74 682 22) - 1)) 682 22))).toNat)) 682 18 ((upS (upS S74 682 22 ((S74 682 22) - 1)) 682 17 ((upS S74 682 22 ((S74 682 22) - 1)) 696 ((4 * ((upS S74 682 22 ((S74 682 22) - 1)) 682 22))).toNat)) 696 (((4 * ((upS (upS S74 682 22 ((S74 682 22) - 1)) 682 17 ((upS S74 682 22 ((S74 682 22) - 1)) 696 ((4 * ((upS S74 682 22 ((S74 682 22) - 1)) 682 22))).toNat)) 682 22)) + 1)).toNat)) 682 22)) + 2)).toNat)) 682 22)) ∧ (4 * ((upS (upS (upS (upS S74 682 22 ((S74 682 22) - 1)) 682 17 ((upS S74 682 22 ((S74 682 22) - 1)) 696 ((4 * ((upS S74 682 22 ((S74 682 22) - 1)) 682 22))).toNat)) 682 18 ((upS (upS S74 682 22 ((S74 682 22) - 1)) 682 17 ((upS S74 682 22 ((S74 682 22) - 1)) 696 ((4 * ((upS S74 682 22 ((S74 682 22) - 1)) 682 22))).toNat)) 696 (((4 * ((upS (upS S74 682 22 ((S74 682 22) - 1)) 682 17 ((upS S74 682 22 ((S74 682 22) - 1)) 696 ((4 * ((upS S74 682 22 ((S74 682 22) - 1)) 682 22))).toNat)) 682 22)) + 1)).toNat)) 682 19 ((upS (upS (upS S74 682 22 ((S74 682 22) - 1)) 682 17 ((upS S74 682 22 ((S74 682 22) - 1)) 696 ((4 * ((upS S74 682 22 ((S74 682 22) - 1)) 682 22))).toNat)) 682 18 ((upS (upS S74 682 22 ((S74 682 22) - 1)) 682 17 ((upS S74 682 22 ((S74 682 22) - 1)) 696 ((4 * ((upS S74 682 22 ((S74 682 22) - 1)) 682 22))).toNat)) 696 (((4 * ((upS (upS S74 682 22 ((S74 682 22) - 1)) 682 17 ((upS S74 682 22 ((S74 682 22) - 1)) 696 ((4 * ((upS S74 682 22 ((S74 682 22) - 1)) 682 22))).toNat)) 682 22)) + 1)).toNat)) 696 (((4 * ((upS (upS (upS S74 682 22 ((S74 682 22) - 1)) 682 17 ((upS S74 682 22 ((S74 682 22) - 1)) 696 ((4 * ((upS S74 682 22 ((S74 682 22) - 1)) 682 22))).toNat)) 682 18 ((upS (upS S74 682 22 ((S74 682 22) - 1)) 682 17 ((upS S74 682 22 ((S74 682 22) - 1)) 696 ((4 * ((upS S74 682 22 ((S74 682 22) - 1)) 682 22))).toNat)) 696 (((4 * ((upS (upS S74 682 22 ((S74 682 22) - 1)) 682 17 ((upS S74 682 22 ((S74 682 22) - 1)) 696 ((4 * ((upS S74 682 22 ((S74 682 22) - 1)) 682 22))).toNat)) 682 22)) + 1)).toNat)) 682 22)) + 2)).toNat)) 682 22)) ≤ 2147483647 by first | omega | (simp [upS, hz, za1, z1a1, ca1, za2, z1a2, ca2, E900, E74]; done) | (simp [upS, hz, za1, z1a1, ca1, za2, z1a2, ca2, E900, E74]; omega)), ?_⟩
        refine ⟨(show -2147483648 ≤ ((4 * ((upS (upS (upS (upS S74 682 22 ((S74 682 22) - 1)) 682 17 ((upS S74 682 22 ((S74 682 22) - 1)) 696 ((4 * ((upS S74 682 22 ((S74 682 22) - 1)) 682 22))).toNat)) 682 18 ((upS (upS S74 682 22 ((S74 682 22) - 1)) 682 17 ((upS S74 682 22 ((S74 682 22) - 1)) 696 ((4 * ((upS S74 682 22 ((S74 682 22) - 1)) 682 22))).toNat)) 696 (((4 * ((upS (upS S74 682 22 ((S74 682 22) - 1)) 682 17 ((upS S74 682 22 ((S74 682 22) - 1)) 696 ((4 * ((upS S74 682 22 ((S74 682 22) - 1)) 682 22))).toNat)) 682 22)) + 1)).toNat)) 682 19 ((upS (upS (upS S74 682 22 ((S74 682 22) - 1)) 682 17 ((upS S74 682 22 ((S74 682 22) - 1)) 696 ((4 * ((upS S74 682 22 ((S74 682 22) - 1)) 682 22))).toNat)) 682 18 ((upS (upS S74 682 22 ((S74 682 22) - 1)) 682 17 ((upS S74 682 22 ((S74 682 22) - 1)) 696 ((4 * ((upS S74 682 22 ((S74 682 22) - 1)) 682 22))).toNat)) 696 (((4 * ((upS (upS S74 682 22 ((S74 682 22) - 1)) 682 17 ((upS S74 682 22 ((S74 682 22) - 1)) 696 ((4 * ((upS S74 682 22 ((S74 682 22) - 1)) 682 22))).toNat)) 682 22)) + 1)).toNat)) 696 (((4 * ((upS (upS (upS S74 682 22 ((S74 682 22) - 1)) 682 17 ((upS S74 682 22 ((S74 682 22) - 1)) 696 ((4 * ((upS S74 682 22 ((S74 682 22) - 1)) 682 22))).toNat)) 682 18 ((upS (upS S74 682 22 ((S74 682 22) - 1)) 682 17 ((upS S74 682 22 ((S74 682 22) - 1)) 696 ((4 * ((upS S74 682 22 ((S74 682 22) - 1)) 682 22))).toNat)) 696 (((4 * ((upS (upS S74 682 22 ((S74 682 22) - 1)) 682 17 ((upS S74 682 22 ((S74 682 22) - 1)) 696 ((4 * ((upS S74 682 22 ((S74 682 22) - 1)) 682 22))).toNat)) 682 22)) + 1)).toNat)) 682 22)) + 2)).toNat)) 682 22)) + 3) ∧ ((4 * ((upS (upS (upS (upS S74 682 22 ((S74 682 22) - 1)) 682 17 ((upS S74 682 22 ((S74 682 22) - 1)) 696 ((4 * ((upS S74 682 22 ((S74 682 22) - 1)) 682 22))).toNat)) 682 18 ((upS (upS S74 682 22 ((S74 682 22) - 1)) 682 17 ((upS S74 682 22 ((S74 682 22) - 1)) 696 ((4 * ((upS S74 682 22 ((S74 682 22) - 1)) 682 22))).toNat)) 696 (((4 * ((upS (upS S74 682 22 ((S74 682 22) - 1)) 682 17 ((upS S74 682 22 ((S74 682 22) - 1)) 696 ((4 * ((upS S74 682 22 ((S74 682 22) - 1)) 682 22))).toNat)) 682 22)) + 1)).toNat)) 682 19 ((upS (upS (upS S74 682 22 ((S74 682 22) - 1)) 682 17 ((upS S74 682 22 ((S74 682 22) - 1)) 696 ((4 * ((upS S74 682 22 ((S74 682 22) - 1)) 682 22))).toNat)) 682 18 ((upS (upS S74 682 22 ((S74 682 22) - 1)) 682 17 ((upS S74 682 22 ((S74 682 22) - 1)) 696 ((4 * ((upS S74 682 22 ((S74 682 22) - 1)) 682 22))).toNat)) 696 (((4 * ((upS (upS S74 682 22 ((S74 682 22) - 1)) 682 17 ((upS S74 682 22 ((S74 682 22) - 1)) 696 ((4 * ((upS S74 682 22 ((S74 682 22) - 1)) 682 22))).toNat)) 682 22)) + 1)).toNat)) 696 (((4 * ((upS (upS (upS S74 682 22 ((S74 682 22) - 1)) 682 17 ((upS S74 682 22 ((S74 682 22) - 1)) 696 ((4 * ((upS S74 682 22 ((S74 682 22) - 1)) 682 22))).toNat)) 682 18 ((upS (upS S74 682 22 ((S74 682 22) - 1)) 682 17 ((upS S74 682 22 ((S74 682 22) - 1)) 696 ((4 * ((upS S74 682 22 ((S74 682 22) - 1)) 682 22))).toNat)) 696 (((4 * ((upS (upS S74 682 22 ((S74 682 22) - 1)) 682 17 ((upS S74 682 22 ((S74 682 22) - 1)) 696 ((4 * ((upS S74 682 22 ((S74 682 22) - 1)) 682 22))).toNat)) 682 22)) + 1)).toNat)) 682 22)) + 2)).toNat)) 682 22)) + 3) ≤ 2147483647 by first | omega | (simp [upS, hz, za1, z1a1, ca1, za2, z1a2, ca2, E900, E74]; done) | (simp [upS, hz, za1, z1a1, ca1, za2, z1a2, ca2, E900, E74]; omega)), ?_⟩
        refine ⟨(show 0 ≤ ((4 * ((upS (upS (upS (upS S74 682 22 ((S74 682 22) - 1)) 682 17 ((upS S74 682 22 ((S74 682 22) - 1)) 696 ((4 * ((upS S74 682 22 ((S74 682 22) - 1)) 682 22))).toNat)) 682 18 ((upS (upS S74 682 22 ((S74 682 22) - 1)) 682 17 ((upS S74 682 22 ((S74 682 22) - 1)) 696 ((4 * ((upS S74 682 22 ((S74 682 22) - 1)) 682 22))).toNat)) 696 (((4 * ((upS (upS S74 682 22 ((S74 682 22) - 1)) 682 17 ((upS S74 682 22 ((S74 682 22) - 1)) 696 ((4 * ((upS S74 682 22 ((S74 682 22) - 1)) 682 22))).toNat)) 682 22)) + 1)).toNat)) 682 19 ((upS (upS (upS S74 682 22 ((S74 682 22) - 1)) 682 17 ((upS S74 682 22 ((S74 682 22) - 1)) 696 ((4 * ((upS S74 682 22 ((S74 682 22) - 1)) 682 22))).toNat)) 682 18 ((upS (upS S74 682 22 ((S74 682 22) - 1)) 682 17 ((upS S74 682 22 ((S74 682 22) - 1)) 696 ((4 * ((upS S74 682 22 ((S74 682 22) - 1)) 682 22))).toNat)) 696 (((4 * ((upS (upS S74 682 22 ((S74 682 22) - 1)) 682 17 ((upS S74 682 22 ((S74 682 22) - 1)) 696 ((4 * ((upS S74 682 22 ((S74 682 22) - 1)) 682 22))).toNat)) 682 22)) + 1)).toNat)) 696 (((4 * ((upS (upS (upS S74 682 22 ((S74 682 22) - 1)) 682 17 ((upS S74 682 22 ((S74 682 22) - 1)) 696 ((4 * ((upS S74 682 22 ((S74 682 22) - 1)) 682 22))).toNat)) 682 18 ((upS (upS S74 682 22 ((S74 682 22) - 1)) 682 17 ((upS S74 682 22 ((S74 682 22) - 1)) 696 ((4 * ((upS S74 682 22 ((S74 682 22) - 1)) 682 22))).toNat)) 696 (((4 * ((upS (upS S74 682 22 ((S74 682 22) - 1)) 682 17 ((upS S74 682 22 ((S74 682 22) - 1)) 696 ((4 * ((upS S74 682 22 ((S74 682 22) - 1)) 682 22))).toNat)) 682 22)) + 1)).toNat)) 682 22)) + 2)).toNat)) 682 22)) + 3) ∧ ((4 * ((upS (upS (upS (upS S74 682 22 ((S74 682 22) - 1)) 682 17 ((upS S74 682 22 ((S74 682 22) - 1)) 696 ((4 * ((upS S74 682 22 ((S74 682 22) - 1)) 682 22))).toNat)) 682 18 ((upS (upS S74 682 22 ((S74 682 22) - 1)) 682 17 ((upS S74 682 22 ((S74 682 22) - 1)) 696 ((4 * ((upS S74 682 22 ((S74 682 22) - 1)) 682 22))).toNat)) 696 (((4 * ((upS (upS S74 682 22 ((S74 682 22) - 1)) 682 17 ((upS S74 682 22 ((S74 682 22) - 1)) 696 ((4 * ((upS S74 682 22 ((S74 682 22) - 1)) 682 22))).toNat)) 682 22)) + 1)).toNat)) 682 19 ((upS (upS (upS S74 682 22 ((S74 682 22) - 1)) 682 17 ((upS S74 682 22 ((S74 682 22) - 1)) 696 ((4 * ((upS S74 682 22 ((S74 682 22) - 1)) 682 22))).toNat)) 682 18 ((upS (upS S74 682 22 ((S74 682 22) - 1)) 682 17 ((upS S74 682 22 ((S74 682 22) - 1)) 696 ((4 * ((upS S74 682 22 ((S74 682 22) - 1)) 682 22))).toNat)) 696 (((4 * ((upS (upS S74 682 22 ((S74 682 22) - 1)) 682 17 ((upS S74 682 22 ((S74 682 22) - 1)) 696 ((4 * ((upS S74 682 22 ((S74 682 22) - 1)) 682 22))).toNat)) 682 22)) + 1)).toNat)) 696 (((4 * ((upS (upS (upS S74 682 22 ((S74 682 22) - 1)) 682 17 ((upS S74 682 22 ((S74 682 22) - 1)) 696 ((4 * ((upS S74 682 22 ((S74 682 22) - 1)) 682 22))).toNat)) 682 18 ((upS (upS S74 682 22 ((S74 682 22) - 1)) 682 17 ((upS S74 682 22 ((S74 682 22) - 1)) 696 ((4 * ((upS S74 682 22 ((S74 682 22) - 1)) 682 22))).toNat)) 696 (((4 * ((upS (upS S74 682 22 ((S74 682 22) - 1)) 682 17 ((upS S74 682 22 ((S74 682 22) - 1)) 696 ((4 * ((upS S74 682 22 ((S74 682 22) - 1)) 682 22))).toNat)) 682 22)) + 1)).toNat)) 682 22)) + 2)).toNat)) 682 22)) + 3) < 512 by first | omega | (simp [upS, hz, za1, z1a1, ca1, za2, z1a2, ca2, E900, E74]; done) | (simp [upS, hz, za1, z1a1, ca1, za2, z1a2, ca2, E900, E74]; omega)), ?_⟩
        rw [if_pos (show a3 = 0 by first | omega | (simp [upS, hz, za1, z1a1, ca1, za2, z1a2, ca2, E900, E74]; done) | (simp [upS, hz, za1, z1a1, ca1, za2, z1a2, ca2, E900, E74]; omega))]
        rw [(show (upS (upS (upS (upS (upS S74 682 22 ((S74 682 22) - 1)) 682 17 ((upS S74 682 22 ((S74 682 22) - 1)) 696 ((4 * ((upS S74 682 22 ((S74 682 22) - 1)) 682 22))).toNat)) 682 18 ((upS (upS S74 682 22 ((S74 682 22) - 1)) 682 17 ((upS S74 682 22 ((S74 682 22) - 1)) 696 ((4 * ((upS S74 682 22 ((S74 682 22) - 1)) 682 22))).toNat)) 696 (((4 * ((upS (upS S74 682 22 ((S74 682 22) - 1)) 682 17 ((upS S74 682 22 ((S74 682 22) - 1)) 696 ((4 * ((upS S74 682 22 ((S74 682 22) - 1)) 682 22))).toNat)) 682 22)) + 1)).toNat)) 682 19 ((upS (upS (upS S74 682 22 ((S74 682 22) - 1)) 682 17 ((upS S74 682 22 ((S74 682 22) - 1)) 696 ((4 * ((upS S74 682 22 ((S74 682 22) - 1)) 682 22))).toNat)) 682 18 ((upS (upS S74 682 22 ((S74 682 22) - 1)) 682 17 ((upS S74 682 22 ((S74 682 22) - 1)) 696 ((4 * ((upS S74 682 22 ((S74 682 22) - 1)) 682 22))).toNat)) 696 (((4 * ((upS (upS S74 682 22 ((S74 682 22) - 1)) 682 17 ((upS S74 682 22 ((S74 682 22) - 1)) 696 ((4 * ((upS S74 682 22 ((S74 682 22) - 1)) 682 22))).toNat)) 682 22)) + 1)).toNat)) 696 (((4 * ((upS (upS (upS S74 682 22 ((S74 682 22) - 1)) 682 17 ((upS S74 682 22 ((S74 682 22) - 1)) 696 ((4 * ((upS S74 682 22 ((S74 682 22) - 1)) 682 22))).toNat)) 682 18 ((upS (upS S74 682 22 ((S74 682 22) - 1)) 682 17 ((upS S74 682 22 ((S74 682 22) - 1)) 696 ((4 * ((upS S74 682 22 ((S74 682 22) - 1)) 682 22))).toNat)) 696 (((4 * ((upS (upS S74 682 22 ((S74 682 22) - 1)) 682 17 ((upS S74 682 22 ((S74 682 22) - 1)) 696 ((4 * ((upS S74 682 22 ((S74 682 22) - 1)) 682 22))).toNat)) 682 22)) + 1)).toNat)) 682 22)) + 2)).toNat)) 682 20 ((upS (upS (upS (upS S74 682 22 ((S74 682 22) - 1)) 682 17 ((upS S74 682 22 ((S74 682 22) - 1)) 696 ((4 * ((upS S74 682 22 ((S74 682 22) - 1)) 682 22))).toNat)) 682 18 ((upS (upS S74 682 22 ((S74 682 22) - 1)) 682 17 ((upS S74 682 22 ((S74 682 22) - 1)) 696 ((4 * ((upS S74 682 22 ((S74 682 22) - 1)) 682 22))).toNat)) 696 (((4 * ((upS (upS S74 682 22 ((S74 682 22) - 1)) 682 17 ((upS S74 682 22 ((S74 682 22) - 1)) 696 ((4 * ((upS S74 682 22 ((S74 682 22) - 1)) 682 22))).toNat)) 682 22)) + 1)).toNat)) 682 19 ((upS (upS (upS S74 682 22 ((S74 682 22) - 1)) 682 17 ((upS S74 682 22 ((S74 682 22) - 1)) 696 ((4 * ((upS S74 682 22 ((S74 682 22) - 1)) 682 22))).toNat)) 682 18 ((upS (upS S74 682 22 ((S74 682 22) - 1)) 682 17 ((upS S74 682 22 ((S74 682 22) - 1)) 696 ((4 * ((upS S74 682 22 ((S74 682 22) - 1)) 682 22))).toNat)) 696 (((4 * ((upS (upS S74 682 22 ((S74 682 22) - 1)) 682 17 ((upS S74 682 22 ((S74 682 22) - 1)) 696 ((4 * ((upS S74 682 22 ((S74 682 22) - 1)) 682 22))).toNat)) 682 22)) + 1)).toNat)) 696 (((4 * ((upS (upS (upS S74 682 22 ((S74 682 22) - 1)) 682 17 ((upS S74 682 22 ((S74 682 22) - 1)) 696 ((4 * ((upS S74 682 22 ((S74 682 22) - 1)) 682 22))).toNat)) 682 18 ((upS (upS S74 682 22 ((S74 682 22) - 1)) 682 17 ((upS S74 682 22 ((S74 682 22) - 1)) 696 ((4 * ((upS S74 682 22 ((S74 682 22) - 1)) 682 22))).toNat)) 696 (((4 * ((upS (upS S74 682 22 ((S74 682 22) - 1)) 682 17 ((upS S74 682 22 ((S74 682 22) - 1)) 696 ((4 * ((upS S74 682 22 ((S74 682 22) - 1)) 682 22))).toNat)) 682 22)) + 1)).toNat)) 682 22)) + 2)).toNat)) 696 (((4 * ((upS (upS (upS (upS S74 682 22 ((S74 682 22) - 1)) 682 17 ((upS S74 682 22 ((S74 682 22) - 1)) 696 ((4 * ((upS S74 682 22 ((S74 682 22) - 1)) 682 22))).toNat)) 682 18 ((upS (upS S74 682 22 ((S74 682 22) - 1)) 682 17 ((upS S74 682 22 ((S74 682 22) - 1)) 696 ((4 * ((upS S74 682 22 ((S74 682 22) - 1)) 682 22))).toNat)) 696 (((4 * ((upS (upS S74 682 22 ((S74 682 22) - 1)) 682 17 ((upS S74 682 22 ((S74 682 22) - 1)) 696 ((4 * ((upS S74 682 22 ((S74 682 22) - 1)) 682 22))).toNat)) 682 22)) + 1)).toNat)) 682 19 ((upS (upS (upS S74 682 22 ((S74 682 22) - 1)) 682 17 ((upS S74 682 22 ((S74 682 22) - 1)) 696 ((4 * ((upS S74 682 22 ((S74 682 22) - 1)) 682 22))).toNat)) 682 18 ((upS (upS S74 682 22 ((S74 682 22) - 1)) 682 17 ((upS S74 682 22 ((S74 682 22) - 1)) 696 ((4 * ((upS S74 682 22 ((S74 682 22) - 1)) 682 22))).toNat)) 696 (((4 * ((upS (upS S74 682 22 ((S74 682 22) - 1)) 682 17 ((upS S74 682 22 ((S74 682 22) - 1)) 696 ((4 * ((upS S74 682 22 ((S74 682 22) - 1)) 682 22))).toNat)) 682 22)) + 1)).toNat)) 696 (((4 * ((upS (upS (upS S74 682 22 ((S74 682 22) - 1)) 682 17 ((upS S74 682 22 ((S74 682 22) - 1)) 696 ((4 * ((upS S74 682 22 ((S74 682 22) - 1)) 682 22))).toNat)) 682 18 ((upS (upS S74 682 22 ((S74 682 22) - 1)) 682 17 ((upS S74 682 22 ((S74 682 22) - 1)) 696 ((4 * ((upS S74 682 22 ((S74 682 22) - 1)) 682 22))).toNat)) 696 (((4 * ((upS (upS S74 682 22 ((S74 682 22) - 1)) 682 17 ((upS S74 682 22 ((S74 682 22) - 1)) 696 ((4 * ((upS S74 682 22 ((S74 682 22) - 1)) 682 22))).toNat)) 682 22)) + 1)).toNat)) 682 22)) + 2)).toNat)) 682 22)) + 3)).toNat)) = (upS (upS (upS (upS (upS S74 682 22 0) 682 17 0) 682 18 0) 682 19 0) 682 20 0) from by rw [show ((upS (upS (upS (upS S74 682 22 ((S74 682 22) - 1)) 682 17 ((upS S74 682 22 ((S74 682 22) - 1)) 696 ((4 * ((upS S74 682 22 ((S74 682 22) - 1)) 682 22))).toNat)) 682 18 ((upS (upS S74 682 22 ((S74 682 22) - 1)) 682 17 ((upS S74 682 22 ((S74 682 22) - 1)) 696 ((4 * ((upS S74 682 22 ((S74 682 22) - 1)) 682 22))).toNat)) 696 (((4 * ((upS (upS S74 682 22 ((S74 682 22) - 1)) 682 17 ((upS S74 682 22 ((S74 682 22) - 1)) 696 ((4 * ((upS S74 682 22 ((S74 682 22) - 1)) 682 22))).toNat)) 682 22)) + 1)).toNat)) 682 19 ((upS (upS (upS S74 682 22 ((S74 682 22) - 1)) 682 17 ((upS S74 682 22 ((S74 682 22) - 1)) 696 ((4 * ((upS S74 682 22 ((S74 682 22) - 1)) 682 22))).toNat)) 682 18 ((upS (upS S74 682 22 ((S74 682 22) - 1)) 682 17 ((upS S74 682 22 ((S74 682 22) - 1)) 696 ((4 * ((upS S74 682 22 ((S74 682 22) - 1)) 682 22))).toNat)) 696 (((4 * ((upS (upS S74 682 22 ((S74 682 22) - 1)) 682 17 ((upS S74 682 22 ((S74 682 22) - 1)) 696 ((4 * ((upS S74 682 22 ((S74 682 22) - 1)) 682 22))).toNat)) 682 22)) + 1)).toNat)) 696 (((4 * ((upS (upS (upS S74 682 22 ((S74 682 22) - 1)) 682 17 ((upS S74 682 22 ((S74 682 22) - 1)) 696 ((4 * ((upS S74 682 22 ((S74 682 22) - 1)) 682 22))).toNat)) 682 18 ((upS (upS S74 682 22 ((S74 682 22) - 1)) 682 17 ((upS S74 682 22 ((S74 682 22) - 1)) 696 ((4 * ((upS S74 682 22 ((S74 682 22) - 1)) 682 22))).toNat)) 696 (((4 * ((upS (upS S74 682 22 ((S74 682 22) - 1)) 682 17 ((upS S74 682 22 ((S74 682 22) - 1)) 696 ((4 * ((upS S74 682 22 ((S74 682 22) - 1)) 682 22))).toNat)) 682 22)) + 1)).toNat)) 682 22)) + 2)).toNat)) 696 (((4 * ((upS (upS (upS (upS S74 682 22 ((S74 682 22) - 1)) 682 17 ((upS S74 682 22 ((S74 682 22) - 1)) 696 ((4 * ((upS S74 682 22 ((S74 682 22) - 1)) 682 22))).toNat)) 682 18 ((upS (upS S74 682 22 ((S74 682 22) - 1)) 682 17 ((upS S74 682 22 ((S74 682 22) - 1)) 696 ((4 * ((upS S74 682 22 ((S74 682 22) - 1)) 682 22))).toNat)) 696 (((4 * ((upS (upS S74 682 22 ((S74 682 22) - 1)) 682 17 ((upS S74 682 22 ((S74 682 22) - 1)) 696 ((4 * ((upS S74 682 22 ((S74 682 22) - 1)) 682 22))).toNat)) 682 22)) + 1)).toNat)) 682 19 ((upS (upS (upS S74 682 22 ((S74 682 22) - 1)) 682 17 ((upS S74 682 22 ((S74 682 22) - 1)) 696 ((4 * ((upS S74 682 22 ((S74 682 22) - 1)) 682 22))).toNat)) 682 18 ((upS (upS S74 682 22 ((S74 682 22) - 1)) 682 17 ((upS S74 682 22 ((S74 682 22) - 1)) 696 ((4 * ((upS S74 682 22 ((S74 682 22) - 1)) 682 22))).toNat)) 696 (((4 * ((upS (upS S74 682 22 ((S74 682 22) - 1)) 682 17 ((upS S74 682 22 ((S74 682 22) - 1)) 696 ((4 * ((upS S74 682 22 ((S74 682 22) - 1)) 682 22))).toNat)) 682 22)) + 1)).toNat)) 696 (((4 * ((upS (upS (upS S74 682 22 ((S74 682 22) - 1)) 682 17 ((upS S74 682 22 ((S74 682 22) - 1)) 696 ((4 * ((upS S74 682 22 ((S74 682 22) - 1)) 682 22))).toNat)) 682 18 ((upS (upS S74 682 22 ((S74 682 22) - 1)) 682 17 ((upS S74 682 22 ((S74 682 22) - 1)) 696 ((4 * ((upS S74 682 22 ((S74 682 22) - 1)) 682 22))).toNat)) 696 (((4 * ((upS (upS S74 682 22 ((S74 682 22) - 1)) 682 17 ((upS S74 682 22 ((S74 682 22) - 1)) 696 ((4 * ((upS S74 682 22 ((S74 682 22) - 1)) 682 22))).toNat)) 682 22)) + 1)).toNat)) 682 22)) + 2)).toNat)) 682 22)) + 3)).toNat) = 0 by (first | omega | (simp [upS, hz, za1, z1a1, ca1, za2, z1a2, ca2, E900, E74]; done) | (simp [upS, hz, za1, z1a1, ca1, za2, z1a2, ca2, E900, E74]; omega)), show ((upS (upS (upS S74 682 22 ((S74 682 22) - 1)) 682 17 ((upS S74 682 22 ((S74 682 22) - 1)) 696 ((4 * ((upS S74 682 22 ((S74 682 22) - 1)) 682 22))).toNat)) 682 18 ((upS (upS S74 682 22 ((S74 682 22) - 1)) 682 17 ((upS S74 682 22 ((S74 682 22) - 1)) 696 ((4 * ((upS S74 682 22 ((S74 682 22) - 1)) 682 22))).toNat)) 696 (((4 * ((upS (upS S74 682 22 ((S74 682 22) - 1)) 682 17 ((upS S74 682 22 ((S74 682 22) - 1)) 696 ((4 * ((upS S74 682 22 ((S74 682 22) - 1)) 682 22))).toNat)) 682 22)) + 1)).toNat)) 696 (((4 * ((upS (upS (upS S74 682 22 ((S74 682 22) - 1)) 682 17 ((upS S74 682 22 ((S74 682 22) - 1)) 696 ((4 * ((upS S74 682 22 ((S74 682 22) - 1)) 682 22))).toNat)) 682 18 ((upS (upS S74 682 22 ((S74 682 22) - 1)) 682 17 ((upS S74 682 22 ((S74 682 22) - 1)) 696 ((4 * ((upS S74 682 22 ((S74 682 22) - 1)) 682 22))).toNat)) 696 (((4 * ((upS (upS S74 682 22 ((S74 682 22) - 1)) 682 17 ((upS S74 682 22 ((S74 682 22) - 1)) 696 ((4 * ((upS S74 682 22 ((S74 682 22) - 1)) 682 22))).toNat)) 682 22)) + 1)).toNat)) 682 22)) + 2)).toNat) = 0 by (first | omega | (simp [upS, hz, za1, z1a1, ca1, za2, z1a2, ca2, E900, E74]; done) | (simp [upS, hz, za1, z1a1, ca1, za2, z1a2, ca2, E900, E74]; omega)), show ((upS (upS S74 682 22 ((S74 682 22) - 1)) 682 17 ((upS S74 682 22 ((S74 682 22) - 1)) 696 ((4 * ((upS S74 682 22 ((S74 682 22) - 1)) 682 22))).toNat)) 696 (((4 * ((upS (upS S74 682 22 ((S74 682 22) - 1)) 682 17 ((upS S74 682 22 ((S74 682 22) - 1)) 696 ((4 * ((upS S74 682 22 ((S74 682 22) - 1)) 682 22))).toNat)) 682 22)) + 1)).toNat) = 0 by (first | omega | (simp [upS, hz, za1, z1a1, ca1, za2, z1a2, ca2, E900, E74]; done) | (simp [upS, hz, za1, z1a1, ca1, za2, z1a2, ca2, E900, E74]; omega)), show ((upS S74 682 22 ((S74 682 22) - 1)) 696 ((4 * ((upS S74 682 22 ((S74 682 22) - 1)) 682 22))).toNat) = 0 by (first | omega | (simp [upS, hz, za1, z1a1, ca1, za2, z1a2, ca2, E900, E74]; done) | (simp [upS, hz, za1, z1a1, ca1, za2, z1a2, ca2, E900, E74]; omega)), show ((S74 682 22) - 1) = 0 by (first | omega | (simp [upS, hz, za1, z1a1, ca1, za2, z1a2, ca2, E900, E74]; done) | (simp [upS, hz, za1, z1a1, ca1, za2, z1a2, ca2, E900, E74]; omega))])]
        have hD78 : Dd 266 [(.inr (.inr (some 682)))] (upS (upS (upS (upS (upS S74 682 22 0) 682 17 0) 682 18 0) 682 19 0) 682 20 0) (.inl none, (upS (upS (upS (upS (upS (upS S74 682 22 0) 682 17 0) 682 18 0) 682 19 0) 682 20 0) 694 0 0)) := by
          refine b266 ?_
          rw [show ((upS (upS (upS (upS (upS S74 682 22 0) 682 17 0) 682 18 0) 682 19 0) 682 20 0) 682 17) = 0 by (first | omega | (simp [upS, hz, za1, z1a1, ca1, za2, z1a2, ca2, E900, E74]; done) | (simp [upS, hz, za1, z1a1, ca1, za2, z1a2, ca2, E900, E74]; omega))]
          rw [show ((upS (upS (upS (upS (upS S74 682 22 0) 682 17 0) 682 18 0) 682 19 0) 682 20 0) 682 18) = 0 by (first | omega | (simp [upS, hz, za1, z1a1, ca1, za2, z1a2, ca2, E900, E74]; done) | (simp [upS, hz, za1, z1a1, ca1, za2, z1a2, ca2, E900, E74]; omega))]
          rw [show ((upS (upS (upS (upS (upS S74 682 22 0) 682 17 0) 682 18 0) 682 19 0) 682 20 0) 682 19) = 0 by (first | omega | (simp [upS, hz, za1, z1a1, ca1, za2, z1a2, ca2, E900, E74]; done) | (simp [upS, hz, za1, z1a1, ca1, za2, z1a2, ca2, E900, E74]; omega))]
          rw [show ((upS (upS (upS (upS (upS S74 682 22 0) 682 17 0) 682 18 0) 682 19 0) 682 20 0) 682 20) = 0 by (first | omega | (simp [upS, hz, za1, z1a1, ca1, za2, z1a2, ca2, E900, E74]; done) | (simp [upS, hz, za1, z1a1, ca1, za2, z1a2, ca2, E900, E74]; omega))]
          have hD76 : Dd 265 [(.inr (.inr (some 682))), (.inl 0), (.inl 0), (.inl 0), (.inl 0)] (upS (upS (upS (upS (upS S74 682 22 0) 682 17 0) 682 18 0) 682 19 0) 682 20 0) (.inl none, (upS (upS (upS (upS (upS (upS S74 682 22 0) 682 17 0) 682 18 0) 682 19 0) 682 20 0) 694 0 0)) := by
            refine b265 ?_
            refine b265_3 ?_
            rw [if_pos (show (0 : Int) ≤ 0 by first | omega | (simp [upS, hz, za1, z1a1, ca1, za2, z1a2, ca2, E900, E74]; done) | (simp [upS, hz, za1, z1a1, ca1, za2, z1a2, ca2, E900, E74]; omega))]
            refine b265_13 ?_
            rw [if_pos (show (0 : Int) ≤ 0 by first | omega | (simp [upS, hz, za1, z1a1, ca1, za2, z1a2, ca2, E900, E74]; done) | (simp [upS, hz, za1, z1a1, ca1, za2, z1a2, ca2, E900, E74]; omega))]
            rw [if_neg (show ¬ ((0 : Int) < 0) by first | omega | (simp [upS, hz, za1, z1a1, ca1, za2, z1a2, ca2, E900, E74]; done) | (simp [upS, hz, za1, z1a1, ca1, za2, z1a2, ca2, E900, E74]; omega))]
            refine b265_124 ?_
            refine ⟨(show (-2147483648 : Int) ≤ (65 * 0) ∧ ((65 * 0) : Int) ≤ 2147483647 by first | omega | (simp [upS, hz, za1, z1a1, ca1, za2, z1a2, ca2, E900, E74]; done) | (simp [upS, hz, za1, z1a1, ca1, za2, z1a2, ca2, E900, E74]; omega)), ?_⟩
            refine ⟨(show (-2147483648 : Int) ≤ ((65 * 0) + 0) ∧ (((65 * 0) + 0) : Int) ≤ 2147483647 by first | omega | (simp [upS, hz, za1, z1a1, ca1, za2, z1a2, ca2, E900, E74]; done) | (simp [upS, hz, za1, z1a1, ca1, za2, z1a2, ca2, E900, E74]; omega)), ?_⟩
            refine ⟨(show (0 : Int) ≤ ((65 * 0) + 0) ∧ (((65 * 0) + 0) : Int) < 4225 by first | omega | (simp [upS, hz, za1, z1a1, ca1, za2, z1a2, ca2, E900, E74]; done) | (simp [upS, hz, za1, z1a1, ca1, za2, z1a2, ca2, E900, E74]; omega)), ?_⟩
            refine ⟨(show (-2147483648 : Int) ≤ (0 + (-1)) ∧ ((0 + (-1)) : Int) ≤ 2147483647 by first | omega | (simp [upS, hz, za1, z1a1, ca1, za2, z1a2, ca2, E900, E74]; done) | (simp [upS, hz, za1, z1a1, ca1, za2, z1a2, ca2, E900, E74]; omega)), ?_⟩
            rw [(show (upS (upS (upS (upS (upS (upS S74 682 22 0) 682 17 0) 682 18 0) 682 19 0) 682 20 0) 694 ((((65 * 0) + 0) : Int).toNat) 0) = (upS (upS (upS (upS (upS (upS S74 682 22 0) 682 17 0) 682 18 0) 682 19 0) 682 20 0) 694 0 0) from by rw [show ((((65 * 0) + 0) : Int).toNat) = 0 by (first | omega | (simp [upS, hz, za1, z1a1, ca1, za2, z1a2, ca2, E900, E74]; done) | (simp [upS, hz, za1, z1a1, ca1, za2, z1a2, ca2, E900, E74]; omega))])]
            obtain ⟨S75, E75⟩ : ∃ s : Sg, s = (upS (upS (upS (upS (upS (upS S74 682 22 0) 682 17 0) 682 18 0) 682 19 0) 682 20 0) 694 0 0) := ⟨_, rfl⟩
            rw [← E75]
            rw [show ((0 + (-1)) : Int) = (-1) by (first | omega | (simp [upS, hz, za1, z1a1, ca1, za2, z1a2, ca2, E900, E74, E75]; done) | (simp [upS, hz, za1, z1a1, ca1, za2, z1a2, ca2, E900, E74, E75]; omega))]
            refine b265_13 ?_
            rw [if_neg (show ¬ ((0 : Int) ≤ (-1)) by first | omega | (simp [upS, hz, za1, z1a1, ca1, za2, z1a2, ca2, E900, E74, E75]; done) | (simp [upS, hz, za1, z1a1, ca1, za2, z1a2, ca2, E900, E74, E75]; omega))]
            refine ⟨(show (-2147483648 : Int) ≤ (0 + (-1)) ∧ ((0 + (-1)) : Int) ≤ 2147483647 by first | omega | (simp [upS, hz, za1, z1a1, ca1, za2, z1a2, ca2, E900, E74, E75]; done) | (simp [upS, hz, za1, z1a1, ca1, za2, z1a2, ca2, E900, E74, E75]; omega)), ?_⟩
            rw [show ((0 + (-1)) : Int) = (-1) by (first | omega | (simp [upS, hz, za1, z1a1, ca1, za2, z1a2, ca2, E900, E74, E75]; done) | (simp [upS, hz, za1, z1a1, ca1, za2, z1a2, ca2, E900, E74, E75]; omega))]
            refine b265_3 ?_
            rw [if_neg (show ¬ ((0 : Int) ≤ (-1)) by first | omega | (simp [upS, hz, za1, z1a1, ca1, za2, z1a2, ca2, E900, E74, E75]; done) | (simp [upS, hz, za1, z1a1, ca1, za2, z1a2, ca2, E900, E74, E75]; omega))]
            all_goals (first | rfl | (simp only [E75]))
          obtain ⟨S77, E77⟩ : ∃ s : Sg, s = (upS (upS (upS (upS (upS (upS S74 682 22 0) 682 17 0) 682 18 0) 682 19 0) 682 20 0) 694 0 0) := ⟨_, rfl⟩
          rw [← E77] at hD76
          refine ⟨_, hD76, ?_⟩
          clear hD76
          rw [show (S77 682 17) = 0 by (first | omega | (simp [upS, hz, za1, z1a1, ca1, za2, z1a2, ca2, E900, E74, E77]; done) | (simp [upS, hz, za1, z1a1, ca1, za2, z1a2, ca2, E900, E74, E77]; omega))]
          rw [show (S77 682 19) = 0 by (first | omega | (simp [upS, hz, za1, z1a1, ca1, za2, z1a2, ca2, E900, E74, E77]; done) | (simp [upS, hz, za1, z1a1, ca1, za2, z1a2, ca2, E900, E74, E77]; omega))]
          refine b266_30 ?_
          rw [if_neg (show ¬ ((0 : Int) < (S77 682 18)) by first | omega | (simp [upS, hz, za1, z1a1, ca1, za2, z1a2, ca2, E900, E74, E77]; done) | (simp [upS, hz, za1, z1a1, ca1, za2, z1a2, ca2, E900, E74, E77]; omega))]
          all_goals (first | rfl | (simp only [E77]))
        obtain ⟨S79, E79⟩ : ∃ s : Sg, s = (upS (upS (upS (upS (upS (upS S74 682 22 0) 682 17 0) 682 18 0) 682 19 0) 682 20 0) 694 0 0) := ⟨_, rfl⟩
        rw [← E79] at hD78
        refine ⟨_, hD78, ?_⟩
        clear hD78
        refine b274_42 ?_
        rw [if_neg (show ¬ ((0 : Int) < (S79 682 22)) by first | omega | (simp [upS, hz, za1, z1a1, ca1, za2, z1a2, ca2, E900, E74, E79]; done) | (simp [upS, hz, za1, z1a1, ca1, za2, z1a2, ca2, E900, E74, E79]; omega))]
        refine b274_163 ?_
        rw [if_neg (show ¬ ((0 : Int) < (S79 682 12)) by first | omega | (simp [upS, hz, za1, z1a1, ca1, za2, z1a2, ca2, E900, E74, E79]; done) | (simp [upS, hz, za1, z1a1, ca1, za2, z1a2, ca2, E900, E74, E79]; omega))]
        all_goals (first | rfl | (simp only [E74, E79]))
      obtain ⟨S81, E81⟩ : ∃ s : Sg, s = (upS (upS (upS (upS (upS (upS (upS (upS (upS (upS (upS (upS (upS (upS (upS S900 682 0 0) 682 12 0) 682 13 0) 682 22 0) 696 0 0) 696 1 0) 696 2 0) 696 3 0) 682 22 1) 682 22 0) 682 17 0) 682 18 0) 682 19 0) 682 20 0) 694 0 0) := ⟨_, rfl⟩
      rw [← E81] at hD80
      refine ⟨_, _, hD80, ?_⟩
      clear hD80
      refine ⟨(show (0 : Int) ≤ 0 ∧ (0 : Int) < 44 by first | omega | (simp [upS, hz, za1, z1a1, ca1, za2, z1a2, ca2, E900, E81]; done) | (simp [upS, hz, za1, z1a1, ca1, za2, z1a2, ca2, E900, E81]; omega)), ?_⟩
      refine ⟨(show (0 : Int) ≤ 0 ∧ (0 : Int) < 44 by first | omega | (simp [upS, hz, za1, z1a1, ca1, za2, z1a2, ca2, E900, E81]; done) | (simp [upS, hz, za1, z1a1, ca1, za2, z1a2, ca2, E900, E81]; omega)), ?_⟩
      rw [(show (upS (upS S81 688 ((0 : Int).toNat) (S81 682 12)) 689 ((0 : Int).toNat) ((upS S81 688 ((0 : Int).toNat) (S81 682 12)) 682 13)) = (upS (upS S81 688 0 0) 689 0 0) from by rw [show ((upS S81 688 ((0 : Int).toNat) (S81 682 12)) 682 13) = 0 by (first | omega | (simp [upS, hz, za1, z1a1, ca1, za2, z1a2, ca2, E900, E81]; done) | (simp [upS, hz, za1, z1a1, ca1, za2, z1a2, ca2, E900, E81]; omega)), show ((0 : Int).toNat) = 0 by (first | omega | (simp [upS, hz, za1, z1a1, ca1, za2, z1a2, ca2, E900, E81]; done) | (simp [upS, hz, za1, z1a1, ca1, za2, z1a2, ca2, E900, E81]; omega)), show (S81 682 12) = 0 by (first | omega | (simp [upS, hz, za1, z1a1, ca1, za2, z1a2, ca2, E900, E81]; done) | (simp [upS, hz, za1, z1a1, ca1, za2, z1a2, ca2, E900, E81]; omega))])]
      refine b287_29 ?_
      rw [if_neg (show ¬ ((0 : Int) < ((upS (upS S81 688 0 0) 689 0 0) 682 12)) by first | omega | (simp [upS, hz, za1, z1a1, ca1, za2, z1a2, ca2, E900, E81]; done) | (simp [upS, hz, za1, z1a1, ca1, za2, z1a2, ca2, E900, E81]; omega))]
      refine b287_85 ?_
      rw [if_neg (show ¬ ((0 : Int) < ((upS (upS S81 688 0 0) 689 0 0) 682 13)) by first | omega | (simp [upS, hz, za1, z1a1, ca1, za2, z1a2, ca2, E900, E81]; done) | (simp [upS, hz, za1, z1a1, ca1, za2, z1a2, ca2, E900, E81]; omega))]
      have hD82 : Dd 280 [(.inr (.inr (some 682))), (.inl 0), (.inl 0)] (upS (upS S81 688 0 0) 689 0 0) (.inl (some (.inl 0)), (upS (upS (upS S81 688 0 0) 689 0 0) 704 0 0)) := by
        refine b280 ?_
        refine b280_8 ?_
        refine ⟨(show (0 : Int) ≤ 0 ∧ (0 : Int) < 44 by first | omega | (simp [upS, hz, za1, z1a1, ca1, za2, z1a2, ca2, E900, E81]; done) | (simp [upS, hz, za1, z1a1, ca1, za2, z1a2, ca2, E900, E81]; omega)), ?_⟩
        rw [if_pos (show ((upS (upS S81 688 0 0) 689 0 0) 688 (0 : Int).toNat) ≤ 0 by first | omega | (simp [upS, hz, za1, z1a1, ca1, za2, z1a2, ca2, E900, E81]; done) | (simp [upS, hz, za1, z1a1, ca1, za2, z1a2, ca2, E900, E81]; omega))]
        refine ⟨(show (0 : Int) ≤ 0 ∧ (0 : Int) < 44 by first | omega | (simp [upS, hz, za1, z1a1, ca1, za2, z1a2, ca2, E900, E81]; done) | (simp [upS, hz, za1, z1a1, ca1, za2, z1a2, ca2, E900, E81]; omega)), ?_⟩
        rw [if_neg (show ¬ ((0 : Int) < ((upS (upS S81 688 0 0) 689 0 0) 689 (0 : Int).toNat)) by first | omega | (simp [upS, hz, za1, z1a1, ca1, za2, z1a2, ca2, E900, E81]; done) | (simp [upS, hz, za1, z1a1, ca1, za2, z1a2, ca2, E900, E81]; omega))]
        refine ⟨(show (0 : Int) ≤ 0 ∧ (0 : Int) < 2 by first | omega | (simp [upS, hz, za1, z1a1, ca1, za2, z1a2, ca2, E900, E81]; done) | (simp [upS, hz, za1, z1a1, ca1, za2, z1a2, ca2, E900, E81]; omega)), ?_⟩
        rw [(show (upS (upS (upS S81 688 0 0) 689 0 0) 704 ((0 : Int).toNat) 0) = (upS (upS (upS S81 688 0 0) 689 0 0) 704 0 0) from by rw [show ((0 : Int).toNat) = 0 by (first | omega | (simp [upS, hz, za1, z1a1, ca1, za2, z1a2, ca2, E900, E81]; done) | (simp [upS, hz, za1, z1a1, ca1, za2, z1a2, ca2, E900, E81]; omega))])]
        all_goals rfl
      refine ⟨_, _, hD82, ?_⟩
      clear hD82
      refine b287_130 ?_
      rw [if_neg (show ¬ ((0 : Int) < 0) by first | omega | (simp [upS, hz, za1, z1a1, ca1, za2, z1a2, ca2, E900, E81]; done) | (simp [upS, hz, za1, z1a1, ca1, za2, z1a2, ca2, E900, E81]; omega))]
      all_goals (first | rfl | (simp only [E81]))
    obtain ⟨S84, E84⟩ : ∃ s : Sg, s = (upS (upS (upS (upS (upS (upS (upS (upS (upS (upS (upS (upS (upS (upS (upS (upS (upS (upS S900 682 0 0) 682 12 0) 682 13 0) 682 22 0) 696 0 0) 696 1 0) 696 2 0) 696 3 0) 682 22 1) 682 22 0) 682 17 0) 682 18 0) 682 19 0) 682 20 0) 694 0 0) 688 0 0) 689 0 0) 704 0 0) := ⟨_, rfl⟩
    rw [← E84] at hD83
    refine ⟨_, hD83, ?_⟩
    clear hD83
    refine ⟨(show -2147483648 ≤ ((S84 682 3) + 1) ∧ ((S84 682 3) + 1) ≤ 2147483647 by first | omega | (simp [upS, hz, za1, z1a1, ca1, za2, z1a2, ca2, E900, E84]; done) | (simp [upS, hz, za1, z1a1, ca1, za2, z1a2, ca2, E900, E84]; omega)), ?_⟩
    refine ⟨(show -2147483648 ≤ (((upS S84 682 3 ((S84 682 3) + 1)) 682 3) - 1) ∧ (((upS S84 682 3 ((S84 682 3) + 1)) 682 3) - 1) ≤ 2147483647 by first | omega | (simp [upS, hz, za1, z1a1, ca1, za2, z1a2, ca2, E900, E84]; done) | (simp [upS, hz, za1, z1a1, ca1, za2, z1a2, ca2, E900, E84]; omega)), ?_⟩
    rw [(show (upS S84 682 3 ((S84 682 3) + 1)) = (upS S84 682 3 1) from by rw [show ((S84 682 3) + 1) = 1 by (first | omega | (simp [upS, hz, za1, z1a1, ca1, za2, z1a2, ca2, E900, E84]; done) | (simp [upS, hz, za1, z1a1, ca1, za2, z1a2, ca2, E900, E84]; omega))])]
    rw [show (((upS S84 682 3 1) 682 3) - 1) = 0 by (first | omega | (simp [upS, hz, za1, z1a1, ca1, za2, z1a2, ca2, E900, E84]; done) | (simp [upS, hz, za1, z1a1, ca1, za2, z1a2, ca2, E900, E84]; omega))]
    all_goals (first | rfl | (simp only [E84]))
  refine ⟨_, _, _, _, hA, hB, ?_, ?_, ?_, ?_, ?_⟩
  all_goals subst E900
  · (first | rfl | (simp [upS, SCR, hz, za1, z1a1, ca1, za2, z1a2, ca2]; done) | (simp [upS, SCR, hz, za1, z1a1, ca1, za2, z1a2, ca2]; omega))
  · first | (intro h9; omega) | (intro _; first | rfl | (simp [upS, SCR, hz, za1, z1a1, ca1, za2, z1a2, ca2]; done) | (simp [upS, SCR, hz, za1, z1a1, ca1, za2, z1a2, ca2]; omega))
  · intro i; first | rfl | (unfold upS SCR; (repeat' split) <;> first | rfl | omega)
  · first | rfl | (unfold upS SCR; (repeat' split) <;> first | rfl | omega)
  · first | rfl | (unfold upS SCR; (repeat' split) <;> first | rfl | omega)
theorem q9_7 {σ : Sg} {a1 : Int} {a2 : Int} {a3 : Int} (hz : ∀ a i, a < 1000 → σ a i = 0) (h0 : 0 ≤ a1 ∧ a1 < 4) (h1 : 0 ≤ a2 ∧ a2 < 4) (h2 : a3 = 1) : ∃ (kx b : Int) (s1 s2 : Sg), Dd 399 [(.inr (.inr (some 0))), (.inl a1), (.inl a2), (.inl a3), (.inr (.inr (some 726)))] σ (.inl (some (.inl kx)), s1) ∧ Dd 299 [(.inr (.inr (some 682))), (.inl a1), (.inl a2), (.inl a3)] s1 (.inl (some (.inl b)), s2) ∧ s2 682 0 = kx ∧ (kx = 0 → s2 726 0 = b) ∧ (∀ i, s1 SCR i = σ SCR i) ∧ s1 (SCR + 1) 0 = σ (SCR + 1) 0 ∧ s2 (SCR + 1) 0 = σ (SCR + 1) 0 := by
  have za1 : ∀ i, σ (2 + 2 * ((a1)).toNat) i = 0 := fun i => hz _ i (by omega)
  have z1a1 : ∀ i, σ ((2 + 2 * ((a1)).toNat) + 1) i = 0 := fun i => hz _ i (by omega)
  have ca1 : (cap (2 + 2 * ((a1)).toNat) : Int) = 16 := cp_1 (by omega)
  have za2 : ∀ i, σ (2 + 2 * ((a2)).toNat) i = 0 := fun i => hz _ i (by omega)
  have z1a2 : ∀ i, σ ((2 + 2 * ((a2)).toNat) + 1) i = 0 := fun i => hz _ i (by omega)
  have ca2 : (cap (2 + 2 * ((a2)).toNat) : Int) = 16 := cp_1 (by omega)
  have hA : Dd 399 [(.inr (.inr (some 0))), (.inl a1), (.inl a2), (.inl a3), (.inr (.inr (some 726)))] σ (.inl (some (.inl 0)), (upS (upS (upS (upS (upS (upS (upS (upS (upS (upS (upS (upS (upS (upS (upS (upS (upS (upS σ 333 1 0) 335 1 0) 337 1 0) 343 1 0) 380 1 0) 382 1 0) 384 1 0) 386 1 0) 388 1 0) 384 1 0) 386 1 0) 21 1 0) 23 1 0) 25 1 0) 27 1 0) 29 1 0) 0 3 1) 726 0 0)) := by
    refine b399 ?_
    have hD61 : Dd 181 [(.inr (.inr (some 0))), (.inl a1), (.inl a2), (.inl a3)] σ (.inl (some (.inl 0)), (upS (upS (upS (upS (upS (upS (upS (upS (upS (upS (upS (upS (upS (upS (upS (upS (upS σ 333 1 0) 335 1 0) 337 1 0) 343 1 0) 380 1 0) 382 1 0) 384 1 0) 386 1 0) 388 1 0) 384 1 0) 386 1 0) 21 1 0) 23 1 0) 25 1 0) 27 1 0) 29 1 0) 0 3 1)) := by
      refine b181 ?_
      have hD3 : Dd 227 [(.inr (.inr (some 0))), (.inl a1)] σ (.inl (some (.inr (.inr (some (2 + 2 * ((a1)).toNat))))), σ) := by
        refine b227 ?_
        have hD1 : Dd 145 [(.inr (.inr (some 1))), (.inl a1)] σ (.inl (some (.inr (.inr (some (2 + 2 * ((a1)).toNat))))), σ) := by
          refine b145 ?_
          rw [if_pos (show (0 : Int) ≤ a1 by first | omega | (simp [upS, hz, za1, z1a1, ca1, za2, z1a2, ca2]; done) | (simp [upS, hz, za1, z1a1, ca1, za2, z1a2, ca2]; omega))]
          refine ⟨4, (by decide +kernel), (by decide), ?_⟩
          rw [if_pos (show a1 < ((4 : Nat) : Int) by first | omega | (simp [upS, hz, za1, z1a1, ca1, za2, z1a2, ca2]; done) | (simp [upS, hz, za1, z1a1, ca1, za2, z1a2, ca2]; omega))]
          refine ⟨(show 0 ≤ a1 by first | omega | (simp [upS, hz, za1, z1a1, ca1, za2, z1a2, ca2]; done) | (simp [upS, hz, za1, z1a1, ca1, za2, z1a2, ca2]; omega)), ?_⟩
          refine ⟨(2 + 2 * ((a1)).toNat), (el_1 (i := (a1)) (by first | omega | (simp [upS, hz, za1, z1a1, ca1, za2, z1a2, ca2]; done) | (simp [upS, hz, za1, z1a1, ca1, za2, z1a2, ca2]; omega))).1, (el_1 (i := (a1)) (by first | omega | (simp [upS, hz, za1, z1a1, ca1, za2, z1a2, ca2]; done) | (simp [upS, hz, za1, z1a1, ca1, za2, z1a2, ca2]; omega))).2, ?_⟩
          all_goals rfl
        refine ⟨_, _, hD1, ?_⟩
        clear hD1
        refine ⟨fun hz2 => (by cases hz2), fun _ hz2 => ?_⟩
        cases hz2
        refine ⟨(el_1 (i := (a1)) (by first | omega | (simp [upS, hz, za1, z1a1, ca1, za2, z1a2, ca2]; done) | (simp [upS, hz, za1, z1a1, ca1, za2, z1a2, ca2]; omega))).2, ?_⟩
        all_goals rfl
      refine Or.inl ⟨_, _, hD3, (el_1 (i := (a1)) (by first | omega | (simp [upS, hz, za1, z1a1, ca1, za2, z1a2, ca2]; done) | (simp [upS, hz, za1, z1a1, ca1, za2, z1a2, ca2]; omega))).2, ?_⟩
      clear hD3
      have hD6 : Dd 227 [(.inr (.inr (some 0))), (.inl a2)] σ (.inl (some (.inr (.inr (some (2 + 2 * ((a2)).toNat))))), σ) := by
        refine b227 ?_
        have hD4 : Dd 145 [(.inr (.inr (some 1))), (.inl a2)] σ (.inl (some (.inr (.inr (some (2 + 2 * ((a2)).toNat))))), σ) := by
          refine b145 ?_
          rw [if_pos (show (0 : Int) ≤ a2 by first | omega | (simp [upS, hz, za1, z1a1, ca1, za2, z1a2, ca2]; done) | (simp [upS, hz, za1, z1a1, ca1, za2, z1a2, ca2]; omega))]
          refine ⟨4, (by decide +kernel), (by decide), ?_⟩
          rw [if_pos (show a2 < ((4 : Nat) : Int) by first | omega | (simp [upS, hz, za1, z1a1, ca1, za2, z1a2, ca2]; done) | (simp [upS, hz, za1, z1a1, ca1, za2, z1a2, ca2]; omega))]
          refine ⟨(show 0 ≤ a2 by first | omega | (simp [upS, hz, za1, z1a1, ca1, za2, z1a2, ca2]; done) | (simp [upS, hz, za1, z1a1, ca1, za2, z1a2, ca2]; omega)), ?_⟩
          refine ⟨(2 + 2 * ((a2)).toNat), (el_1 (i := (a2)) (by first | omega | (simp [upS, hz, za1, z1a1, ca1, za2, z1a2, ca2]; done) | (simp [upS, hz, za1, z1a1, ca1, za2, z1a2, ca2]; omega))).1, (el_1 (i := (a2)) (by first | omega | (simp [upS, hz, za1, z1a1, ca1, za2, z1a2, ca2]; done) | (simp [upS, hz, za1, z1a1, ca1, za2, z1a2, ca2]; omega))).2, ?_⟩
          all_goals rfl
        refine ⟨_, _, hD4, ?_⟩
        clear hD4
        refine ⟨fun hz5 => (by cases hz5), fun _ hz5 => ?_⟩
        cases hz5
        refine ⟨(el_1 (i := (a2)) (by first | omega | (simp [upS, hz, za1, z1a1, ca1, za2, z1a2, ca2]; done) | (simp [upS, hz, za1, z1a1, ca1, za2, z1a2, ca2]; omega))).2, ?_⟩
        all_goals rfl
      refine Or.inl ⟨_, _, hD6, (el_1 (i := (a2)) (by first | omega | (simp [upS, hz, za1, z1a1, ca1, za2, z1a2, ca2]; done) | (simp [upS, hz, za1, z1a1, ca1, za2, z1a2, ca2]; omega))).2, ?_⟩
      clear hD6
      have hD7 : Dd 236 [(.inr (.inr (some 0))), (.inl a3)] σ (.inl none, σ) := by
        refine b236 ?_
        rw [if_neg (show ¬ (a3 = 0) by first | omega | (simp [upS, hz, za1, z1a1, ca1, za2, z1a2, ca2]; done) | (simp [upS, hz, za1, z1a1, ca1, za2, z1a2, ca2]; omega))]
        rw [if_pos (show a3 = 1 by first | omega | (simp [upS, hz, za1, z1a1, ca1, za2, z1a2, ca2]; done) | (simp [upS, hz, za1, z1a1, ca1, za2, z1a2, ca2]; omega))]
        all_goals rfl
      refine Or.inl ⟨_, hD7, ?_⟩
      clear hD7
      have hD18 : Dd 15 [(.inr (.inr (some 332))), (.inr (.inr (some (2 + 2 * ((a1)).toNat)))), (.inr (.inr (some (2 + 2 * ((a2)).toNat)))), (.inl a3)] σ (.inl (some (.inr (.inr (some 337)))), (upS (upS (upS (upS σ 333 1 0) 335 1 0) 337 1 0) 343 1 0)) := by
        refine b15 ?_
        have hD13 : Dd 19 [(.inr (.inr (some 332))), (.inr (.inr (some (2 + 2 * ((a1)).toNat)))), (.inr (.inr (some (2 + 2 * ((a2)).toNat))))] σ (.inl none, (upS (upS (upS (upS σ 333 1 0) 335 1 0) 337 1 0) 343 1 0)) := by
          refine b19 ?_
          have hD8 : Dd 155 [(.inr (.inr (some 333))), (.inr (.inr (some (2 + 2 * ((a1)).toNat))))] σ (.inl none, (upS σ 333 1 0)) := by
            refine b155 (el_1 (i := (a1)) (by first | omega | (simp [upS, hz, za1, z1a1, ca1, za2, z1a2, ca2]; done) | (simp [upS, hz, za1, z1a1, ca1, za2, z1a2, ca2]; omega))).2 (by decide +kernel) ?_
            refine ⟨(show -2147483648 ≤ ((cap 333) : Int) ∧ ((cap 333) : Int) ≤ 2147483647 by have e333 : (cap 333 : Int) = 40 := (by decide +kernel); first | omega | (simp [upS, hz, za1, z1a1, ca1, za2, z1a2, ca2]; done) | (simp [upS, hz, za1, z1a1, ca1, za2, z1a2, ca2]; omega)), ?_⟩
            rw [(show (upS σ 333 1 (if ((cap 333) : Int) < (σ (2 + 2 * ((a1)).toNat) 1) then ((cap 333) : Int) else (σ (2 + 2 * ((a1)).toNat) 1))) = (upS σ 333 1 0) from by rw [show (if ((cap 333) : Int) < (σ (2 + 2 * ((a1)).toNat) 1) then ((cap 333) : Int) else (σ (2 + 2 * ((a1)).toNat) 1)) = 0 by (have e333 : (cap 333 : Int) = 40 := (by decide +kernel); first | omega | (simp [upS, hz, za1, z1a1, ca1, za2, z1a2, ca2]; done) | (simp [upS, hz, za1, z1a1, ca1, za2, z1a2, ca2]; omega))])]
            refine b155_18 (by decide +kernel) (el_1 (i := (a1)) (by first | omega | (simp [upS, hz, za1, z1a1, ca1, za2, z1a2, ca2]; done) | (simp [upS, hz, za1, z1a1, ca1, za2, z1a2, ca2]; omega))).2 ?_
            rw [if_neg (show ¬ ((0 : Int) < ((upS σ 333 1 0) 333 1)) by first | omega | (simp [upS, hz, za1, z1a1, ca1, za2, z1a2, ca2]; done) | (simp [upS, hz, za1, z1a1, ca1, za2, z1a2, ca2]; omega))]
            all_goals rfl
          refine ⟨_, hD8, ?_⟩
          clear hD8
          have hD9 : Dd 155 [(.inr (.inr (some 335))), (.inr (.inr (some (2 + 2 * ((a2)).toNat))))] (upS σ 333 1 0) (.inl none, (upS (upS σ 333 1 0) 335 1 0)) := by
            refine b155 (el_1 (i := (a2)) (by first | omega | (simp [upS, hz, za1, z1a1, ca1, za2, z1a2, ca2]; done) | (simp [upS, hz, za1, z1a1, ca1, za2, z1a2, ca2]; omega))).2 (by decide +kernel) ?_
            refine ⟨(show -2147483648 ≤ ((cap 335) : Int) ∧ ((cap 335) : Int) ≤ 2147483647 by have e335 : (cap 335 : Int) = 40 := (by decide +kernel); first | omega | (simp [upS, hz, za1, z1a1, ca1, za2, z1a2, ca2]; done) | (simp [upS, hz, za1, z1a1, ca1, za2, z1a2, ca2]; omega)), ?_⟩
            rw [(show (upS (upS σ 333 1 0) 335 1 (if ((cap 335) : Int) < ((upS σ 333 1 0) (2 + 2 * ((a2)).toNat) 1) then ((cap 335) : Int) else ((upS σ 333 1 0) (2 + 2 * ((a2)).toNat) 1))) = (upS (upS σ 333 1 0) 335 1 0) from by rw [show (if ((cap 335) : Int) < ((upS σ 333 1 0) (2 + 2 * ((a2)).toNat) 1) then ((cap 335) : Int) else ((upS σ 333 1 0) (2 + 2 * ((a2)).toNat) 1)) = 0 by (have e335 : (cap 335 : Int) = 40 := (by decide +kernel); first | omega | (simp [upS, hz, za1, z1a1, ca1, za2, z1a2, ca2]; done) | (simp [upS, hz, za1, z1a1, ca1, za2, z1a2, ca2]; omega))])]
            refine b155_18 (by decide +kernel) (el_1 (i := (a2)) (by first | omega | (simp [upS, hz, za1, z1a1, ca1, za2, z1a2, ca2]; done) | (simp [upS, hz, za1, z1a1, ca1, za2, z1a2, ca2]; omega))).2 ?_
            rw [if_neg (show ¬ ((0 : Int) < ((upS (upS σ 333 1 0) 335 1 0) 335 1)) by first | omega | (simp [upS, hz, za1, z1a1, ca1, za2, z1a2, ca2]; done) | (simp [upS, hz, za1, z1a1, ca1, za2, z1a2, ca2]; omega))]
            all_goals rfl
          refine ⟨_, hD9, ?_⟩
          clear hD9
          have hD10 : Dd 146 [(.inr (.inr (some 333)))] (upS (upS σ 333 1 0) 335 1 0) (.inl (some (.inl 0)), (upS (upS σ 333 1 0) 335 1 0)) := by
            refine b146 (by decide +kernel) ?_
            rw [show ((upS (upS σ 333 1 0) 335 1 0) 333 1) = 0 by (first | omega | (simp [upS, hz, za1, z1a1, ca1, za2, z1a2, ca2]; done) | (simp [upS, hz, za1, z1a1, ca1, za2, z1a2, ca2]; omega))]
            all_goals rfl
          refine ⟨_, _, hD10, ?_⟩
          clear hD10
          have hD11 : Dd 153 [(.inr (.inr (some 337))), (.inl 0), (.inl (-1))] (upS (upS σ 333 1 0) 335 1 0) (.inl none, (upS (upS (upS σ 333 1 0) 335 1 0) 337 1 0)) := by
            refine b153 (by decide +kernel) ?_
            refine ⟨(show -2147483648 ≤ ((cap 337) : Int) ∧ ((cap 337) : Int) ≤ 2147483647 by have e337 : (cap 337 : Int) = 40 := (by decide +kernel); first | omega | (simp [upS, hz, za1, z1a1, ca1, za2, z1a2, ca2]; done) | (simp [upS, hz, za1, z1a1, ca1, za2, z1a2, ca2]; omega)), ?_⟩
            rw [(show (upS (upS (upS σ 333 1 0) 335 1 0) 337 1 (if 0 < (if ((cap 337) : Int) < 0 then ((cap 337) : Int) else 0) then (if ((cap 337) : Int) < 0 then ((cap 337) : Int) else 0) else 0)) = (upS (upS (upS σ 333 1 0) 335 1 0) 337 1 0) from by rw [show (if (0 : Int) < (if ((cap 337) : Int) < 0 then ((cap 337) : Int) else 0) then (if ((cap 337) : Int) < 0 then ((cap 337) : Int) else 0) else 0) = 0 by (have e337 : (cap 337 : Int) = 40 := (by decide +kernel); first | omega | (simp [upS, hz, za1, z1a1, ca1, za2, z1a2, ca2]; done) | (simp [upS, hz, za1, z1a1, ca1, za2, z1a2, ca2]; omega))])]
            refine b153_19 (by decide +kernel) ?_
            rw [if_neg (show ¬ ((0 : Int) < ((upS (upS (upS σ 333 1 0) 335 1 0) 337 1 0) 337 1)) by first | omega | (simp [upS, hz, za1, z1a1, ca1, za2, z1a2, ca2]; done) | (simp [upS, hz, za1, z1a1, ca1, za2, z1a2, ca2]; omega))]
            all_goals rfl
          refine ⟨_, hD11, ?_⟩
          clear hD11
          have hD12 : Dd 152 [(.inr (.inr (some 343)))] (upS (upS (upS σ 333 1 0) 335 1 0) 337 1 0) (.inl none, (upS (upS (upS (upS σ 333 1 0) 335 1 0) 337 1 0) 343 1 0)) := by
            refine b152 (by decide +kernel) ?_
            all_goals rfl
          refine ⟨_, hD12, ?_⟩
          clear hD12
          all_goals rfl
        refine ⟨_, hD13, ?_⟩
        clear hD13
        have hD14 : Dd 146 [(.inr (.inr (some 333)))] (upS (upS (upS (upS σ 333 1 0) 335 1 0) 337 1 0) 343 1 0) (.inl (some (.inl 0)), (upS (upS (upS (upS σ 333 1 0) 335 1 0) 337 1 0) 343 1 0)) := by
          refine b146 (by decide +kernel) ?_
          rw [show ((upS (upS (upS (upS σ 333 1 0) 335 1 0) 337 1 0) 343 1 0) 333 1) = 0 by (first | omega | (simp [upS, hz, za1, z1a1, ca1, za2, z1a2, ca2]; done) | (simp [upS, hz, za1, z1a1, ca1, za2, z1a2, ca2]; omega))]
          all_goals rfl
        refine ⟨_, _, hD14, ?_⟩
        clear hD14
        have hD15 : Dd 146 [(.inr (.inr (some 335)))] (upS (upS (upS (upS σ 333 1 0) 335 1 0) 337 1 0) 343 1 0) (.inl (some (.inl 0)), (upS (upS (upS (upS σ 333 1 0) 335 1 0) 337 1 0) 343 1 0)) := by
          refine b146 (by decide +kernel) ?_
          rw [show ((upS (upS (upS (upS σ 333 1 0) 335 1 0) 337 1 0) 343 1 0) 335 1) = 0 by (first | omega | (simp [upS, hz, za1, z1a1, ca1, za2, z1a2, ca2]; done) | (simp [upS, hz, za1, z1a1, ca1, za2, z1a2, ca2]; omega))]
          all_goals rfl
        refine ⟨_, _, hD15, ?_⟩
        clear hD15
        have hD16 : Dd 20 [(.inr (.inr (some 332))), (.inl 0), (.inl 0), (.inl 0), (.inl 0)] (upS (upS (upS (upS σ 333 1 0) 335 1 0) 337 1 0) 343 1 0) (.inl none, (upS (upS (upS (upS σ 333 1 0) 335 1 0) 337 1 0) 343 1 0)) := by
          refine b20 ?_
          rw [if_neg (show ¬ ((0 : Int) < 0) by first | omega | (simp [upS, hz, za1, z1a1, ca1, za2, z1a2, ca2]; done) | (simp [upS, hz, za1, z1a1, ca1, za2, z1a2, ca2]; omega))]
          all_goals rfl
        refine ⟨_, hD16, ?_⟩
        clear hD16
        refine b15_29 ?_
        rw [if_pos (show (0 : Int) < 160 by first | omega | (simp [upS, hz, za1, z1a1, ca1, za2, z1a2, ca2]; done) | (simp [upS, hz, za1, z1a1, ca1, za2, z1a2, ca2]; omega))]
        refine ⟨(show (-2147483648 : Int) ≤ (4 * 0) ∧ ((4 * 0) : Int) ≤ 2147483647 by first | omega | (simp [upS, hz, za1, z1a1, ca1, za2, z1a2, ca2]; done) | (simp [upS, hz, za1, z1a1, ca1, za2, z1a2, ca2]; omega)), ?_⟩
        have hD17 : Dd 146 [(.inr (.inr (some 343)))] (upS (upS (upS (upS σ 333 1 0) 335 1 0) 337 1 0) 343 1 0) (.inl (some (.inl 0)), (upS (upS (upS (upS σ 333 1 0) 335 1 0) 337 1 0) 343 1 0)) := by
          refine b146 (by decide +kernel) ?_
          rw [show ((upS (upS (upS (upS σ 333 1 0) 335 1 0) 337 1 0) 343 1 0) 343 1) = 0 by (first | omega | (simp [upS, hz, za1, z1a1, ca1, za2, z1a2, ca2]; done) | (simp [upS, hz, za1, z1a1, ca1, za2, z1a2, ca2]; omega))]
          all_goals rfl
        refine ⟨_, _, hD17, ?_⟩
        clear hD17
        rw [if_neg (show ¬ (((4 * 0) : Int) < 0) by first | omega | (simp [upS, hz, za1, z1a1, ca1, za2, z1a2, ca2]; done) | (simp [upS, hz, za1, z1a1, ca1, za2, z1a2, ca2]; omega))]
        refine b15_147 ?_
        all_goals rfl
      refine ⟨_, _, hD18, (by decide +kernel), ?_⟩
      clear hD18
      have hD31 : Dd 95 [(.inr (.inr (some 379))), (.inr (.inr (some (2 + 2 * ((a1)).toNat)))), (.inr (.inr (some (2 + 2 * ((a2)).toNat)))), (.inr (.inr (some 337)))] (upS (upS (upS (upS σ 333 1 0) 335 1 0) 337 1 0) 343 1 0) (.inl none, (upS (upS (upS (upS (upS (upS (upS (upS (upS σ 333 1 0) 335 1 0) 337 1 0) 343 1 0) 380 1 0) 382 1 0) 384 1 0) 386 1 0) 388 1 0)) := by
        refine b95 (by decide +kernel) (el_1 (i := (a2)) (by first | omega | (simp [upS, hz, za1, z1a1, ca1, za2, z1a2, ca2]; done) | (simp [upS, hz, za1, z1a1, ca1, za2, z1a2, ca2]; omega))).2 ?_
        rw [show (379 + 1) = 380 from rfl]
        have hD19 : Dd 155 [(.inr (.inr (some 380))), (.inr (.inr (some (2 + 2 * ((a1)).toNat))))] (upS (upS (upS (upS σ 333 1 0) 335 1 0) 337 1 0) 343 1 0) (.inl none, (upS (upS (upS (upS (upS σ 333 1 0) 335 1 0) 337 1 0) 343 1 0) 380 1 0)) := by
          refine b155 (el_1 (i := (a1)) (by first | omega | (simp [upS, hz, za1, z1a1, ca1, za2, z1a2, ca2]; done) | (simp [upS, hz, za1, z1a1, ca1, za2, z1a2, ca2]; omega))).2 (by decide +kernel) ?_
          refine ⟨(show -2147483648 ≤ ((cap 380) : Int) ∧ ((cap 380) : Int) ≤ 2147483647 by have e380 : (cap 380 : Int) = 16 := (by decide +kernel); first | omega | (simp [upS, hz, za1, z1a1, ca1, za2, z1a2, ca2]; done) | (simp [upS, hz, za1, z1a1, ca1, za2, z1a2, ca2]; omega)), ?_⟩
          rw [(show (upS (upS (upS (upS (upS σ 333 1 0) 335 1 0) 337 1 0) 343 1 0) 380 1 (if ((cap 380) : Int) < ((upS (upS (upS (upS σ 333 1 0) 335 1 0) 337 1 0) 343 1 0) (2 + 2 * ((a1)).toNat) 1) then ((cap 380) : Int) else ((upS (upS (upS (upS σ 333 1 0) 335 1 0) 337 1 0) 343 1 0) (2 + 2 * ((a1)).toNat) 1))) = (upS (upS (upS (upS (upS σ 333 1 0) 335 1 0) 337 1 0) 343 1 0) 380 1 0) from by rw [show (if ((cap 380) : Int) < ((upS (upS (upS (upS σ 333 1 0) 335 1 0) 337 1 0) 343 1 0) (2 + 2 * ((a1)).toNat) 1) then ((cap 380) : Int) else ((upS (upS (upS (upS σ 333 1 0) 335 1 0) 337 1 0) 343 1 0) (2 + 2 * ((a1)).toNat) 1)) = 0 by (have e380 : (cap 380 : Int) = 16 := (by decide +kernel); first | omega | (simp [upS, hz, za1, z1a1, ca1, za2, z1a2, ca2]; done) | (simp [upS, hz, za1, z1a1, ca1, za2, z1a2, ca2]; omega))])]
          refine b155_18 (by decide +kernel) (el_1 (i := (a1)) (by first | omega | (simp [upS, hz, za1, z1a1, ca1, za2, z1a2, ca2]; done) | (simp [upS, hz, za1, z1a1, ca1, za2, z1a2, ca2]; omega))).2 ?_
          rw [if_neg (show ¬ ((0 : Int) < ((upS (upS (upS (upS (upS σ 333 1 0) 335 1 0) 337 1 0) 343 1 0) 380 1 0) 380 1)) by first | omega | (simp [upS, hz, za1, z1a1, ca1, za2, z1a2, ca2]; done) | (simp [upS, hz, za1, z1a1, ca1, za2, z1a2, ca2]; omega))]
          all_goals rfl
        refine ⟨_, hD19, ?_⟩
        clear hD19
        rw [show (379 + 3) = 382 from rfl]
        have hD20 : Dd 155 [(.inr (.inr (some 382))), (.inr (.inr (some (2 + 2 * ((a2)).toNat))))] (upS (upS (upS (upS (upS σ 333 1 0) 335 1 0) 337 1 0) 343 1 0) 380 1 0) (.inl none, (upS (upS (upS (upS (upS (upS σ 333 1 0) 335 1 0) 337 1 0) 343 1 0) 380 1 0) 382 1 0)) := by
          refine b155 (el_1 (i := (a2)) (by first | omega | (simp [upS, hz, za1, z1a1, ca1, za2, z1a2, ca2]; done) | (simp [upS, hz, za1, z1a1, ca1, za2, z1a2, ca2]; omega))).2 (by decide +kernel) ?_
          refine ⟨(show -2147483648 ≤ ((cap 382) : Int) ∧ ((cap 382) : Int) ≤ 2147483647 by have e382 : (cap 382 : Int) = 16 := (by decide +kernel); first | omega | (simp [upS, hz, za1, z1a1, ca1, za2, z1a2, ca2]; done) | (simp [upS, hz, za1, z1a1, ca1, za2, z1a2, ca2]; omega)), ?_⟩
          rw [(show (upS (upS (upS (upS (upS (upS σ 333 1 0) 335 1 0) 337 1 0) 343 1 0) 380 1 0) 382 1 (if ((cap 382) : Int) < ((upS (upS (upS (upS (upS σ 333 1 0) 335 1 0) 337 1 0) 343 1 0) 380 1 0) (2 + 2 * ((a2)).toNat) 1) then ((cap 382) : Int) else ((upS (upS (upS (upS (upS σ 333 1 0) 335 1 0) 337 1 0) 343 1 0) 380 1 0) (2 + 2 * ((a2)).toNat) 1))) = (upS (upS (upS (upS (upS (upS σ 333 1 0) 335 1 0) 337 1 0) 343 1 0) 380 1 0) 382 1 0) from by rw [show (if ((cap 382) : Int) < ((upS (upS (upS (upS (upS σ 333 1 0) 335 1 0) 337 1 0) 343 1 0) 380 1 0) (2 + 2 * ((a2)).toNat) 1) then ((cap 382) : Int) else ((upS (upS (upS (upS (upS σ 333 1 0) 335 1 0) 337 1 0) 343 1 0) 380 1 0) (2 + 2 * ((a2)).toNat) 1)) = 0 by (have e382 : (cap 382 : Int) = 16 := (by decide +kernel); first | omega | (simp [upS, hz, za1, z1a1, ca1, za2, z1a2, ca2]; done) | (simp [upS, hz, za1, z1a1, ca1, za2, z1a2, ca2]; omega))])]
          refine b155_18 (by decide +kernel) (el_1 (i := (a2)) (by first | omega | (simp [upS, hz, za1, z1a1, ca1, za2, z1a2, ca2]; done) | (simp [upS, hz, za1, z1a1, ca1, za2, z1a2, ca2]; omega))).2 ?_
          rw [if_neg (show ¬ ((0 : Int) < ((upS (upS (upS (upS (upS (upS σ 333 1 0) 335 1 0) 337 1 0) 343 1 0) 380 1 0) 382 1 0) 382 1)) by first | omega | (simp [upS, hz, za1, z1a1, ca1, za2, z1a2, ca2]; done) | (simp [upS, hz, za1, z1a1, ca1, za2, z1a2, ca2]; omega))]
          all_goals rfl
        refine ⟨_, hD20, ?_⟩
        clear hD20
        rw [show (379 + 5) = 384 from rfl]
        have hD22 : Dd 155 [(.inr (.inr (some 384))), (.inr (.inr (some 337)))] (upS (upS (upS (upS (upS (upS σ 333 1 0) 335 1 0) 337 1 0) 343 1 0) 380 1 0) 382 1 0) (.inl none, (upS (upS (upS (upS (upS (upS (upS σ 333 1 0) 335 1 0) 337 1 0) 343 1 0) 380 1 0) 382 1 0) 384 1 0)) := by
          refine b155 (by decide +kernel) (by decide +kernel) ?_
          refine ⟨(show -2147483648 ≤ ((cap 384) : Int) ∧ ((cap 384) : Int) ≤ 2147483647 by have e384 : (cap 384 : Int) = 16 := (by decide +kernel); first | omega | (simp [upS, hz, za1, z1a1, ca1, za2, z1a2, ca2]; done) | (simp [upS, hz, za1, z1a1, ca1, za2, z1a2, ca2]; omega)), ?_⟩
          rw [(show (upS (upS (upS (upS (upS (upS (upS σ 333 1 0) 335 1 0) 337 1 0) 343 1 0) 380 1 0) 382 1 0) 384 1 (if ((cap 384) : Int) < ((upS (upS (upS (upS (upS (upS σ 333 1 0) 335 1 0) 337 1 0) 343 1 0) 380 1 0) 382 1 0) 337 1) then ((cap 384) : Int) else ((upS (upS (upS (upS (upS (upS σ 333 1 0) 335 1 0) 337 1 0) 343 1 0) 380 1 0) 382 1 0) 337 1))) = (upS (upS (upS (upS (upS (upS (upS σ 333 1 0) 335 1 0) 337 1 0) 343 1 0) 380 1 0) 382 1 0) 384 1 0) from by rw [show (if ((cap 384) : Int) < ((upS (upS (upS (upS (upS (upS σ 333 1 0) 335 1 0) 337 1 0) 343 1 0) 380 1 0) 382 1 0) 337 1) then ((cap 384) : Int) else ((upS (upS (upS (upS (upS (upS σ 333 1 0) 335 1 0) 337 1 0) 343 1 0) 380 1 0) 382 1 0) 337 1)) = 0 by (have e384 : (cap 384 : Int) = 16 := (by decide +kernel); first | omega | (simp [upS, hz, za1, z1a1, ca1, za2, z1a2, ca2]; done) | (simp [upS, hz, za1, z1a1, ca1, za2, z1a2, ca2]; omega))])]
          obtain ⟨S21, E21⟩ : ∃ s : Sg, s = (upS (upS (upS (upS (upS (upS (upS σ 333 1 0) 335 1 0) 337 1 0) 343 1 0) 380 1 0) 382 1 0) 384 1 0) := ⟨_, rfl⟩
          rw [← E21]
          refine b155_18 (by decide +kernel) (by decide +kernel) ?_
          rw [if_neg (show ¬ ((0 : Int) < (S21 384 1)) by first | omega | (simp [upS, hz, za1, z1a1, ca1, za2, z1a2, ca2, E21]; done) | (simp [upS, hz, za1, z1a1, ca1, za2, z1a2, ca2, E21]; omega))]
          all_goals (first | rfl | (simp only [E21]))
        obtain ⟨S23, E23⟩ : ∃ s : Sg, s = (upS (upS (upS (upS (upS (upS (upS σ 333 1 0) 335 1 0) 337 1 0) 343 1 0) 380 1 0) 382 1 0) 384 1 0) := ⟨_, rfl⟩
        rw [← E23] at hD22
        refine ⟨_, hD22, ?_⟩
        clear hD22
        have hD24 : Dd 146 [(.inr (.inr (some (2 + 2 * ((a2)).toNat))))] S23 (.inl (some (.inl 0)), S23) := by
          refine b146 (el_1 (i := (a2)) (by first | omega | (simp [upS, hz, za1, z1a1, ca1, za2, z1a2, ca2]; done) | (simp [upS, hz, za1, z1a1, ca1, za2, z1a2, ca2]; omega))).2 ?_
          rw [show (S23 (2 + 2 * ((a2)).toNat) 1) = 0 by (first | omega | (simp [upS, hz, za1, z1a1, ca1, za2, z1a2, ca2, E23]; done) | (simp [upS, hz, za1, z1a1, ca1, za2, z1a2, ca2, E23]; omega))]
          all_goals rfl
        refine ⟨_, _, hD24, ?_⟩
        clear hD24
        rw [show (379 + 7) = 386 from rfl]
        have hD25 : Dd 153 [(.inr (.inr (some 386))), (.inl 0), (.inl (-1))] S23 (.inl none, (upS S23 386 1 0)) := by
          refine b153 (by decide +kernel) ?_
          refine ⟨(show -2147483648 ≤ ((cap 386) : Int) ∧ ((cap 386) : Int) ≤ 2147483647 by have e386 : (cap 386 : Int) = 16 := (by decide +kernel); first | omega | (simp [upS, hz, za1, z1a1, ca1, za2, z1a2, ca2, E23]; done) | (simp [upS, hz, za1, z1a1, ca1, za2, z1a2, ca2, E23]; omega)), ?_⟩
          rw [(show (upS S23 386 1 (if 0 < (if ((cap 386) : Int) < 0 then ((cap 386) : Int) else 0) then (if ((cap 386) : Int) < 0 then ((cap 386) : Int) else 0) else 0)) = (upS S23 386 1 0) from by rw [show (if (0 : Int) < (if ((cap 386) : Int) < 0 then ((cap 386) : Int) else 0) then (if ((cap 386) : Int) < 0 then ((cap 386) : Int) else 0) else 0) = 0 by (have e386 : (cap 386 : Int) = 16 := (by decide +kernel); first | omega | (simp [upS, hz, za1, z1a1, ca1, za2, z1a2, ca2, E23]; done) | (simp [upS, hz, za1, z1a1, ca1, za2, z1a2, ca2, E23]; omega))])]
          refine b153_19 (by decide +kernel) ?_
          rw [if_neg (show ¬ ((0 : Int) < ((upS S23 386 1 0) 386 1)) by first | omega | (simp [upS, hz, za1, z1a1, ca1, za2, z1a2, ca2, E23]; done) | (simp [upS, hz, za1, z1a1, ca1, za2, z1a2, ca2, E23]; omega))]
          all_goals rfl
        refine ⟨_, hD25, ?_⟩
        clear hD25
        refine b95_39 (by decide +kernel) (by decide +kernel) ?_
        have hD26 : Dd 146 [(.inr (.inr (some 337)))] (upS S23 386 1 0) (.inl (some (.inl 0)), (upS S23 386 1 0)) := by
          refine b146 (by decide +kernel) ?_
          rw [show ((upS S23 386 1 0) 337 1) = 0 by (first | omega | (simp [upS, hz, za1, z1a1, ca1, za2, z1a2, ca2, E23]; done) | (simp [upS, hz, za1, z1a1, ca1, za2, z1a2, ca2, E23]; omega))]
          all_goals rfl
        refine ⟨_, _, hD26, ?_⟩
        clear hD26
        rw [if_neg (show ¬ ((0 : Int) < 0) by first | omega | (simp [upS, hz, za1, z1a1, ca1, za2, z1a2, ca2, E23]; done) | (simp [upS, hz, za1, z1a1, ca1, za2, z1a2, ca2, E23]; omega))]
        have hD30 : Dd 94 [(.inr (.inr (some 379)))] (upS S23 386 1 0) (.inl none, (upS (upS S23 386 1 0) 388 1 0)) := by
          refine b94 (by decide +kernel) ?_
          rw [show (379 + 9) = 388 from rfl]
          have hD27 : Dd 152 [(.inr (.inr (some 388)))] (upS S23 386 1 0) (.inl none, (upS (upS S23 386 1 0) 388 1 0)) := by
            refine b152 (by decide +kernel) ?_
            all_goals rfl
          refine ⟨_, hD27, ?_⟩
          clear hD27
          refine b94_11 (by decide +kernel) ?_
          rw [show (379 + 1) = 380 from rfl]
          have hD28 : Dd 146 [(.inr (.inr (some 380)))] (upS (upS S23 386 1 0) 388 1 0) (.inl (some (.inl 0)), (upS (upS S23 386 1 0) 388 1 0)) := by
            refine b146 (by decide +kernel) ?_
            rw [show ((upS (upS S23 386 1 0) 388 1 0) 380 1) = 0 by (first | omega | (simp [upS, hz, za1, z1a1, ca1, za2, z1a2, ca2, E23]; done) | (simp [upS, hz, za1, z1a1, ca1, za2, z1a2, ca2, E23]; omega))]
            all_goals rfl
          refine ⟨_, _, hD28, ?_⟩
          clear hD28
          rw [if_pos (show (0 : Int) ≤ 0 by first | omega | (simp [upS, hz, za1, z1a1, ca1, za2, z1a2, ca2, E23]; done) | (simp [upS, hz, za1, z1a1, ca1, za2, z1a2, ca2, E23]; omega))]
          rw [show (379 + 3) = 382 from rfl]
          have hD29 : Dd 146 [(.inr (.inr (some 382)))] (upS (upS S23 386 1 0) 388 1 0) (.inl (some (.inl 0)), (upS (upS S23 386 1 0) 388 1 0)) := by
            refine b146 (by decide +kernel) ?_
            rw [show ((upS (upS S23 386 1 0) 388 1 0) 382 1) = 0 by (first | omega | (simp [upS, hz, za1, z1a1, ca1, za2, z1a2, ca2, E23]; done) | (simp [upS, hz, za1, z1a1, ca1, za2, z1a2, ca2, E23]; omega))]
            all_goals rfl
          refine ⟨_, _, hD29, ?_⟩
          clear hD29
          rw [if_neg (show ¬ ((0 : Int) < 0) by first | omega | (simp [upS, hz, za1, z1a1, ca1, za2, z1a2, ca2, E23]; done) | (simp [upS, hz, za1, z1a1, ca1, za2, z1a2, ca2, E23]; omega))]
          all_goals rfl
        refine ⟨_, hD30, ?_⟩
        clear hD30
        all_goals (first | rfl | (simp only [E23]))
      obtain ⟨S32, E32⟩ : ∃ s : Sg, s = (upS (upS (upS (upS (upS (upS (upS (upS (upS σ 333 1 0) 335 1 0) 337 1 0) 343 1 0) 380 1 0) 382 1 0) 384 1 0) 386 1 0) 388 1 0) := ⟨_, rfl⟩
      rw [← E32] at hD31
      refine ⟨_, hD31, ?_⟩
      clear hD31
      have hD49 : Dd 108 [(.inr (.inr (some 379)))] S32 (.inl none, (upS (upS S32 384 1 0) 386 1 0)) := by
        refine b108 ?_
        refine b108_2 (by decide +kernel) ?_
        have hD34 : Dd 98 [(.inr (.inr (some 379)))] S32 (.inl (some (.inl 0)), S32) := by
          refine b98 (by decide +kernel) ?_
          rw [show (379 + 9) = 388 from rfl]
          have hD33 : Dd 146 [(.inr (.inr (some 388)))] S32 (.inl (some (.inl 0)), S32) := by
            refine b146 (by decide +kernel) ?_
            rw [show (S32 388 1) = 0 by (first | omega | (simp [upS, hz, za1, z1a1, ca1, za2, z1a2, ca2, E32]; done) | (simp [upS, hz, za1, z1a1, ca1, za2, z1a2, ca2, E32]; omega))]
            all_goals rfl
          refine ⟨_, _, hD33, ?_⟩
          clear hD33
          rw [show (Int.tdiv 0 4) = 0 by (first | omega | (simp [upS, hz, za1, z1a1, ca1, za2, z1a2, ca2, E32]; done) | (simp [upS, hz, za1, z1a1, ca1, za2, z1a2, ca2, E32]; omega))]
          all_goals rfl
        refine ⟨_, _, hD34, ?_⟩
        clear hD34
        rw [if_neg (show ¬ ((0 : Int) < 0) by first | omega | (simp [upS, hz, za1, z1a1, ca1, za2, z1a2, ca2, E32]; done) | (simp [upS, hz, za1, z1a1, ca1, za2, z1a2, ca2, E32]; omega))]
        have hD48 : Dd 113 [(.inr (.inr (some 379)))] S32 (.inl none, (upS (upS S32 384 1 0) 386 1 0)) := by
          refine b113 (by decide +kernel) ?_
          rw [show (379 + 1) = 380 from rfl]
          have hD35 : Dd 146 [(.inr (.inr (some 380)))] S32 (.inl (some (.inl 0)), S32) := by
            refine b146 (by decide +kernel) ?_
            rw [show (S32 380 1) = 0 by (first | omega | (simp [upS, hz, za1, z1a1, ca1, za2, z1a2, ca2, E32]; done) | (simp [upS, hz, za1, z1a1, ca1, za2, z1a2, ca2, E32]; omega))]
            all_goals rfl
          refine ⟨_, _, hD35, ?_⟩
          clear hD35
          rw [show (379 + 5) = 384 from rfl]
          have hD36 : Dd 153 [(.inr (.inr (some 384))), (.inl 0), (.inl (-1))] S32 (.inl none, (upS S32 384 1 0)) := by
            refine b153 (by decide +kernel) ?_
            refine ⟨(show -2147483648 ≤ ((cap 384) : Int) ∧ ((cap 384) : Int) ≤ 2147483647 by have e384 : (cap 384 : Int) = 16 := (by decide +kernel); first | omega | (simp [upS, hz, za1, z1a1, ca1, za2, z1a2, ca2, E32]; done) | (simp [upS, hz, za1, z1a1, ca1, za2, z1a2, ca2, E32]; omega)), ?_⟩
            rw [(show (upS S32 384 1 (if 0 < (if ((cap 384) : Int) < 0 then ((cap 384) : Int) else 0) then (if ((cap 384) : Int) < 0 then ((cap 384) : Int) else 0) else 0)) = (upS S32 384 1 0) from by rw [show (if (0 : Int) < (if ((cap 384) : Int) < 0 then ((cap 384) : Int) else 0) then (if ((cap 384) : Int) < 0 then ((cap 384) : Int) else 0) else 0) = 0 by (have e384 : (cap 384 : Int) = 16 := (by decide +kernel); first | omega | (simp [upS, hz, za1, z1a1, ca1, za2, z1a2, ca2, E32]; done) | (simp [upS, hz, za1, z1a1, ca1, za2, z1a2, ca2, E32]; omega))])]
            refine b153_19 (by decide +kernel) ?_
            rw [if_neg (show ¬ ((0 : Int) < ((upS S32 384 1 0) 384 1)) by first | omega | (simp [upS, hz, za1, z1a1, ca1, za2, z1a2, ca2, E32]; done) | (simp [upS, hz, za1, z1a1, ca1, za2, z1a2, ca2, E32]; omega))]
            all_goals rfl
          refine ⟨_, hD36, ?_⟩
          clear hD36
          rw [show (379 + 3) = 382 from rfl]
          have hD37 : Dd 146 [(.inr (.inr (some 382)))] (upS S32 384 1 0) (.inl (some (.inl 0)), (upS S32 384 1 0)) := by
            refine b146 (by decide +kernel) ?_
            rw [show ((upS S32 384 1 0) 382 1) = 0 by (first | omega | (simp [upS, hz, za1, z1a1, ca1, za2, z1a2, ca2, E32]; done) | (simp [upS, hz, za1, z1a1, ca1, za2, z1a2, ca2, E32]; omega))]
            all_goals rfl
          refine ⟨_, _, hD37, ?_⟩
          clear hD37
          rw [show (379 + 7) = 386 from rfl]
          have hD38 : Dd 153 [(.inr (.inr (some 386))), (.inl 0), (.inl (-1))] (upS S32 384 1 0) (.inl none, (upS (upS S32 384 1 0) 386 1 0)) := by
            refine b153 (by decide +kernel) ?_
            refine ⟨(show -2147483648 ≤ ((cap 386) : Int) ∧ ((cap 386) : Int) ≤ 2147483647 by have e386 : (cap 386 : Int) = 16 := (by decide +kernel); first | omega | (simp [upS, hz, za1, z1a1, ca1, za2, z1a2, ca2, E32]; done) | (simp [upS, hz, za1, z1a1, ca1, za2, z1a2, ca2, E32]; omega)), ?_⟩
            rw [(show (upS (upS S32 384 1 0) 386 1 (if 0 < (if ((cap 386) : Int) < 0 then ((cap 386) : Int) else 0) then (if ((cap 386) : Int) < 0 then ((cap 386) : Int) else 0) else 0)) = (upS (upS S32 384 1 0) 386 1 0) from by rw [show (if (0 : Int) < (if ((cap 386) : Int) < 0 then ((cap 386) : Int) else 0) then (if ((cap 386) : Int) < 0 then ((cap 386) : Int) else 0) else 0) = 0 by (have e386 : (cap 386 : Int) = 16 := (by decide +kernel); first | omega | (simp [upS, hz, za1, z1a1, ca1, za2, z1a2, ca2, E32]; done) | (simp [upS, hz, za1, z1a1, ca1, za2, z1a2, ca2, E32]; omega))])]
            refine b153_19 (by decide +kernel) ?_
            rw [if_neg (show ¬ ((0 : Int) < ((upS (upS S32 384 1 0) 386 1 0) 386 1)) by first | omega | (simp [upS, hz, za1, z1a1, ca1, za2, z1a2, ca2, E32]; done) | (simp [upS, hz, za1, z1a1, ca1, za2, z1a2, ca2, E32]; omega))]
            all_goals rfl
          refine ⟨_, hD38, ?_⟩
          clear hD38
          refine b113_34 (by decide +kernel) ?_
          have hD40 : Dd 98 [(.inr (.inr (some 379)))] (upS (upS S32 384 1 0) 386 1 0) (.inl (some (.inl 0)), (upS (upS S32 384 1 0) 386 1 0)) := by
            refine b98 (by decide +kernel) ?_
            rw [show (379 + 9) = 388 from rfl]
            have hD39 : Dd 146 [(.inr (.inr (some 388)))] (upS (upS S32 384 1 0) 386 1 0) (.inl (some (.inl 0)), (upS (upS S32 384 1 0) 386 1 0)) := by
              refine b146 (by decide +kernel) ?_
              rw [show ((upS (upS S32 384 1 0) 386 1 0) 388 1) = 0 by (first | omega | (simp [upS, hz, za1, z1a1, ca1, za2, z1a2, ca2, E32]; done) | (simp [upS, hz, za1, z1a1, ca1, za2, z1a2, ca2, E32]; omega))]
              all_goals rfl
            refine ⟨_, _, hD39, ?_⟩
            clear hD39
            rw [show (Int.tdiv 0 4) = 0 by (first | omega | (simp [upS, hz, za1, z1a1, ca1, za2, z1a2, ca2, E32]; done) | (simp [upS, hz, za1, z1a1, ca1, za2, z1a2, ca2, E32]; omega))]
            all_goals rfl
          refine ⟨_, _, hD40, ?_⟩
          clear hD40
          rw [if_pos (show (0 : Int) ≤ 0 by first | omega | (simp [upS, hz, za1, z1a1, ca1, za2, z1a2, ca2, E32]; done) | (simp [upS, hz, za1, z1a1, ca1, za2, z1a2, ca2, E32]; omega))]
          have hD42 : Dd 98 [(.inr (.inr (some 379)))] (upS (upS S32 384 1 0) 386 1 0) (.inl (some (.inl 0)), (upS (upS S32 384 1 0) 386 1 0)) := by
            refine b98 (by decide +kernel) ?_
            rw [show (379 + 9) = 388 from rfl]
            have hD41 : Dd 146 [(.inr (.inr (some 388)))] (upS (upS S32 384 1 0) 386 1 0) (.inl (some (.inl 0)), (upS (upS S32 384 1 0) 386 1 0)) := by
              refine b146 (by decide +kernel) ?_
              rw [show ((upS (upS S32 384 1 0) 386 1 0) 388 1) = 0 by (first | omega | (simp [upS, hz, za1, z1a1, ca1, za2, z1a2, ca2, E32]; done) | (simp [upS, hz, za1, z1a1, ca1, za2, z1a2, ca2, E32]; omega))]
              all_goals rfl
            refine ⟨_, _, hD41, ?_⟩
            clear hD41
            rw [show (Int.tdiv 0 4) = 0 by (first | omega | (simp [upS, hz, za1, z1a1, ca1, za2, z1a2, ca2, E32]; done) | (simp [upS, hz, za1, z1a1, ca1, za2, z1a2, ca2, E32]; omega))]
            all_goals rfl
          refine ⟨_, _, hD42, ?_⟩
          clear hD42
          rw [if_neg (show ¬ ((0 : Int) < 0) by first | omega | (simp [upS, hz, za1, z1a1, ca1, za2, z1a2, ca2, E32]; done) | (simp [upS, hz, za1, z1a1, ca1, za2, z1a2, ca2, E32]; omega))]
          rw [show (379 + 1) = 380 from rfl]
          have hD43 : Dd 146 [(.inr (.inr (some 380)))] (upS (upS S32 384 1 0) 386 1 0) (.inl (some (.inl 0)), (upS (upS S32 384 1 0) 386 1 0)) := by
            refine b146 (by decide +kernel) ?_
            rw [show ((upS (upS S32 384 1 0) 386 1 0) 380 1) = 0 by (first | omega | (simp [upS, hz, za1, z1a1, ca1, za2, z1a2, ca2, E32]; done) | (simp [upS, hz, za1, z1a1, ca1, za2, z1a2, ca2, E32]; omega))]
            all_goals rfl
          refine ⟨_, _, hD43, ?_⟩
          clear hD43
          refine b113_65 ?_
          refine b113_69 (by decide +kernel) ?_
          rw [if_neg (show ¬ ((0 : Int) < 0) by first | omega | (simp [upS, hz, za1, z1a1, ca1, za2, z1a2, ca2, E32]; done) | (simp [upS, hz, za1, z1a1, ca1, za2, z1a2, ca2, E32]; omega))]
          have hD45 : Dd 98 [(.inr (.inr (some 379)))] (upS (upS S32 384 1 0) 386 1 0) (.inl (some (.inl 0)), (upS (upS S32 384 1 0) 386 1 0)) := by
            refine b98 (by decide +kernel) ?_
            rw [show (379 + 9) = 388 from rfl]
            have hD44 : Dd 146 [(.inr (.inr (some 388)))] (upS (upS S32 384 1 0) 386 1 0) (.inl (some (.inl 0)), (upS (upS S32 384 1 0) 386 1 0)) := by
              refine b146 (by decide +kernel) ?_
              rw [show ((upS (upS S32 384 1 0) 386 1 0) 388 1) = 0 by (first | omega | (simp [upS, hz, za1, z1a1, ca1, za2, z1a2, ca2, E32]; done) | (simp [upS, hz, za1, z1a1, ca1, za2, z1a2, ca2, E32]; omega))]
              all_goals rfl
            refine ⟨_, _, hD44, ?_⟩
            clear hD44
            rw [show (Int.tdiv 0 4) = 0 by (first | omega | (simp [upS, hz, za1, z1a1, ca1, za2, z1a2, ca2, E32]; done) | (simp [upS, hz, za1, z1a1, ca1, za2, z1a2, ca2, E32]; omega))]
            all_goals rfl
          refine ⟨_, _, hD45, ?_⟩
          clear hD45
          rw [if_neg (show ¬ ((0 : Int) < 0) by first | omega | (simp [upS, hz, za1, z1a1, ca1, za2, z1a2, ca2, E32]; done) | (simp [upS, hz, za1, z1a1, ca1, za2, z1a2, ca2, E32]; omega))]
          refine b113_132 ?_
          refine ⟨(show (-2147483648 : Int) ≤ (0 + 1) ∧ ((0 + 1) : Int) ≤ 2147483647 by first | omega | (simp [upS, hz, za1, z1a1, ca1, za2, z1a2, ca2, E32]; done) | (simp [upS, hz, za1, z1a1, ca1, za2, z1a2, ca2, E32]; omega)), ?_⟩
          rw [show ((0 + 1) : Int) = 1 by (first | omega | (simp [upS, hz, za1, z1a1, ca1, za2, z1a2, ca2, E32]; done) | (simp [upS, hz, za1, z1a1, ca1, za2, z1a2, ca2, E32]; omega))]
          refine b113_34 (by decide +kernel) ?_
          have hD47 : Dd 98 [(.inr (.inr (some 379)))] (upS (upS S32 384 1 0) 386 1 0) (.inl (some (.inl 0)), (upS (upS S32 384 1 0) 386 1 0)) := by
            refine b98 (by decide +kernel) ?_
            rw [show (379 + 9) = 388 from rfl]
            have hD46 : Dd 146 [(.inr (.inr (some 388)))] (upS (upS S32 384 1 0) 386 1 0) (.inl (some (.inl 0)), (upS (upS S32 384 1 0) 386 1 0)) := by
              refine b146 (by decide +kernel) ?_
              rw [show ((upS (upS S32 384 1 0) 386 1 0) 388 1) = 0 by (first | omega | (simp [upS, hz, za1, z1a1, ca1, za2, z1a2, ca2, E32]; done) | (simp [upS, hz, za1, z1a1, ca1, za2, z1a2, ca2, E32]; omega))]
              all_goals rfl
            refine ⟨_, _, hD46, ?_⟩
            clear hD46
            rw [show (Int.tdiv 0 4) = 0 by (first | omega | (simp [upS, hz, za1, z1a1, ca1, za2, z1a2, ca2, E32]; done) | (simp [upS, hz, za1, z1a1, ca1, za2, z1a2, ca2, E32]; omega))]
            all_goals rfl
          refine ⟨_, _, hD47, ?_⟩
          clear hD47
          rw [if_neg (show ¬ ((1 : Int) ≤ 0) by first | omega | (simp [upS, hz, za1, z1a1, ca1, za2, z1a2, ca2, E32]; done) | (simp [upS, hz, za1, z1a1, ca1, za2, z1a2, ca2, E32]; omega))]
          all_goals rfl
        refine ⟨_, hD48, ?_⟩
        clear hD48
        all_goals rfl
      refine ⟨_, hD49, ?_⟩
      clear hD49
      have hD59 : Dd 242 [(.inr (.inr (some 0))), (.inr (.inr (some 379)))] (upS (upS S32 384 1 0) 386 1 0) (.inl (some (.inl 0)), (upS (upS (upS (upS (upS (upS (upS (upS S32 384 1 0) 386 1 0) 21 1 0) 23 1 0) 25 1 0) 27 1 0) 29 1 0) 0 3 1)) := by
        refine b242 ?_
        rw [if_pos (show ((upS (upS S32 384 1 0) 386 1 0) 0 3) < 24 by first | omega | (simp [upS, hz, za1, z1a1, ca1, za2, z1a2, ca2, E32]; done) | (simp [upS, hz, za1, z1a1, ca1, za2, z1a2, ca2, E32]; omega))]
        rw [if_neg (show ¬ ((24 : Int) ≤ ((upS (upS S32 384 1 0) 386 1 0) 0 3)) by first | omega | (simp [upS, hz, za1, z1a1, ca1, za2, z1a2, ca2, E32]; done) | (simp [upS, hz, za1, z1a1, ca1, za2, z1a2, ca2, E32]; omega))]
        refine ⟨(show 0 ≤ ((upS (upS S32 384 1 0) 386 1 0) 0 3) by first | omega | (simp [upS, hz, za1, z1a1, ca1, za2, z1a2, ca2, E32]; done) | (simp [upS, hz, za1, z1a1, ca1, za2, z1a2, ca2, E32]; omega)), ?_⟩
        rw [show ((((upS (upS S32 384 1 0) 386 1 0) 0 3))).toNat = 0 by (first | omega | (simp [upS, hz, za1, z1a1, ca1, za2, z1a2, ca2, E32]; done) | (simp [upS, hz, za1, z1a1, ca1, za2, z1a2, ca2, E32]; omega))]
        refine ⟨20, (by decide +kernel), (by decide +kernel), ?_⟩
        have hD57 : Dd 96 [(.inr (.inr (some 20))), (.inr (.inr (some 379)))] (upS (upS S32 384 1 0) 386 1 0) (.inl none, (upS (upS (upS (upS (upS (upS (upS S32 384 1 0) 386 1 0) 21 1 0) 23 1 0) 25 1 0) 27 1 0) 29 1 0)) := by
          refine b96 (by decide +kernel) (by decide +kernel) ?_
          rw [show (20 + 1) = 21 from rfl]
          rw [show (379 + 1) = 380 from rfl]
          have hD50 : Dd 155 [(.inr (.inr (some 21))), (.inr (.inr (some 380)))] (upS (upS S32 384 1 0) 386 1 0) (.inl none, (upS (upS (upS S32 384 1 0) 386 1 0) 21 1 0)) := by
            refine b155 (by decide +kernel) (by decide +kernel) ?_
            refine ⟨(show -2147483648 ≤ ((cap 21) : Int) ∧ ((cap 21) : Int) ≤ 2147483647 by have e21 : (cap 21 : Int) = 16 := (by decide +kernel); first | omega | (simp [upS, hz, za1, z1a1, ca1, za2, z1a2, ca2, E32]; done) | (simp [upS, hz, za1, z1a1, ca1, za2, z1a2, ca2, E32]; omega)), ?_⟩
            rw [(show (upS (upS (upS S32 384 1 0) 386 1 0) 21 1 (if ((cap 21) : Int) < ((upS (upS S32 384 1 0) 386 1 0) 380 1) then ((cap 21) : Int) else ((upS (upS S32 384 1 0) 386 1 0) 380 1))) = (upS (upS (upS S32 384 1 0) 386 1 0) 21 1 0) from by rw [show (if ((cap 21) : Int) < ((upS (upS S32 384 1 0) 386 1 0) 380 1) then ((cap 21) : Int) else ((upS (upS S32 384 1 0) 386 1 0) 380 1)) = 0 by (have e21 : (cap 21 : Int) = 16 := (by decide +kernel); first | omega | (simp [upS, hz, za1, z1a1, ca1, za2, z1a2, ca2, E32]; done) | (simp [upS, hz, za1, z1a1, ca1, za2, z1a2, ca2, E32]; omega))])]
            refine b155_18 (by decide +kernel) (by decide +kernel) ?_
            rw [if_neg (show ¬ ((0 : Int) < ((upS (upS (upS S32 384 1 0) 386 1 0) 21 1 0) 21 1)) by first | omega | (simp [upS, hz, za1, z1a1, ca1, za2, z1a2, ca2, E32]; done) | (simp [upS, hz, za1, z1a1, ca1, za2, z1a2, ca2, E32]; omega))]
            all_goals rfl
          refine ⟨_, hD50, ?_⟩
          clear hD50
          rw [show (20 + 3) = 23 from rfl]
          rw [show (379 + 3) = 382 from rfl]
          have hD51 : Dd 155 [(.inr (.inr (some 23))), (.inr (.inr (some 382)))] (upS (upS (upS S32 384 1 0) 386 1 0) 21 1 0) (.inl none, (upS (upS (upS (upS S32 384 1 0) 386 1 0) 21 1 0) 23 1 0)) := by
            refine b155 (by decide +kernel) (by decide +kernel) ?_
            refine ⟨(show -2147483648 ≤ ((cap 23) : Int) ∧ ((cap 23) : Int) ≤ 2147483647 by have e23 : (cap 23 : Int) = 16 := (by decide +kernel); first | omega | (simp [upS, hz, za1, z1a1, ca1, za2, z1a2, ca2, E32]; done) | (simp [upS, hz, za1, z1a1, ca1, za2, z1a2, ca2, E32]; omega)), ?_⟩
            rw [(show (upS (upS (upS (upS S32 384 1 0) 386 1 0) 21 1 0) 23 1 (if ((cap 23) : Int) < ((upS (upS (upS S32 384 1 0) 386 1 0) 21 1 0) 382 1) then ((cap 23) : Int) else ((upS (upS (upS S32 384 1 0) 386 1 0) 21 1 0) 382 1))) = (upS (upS (upS (upS S32 384 1 0) 386 1 0) 21 1 0) 23 1 0) from by rw [show (if ((cap 23) : Int) < ((upS (upS (upS S32 384 1 0) 386 1 0) 21 1 0) 382 1) then ((cap 23) : Int) else ((upS (upS (upS S32 384 1 0) 386 1 0) 21 1 0) 382 1)) = 0 by (have e23 : (cap 23 : Int) = 16 := (by decide +kernel); first | omega | (simp [upS, hz, za1, z1a1, ca1, za2, z1a2, ca2, E32]; done) | (simp [upS, hz, za1, z1a1, ca1, za2, z1a2, ca2, E32]; omega))])]
            refine b155_18 (by decide +kernel) (by decide +kernel) ?_
            rw [if_neg (show ¬ ((0 : Int) < ((upS (upS (upS (upS S32 384 1 0) 386 1 0) 21 1 0) 23 1 0) 23 1)) by first | omega | (simp [upS, hz, za1, z1a1, ca1, za2, z1a2, ca2, E32]; done) | (simp [upS, hz, za1, z1a1, ca1, za2, z1a2, ca2, E32]; omega))]
            all_goals rfl
          refine ⟨_, hD51, ?_⟩
          clear hD51
          rw [show (20 + 5) = 25 from rfl]
          rw [show (379 + 5) = 384 from rfl]
          have hD52 : Dd 155 [(.inr (.inr (some 25))), (.inr (.inr (some 384)))] (upS (upS (upS (upS S32 384 1 0) 386 1 0) 21 1 0) 23 1 0) (.inl none, (upS (upS (upS (upS (upS S32 384 1 0) 386 1 0) 21 1 0) 23 1 0) 25 1 0)) := by
            refine b155 (by decide +kernel) (by decide +kernel) ?_
            refine ⟨(show -2147483648 ≤ ((cap 25) : Int) ∧ ((cap 25) : Int) ≤ 2147483647 by have e25 : (cap 25 : Int) = 16 := (by decide +kernel); first | omega | (simp [upS, hz, za1, z1a1, ca1, za2, z1a2, ca2, E32]; done) | (simp [upS, hz, za1, z1a1, ca1, za2, z1a2, ca2, E32]; omega)), ?_⟩
            rw [(show (upS (upS (upS (upS (upS S32 384 1 0) 386 1 0) 21 1 0) 23 1 0) 25 1 (if ((cap 25) : Int) < ((upS (upS (upS (upS S32 384 1 0) 386 1 0) 21 1 0) 23 1 0) 384 1) then ((cap 25) : Int) else ((upS (upS (upS (upS S32 384 1 0) 386 1 0) 21 1 0) 23 1 0) 384 1))) = (upS (upS (upS (upS (upS S32 384 1 0) 386 1 0) 21 1 0) 23 1 0) 25 1 0) from by rw [show (if ((cap 25) : Int) < ((upS (upS (upS (upS S32 384 1 0) 386 1 0) 21 1 0) 23 1 0) 384 1) then ((cap 25) : Int) else ((upS (upS (upS (upS S32 384 1 0) 386 1 0) 21 1 0) 23 1 0) 384 1)) = 0 by (have e25 : (cap 25 : Int) = 16 := (by decide +kernel); first | omega | (simp [upS, hz, za1, z1a1, ca1, za2, z1a2, ca2, E32]; done) | (simp [upS, hz, za1, z1a1, ca1, za2, z1a2, ca2, E32]; omega))])]
            refine b155_18 (by decide +kernel) (by decide +kernel) ?_
            rw [if_neg (show ¬ ((0 : Int) < ((upS (upS (upS (upS (upS S32 384 1 0) 386 1 0) 21 1 0) 23 1 0) 25 1 0) 25 1)) by first | omega | (simp [upS, hz, za1, z1a1, ca1, za2, z1a2, ca2, E32]; done) | (simp [upS, hz, za1, z1a1, ca1, za2, z1a2, ca2, E32]; omega))]
            all_goals rfl
          refine ⟨_, hD52, ?_⟩
          clear hD52
          rw [show (20 + 7) = 27 from rfl]
          rw [show (379 + 7) = 386 from rfl]
          have hD53 : Dd 155 [(.inr (.inr (some 27))), (.inr (.inr (some 386)))] (upS (upS (upS (upS (upS S32 384 1 0) 386 1 0) 21 1 0) 23 1 0) 25 1 0) (.inl none, (upS (upS (upS (upS (upS (upS S32 384 1 0) 386 1 0) 21 1 0) 23 1 0) 25 1 0) 27 1 0)) := by
            refine b155 (by decide +kernel) (by decide +kernel) ?_
            refine ⟨(show -2147483648 ≤ ((cap 27) : Int) ∧ ((cap 27) : Int) ≤ 2147483647 by have e27 : (cap 27 : Int) = 16 := (by decide +kernel); first | omega | (simp [upS, hz, za1, z1a1, ca1, za2, z1a2, ca2, E32]; done) | (simp [upS, hz, za1, z1a1, ca1, za2, z1a2, ca2, E32]; omega)), ?_⟩
            rw [(show (upS (upS (upS (upS (upS (upS S32 384 1 0) 386 1 0) 21 1 0) 23 1 0) 25 1 0) 27 1 (if ((cap 27) : Int) < ((upS (upS (upS (upS (upS S32 384 1 0) 386 1 0) 21 1 0) 23 1 0) 25 1 0) 386 1) then ((cap 27) : Int) else ((upS (upS (upS (upS (upS S32 384 1 0) 386 1 0) 21 1 0) 23 1 0) 25 1 0) 386 1))) = (upS (upS (upS (upS (upS (upS S32 384 1 0) 386 1 0) 21 1 0) 23 1 0) 25 1 0) 27 1 0) from by rw [show (if ((cap 27) : Int) < ((upS (upS (upS (upS (upS S32 384 1 0) 386 1 0) 21 1 0) 23 1 0) 25 1 0) 386 1) then ((cap 27) : Int) else ((upS (upS (upS (upS (upS S32 384 1 0) 386 1 0) 21 1 0) 23 1 0) 25 1 0) 386 1)) = 0 by (have e27 : (cap 27 : Int) = 16 := (by decide +kernel); first | omega | (simp [upS, hz, za1, z1a1, ca1, za2, z1a2, ca2, E32]; done) | (simp [upS, hz, za1, z1a1, ca1, za2, z1a2, ca2, E32]; omega))])]
            refine b155_18 (by decide +kernel) (by decide +kernel) ?_
            rw [if_neg (show ¬ ((0 : Int) < ((upS (upS (upS (upS (upS (upS S32 384 1 0) 386 1 0) 21 1 0) 23 1 0) 25 1 0) 27 1 0) 27 1)) by first | omega | (simp [upS, hz, za1, z1a1, ca1, za2, z1a2, ca2, E32]; done) | (simp [upS, hz, za1, z1a1, ca1, za2, z1a2, ca2, E32]; omega))]
            all_goals rfl
          refine ⟨_, hD53, ?_⟩
          clear hD53
          rw [show (20 + 9) = 29 from rfl]
          rw [show (379 + 9) = 388 from rfl]
          have hD55 : Dd 155 [(.inr (.inr (some 29))), (.inr (.inr (some 388)))] (upS (upS (upS (upS (upS (upS S32 384 1 0) 386 1 0) 21 1 0) 23 1 0) 25 1 0) 27 1 0) (.inl none, (upS (upS (upS (upS (upS (upS (upS S32 384 1 0) 386 1 0) 21 1 0) 23 1 0) 25 1 0) 27 1 0) 29 1 0)) := by
            refine b155 (by decide +kernel) (by decide +kernel) ?_
            refine ⟨(show -2147483648 ≤ ((cap 29) : Int) ∧ ((cap 29) : Int) ≤ 2147483647 by have e29 : (cap 29 : Int) = 68 := (by decide +kernel); first | omega | (simp [upS, hz, za1, z1a1, ca1, za2, z1a2, ca2, E32]; done) | (simp [upS, hz, za1, z1a1, ca1, za2, z1a2, ca2, E32]; omega)), ?_⟩
            rw [(show (upS (upS (upS (upS (upS (upS (upS S32 384 1 0) 386 1 0) 21 1 0) 23 1 0) 25 1 0) 27 1 0) 29 1 (if ((cap 29) : Int) < ((upS (upS (upS (upS (upS (upS S32 384 1 0) 386 1 0) 21 1 0) 23 1 0) 25 1 0) 27 1 0) 388 1) then ((cap 29) : Int) else ((upS (upS (upS (upS (upS (upS S32 384 1 0) 386 1 0) 21 1 0) 23 1 0) 25 1 0) 27 1 0) 388 1))) = (upS (upS (upS (upS (upS (upS (upS S32 384 1 0) 386 1 0) 21 1 0) 23 1 0) 25 1 0) 27 1 0) 29 1 0) from by rw [show (if ((cap 29) : Int) < ((upS (upS (upS (upS (upS (upS S32 384 1 0) 386 1 0) 21 1 0) 23 1 0) 25 1 0) 27 1 0) 388 1) then ((cap 29) : Int) else ((upS (upS (upS (upS (upS (upS S32 384 1 0) 386 1 0) 21 1 0) 23 1 0) 25 1 0) 27 1 0) 388 1)) = 0 by (have e29 : (cap 29 : Int) = 68 := (by decide +kernel); first | omega | (simp [upS, hz, za1, z1a1, ca1, za2, z1a2, ca2, E32]; done) | (simp [upS, hz, za1, z1a1, ca1, za2, z1a2, ca2, E32]; omega))])]
            obtain ⟨S54, E54⟩ : ∃ s : Sg, s = (upS (upS (upS (upS (upS (upS (upS S32 384 1 0) 386 1 0) 21 1 0) 23 1 0) 25 1 0) 27 1 0) 29 1 0) := ⟨_, rfl⟩
            rw [← E54]
            refine b155_18 (by decide +kernel) (by decide +kernel) ?_
            rw [if_neg (show ¬ ((0 : Int) < (S54 29 1)) by first | omega | (simp [upS, hz, za1, z1a1, ca1, za2, z1a2, ca2, E32, E54]; done) | (simp [upS, hz, za1, z1a1, ca1, za2, z1a2, ca2, E32, E54]; omega))]
            all_goals (first | rfl | (simp only [E54]))
          obtain ⟨S56, E56⟩ : ∃ s : Sg, s = (upS (upS (upS (upS (upS (upS (upS S32 384 1 0) 386 1 0) 21 1 0) 23 1 0) 25 1 0) 27 1 0) 29 1 0) := ⟨_, rfl⟩
          rw [← E56] at hD55
          refine ⟨_, hD55, ?_⟩
          clear hD55
          all_goals (first | rfl | (simp only [E56]))
        obtain ⟨S58, E58⟩ : ∃ s : Sg, s = (upS (upS (upS (upS (upS (upS (upS S32 384 1 0) 386 1 0) 21 1 0) 23 1 0) 25 1 0) 27 1 0) 29 1 0) := ⟨_, rfl⟩
        rw [← E58] at hD57
        refine ⟨_, hD57, ?_⟩
        clear hD57
        refine ⟨(show -2147483648 ≤ ((S58 0 3) + 1) ∧ ((S58 0 3) + 1) ≤ 2147483647 by first | omega | (simp [upS, hz, za1, z1a1, ca1, za2, z1a2, ca2, E32, E58]; done) | (simp [upS, hz, za1, z1a1, ca1, za2, z1a2, ca2, E32, E58]; omega)), ?_⟩
        refine ⟨(show -2147483648 ≤ (((upS S58 0 3 ((S58 0 3) + 1)) 0 3) - 1) ∧ (((upS S58 0 3 ((S58 0 3) + 1)) 0 3) - 1) ≤ 2147483647 by first | omega | (simp [upS, hz, za1, z1a1, ca1, za2, z1a2, ca2, E32, E58]; done) | (simp [upS, hz, za1, z1a1, ca1, za2, z1a2, ca2, E32, E58]; omega)), ?_⟩
        rw [(show (upS S58 0 3 ((S58 0 3) + 1)) = (upS S58 0 3 1) from by rw [show ((S58 0 3) + 1) = 1 by (first | omega | (simp [upS, hz, za1, z1a1, ca1, za2, z1a2, ca2, E32, E58]; done) | (simp [upS, hz, za1, z1a1, ca1, za2, z1a2, ca2, E32, E58]; omega))])]
        rw [show (((upS S58 0 3 1) 0 3) - 1) = 0 by (first | omega | (simp [upS, hz, za1, z1a1, ca1, za2, z1a2, ca2, E32, E58]; done) | (simp [upS, hz, za1, z1a1, ca1, za2, z1a2, ca2, E32, E58]; omega))]
        all_goals (first | rfl | (simp only [E58]))
      obtain ⟨S60, E60⟩ : ∃ s : Sg, s = (upS (upS (upS (upS (upS (upS (upS (upS S32 384 1 0) 386 1 0) 21 1 0) 23 1 0) 25 1 0) 27 1 0) 29 1 0) 0 3 1) := ⟨_, rfl⟩
      rw [← E60] at hD59
      refine Or.inl ⟨_, _, hD59, ?_⟩
      clear hD59
      all_goals (first | rfl | (simp only [E32, E60]))
    obtain ⟨S62, E62⟩ : ∃ s : Sg, s = (upS (upS (upS (upS (upS (upS (upS (upS (upS (upS (upS (upS (upS (upS (upS (upS (upS σ 333 1 0) 335 1 0) 337 1 0) 343 1 0) 380 1 0) 382 1 0) 384 1 0) 386 1 0) 388 1 0) 384 1 0) 386 1 0) 21 1 0) 23 1 0) 25 1 0) 27 1 0) 29 1 0) 0 3 1) := ⟨_, rfl⟩
    rw [← E62] at hD61
    refine Or.inl ⟨_, _, hD61, ?_⟩
    clear hD61
    rw [(show (upS S62 726 ((0 : Int).toNat) 0) = (upS S62 726 0 0) from by rw [show ((0 : Int).toNat) = 0 by (first | omega | (simp [upS, hz, za1, z1a1, ca1, za2, z1a2, ca2, E62]; done) | (simp [upS, hz, za1, z1a1, ca1, za2, z1a2, ca2, E62]; omega))])]
    all_goals (first | rfl | (simp only [E62]))
  obtain ⟨S900, E900⟩ : ∃ s : Sg, s = (upS (upS (upS (upS (upS (upS (upS (upS (upS (upS (upS (upS (upS (upS (upS (upS (upS (upS σ 333 1 0) 335 1 0) 337 1 0) 343 1 0) 380 1 0) 382 1 0) 384 1 0) 386 1 0) 388 1 0) 384 1 0) 386 1 0) 21 1 0) 23 1 0) 25 1 0) 27 1 0) 29 1 0) 0 3 1) 726 0 0) := ⟨_, rfl⟩
  rw [← E900] at hA
  have hB : Dd 299 [(.inr (.inr (some 682))), (.inl a1), (.inl a2), (.inl a3)] S900 (.inl (some (.inl 0)), (upS (upS (upS (upS (upS (upS (upS (upS (upS (upS (upS (upS (upS (upS (upS (upS (upS (upS (upS S900 682 0 0) 682 12 0) 682 13 0) 682 22 0) 696 0 0) 696 1 0) 696 2 0) 696 3 0) 682 22 1) 682 22 0) 682 17 0) 682 18 0) 682 19 0) 682 20 0) 694 0 0) 688 0 0) 689 0 0) 704 0 0) 682 3 1)) := by
    refine b299 ?_
    have hD64 : Dd 247 [(.inl a1)] S900 (.inl (some (.inl 1)), S900) := by
      refine b247 ?_
      have hD63 : Dd 246 [(.inl a1), (.inl 4)] S900 (.inl (some (.inl 1)), S900) := by
        refine b246 ?_
        try rw [if_pos (show (0 : Int) ≤ a1 by first | omega | (simp [upS, hz, za1, z1a1, ca1, za2, z1a2, ca2, E900]; done) | (simp [upS, hz, za1, z1a1, ca1, za2, z1a2, ca2, E900]; omega))]
        try rw [if_pos (show a1 < 4 by first | omega | (simp [upS, hz, za1, z1a1, ca1, za2, z1a2, ca2, E900]; done) | (simp [upS, hz, za1, z1a1, ca1, za2, z1a2, ca2, E900]; omega))]
        all_goals rfl
      refine ⟨_, _, hD63, ?_⟩
      clear hD63
      refine ⟨(show 1 = 0 ∨ 1 = 1 by first | omega | (simp [upS, hz, za1, z1a1, ca1, za2, z1a2, ca2, E900]; done) | (simp [upS, hz, za1, z1a1, ca1, za2, z1a2, ca2, E900]; omega)), ?_⟩
      all_goals rfl
    refine ⟨_, _, hD64, ?_⟩
    clear hD64
    rw [if_neg (show ¬ ((1 : Int) = 0) by first | omega | (simp [upS, hz, za1, z1a1, ca1, za2, z1a2, ca2, E900]; done) | (simp [upS, hz, za1, z1a1, ca1, za2, z1a2, ca2, E900]; omega))]
    have hD66 : Dd 247 [(.inl a2)] S900 (.inl (some (.inl 1)), S900) := by
      refine b247 ?_
      have hD65 : Dd 246 [(.inl a2), (.inl 4)] S900 (.inl (some (.inl 1)), S900) := by
        refine b246 ?_
        try rw [if_pos (show (0 : Int) ≤ a2 by first | omega | (simp [upS, hz, za1, z1a1, ca1, za2, z1a2, ca2, E900]; done) | (simp [upS, hz, za1, z1a1, ca1, za2, z1a2, ca2, E900]; omega))]
        try rw [if_pos (show a2 < 4 by first | omega | (simp [upS, hz, za1, z1a1, ca1, za2, z1a2, ca2, E900]; done) | (simp [upS, hz, za1, z1a1, ca1, za2, z1a2, ca2, E900]; omega))]
        all_goals rfl
      refine ⟨_, _, hD65, ?_⟩
      clear hD65
      refine ⟨(show 1 = 0 ∨ 1 = 1 by first | omega | (simp [upS, hz, za1, z1a1, ca1, za2, z1a2, ca2, E900]; done) | (simp [upS, hz, za1, z1a1, ca1, za2, z1a2, ca2, E900]; omega)), ?_⟩
      all_goals rfl
    refine ⟨_, _, hD66, ?_⟩
    clear hD66
    rw [if_neg (show ¬ ((1 : Int) = 0) by first | omega | (simp [upS, hz, za1, z1a1, ca1, za2, z1a2, ca2, E900]; done) | (simp [upS, hz, za1, z1a1, ca1, za2, z1a2, ca2, E900]; omega))]
    have hD68 : Dd 275 [(.inl a3)] S900 (.inl (some (.inl 1)), S900) := by
      refine b275 ?_
      have hD67 : Dd 246 [(.inl a3), (.inl 3)] S900 (.inl (some (.inl 1)), S900) := by
        refine b246 ?_
        try rw [if_pos (show (0 : Int) ≤ a3 by first | omega | (simp [upS, hz, za1, z1a1, ca1, za2, z1a2, ca2, E900]; done) | (simp [upS, hz, za1, z1a1, ca1, za2, z1a2, ca2, E900]; omega))]
        try rw [if_pos (show a3 < 3 by first | omega | (simp [upS, hz, za1, z1a1, ca1, za2, z1a2, ca2, E900]; done) | (simp [upS, hz, za1, z1a1, ca1, za2, z1a2, ca2, E900]; omega))]
        all_goals rfl
      refine ⟨_, _, hD67, ?_⟩
      clear hD67
      refine ⟨(show 1 = 0 ∨ 1 = 1 by first | omega | (simp [upS, hz, za1, z1a1, ca1, za2, z1a2, ca2, E900]; done) | (simp [upS, hz, za1, z1a1, ca1, za2, z1a2, ca2, E900]; omega)), ?_⟩
      all_goals rfl
    refine ⟨_, _, hD68, ?_⟩
    clear hD68
    try rw [if_neg (show ¬ ((1 : Int) = 0) by first | omega | (simp [upS, hz, za1, z1a1, ca1, za2, z1a2, ca2, E900]; done) | (simp [upS, hz, za1, z1a1, ca1, za2, z1a2, ca2, E900]; omega))]
    try rw [if_neg (show ¬ ((S900 682 3) = 24) by first | omega | (simp [upS, hz, za1, z1a1, ca1, za2, z1a2, ca2, E900]; done) | (simp [upS, hz, za1, z1a1, ca1, za2, z1a2, ca2, E900]; omega))]
    refine b299_44 ?_
    have hD69 : Dd 245 [(.inr (.inr (some 682))), (.inl 0)] S900 (.inl (some (.inl 1)), (upS S900 682 0 0)) := by
      refine b245 ?_
      try rw [if_pos (show (0 : Int) = 0 by first | omega | (simp [upS, hz, za1, z1a1, ca1, za2, z1a2, ca2, E900]; done) | (simp [upS, hz, za1, z1a1, ca1, za2, z1a2, ca2, E900]; omega))]
      all_goals rfl
    refine ⟨_, _, hD69, ?_⟩
    clear hD69
    rw [if_neg (show ¬ ((1 : Int) = 0) by first | omega | (simp [upS, hz, za1, z1a1, ca1, za2, z1a2, ca2, E900]; done) | (simp [upS, hz, za1, z1a1, ca1, za2, z1a2, ca2, E900]; omega))]
    have hD72 : Dd 276 [(.inr (.inr (some 682))), (.inl a1), (.inl a2)] (upS S900 682 0 0) (.inl none, (upS (upS (upS S900 682 0 0) 682 12 0) 682 13 0)) := by
      refine b276 ?_
      refine ⟨(show -2147483648 ≤ (16 * a1) ∧ (16 * a1) ≤ 2147483647 by first | omega | (simp [upS, hz, za1, z1a1, ca1, za2, z1a2, ca2, E900]; done) | (simp [upS, hz, za1, z1a1, ca1, za2, z1a2, ca2, E900]; omega)), ?_⟩
      refine ⟨(show 0 ≤ a1 ∧ a1 < 4 by first | omega | (simp [upS, hz, za1, z1a1, ca1, za2, z1a2, ca2, E900]; done) | (simp [upS, hz, za1, z1a1, ca1, za2, z1a2, ca2, E900]; omega)), ?_⟩
      rw [show ((upS S900 682 0 0) 684 (a1).toNat) = 0 by (first | omega | (simp [upS, hz, za1, z1a1, ca1, za2, z1a2, ca2, E900]; done) | (simp [upS, hz, za1, z1a1, ca1, za2, z1a2, ca2, E900]; omega))]
      have hD70 : Dd 263 [(.inr (.inr (some 682))), (.inr (.inr (some 683))), (.inl (16 * a1)), (.inl 0)] (upS S900 682 0 0) (.inl none, (upS (upS S900 682 0 0) 682 12 0)) := by
        refine b263 ?_
        refine b263_8 (show qA 683 0 64 = true by decide +kernel) ?_
        rw [if_neg (show ¬ ((0 : Int) < 0) by first | omega | (simp [upS, hz, za1, z1a1, ca1, za2, z1a2, ca2, E900]; done) | (simp [upS, hz, za1, z1a1, ca1, za2, z1a2, ca2, E900]; omega))]
        all_goals rfl
      refine ⟨_, hD70, ?_⟩
      clear hD70
      refine ⟨(show -2147483648 ≤ (16 * a2) ∧ (16 * a2) ≤ 2147483647 by first | omega | (simp [upS, hz, za1, z1a1, ca1, za2, z1a2, ca2, E900]; done) | (simp [upS, hz, za1, z1a1, ca1, za2, z1a2, ca2, E900]; omega)), ?_⟩
      refine ⟨(show 0 ≤ a2 ∧ a2 < 4 by first | omega | (simp [upS, hz, za1, z1a1, ca1, za2, z1a2, ca2, E900]; done) | (simp [upS, hz, za1, z1a1, ca1, za2, z1a2, ca2, E900]; omega)), ?_⟩
      rw [show ((upS (upS S900 682 0 0) 682 12 0) 684 (a2).toNat) = 0 by (first | omega | (simp [upS, hz, za1, z1a1, ca1, za2, z1a2, ca2, E900]; done) | (simp [upS, hz, za1, z1a1, ca1, za2, z1a2, ca2, E900]; omega))]
      have hD71 : Dd 264 [(.inr (.inr (some 682))), (.inr (.inr (some 683))), (.inl (16 * a2)), (.inl 0)] (upS (upS S900 682 0 0) 682 12 0) (.inl none, (upS (upS (upS S900 682 0 0) 682 12 0) 682 13 0)) := by
        refine b264 ?_
        refine b264_8 (show qA 683 0 64 = true by decide +kernel) ?_
        rw [if_neg (show ¬ ((0 : Int) < 0) by first | omega | (simp [upS, hz, za1, z1a1, ca1, za2, z1a2, ca2, E900]; done) | (simp [upS, hz, za1, z1a1, ca1, za2, z1a2, ca2, E900]; omega))]
        all_goals rfl
      refine ⟨_, hD71, ?_⟩
      clear hD71
      all_goals rfl
    refine ⟨_, hD72, ?_⟩
    clear hD72
    rw [show ((upS (upS (upS S900 682 0 0) 682 12 0) 682 13 0) 682 3) = 0 by (first | omega | (simp [upS, hz, za1, z1a1, ca1, za2, z1a2, ca2, E900]; done) | (simp [upS, hz, za1, z1a1, ca1, za2, z1a2, ca2, E900]; omega))]
    have hD86 : Dd 287 [(.inr (.inr (some 682))), (.inl 0), (.inl a3)] (upS (upS (upS S900 682 0 0) 682 12 0) 682 13 0) (.inl none, (upS (upS (upS (upS (upS (upS (upS (upS (upS (upS (upS (upS (upS (upS (upS (upS (upS (upS S900 682 0 0) 682 12 0) 682 13 0) 682 22 0) 696 0 0) 696 1 0) 696 2 0) 696 3 0) 682 22 1) 682 22 0) 682 17 0) 682 18 0) 682 19 0) 682 20 0) 694 0 0) 688 0 0) 689 0 0) 704 0 0)) := by
      refine b287 ?_
      have hD83 : Dd 274 [(.inr (.inr (some 682))), (.inl a3)] (upS (upS (upS S900 682 0 0) 682 12 0) 682 13 0) (.inl (some (.inl 0)), (upS (upS (upS (upS (upS (upS (upS (upS (upS (upS (upS (upS (upS (upS (upS S900 682 0 0) 682 12 0) 682 13 0) 682 22 0) 696 0 0) 696 1 0) 696 2 0) 696 3 0) 682 22 1) 682 22 0) 682 17 0) 682 18 0) 682 19 0) 682 20 0) 694 0 0)) := by
        refine b274 ?_
        refine b274_2 ?_
        rw [if_neg (show ¬ ((0 : Int) < ((upS (upS (upS S900 682 0 0) 682 12 0) 682 13 0) 682 12)) by first | omega | (simp [upS, hz, za1, z1a1, ca1, za2, z1a2, ca2, E900]; done) | (simp [upS, hz, za1, z1a1, ca1, za2, z1a2, ca2, E900]; omega))]
        rw [show ((upS (upS (upS (upS S900 682 0 0) 682 12 0) 682 13 0) 682 22 0) 682 12) = 0 by (first | omega | (simp [upS, hz, za1, z1a1, ca1, za2, z1a2, ca2, E900]; done) | (simp [upS, hz, za1, z1a1, ca1, za2, z1a2, ca2, E900]; omega))]
        rw [show ((upS (upS (upS (upS S900 682 0 0) 682 12 0) 682 13 0) 682 22 0) 682 13) = 0 by (first | omega | (simp [upS, hz, za1, z1a1, ca1, za2, z1a2, ca2, E900]; done) | (simp [upS, hz, za1, z1a1, ca1, za2, z1a2, ca2, E900]; omega))]
        have hD73 : Dd 267 [(.inr (.inr (some 682))), (.inl 0), (.inl 0), (.inl 0), (.inl 0)] (upS (upS (upS (upS S900 682 0 0) 682 12 0) 682 13 0) 682 22 0) (.inl none, (upS (upS (upS (upS (upS (upS (upS (upS (upS S900 682 0 0) 682 12 0) 682 13 0) 682 22 0) 696 0 0) 696 1 0) 696 2 0) 696 3 0) 682 22 1)) := by
          refine b267 ?_
          refine ⟨(show -2147483648 ≤ (4 * ((upS (upS (upS (upS S900 682 0 0) 682 12 0) 682 13 0) 682 22 0) 682 22)) ∧ (4 * ((upS (upS (upS (upS S900 682 0 0) 682 12 0) 682 13 0) 682 22 0) 682 22)) ≤ 2147483647 by first | omega | (simp [upS, hz, za1, z1a1, ca1, za2, z1a2, ca2, E900]; done) | (simp [upS, hz, za1, z1a1, ca1, za2, z1a2, ca2, E900]; omega)), ?_⟩
          refine ⟨(show 0 ≤ (4 * ((upS (upS (upS (upS S900 682 0 0) 682 12 0) 682 13 0) 682 22 0) 682 22)) ∧ (4 * ((upS (upS (upS (upS S900 682 0 0) 682 12 0) 682 13 0) 682 22 0) 682 22)) < 512 by first | omega | (simp [upS, hz, za1, z1a1, ca1, za2, z1a2, ca2, E900]; done) | (simp [upS, hz, za1, z1a1, ca1, za2, z1a2, ca2, E900]; omega)), ?_⟩
          refine ⟨(show -2147483648 ≤ (4 * ((upS (upS (upS (upS (upS S900 682 0 0) 682 12 0) 682 13 0) 682 22 0) 696 (((4 * ((upS (upS (upS (upS S900 682 0 0) 682 12 0) 682 13 0) 682 22 0) 682 22))).toNat) 0) 682 22)) ∧ (4 * ((upS (upS (upS (upS (upS S900 682 0 0) 682 12 0) 682 13 0) 682 22 0) 696 (((4 * ((upS (upS (upS (upS S900 682 0 0) 682 12 0) 682 13 0) 682 22 0) 682 22))).toNat) 0) 682 22)) ≤ 2147483647 by first | omega | (simp [upS, hz, za1, z1a1, ca1, za2, z1a2, ca2, E900]; done) | (simp [upS, hz, za1, z1a1, ca1, za2, z1a2, ca2, E900]; omega)), ?_⟩
          refine ⟨(show -2147483648 ≤ ((4 * ((upS (upS (upS (upS (upS S900 682 0 0) 682 12 0) 682 13 0) 682 22 0) 696 (((4 * ((upS (upS (upS (upS S900 682 0 0) 682 12 0) 682 13 0) 682 22 0) 682 22))).toNat) 0) 682 22)) + 1) ∧ ((4 * ((upS (upS (upS (upS (upS S900 682 0 0) 682 12 0) 682 13 0) 682 22 0) 696 (((4 * ((upS (upS (upS (upS S900 682 0 0) 682 12 0) 682 13 0) 682 22 0) 682 22))).toNat) 0) 682 22)) + 1) ≤ 2147483647 by first | omega | (simp [upS, hz, za1, z1a1, ca1, za2, z1a2, ca2, E900]; done) | (simp [upS, hz, za1, z1a1, ca1, za2, z1a2, ca2, E900]; omega)), ?_⟩
          refine ⟨(show 0 ≤ ((4 * ((upS (upS (upS (upS (upS S900 682 0 0) 682 12 0) 682 13 0) 682 22 0) 696 (((4 * ((upS (upS (upS (upS S900 682 0 0) 682 12 0) 682 13 0) 682 22 0) 682 22))).toNat) 0) 682 22)) + 1) ∧ ((4 * ((upS (upS (upS (upS (upS S900 682 0 0) 682 12 0) 682 13 0) 682 22 0) 696 (((4 * ((upS (upS (upS (upS S900 682 0 0) 682 12 0) 682 13 0) 682 22 0) 682 22))).toNat) 0) 682 22)) + 1) < 512 by first | omega | (simp [upS, hz, za1, z1a1, ca1, za2, z1a2, ca2, E900]; done) | (simp [upS, hz, za1, z1a1, ca1, za2, z1a2, ca2, E900]; omega)), ?_⟩
          refine ⟨(show -2147483648 ≤ (4 * ((upS (upS (upS (upS (upS (upS S900 682 0 0) 682 12 0) 682 13 0) 682 22 0) 696 (((4 * ((upS (upS (upS (upS S900 682 0 0) 682 12 0) 682 13 0) 682 22 0) 682 22))).toNat) 0) 696 ((((4 * ((upS (upS (upS (upS (upS S900 682 0 0) 682 12 0) 682 13 0) 682 22 0) 696 (((4 * ((upS (upS (upS (upS S900 682 0 0) 682 12 0) 682 13 0) 682 22 0) 682 22))).toNat) 0) 682 22)) + 1)).toNat) 0) 682 22)) ∧ (4 * ((upS (upS (upS (upS (upS (upS S900 682 0 0) 682 12 0) 682 13 0) 682 22 0) 696 (((4 * ((upS (upS (upS (upS S900 682 0 0) 682 12 0) 682 13 0) 682 22 0) 682 22))).toNat) 0) 696 ((((4 * ((upS (upS (upS (upS (upS S900 682 0 0) 682 12 0) 682 13 0) 682 22 0) 696 (((4 * ((upS (upS (upS (upS S900 682 0 0) 682 12 0) 682 13 0) 682 22 0) 682 22))).toNat) 0) 682 22)) + 1)).toNat) 0) 682 22)) ≤ 2147483647 by first | omega | (simp [upS, hz, za1, z1a1, ca1, za2, z1a2, ca2, E900]; done) | (simp [upS, hz, za1, z1a1, ca1, za2, z1a2, ca2, E900]; omega)), ?_⟩
          refine ⟨(show -2147483648 ≤ ((4 * ((upS (upS (upS (upS (upS (upS S900 682 0 0) 682 12 0) 682 13 0) 682 22 0) 696 (((4 * ((upS (upS (upS (upS S900 682 0 0) 682 12 0) 682 13 0) 682 22 0) 682 22))).toNat) 0) 696 ((((4 * ((upS (upS (upS (upS (upS S900 682 0 0) 682 12 0) 682 13 0) 682 22 0) 696 (((4 * ((upS (upS (upS (upS S900 682 0 0) 682 12 0) 682 13 0) 682 22 0) 682 22))).toNat) 0) 682 22)) + 1)).toNat) 0) 682 22)) + 2) ∧ ((4 * ((upS (upS (upS (upS (upS (upS S900 682 0 0) 682 12 0) 682 13 0) 682 22 0) 696 (((4 * ((upS (upS (upS (upS S900 682 0 0) 682 12 0) 682 13 0) 682 22 0) 682 22))).toNat) 0) 696 ((((4 * ((upS (upS (upS (upS (upS S900 682 0 0) 682 12 0) 682 13 0) 682 22 0) 696 (((4 * ((upS (upS (upS (upS S900 682 0 0) 682 12 0) 682 13 0) 682 22 0) 682 22))).toNat) 0) 682 22)) + 1)).toNat) 0) 682 22)) + 2) ≤ 2147483647 by first | omega | (simp [upS, hz, za1, z1a1, ca1, za2, z1a2, ca2, E900]; done) | (simp [upS, hz, za1, z1a1, ca1, za2, z1a2, ca2, E900]; omega)), ?_⟩
          refine ⟨(show 0 ≤ ((4 * ((upS (upS (upS (upS (upS (upS S900 682 0 0) 682 12 0) 682 13 0) 682 22 0) 696 (((4 * ((upS (upS (upS (upS S900 682 0 0) 682 12 0) 682 13 0) 682 22 0) 682 22))).toNat) 0) 696 ((((4 * ((upS (upS (upS (upS (upS S900 682 0 0) 682 12 0) 682 13 0) 682 22 0) 696 (((4 * ((upS (upS (upS (upS S900 682 0 0) 682 12 0) 682 13 0) 682 22 0) 682 22))).toNat) 0) 682 22)) + 1)).toNat) 0) 682 22)) + 2) ∧ ((4 * ((upS (upS (upS (upS (upS (upS S900 682 0 0) 682 12 0) 682 13 0) 682 22 0) 696 (((4 * ((upS (upS (upS (upS S900 682 0 0) 682 12 0) 682 13 0) 682 22 0) 682 22))).toNat) 0) 696 ((((4 * ((upS (upS (upS (upS (upS S900 682 0 0) 682 12 0) 682 13 0) 682 22 0) 696 (((4 * ((upS (upS (upS (upS S900 682 0 0) 682 12 0) 682 13 0) 682 22 0) 682 22))).toNat) 0) 682 22)) + 1)).toNat) 0) 682 22)) + 2) < 512 by first | omega | (simp [upS, hz, za1, z1a1, ca1, za2, z1a2, ca2, E900]; done) | (simp [upS, hz, za1, z1a1, ca1, za2, z1a2, ca2, E900]; omega)), ?_⟩
          refine ⟨(show -2147483648 ≤ (4 * ((upS (upS (upS (upS (upS (upS (upS S900 682 0 0) 682 12 0) 682 13 0) 682 22 0) 696 (((4 * ((upS (upS (upS (upS S900 682 0 0) 682 12 0) 682 13 0) 682 22 0) 682 22))).toNat) 0) 696 ((((4 * ((upS (upS (upS (upS (upS S900 682 0 0) 682 12 0) 682 13 0) 682 22 0) 696 (((4 * ((upS (upS (upS (upS S900 682 0 0) 682 12 0) 682 13 0) 682 22 0) 682 22))).toNat) 0) 682 22)) + 1)).toNat) 0) 696 ((((4 * ((upS (upS (upS (upS (upS (upS S900 682 0 0) 682 12 0) 682 13 0) 682 22 0) 696 (((4 * ((upS (upS (upS (upS S900 682 0 0) 682 12 0) 682 13 0) 682 22 0) 682 22))).toNat) 0) 696 ((((4 * ((upS (upS (upS (upS (upS S900 682 0 0) 682 12 0) 682 13 0) 682 22 0) 696 (((4 * ((upS (upS (upS (upS S900 682 0 0) 682 12 0) 682 13 0) 682 22 0) 682 22))).toNat) 0) 682 22)) + 1)).toNat) 0) 682 22)) + 2)).toNat) 0) 682 22)) ∧ (4 * ((upS (upS (upS (upS (upS (upS (upS S900 682 0 0) 682 12 0) 682 13 0) 682 22 0) 696 (((4 * ((upS (upS (upS (upS S900 682 0 0) 682 12 0) 682 13 0) 682 22 0) 682 22))).toNat) 0) 696 ((((4 * ((upS (upS (upS (upS (upS S900 682 0 0) 682 12 0) 682 13 0) 682 22 0) 696 (((4 * ((upS (upS (upS (upS S900 682 0 0) 682 12 0) 682 13 0) 682 22 0) 682 22))).toNat) 0) 682 22)) + 1)).toNat) 0) 696 ((((4 * ((upS (upS (upS (upS (upS (upS S900 682 0 0) 682 12 0) 682 13 0) 682 22 0) 696 (((4 * ((upS (upS (upS (upS S900 682 0 0) 682 12 0) 682 13 0) 682 22 0) 682 22))).toNat) 0) 696 ((((4 * ((upS (upS (upS (upS (upS S900 682 0 0) 682 12 0) 682 13 0) 682 22 0) 696 (((4 * ((upS (upS (upS (upS S900 682 0 0) 682 12 0) 682 13 0) 682 22 0) 682 22))).toNat) 0) 682 22)) + 1)).toNat) 0) 682 22)) + 2)).toNat) 0) 682 22)) ≤ 2147483647 by first | omega | (simp [upS, hz, za1, z1a1, ca1, za2, z1a2, ca2, E900]; done) | (simp [upS, hz, za1, z1a1, ca1, za2, z1a2, ca2, E900]; omega)), ?_⟩
          refine ⟨(show -2147483648 ≤ ((4 * ((upS (upS (upS (upS (upS (upS (upS S900 682 0 0) 682 12 0) 682 13 0) 682 22 0) 696 (((4 * ((upS (upS (upS (upS S900 682 0 0) 682 12 0) 682 13 0) 682 22 0) 682 22))).toNat) 0) 696 ((((4 * ((upS (upS (upS (upS (upS S900 682 0 0) 682 12 0) 682 13 0) 682 22 0) 696 (((4 * ((upS (upS (upS (upS S900 682 0 0) 682 12 0) 682 13 0) 682 22 0) 682 22))).toNat) 0) 682 22)) + 1)).toNat) 0) 696 ((((4 * ((upS (upS (upS (upS (upS (upS S900 682 0 0) 682 12 0) 682 13 0) 682 22 0) 696 (((4 * ((upS (upS (upS (upS S900 682 0 0) 682 12 0) 682 13 0) 682 22 0) 682 22))).toNat) 0) 696 ((((4 * ((upS (upS (upS (upS (upS S900 682 0 0) 682 12 0) 682 13 0) 682 22 0) 696 (((4 * ((upS (upS (upS (upS S900 682 0 0) 682 12 0) 682 13 0) 682 22 0) 682 22))).toNat) 0) 682 22)) + 1)).toNat) 0) 682 22)) + 2)).toNat) 0) 682 22)) + 3) ∧ ((4 * ((upS (upS (upS (upS (upS (upS (upS S900 682 0 0) 682 12 0) 682 13 0) 682 22 0) 696 (((4 * ((upS (upS (upS (upS S900 682 0 0) 682 12 0) 682 13 0) 682 22 0) 682 22))).toNat) 0) 696 ((((4 * ((upS (upS (upS (upS (upS S900 682 0 0) 682 12 0) 682 13 0) 682 22 0) 696 (((4 * ((upS (upS (upS (upS S900 682 0 0) 682 12 0) 682 13 0) 682 22 0) 682 22))).toNat) 0) 682 22)) + 1)).toNat) 0) 696 ((((4 * ((upS (upS (upS (upS (upS (upS S900 682 0 0) 682 12 0) 682 13 0) 682 22 0) 696 (((4 * ((upS (upS (upS (upS S900 682 0 0) 682 12 0) 682 13 0) 682 22 0) 682 22))).toNat) 0) 696 ((((4 * ((upS (upS (upS (upS (upS S900 682 0 0) 682 12 0) 682 13 0) 682 22 0) 696 (((4 * ((upS (upS (upS (upS S900 682 0 0) 682 12 0) 682 13 0) 682 22 0) 682 22))).toNat) 0) 682 22)) + 1)).toNat) 0) 682 22)) + 2)).toNat) 0) 682 22)) + 3) ≤ 2147483647 by first | omega | (simp [upS, hz, za1, z1a1, ca1, za2, z1a2, ca2, E900]; done) | (simp [upS, hz, za1, z1a1, ca1, za2, z1a2, ca2, E900]; omega)), ?_⟩
          refine ⟨(show 0 ≤ ((4 * ((upS (upS (upS (upS (upS (upS (upS S900 682 0 0) 682 12 0) 682 13 0) 682 22 0) 696 (((4 * ((upS (upS (upS (upS S900 682 0 0) 682 12 0) 682 13 0) 682 22 0) 682 22))).toNat) 0) 696 ((((4 * ((upS (upS (upS (upS (upS S900 682 0 0) 682 12 0) 682 13 0) 682 22 0) 696 (((4 * ((upS (upS (upS (upS S900 682 0 0) 682 12 0) 682 13 0) 682 22 0) 682 22))).toNat) 0) 682 22)) + 1)).toNat) 0) 696 ((((4 * ((upS (upS (upS (upS (upS (upS S900 682 0 0) 682 12 0) 682 13 0) 682 22 0) 696 (((4 * ((upS (upS (upS (upS S900 682 0 0) 682 12 0) 682 13 0) 682 22 0) 682 22))).toNat) 0) 696 ((((4 * ((upS (upS (upS (upS (upS S900 682 0 0) 682 12 0) 682 13 0) 682 22 0) 696 (((4 * ((upS (upS (upS (upS S900 682 0 0) 682 12 0) 682 13 0) 682 22 0) 682 22))).toNat) 0) 682 22)) + 1)).toNat) 0) 682 22)) + 2)).toNat) 0) 682 22)) + 3) ∧ ((4 * ((upS (upS (upS (upS (upS (upS (upS S900 682 0 0) 682 12 0) 682 13 0) 682 22 0) 696 (((4 * ((upS (upS (upS (upS S900 682 0 0) 682 12 0) 682 13 0) 682 22 0) 682 22))).toNat) 0) 696 ((((4 * ((upS (upS (upS (upS (upS S900 682 0 0) 682 12 0) 682 13 0) 682 22 0) 696 (((4 * ((upS (upS (upS (upS S900 682 0 0) 682 12 0) 682 13 0) 682 22 0) 682 22))).toNat) 0) 682 22)) + 1)).toNat) 0) 696 ((((4 * ((upS (upS (upS (upS (upS (upS S900 682 0 0) 682 12 0) 682 13 0) 682 22 0) 696 (((4 * ((upS (upS (upS (upS S900 682 0 0) 682 12 0) 682 13 0) 682 22 0) 682 22))).toNat) 0) 696 ((((4 * ((upS (upS (upS (upS (upS S900 682 0 0) 682 12 0) 682 13 0) 682 22 0) 696 (((4 * ((upS (upS (upS (upS S900 682 0 0) 682 12 0) 682 13 0) 682 22 0) 682 22))).toNat) 0) 682 22)) + 1)).toNat) 0) 682 22)) + 2)).toNat) 0) 682 22)) + 3) < 512 by first | omega | (simp [upS, hz, za1, z1a1, ca1, za2, z1a2, ca2, E900]; done) | (simp [upS, hz, za1, z1a1, ca1, za2, z1a2, ca2, E900]; omega)), ?_⟩
          refine ⟨(show -2147483648 ≤ (((upS (upS (upS (upS (upS (upS (upS (upS S900 682 0 0) 682 12 0) 682 13 0) 682 22 0) 696 (((4 * ((upS (upS (upS (upS S900 682 0 0) 682 12 0) 682 13 0) 682 22 0) 682 22))).toNat) 0) 696 ((((4 * ((upS (upS (upS (upS (upS S900 682 0 0) 682 12 0) 682 13 0) 682 22 0) 696 (((4 * ((upS (upS (upS (upS S900 682 0 0) 682 12 0) 682 13 0) 682 22 0) 682 22))).toNat) 0) 682 22)) + 1)).toNat) 0) 696 ((((4 * ((upS (upS (upS (upS (upS (upS S900 682 0 0) 682 12 0) 682 13 0) 682 22 0) 696 (((4 * ((upS (upS (upS (upS S900 682 0 0) 682 12 0) 682 13 0) 682 22 0) 682 22))).toNat) 0) 696 ((((4 * ((upS (upS (upS (upS (upS S900 682 0 0) 682 12 0) 682 13 0) 682 22 0) 696 (((4 * ((upS (upS (upS (upS S900 682 0 0) 682 12 0) 682 13 0) 682 22 0) 682 22))).toNat) 0) 682 22)) + 1)).toNat) 0) 682 22)) + 2)).toNat) 0) 696 ((((4 * ((upS (upS (upS (upS (upS (upS (upS S900 682 0 0) 682 12 0) 682 13 0) 682 22 0) 696 (((4 * ((upS (upS (upS (upS S900 682 0 0) 682 12 0) 682 13 0) 682 22 0) 682 22))).toNat) 0) 696 ((((4 * ((upS (upS (upS (upS (upS S900 682 0 0) 682 12 0) 682 13 0) 682 22 0) 696 (((4 * ((upS (upS (upS (upS S900 682 0 0) 682 12 0) 682 13 0) 682 22 0) 682 22))).toNat) 0) 682 22)) + 1)).toNat) 0) 696 ((((4 * ((upS (upS (upS (upS (upS (upS S900 682 0 0) 682 12 0) 682 13 0) 682 22 0) 696 (((4 * ((upS (upS (upS (upS S900 682 0 0) 682 12 0) 682 13 0) 682 22 0) 682 22))).toNat) 0) 696 ((((4 * ((upS (upS (upS (upS (upS S900 682 0 0) 682 12 0) 682 13 0) 682 22 0) 696 (((4 * ((upS (upS (upS (upS S900 682 0 0) 682 12 0) 682 13 0) 682 22 0) 682 22))).toNat) 0) 682 22)) + 1)).toNat) 0) 682 22)) + 2)).toNat) 0) 682 22)) + 3)).toNat) 0) 682 22) + 1) ∧ (((upS (upS (upS (upS (upS (upS (upS (upS S900 682 0 0) 682 12 0) 682 13 0) 682 22 0) 696 (((4 * ((upS (upS (upS (upS S900 682 0 0) 682 12 0) 682 13 0) 682 22 0) 682 22))).toNat) 0) 696 ((((4 * ((upS (upS (upS (upS (upS S900 682 0 0) 682 12 0) 682 13 0) 682 22 0) 696 (((4 * ((upS (upS (upS (upS S900 682 0 0) 682 12 0) 682 13 0) 682 22 0) 682 22))).toNat) 0) 682 22)) + 1)).toNat) 0) 696 ((((4 * ((upS (upS (upS (upS (upS (upS S900 682 0 0) 682 12 0) 682 13 0) 682 22 0) 696 (((4 * ((upS (upS (upS (upS S900 682 0 0) 682 12 0) 682 13 0) 682 22 0) 682 22))).toNat) 0) 696 ((((4 * ((upS (upS (upS (upS (upS S900 682 0 0) 682 12 0) 682 13 0) 682 22 0) 696 (((4 * ((upS (upS (upS (upS S900 682 0 0) 682 12 0) 682 13 0) 682 22 0) 682 22))).toNat) 0) 682 22)) + 1)).toNat) 0) 682 22)) + 2)).toNat) 0) 696 ((((4 * ((upS (upS (upS (upS (upS (upS (upS S900 682 0 0) 682 12 0) 682 13 0) 682 22 0) 696 (((4 * ((upS (upS (upS (upS S900 682 0 0) 682 12 0) 682 13 0) 682 22 0) 682 22))).toNat) 0) 696 ((((4 * ((upS (upS (upS (upS (upS S900 682 0 0) 682 12 0) 682 13 0) 682 22 0) 696 (((4 * ((upS (upS (upS (upS S900 682 0 0) 682 12 0) 682 13 0) 682 22 0) 682 22))).toNat) 0) 682 22)) + 1)).toNat) 0) 696 ((((4 * ((upS (upS (upS (upS (upS (upS S900 682 0 0) 682 12 0) 682 13 0) 682 22 0) 696 (((4 * ((upS (upS (upS (upS S900 682 0 0) 682 12 0) 682 13 0) 682 22 0) 682 22))).toNat) 0) 696 ((((4 * ((upS (upS (upS (upS (upS S900 682 0 0) 682 12 0) 682 13 0) 682 22 0) 696 (((4 * ((upS (upS (upS (upS S900 682 0 0) 682 12 0) 682 13 0) 682 22 0) 682 22))).toNat) 0) 682 22)) + 1)).toNat) 0) 682 22)) + 2)).toNat) 0) 682 22)) + 3)).toNat) 0) 682 22) + 1) ≤ 2147483647 by first | omega | (simp [upS, hz, za1, z1a1, ca1, za2, z1a2, ca2, E900]; done) | (simp [upS, hz, za1, z1a1, ca1, za2, z1a2, ca2, E900]; omega)), ?_⟩
          rw [(show (upS (upS (upS (upS (upS (upS (upS (upS (upS S900 682 0 0) 682 12 0) 682 13 0) 682 22 0) 696 (((4 * ((upS (upS (upS (upS S900 682 0 0) 682 12 0) 682 13 0) 682 22 0) 682 22))).toNat) 0) 696 ((((4 * ((upS (upS (upS (upS (upS S900 682 0 0) 682 12 0) 682 13 0) 682 22 0) 696 (((4 * ((upS (upS (upS (upS S900 682 0 0) 682 12 0) 682 13 0) 682 22 0) 682 22))).toNat) 0) 682 22)) + 1)).toNat) 0) 696 ((((4 * ((upS (upS (upS (upS (upS (upS S900 682 0 0) 682 12 0) 682 13 0) 682 22 0) 696 (((4 * ((upS (upS (upS (upS S900 682 0 0) 682 12 0) 682 13 0) 682 22 0) 682 22))).toNat) 0) 696 ((((4 * ((upS (upS (upS (upS (upS S900 682 0 0) 682 12 0) 682 13 0) 682 22 0) 696 (((4 * ((upS (upS (upS (upS S900 682 0 0) 682 12 0) 682 13 0) 682 22 0) 682 22))).toNat) 0) 682 22)) + 1)).toNat) 0) 682 22)) + 2)).toNat) 0) 696 ((((4 * ((upS (upS (upS (upS (upS (upS (upS S900 682 0 0) 682 12 0) 682 13 0) 682 22 0) 696 (((4 * ((upS (upS (upS (upS S900 682 0 0) 682 12 0) 682 13 0) 682 22 0) 682 22))).toNat) 0) 696 ((((4 * ((upS (upS (upS (upS (upS S900 682 0 0) 682 12 0) 682 13 0) 682 22 0) 696 (((4 * ((upS (upS (upS (upS S900 682 0 0) 682 12 0) 682 13 0) 682 22 0) 682 22))).toNat) 0) 682 22)) + 1)).toNat) 0) 696 ((((4 * ((upS (upS (upS (upS (upS (upS S900 682 0 0) 682 12 0) 682 13 0) 682 22 0) 696 (((4 * ((upS (upS (upS (upS S900 682 0 0) 682 12 0) 682 13 0) 682 22 0) 682 22))).toNat) 0) 696 ((((4 * ((upS (upS (upS (upS (upS S900 682 0 0) 682 12 0) 682 13 0) 682 22 0) 696 (((4 * ((upS (upS (upS (upS S900 682 0 0) 682 12 0) 682 13 0) 682 22 0) 682 22))).toNat) 0) 682 22)) + 1)).toNat) 0) 682 22)) + 2)).toNat) 0) 682 22)) + 3)).toNat) 0) 682 22 (((upS (upS (upS (upS (upS (upS (upS (upS S900 682 0 0) 682 12 0) 682 13 0) 682 22 0) 696 (((4 * ((upS (upS (upS (upS S900 682 0 0) 682 12 0) 682 13 0) 682 22 0) 682 22))).toNat) 0) 696 ((((4 * ((upS (upS (upS (upS (upS S900 682 0 0) 682 12 0) 682 13 0) 682 22 0) 696 (((4 * ((upS (upS (upS (upS S900 682 0 0) 682 12 0) 682 13 0) 682 22 0) 682 22))).toNat) 0) 682 22)) + 1)).toNat) 0) 696 ((((4 * ((upS (upS (upS (upS (upS (upS S900 682 0 0) 682 12 0) 682 13 0) 682 22 0) 696 (((4 * ((upS (upS (upS (upS S900 682 0 0) 682 12 0) 682 13 0) 682 22 0) 682 22))).toNat) 0) 696 ((((4 * ((upS (upS (upS (upS (upS S900 682 0 0) 682 12 0) 682 13 0) 682 22 0) 696 (((4 * ((upS (upS (upS (upS S900 682 0 0) 682 12 0) 682 13 0) 682 22 0) 682 22))).toNat) 0) 682 22)) + 1)).toNat) 0) 682 22)) + 2)).toNat) 0) 696 ((((4 * ((upS (upS (upS (upS (upS (upS (upS S900 682 0 0) 682 12 0) 682 13 0) 682 22 0) 696 (((4 * ((upS (upS (upS (upS S900 682 0 0) 682 12 0) 682 13 0) 682 22 0) 682 22))).toNat) 0) 696 ((((4 * ((upS (upS (upS (upS (upS S900 682 0 0) 682 12 0) 682 13 0) 682 22 0) 696 (((4 * ((upS (upS (upS (upS S900 682 0 0) 682 12 0) 682 13 0) 682 22 0) 682 22))).toNat) 0) 682 22)) + 1)).toNat) 0) 696 ((((4 * ((upS (upS (upS (upS (upS (upS S900 682 0 0) 682 12 0) 682 13 0) 682 22 0) 696 (((4 * ((upS (upS (upS (upS S900 682 0 0) 682 12 0) 682 13 0) 682 22 0) 682 22))).toNat) 0) 696 ((((4 * ((upS (upS (upS (upS (upS S900 682 0 0) 682 12 0) 682 13 0) 682 22 0) 696 (((4 * ((upS (upS (upS (upS S900 682 0 0) 682 12 0) 682 13 0) 682 22 0) 682 22))).toNat) 0) 682 22)) + 1)).toNat) 0) 682 22)) + 2)).toNat) 0) 682 22)) + 3)).toNat) 0) 682 22) + 1)) = (upS (upS (upS (upS (upS (upS (upS (upS (upS S900 682 0 0) 682 12 0) 682 13 0) 682 22 0) 696 0 0) 696 1 0) 696 2 0) 696 3 0) 682 22 1) from by rw [show (((upS (upS (upS (upS (upS (upS (upS (upS S900 682 0 0) 682 12 0) 682 13 0) 682 22 0) 696 (((4 * ((upS (upS (upS (upS S900 682 0 0) 682 12 0) 682 13 0) 682 22 0) 682 22))).toNat) 0) 696 ((((4 * ((upS (upS (upS (upS (upS S900 682 0 0) 682 12 0) 682 13 0) 682 22 0) 696 (((4 * ((upS (upS (upS (upS S900 682 0 0) 682 12 0) 682 13 0) 682 22 0) 682 22))).toNat) 0) 682 22)) + 1)).toNat) 0) 696 ((((4 * ((upS (upS (upS (upS (upS (upS S900 682 0 0) 682 12 0) 682 13 0) 682 22 0) 696 (((4 * ((upS (upS (upS (upS S900 682 0 0) 682 12 0) 682 13 0) 682 22 0) 682 22))).toNat) 0) 696 ((((4 * ((upS (upS (upS (upS (upS S900 682 0 0) 682 12 0) 682 13 0) 682 22 0) 696 (((4 * ((upS (upS (upS (upS S900 682 0 0) 682 12 0) 682 13 0) 682 22 0) 682 22))).toNat) 0) 682 22)) + 1)).toNat) 0) 682 22)) + 2)).toNat) 0) 696 ((((4 * ((upS (upS (upS (upS (upS (upS (upS S900 682 0 0) 682 12 0) 682 13 0) 682 22 0) 696 (((4 * ((upS (upS (upS (upS S900 682 0 0) 682 12 0) 682 13 0) 682 22 0) 682 22))).toNat) 0) 696 ((((4 * ((upS (upS (upS (upS (upS S900 682 0 0) 682 12 0) 682 13 0) 682 22 0) 696 (((4 * ((upS (upS (upS (upS S900 682 0 0) 682 12 0) 682 13 0) 682 22 0) 682 22))).toNat) 0) 682 22)) + 1)).toNat) 0) 696 ((((4 * ((upS (upS (upS (upS (upS (upS S900 682 0 0) 682 12 0) 682 13 0) 682 22 0) 696 (((4 * ((upS (upS (upS (upS S900 682 0 0) 682 12 0) 682 13 0) 682 22 0) 682 22))).toNat) 0) 696 ((((4 * ((upS (upS (upS (upS (upS S900 682 0 0) 682 12 0) 682 13 0) 682 22 0) 696 (((4 * ((upS (upS (upS (upS S900 682 0 0) 682 12 0) 682 13 0) 682 22 0) 682 22))).toNat) 0) 682 22)) + 1)).toNat) 0) 682 22)) + 2)).toNat) 0) 682 22)) + 3)).toNat) 0) 682 22) + 1) = 1 by (first | omega | (simp [upS, hz, za1, z1a1, ca1, za2, z1a2, ca2, E900]; done) | (simp [upS, hz, za1, z1a1, ca1, za2, z1a2, ca2, E900]; omega)), show ((((4 * ((upS (upS (upS (upS (upS (upS (upS S900 682 0 0) 682 12 0) 682 13 0) 682 22 0) 696 (((4 * ((upS (upS (upS (upS S900 682 0 0) 682 12 0) 682 13 0) 682 22 0) 682 22))).toNat) 0) 696 ((((4 * ((upS (upS (upS (upS (upS S900 682 0 0) 682 12 0) 682 13 0) 682 22 0) 696 (((4 * ((upS (upS (upS (upS S900 682 0 0) 682 12 0) 682 13 0) 682 22 0) 682 22))).toNat) 0) 682 22)) + 1)).toNat) 0) 696 ((((4 * ((upS (upS (upS (upS (upS (upS S900 682 0 0) 682 12 0) 682 13 0) 682 22 0) 696 (((4 * ((upS (upS (upS (upS S900 682 0 0) 682 12 0) 682 13 0) 682 22 0) 682 22))).toNat) 0) 696 ((((4 * ((upS (upS (upS (upS (upS S900 682 0 0) 682 12 0) 682 13 0) 682 22 0) 696 (((4 * ((upS (upS (upS (upS S900 682 0 0) 682 12 0) 682 13 0) 682 22 0) 682 22))).toNat) 0) 682 22)) + 1)).toNat) 0) 682 22)) + 2)).toNat) 0) 682 22)) + 3)).toNat) = 3 by (first | omega | (simp [upS, hz, za1, z1a1, ca1, za2, z1a2, ca2, E900]; done) | (simp [upS, hz, za1, z1a1, ca1, za2, z1a2, ca2, E900]; omega)), show ((((4 * ((upS (upS (upS (upS (upS (upS S900 682 0 0) 682 12 0) 682 13 0) 682 22 0) 696 (((4 * ((upS (upS (upS (upS S900 682 0 0) 682 12 0) 682 13 0) 682 22 0) 682 22))).toNat) 0) 696 ((((4 * ((upS (upS (upS (upS (upS S900 682 0 0) 682 12 0) 682 13 0) 682 22 0) 696 (((4 * ((upS (upS (upS (upS S900 682 0 0) 682 12 0) 682 13 0) 682 22 0) 682 22))).toNat) 0) 682 22)) + 1)).toNat) 0) 682 22)) + 2)).toNat) = 2 by (first | omega | (simp [upS, hz, za1, z1a1, ca1, za2, z1a2, ca2, E900]; done) | (simp [upS, hz, za1, z1a1, ca1, za2, z1a2, ca2, E900]; omega)), show ((((4 * ((upS (upS (upS (upS (upS S900 682 0 0) 682 12 0) 682 13 0) 682 22 0) 696 (((4 * ((upS (upS (upS (upS S900 682 0 0) 682 12 0) 682 13 0) 682 22 0) 682 22))).toNat) 0) 682 22)) + 1)).toNat) = 1 by (first | omega | (simp [upS, hz, za1, z1a1, ca1, za2, z1a2, ca2, E900]; done) | (simp [upS, hz, za1, z1a1, ca1, za2, z1a2, ca2, E900]; omega)), show (((4 * ((upS (upS (upS (upS S900 682 0 0) 682 12 0) 682 13 0) 682 22 0) 682 22))).toNat) = 0 by (first | omega | (simp [upS, hz, za1, z1a1, ca1, za2, z1a2, ca2, E900]; done) | (simp [upS, hz, za1, z1a1, ca1, za2, z1a2, ca2, E900]; omega))])]
          all_goals rfl
        obtain ⟨S74, E74⟩ : ∃ s : Sg, s = (upS (upS (upS (upS (upS (upS (upS (upS (upS S900 682 0 0) 682 12 0) 682 13 0) 682 22 0) 696 0 0) 696 1 0) 696 2 0) 696 3 0) 682 22 1) := ⟨_, rfl⟩
        rw [← E74] at hD73
        refine ⟨_, hD73, ?_⟩
        clear hD73
        refine b274_42 ?_
        rw [if_pos (show (0 : Int) < (S74 682 22) by first | omega | (simp [upS, hz, za1, z1a1, ca1, za2, z1a2, ca2, E900, E74]; done) | (simp [upS, hz, za1, z1a1, ca1, za2, z1a2, ca2, E900, E74]; omega))]
        refine ⟨(show -2147483648 ≤ ((S74 682 22) - 1) ∧ ((S74 682 22) - 1) ≤ 2147483647 by first | omega | (simp [upS, hz, za1, z1a1, ca1, za2, z1a2, ca2, E900, E74]; done) | (simp [upS, hz, za1, z1a1, ca1, za2, z1a2, ca2, E900, E74]; omega)), ?_⟩
        refine ⟨(show -2147483648 ≤ (4 * ((upS S74 682 22 ((S74 682 22) - 1)) 682 22)) ∧ (4 * ((upS S74 682 22 ((S74 682 22) - 1)) 682 22)) ≤ 2147483647 by first | omega | (simp [upS, hz, za1, z1a1, ca1, za2, z1a2, ca2, E900, E74]; done) | (simp [upS, hz, za1, z1a1, ca1, za2, z1a2, ca2, E900, E74]; omega)), ?_⟩
        refine ⟨(show 0 ≤ (4 * ((upS S74 682 22 ((S74 682 22) - 1)) 682 22)) ∧ (4 * ((upS S74 682 22 ((S74 682 22) - 1)) 682 22)) < 512 by first | omega | (simp [upS, hz, za1, z1a1, ca1, za2, z1a2, ca2, E900, E74]; done) | (simp [upS, hz, za1, z1a1, ca1, za2, z1a2, ca2, E900, E74]; omega)), ?_⟩
        refine ⟨(show -2147483648 ≤ (4 * ((upS (upS S74 682 22 ((S74 682 22) - 1)) 682 17 ((upS S74 682 22 ((S74 682 22) - 1)) 696 ((4 * ((upS S74 682 22 ((S74 682 22) - 1)) 682 22))).toNat)) 682 22)) ∧ (4 * ((upS (upS S74 682 22 ((S74 682 22) - 1)) 682 17 ((upS S74 682 22 ((S74 682 22) - 1)) 696 ((4 * ((upS S74 682 22 ((S74 682 22) - 1)) 682 22))).toNat)) 682 22)) ≤ 2147483647 by first | omega | (simp [upS, hz, za1, z1a1, ca1, za2, z1a2, ca2, E900, E74]; done) | (simp [upS, hz, za1, z1a1, ca1, za2, z1a2, ca2, E900, E74]; omega)), ?_⟩
        refine ⟨(show -2147483648 ≤ ((4 * ((upS (upS S74 682 22 ((S74 682 22) - 1)) 682 17 ((upS S74 682 22 ((S74 682 22) - 1)) 696 ((4 * ((upS S74 682 22 ((S74 682 22) - 1)) 682 22))).toNat)) 682 22)) + 1) ∧ ((4 * ((upS (upS S74 682 22 ((S74 682 22) - 1)) 682 17 ((upS S74 682 22 ((S74 682 22) - 1)) 696 ((4 * ((upS S74 682 22 ((S74 682 22) - 1)) 682 22))).toNat)) 682 22)) + 1) ≤ 2147483647 by first | omega | (simp [upS, hz, za1, z1a1, ca1, za2, z1a2, ca2, E900, E74]; done) | (simp [upS, hz, za1, z1a1, ca1, za2, z1a2, ca2, E900, E74]; omega)), ?_⟩
        refine ⟨(show 0 ≤ ((4 * ((upS (upS S74 682 22 ((S74 682 22) - 1)) 682 17 ((upS S74 682 22 ((S74 682 22) - 1)) 696 ((4 * ((upS S74 682 22 ((S74 682 22) - 1)) 682 22))).toNat)) 682 22)) + 1) ∧ ((4 * ((upS (upS S74 682 22 ((S74 682 22) - 1)) 682 17 ((upS S74 682 22 ((S74 682 22) - 1)) 696 ((4 * ((upS S74 682 22 ((S74 682 22) - 1)) 682 22))).toNat)) 682 22)) + 1) < 512 by first | omega | (simp [upS, hz, za1, z1a1, ca1, za2, z1a2, ca2, E900, E74]; done) | (simp [upS, hz, za1, z1a1, ca1, za2, z1a2, ca2, E900, E74]; omega)), ?_⟩
        refine ⟨(show -2147483648 ≤ (4 * ((upS (upS (upS S74 682 22 ((S74 682 22) - 1)) 682 17 ((upS S74 682 22 ((S74 682 22) - 1)) 696 ((4 * ((upS S74 682 22 ((S74 682 22) - 1)) 682 22))).toNat)) 682 18 ((upS (upS S74 682 22 ((S74 682 22) - 1)) 682 17 ((upS S74 682 22 ((S74 682 22) - 1)) 696 ((4 * ((upS S74 682 22 ((S74 682 22) - 1)) 682 22))).toNat)) 696 (((4 * ((upS (upS S74 682 22 ((S74 682 22) - 1)) 682 17 ((upS S74 682 22 ((S74 682 22) - 1)) 696 ((4 * ((upS S74 682 22 ((S74 682 22) - 1)) 682 22))).toNat)) 682 22)) + 1)).toNat)) 682 22)) ∧ (4 * ((upS (upS (upS S74 682 22 ((S74 682 22) - 1)) 682 17 ((upS S74 682 22 ((S74 682 22) - 1)) 696 ((4 * ((upS S74 682 22 ((S74 682 22) - 1)) 682 22))).toNat)) 682 18 ((upS (upS S74 682 22 ((S74 682 22) - 1)) 682 17 ((upS S74 682 22 ((S74 682 22) - 1)) 696 ((4 * ((upS S74 682 22 ((S74 682 22) - 1)) 682 22))).toNat)) 696 (((4 * ((upS (upS S74 682 22 ((S74 682 22) - 1)) 682 17 ((upS S74 682 22 ((S74 682 22) - 1)) 696 ((4 * ((upS S74 682 22 ((S74 682 22) - 1)) 682 22))).toNat)) 682 22)) + 1)).toNat)) 682 22)) ≤ 2147483647 by first | omega | (simp [upS, hz, za1, z1a1, ca1, za2, z1a2, ca2, E900, E74]; done) | (simp [upS, hz, za1, z1a1, ca1, za2, z1a2, ca2, E900, E74]; omega)), ?_⟩
        refine ⟨(show -2147483648 ≤ ((4 * ((upS (upS (upS S74 682 22 ((S74 682 22) - 1)) 682 17 ((upS S74 682 22 ((S74 682 22) - 1)) 696 ((4 * ((upS S74 682 22 ((S74 682 22) - 1)) 682 22))).toNat)) 682 18 ((upS (upS S74 682 22 ((S74 682 22) - 1)) 682 17 ((upS S74 682 22 ((S74 682 22) - 1)) 696 ((4 * ((upS S74 682 22 ((S74 682 22) - 1)) 682 22))).toNat)) 696 (((4 * ((upS (upS S74 682 22 ((S74 682 22) - 1)) 682 17 ((upS S74 682 22 ((S74 682 22) - 1)) 696 ((4 * ((upS S74 682 22 ((S74 682 22) - 1)) 682 22))).toNat)) 682 22)) + 1)).toNat)) 682 22)) + 2) ∧ ((4 * ((upS (upS (upS S74 682 22 ((S74 682 22) - 1)) 682 17 ((upS S74 682 22 ((S74 682 22) - 1)) 696 ((4 * ((upS S74 682 22 ((S74 682 22) - 1)) 682 22))).toNat)) 682 18 ((upS (upS S74 682 22 ((S74 682 22) - 1)) 682 17 ((upS S74 682 22 ((S74 682 22) - 1)) 696 ((4 * ((upS S74 682 22 ((S74 682 22) - 1)) 682 22))).toNat)) 696 (((4 * ((upS (upS S74 682 22 ((S74 682 22) - 1)) 682 17 ((upS S74 682 22 ((S74 682 22) - 1)) 696 ((4 * ((upS S74 682 22 ((S74 682 22) - 1)) 682 22))).toNat)) 682 22)) + 1)).toNat)) 682 22)) + 2) ≤ 2147483647 by first | omega | (simp [upS, hz, za1, z1a1, ca1, za2, z1a2, ca2, E900, E74]; done) | (simp [upS, hz, za1, z1a1, ca1, za2, z1a2, ca2, E900, E74]; omega)), ?_⟩
        refine ⟨(show 0 ≤ ((4 * ((upS (upS (upS S74 682 22 ((S74 682 22) - 1)) 682 17 ((upS S74 682 22 ((S74 682 22) - 1)) 696 ((4 * ((upS S74 682 22 ((S74 682 22) - 1)) 682 22))).toNat)) 682 18 ((upS (upS S74 682 22 ((S74 682 22) - 1)) 682 17 ((upS S74 682 22 ((S74 682 22) - 1)) 696 ((4 * ((upS S74 682 22 ((S74 682 22) - 1)) 682 22))).toNat)) 696 (((4 * ((upS (upS S74 682 22 ((S74 682 22) - 1)) 682 17 ((upS S74 682 22 ((S74 682 22) - 1)) 696 ((4 * ((upS S74 682 22 ((S74 682 22) - 1)) 682 22))).toNat)) 682 22)) + 1)).toNat)) 682 22)) + 2) ∧ ((4 * ((upS (upS (upS S74 682 22 ((S74 682 22) - 1)) 682 17 ((upS S74 682 22 ((S74 682 22) - 1)) 696 ((4 * ((upS S74 682 22 ((S74 682 22) - 1)) 682 22))).toNat)) 682 18 ((upS (upS S74 682 22 ((S74 682 22) - 1)) 682 17 ((upS S74 682 22 ((S74 682 22) - 1)) 696 ((4 * ((upS S74 682 22 ((S74 682 22) - 1)) 682 22))).toNat)) 696 (((4 * ((upS (upS S74 682 22 ((S74 682 22) - 1)) 682 17 ((upS S74 682 22 ((S74 682 22) - 1)) 696 ((4 * ((upS S74 682 22 ((S74 682 22) - 1)) 682 22))).toNat)) 682 22)) + 1)).toNat)) 682 22)) + 2) < 512 by first | omega | (simp [upS, hz, za1, z1a1, ca1, za2, z1a2, ca2, E900, E74]; done) | (simp [upS, hz, za1, z1a1, ca1, za2, z1a2, ca2, E900, E74]; omega)), ?_⟩
        refine ⟨(show -2147483648 ≤ (4 * ((upS (upS (upS (upS S74 682 22 ((S74 682 22) - 1)) 682 17 ((upS S74 682 22 ((S74 682 22) - 1)) 696 ((4 * ((upS S74 682 22 ((S74 682 22) - 1)) 682 22))).toNat)) 682 18 ((upS (upS S74 682 22 ((S74 682 22) - 1)) 682 17 ((upS S74 682 22 ((S74 682 22) - 1)) 696 ((4 * ((upS S74 682 22 ((S74 682 22) - 1)) 682 22))).toNat)) 696 (((4 * ((upS (upS S74 682 22 ((S74 682 22) - 1)) 682 17 ((upS S74 682 22 ((S74 682 22) - 1)) 696 ((4 * ((upS S74 682 22 ((S74 682 22) - 1)) 682 22))).toNat)) 682 22)) + 1)).toNat)) 682 19 ((upS (upS (upS S74 682 22 ((S74 682 22) - 1)) 682 17 ((upS S74 682 22 ((S74 682 22) - 1)) 696 ((4 * ((upS S74 682 22 ((S74 682 22) - 1)) 682 22))).toNat)) 682 18 ((upS (upS S74 682 22 ((S74 682 22) - 1)) 682 17 ((upS S74 682 22 ((S74 682 22) - 1)) 696 ((4 * ((upS S74 682 22 ((S74 682 22) - 1)) 682 22))).toNat)) 696 (((4 * ((upS (upS S74 682 22 ((S74 682 22) - 1)) 682 17 ((upS S74 682 22 ((S74 682 22) - 1)) 696 ((4 * ((upS S74 682 22 ((S74 682 22) - 1)) 682 22))).toNat)) 682 22)) + 1)).toNat)) 696 (((4 * ((upS (upS (upS S74 682 22 ((S74 682 22) - 1)) 682 17 ((upS S74 682 22 ((S74 682 22) - 1)) 696 ((4 * ((upS S74 682 22 ((S74 682 22) - 1)) 682 22))).toNat)) 682 18 ((upS (upS S74 682 22 ((S74 682 22) - 1)) 682 17 ((upS S74 682 22 ((S74 682 22) - 1)) 696 ((4 * ((upS S74 682 22 ((S74 682 22) - 1)) 682 22))).toNat)) 696 (((4 * ((upS (upS S74 682 22 ((S74 682 22) - 1)) 682 17 ((upS S74 682 22 ((S74 682 22) - 1)) 696 ((4 * ((upS S74 682 22 ((S74 682 22) - 1)) 682 22))).toNat)) 682 22)) + 1)).toNat)) 682 22)) + 2)).toNat)) 682 22)) ∧ (4 * ((upS (upS (upS (upS S74 682 22 ((S74 682 22) - 1)) 682 17 ((upS S74 682 22 ((S74 682 22) - 1)) 696 ((4 * ((upS S74 682 22 ((S74 682 22) - 1)) 682 22))).toNat)) 682 18 ((upS (upS S74 682 22 ((S74 682 22) - 1)) 682 17 ((upS S74 682 22 ((S74 682 22) - 1)) 696 ((4 * ((upS S74 682 22 ((S74 682 22) - 1)) 682 22))).toNat)) 696 (((4 * ((upS (upS S74 682 22 ((S74 682 22) - 1)) 682 17 ((upS S74 682 22 ((S74 682 22) - 1)) 696 ((4 * ((upS S74 682 22 ((S74 682 22) - 1)) 682 22))).toNat)) 682 22)) + 1)).toNat)) 682 19 ((upS (upS (upS S74 682 22 ((S74 682 22) - 1)) 682 17 ((upS S74 682 22 ((S74 682 22) - 1)) 696 ((4 * ((upS S74 682 22 ((S74 682 22) - 1)) 682 22))).toNat)) 682 18 ((upS (upS S74 682 22 ((S74 682 22) - 1)) 682 17 ((upS S74 682 22 ((S74 682 22) - 1)) 696 ((4 * ((upS S74 682 22 ((S74 682 22) - 1)) 682 22))).toNat)) 696 (((4 * ((upS (upS S74 682 22 ((S74 682 22) - 1)) 682 17 ((upS S74 682 22 ((S74 682 22) - 1)) 696 ((4 * ((upS S74 682 22 ((S74 682 22) - 1)) 682 22))).toNat)) 682 22)) + 1)).toNat)) 696 (((4 * ((upS (upS (upS S74 682 22 ((S74 682 22) - 1)) 682 17 ((upS S74 682 22 ((S74 682 22) - 1)) 696 ((4 * ((upS S74 682 22 ((S74 682 22) - 1)) 682 22))).toNat)) 682 18 ((upS (upS S74 682 22 ((S74 682 22) - 1)) 682 17 ((upS S74 682 22 ((S74 682 22) - 1)) 696 ((4 * ((upS S74 682 22 ((S74 682 22) - 1)) 682 22))).toNat)) 696 (((4 * ((upS (upS S74 682 22 ((S74 682 22) - 1)) 682 17 ((upS S74 682 22 ((S74 682 22) - 1)) 696 ((4 * ((upS S74 682 22 ((S74 682 22) - 1)) 682 22))).toNat)) 682 22)) + 1)).toNat)) 682 22)) + 2)).toNat)) 682 22)) ≤ 2147483647 by first | omega | (simp [upS, hz, za1, z1a1, ca1, za2, z1a2, ca2, E900, E74]; done) | (simp [upS, hz, za1, z1a1, ca1, za2, z1a2, ca2, E900, E74]; omega)), ?_⟩
        refine ⟨(show -2147483648 ≤ ((4 * ((upS (upS (upS (upS S74 682 22 ((S74 682 22) - 1)) 682 17 ((upS S74 682 22 ((S74 682 22) - 1)) 696 ((4 * ((upS S74 682 22 ((S74 682 22) - 1)) 682 22))).toNat)) 682 18 ((upS (upS S74 682 22 ((S74 682 22) - 1)) 682 17 ((upS S74 682 22 ((S74 682 22) - 1)) 696 ((4 * ((upS S74 682 22 ((S74 682 22) - 1)) 682 22))).toNat)) 696 (((4 * ((upS (upS S74 682 22 ((S74 682 22) - 1)) 682 17 ((upS S74 682 22 ((S74 682 22) - 1)) 696 ((4 * ((upS S74 682 22 ((S74 682 22) - 1)) 682 22))).toNat)) 682 22)) + 1)).toNat)) 682 19 ((upS (upS (upS S74 682 22 ((S74 682 22) - 1)) 682 17 ((upS S74 682 22 ((S74 682 22) - 1)) 696 ((4 * ((upS S74 682 22 ((S74 682 22) - 1)) 682 22))).toNat)) 682 18 ((upS (upS S74 682 22 ((S74 682 22) - 1)) 682 17 ((upS S74 682 22 ((S74 682 22) - 1)) 696 ((4 * ((upS S74 682 22 ((S74 682 22) - 1)) 682 22))).toNat)) 696 (((4 * ((upS (upS S74 682 22 ((S74 682 22) - 1)) 682 17 ((upS S74 682 22 ((S74 682 22) - 1)) 696 ((4 * ((upS S74 682 22 ((S74 682 22) - 1)) 682 22))).toNat)) 682 22)) + 1)).toNat)) 696 (((4 * ((upS (upS (upS S74 682 22 ((S74 682 22) - 1)) 682 17 ((upS S74 682 22 ((S74 682 22) - 1)) 696 ((4 * ((upS S74 682 22 ((S74 682 22) - 1)) 682 22))).toNat)) 682 18 ((upS (upS S74 682 22 ((S74 682 22) - 1)) 682 17 ((upS S74 682 22 ((S74 682 22) - 1)) 696 ((4 * ((upS S74 682 22 ((S74 682 22) - 1)) 682 22))).toNat)) 696 (((4 * ((upS (upS S74 682 22 ((S74 682 22) - 1)) 682 17 ((upS S74 682 22 ((S74 682 22) - 1)) 696 ((4 * ((upS S74 682 22 ((S74 682 22) - 1)) 682 22))).toNat)) 682 22)) + 1)).toNat)) 682 22)) + 2)).toNat)) 682 22)) + 3) ∧ ((4 * ((upS (upS (upS (upS S74 682 22 ((S74 682 22) - 1)) 682 17 ((upS S74 682 22 ((S74 682 22) - 1)) 696 ((4 * ((upS S74 682 22 ((S74 682 22) - 1)) 682 22))).toNat)) 682 18 ((upS (upS S74 682 22 ((S74 682 22) - 1)) 682 17 ((upS S74 682 22 ((S74 682 22) - 1)) 696 ((4 * ((upS S74 682 22 ((S74 682 22) - 1)) 682 22))).toNat)) 696 (((4 * ((upS (upS S74 682 22 ((S74 682 22) - 1)) 682 17 ((upS S74 682 22 ((S74 682 22) - 1)) 696 ((4 * ((upS S74 682 22 ((S74 682 22) - 1)) 682 22))).toNat)) 682 22)) + 1)).toNat)) 682 19 ((upS (upS (upS S74 682 22 ((S74 682 22) - 1)) 682 17 ((upS S74 682 22 ((S74 682 22) - 1)) 696 ((4 * ((upS S74 682 22 ((S74 682 22) - 1)) 682 22))).toNat)) 682 18 ((upS (upS S74 682 22 ((S74 682 22) - 1)) 682 17 ((upS S74 682 22 ((S74 682 22) - 1)) 696 ((4 * ((upS S74 682 22 ((S74 682 22) - 1)) 682 22))).toNat)) 696 (((4 * ((upS (upS S74 682 22 ((S74 682 22) - 1)) 682 17 ((upS S74 682 22 ((S74 682 22) - 1)) 696 ((4 * ((upS S74 682 22 ((S74 682 22) - 1)) 682 22))).toNat)) 682 22)) + 1)).toNat)) 696 (((4 * ((upS (upS (upS S74 682 22 ((S74 682 22) - 1)) 682 17 ((upS S74 682 22 ((S74 682 22) - 1)) 696 ((4 * ((upS S74 682 22 ((S74 682 22) - 1)) 682 22))).toNat)) 682 18 ((upS (upS S74 682 22 ((S74 682 22) - 1)) 682 17 ((upS S74 682 22 ((S74 682 22) - 1)) 696 ((4 * ((upS S74 682 22 ((S74 682 22) - 1)) 682 22))).toNat)) 696 (((4 * ((upS (upS S74 682 22 ((S74 682 22) - 1)) 682 17 ((upS S74 682 22 ((S74 682 22) - 1)) 696 ((4 * ((upS S74 682 22 ((S74 682 22) - 1)) 682 22))).toNat)) 682 22)) + 1)).toNat)) 682 22)) + 2)).toNat)) 682 22)) + 3) ≤ 2147483647 by first | omega | (simp [upS, hz, za1, z1a1, ca1, za2, z1a2, ca2, E900, E74]; done) | (simp [upS, hz, za1, z1a1, ca1, za2, z1a2, ca2, E900, E74]; omega)), ?_⟩
        refine ⟨(show 0 ≤ ((4 * ((upS (upS (upS (upS S74 682 22 ((S74 682 22) - 1)) 682 17 ((upS S74 682 22 ((S74 682 22) - 1)) 696 ((4 * ((upS S74 682 22 ((S74 682 22) - 1)) 682 22))).toNat)) 682 18 ((upS (upS S74 682 22 ((S74 682 22) - 1)) 682 17 ((upS S74 682 22 ((S74 682 22) - 1)) 696 ((4 * ((upS S74 682 22 ((S74 682 22) - 1)) 682 22))).toNat)) 696 (((4 * ((upS (upS S74 682 22 ((S74 682 22) - 1)) 682 17 ((upS S74 682 22 ((S74 682 22) - 1)) 696 ((4 * ((upS S74 682 22 ((S74 682 22) - 1)) 682 22))).toNat)) 682 22)) + 1)).toNat)) 682 19 ((upS (upS (upS S74 682 22 ((S74 682 22) - 1)) 682 17 ((upS S74 682 22 ((S74 682 22) - 1)) 696 ((4 * ((upS S74 682 22 ((S74 682 22) - 1)) 682 22))).toNat)) 682 18 ((upS (upS S74 682 22 ((S74 682 22) - 1)) 682 17 ((upS S74 682 22 ((S74 682 22) - 1)) 696 ((4 * ((upS S74 682 22 ((S74 682 22) - 1)) 682 22))).toNat)) 696 (((4 * ((upS (upS S74 682 22 ((S74 682 22) - 1)) 682 17 ((upS S74 682 22 ((S74 682 22) - 1)) 696 ((4 * ((upS S74 682 22 ((S74 682 22) - 1)) 682 22))).toNat)) 682 22)) + 1)).toNat)) 696 (((4 * ((upS (upS (upS S74 682 22 ((S74 682 22) - 1)) 682 17 ((upS S74 682 22 ((S74 682 22) - 1)) 696 ((4 * ((upS S74 682 22 ((S74 682 22) - 1)) 682 22))).toNat)) 682 18 ((upS (upS S74 682 22 ((S74 682 22) - 1)) 682 17 ((upS S74 682 22 ((S74 682 22) - 1)) 696 ((4 * ((upS S74 682 22 ((S74 682 22) - 1)) 682 22))).toNat)) 696 (((4 * ((upS (upS S74 682 22 ((S74 682 22) - 1)) 682 17 ((upS S74 682 22 ((S74 682 22) - 1)) 696 ((4 * ((upS S74 682 22 ((S74 682 22) - 1)) 682 22))).toNat)) 682 22)) + 1)).toNat)) 682 22)) + 2)).toNat)) 682 22)) + 3) ∧ ((4 * ((upS (upS (upS (upS S74 682 22 ((S74 682 22) - 1)) 682 17 ((upS S74 682 22 ((S74 682 22) - 1)) 696 ((4 * ((upS S74 682 22 ((S74 682 22) - 1)) 682 22))).toNat)) 682 18 ((upS (upS S74 682 22 ((S74 682 22) - 1)) 682 17 ((upS S74 682 22 ((S74 682 22) - 1)) 696 ((4 * ((upS S74 682 22 ((S74 682 22) - 1)) 682 22))).toNat)) 696 (((4 * ((upS (upS S74 682 22 ((S74 682 22) - 1)) 682 17 ((upS S74 682 22 ((S74 682 22) - 1)) 696 ((4 * ((upS S74 682 22 ((S74 682 22) - 1)) 682 22))).toNat)) 682 22)) + 1)).toNat)) 682 19 ((upS (upS (upS S74 682 22 ((S74 682 22) - 1)) 682 17 ((upS S74 682 22 ((S74 682 22) - 1)) 696 ((4 * ((upS S74 682 22 ((S74 682 22) - 1)) 682 22))).toNat)) 682 18 ((upS (upS S74 682 22 ((S74 682 22) - 1)) 682 17 ((upS S74 682 22 ((S74 682 22) - 1)) 696 ((4 * ((upS S74 682 22 ((S74 682 22) - 1)) 682 22))).toNat)) 696 (((4 * ((upS (upS S74 682 22 ((S74 682 22) - 1)) 682 17 ((upS S74 682 22 ((S74 682 22) - 1)) 696 ((4 * ((upS S74 682 22 ((S74 682 22) - 1)) 682 22))).toNat)) 682 22)) + 1)).toNat)) 696 (((4 * ((upS (upS (upS S74 682 22 ((S74 682 22) - 1)) 682 17 ((upS S74 682 22 ((S74 682 22) - 1)) 696 ((4 * ((upS S74 682 22 ((S74 682 22) - 1)) 682 22))).toNat)) 682 18 ((upS (upS S74 682 22 ((S74 682 22) - 1)) 682 17 ((upS S74 682 22 ((S74 682 22) - 1)) 696 ((4 * ((upS S74 682 22 ((S74 682 22) - 1)) 682 22))).toNat)) 696 (((4 * ((upS (upS S74 682 22 ((S74 682 22) - 1)) 682 17 ((upS S74 682 22 ((S74 682 22) - 1)) 696 ((4 * ((upS S74 682 22 ((S74 682 22) - 1)) 682 22))).toNat)) 682 22)) + 1)).toNat)) 682 22)) + 2)).toNat)) 682 22)) + 3) < 512 by first | omega | (simp [upS, hz, za1, z1a1, ca1, za2, z1a2, ca2, E900, E74]; done) | (simp [upS, hz, za1, z1a1, ca1, za2, z1a2, ca2, E900, E74]; omega)), ?_⟩
        rw [if_neg (show ¬ (a3 = 0) by first | omega | (simp [upS, hz, za1, z1a1, ca1, za2, z1a2, ca2, E900, E74]; done) | (simp [upS, hz, za1, z1a1, ca1, za2, z1a2, ca2, E900, E74]; omega))]
        rw [(show (upS (upS (upS (upS (upS S74 682 22 ((S74 682 22) - 1)) 682 17 ((upS S74 682 22 ((S74 682 22) - 1)) 696 ((4 * ((upS S74 682 22 ((S74 682 22) - 1)) 682 22))).toNat)) 682 18 ((upS (upS S74 682 22 ((S74 682 22) - 1)) 682 17 ((upS S74 682 22 ((S74 682 22) - 1)) 696 ((4 * ((upS S74 682 22 ((S74 682 22) - 1)) 682 22))).toNat)) 696 (((4 * ((upS (upS S74 682 22 ((S74 682 22) - 1)) 682 17 ((upS S74 682 22 ((S74 682 22) - 1)) 696 ((4 * ((upS S74 682 22 ((S74 682 22) - 1)) 682 22))).toNat)) 682 22)) + 1)).toNat)) 682 19 ((upS (upS (upS S74 682 22 ((S74 682 22) - 1)) 682 17 ((upS S74 682 22 ((S74 682 22) - 1)) 696 ((4 * ((upS S74 682 22 ((S74 682 22) - 1)) 682 22))).toNat)) 682 18 ((upS (upS S74 682 22 ((S74 682 22) - 1)) 682 17 ((upS S74 682 22 ((S74 682 22) - 1)) 696 ((4 * ((upS S74 682 22 ((S74 682 22) - 1)) 682 22))).toNat)) 696 (((4 * ((upS (upS S74 682 22 ((S74 682 22) - 1)) 682 17 ((upS S74 682 22 ((S74 682 22) - 1)) 696 ((4 * ((upS S74 682 22 ((S74 682 22) - 1)) 682 22))).toNat)) 682 22)) + 1)).toNat)) 696 (((4 * ((upS (upS (upS S74 682 22 ((S74 682 22) - 1)) 682 17 ((upS S74 682 22 ((S74 682 22) - 1)) 696 ((4 * ((upS S74 682 22 ((S74 682 22) - 1)) 682 22))).toNat)) 682 18 ((upS (upS S74 682 22 ((S74 682 22) - 1)) 682 17 ((upS S74 682 22 ((S74 682 22) - 1)) 696 ((4 * ((upS S74 682 22 ((S74 682 22) - 1)) 682 22))).toNat)) 696 (((4 * ((upS (upS S74 682 22 ((S74 682 22) - 1)) 682 17 ((upS S74 682 22 ((S74 682 22) - 1)) 696 ((4 * ((upS S74 682 22 ((S74 682 22) - 1)) 682 22))).toNat)) 682 22)) + 1)).toNat)) 682 22)) + 2)).toNat)) 682 20 ((upS (upS (upS (upS S74 682 22 ((S74 682 22) - 1)) 682 17 ((upS S74 682 22 ((S74 682 22) - 1)) 696 ((4 * ((upS S74 682 22 ((S74 682 22) - 1)) 682 22))).toNat)) 682 18 ((upS (upS S74 682 22 ((S74 682 22) - 1)) 682 17 ((upS S74 682 22 ((S74 682 22) - 1)) 696 ((4 * ((upS S74 682 22 ((S74 682 22) - 1)) 682 22))).toNat)) 696 (((4 * ((upS (upS S74 682 22 ((S74 682 22) - 1)) 682 17 ((upS S74 682 22 ((S74 682 22) - 1)) 696 ((4 * ((upS S74 682 22 ((S74 682 22) - 1)) 682 22))).toNat)) 682 22)) + 1)).toNat)) 682 19 ((upS (upS (upS S74 682 22 ((S74 682 22) - 1)) 682 17 ((upS S74 682 22 ((S74 682 22) - 1)) 696 ((4 * ((upS S74 682 22 ((S74 682 22) - 1)) 682 22))).toNat)) 682 18 ((upS (upS S74 682 22 ((S74 682 22) - 1)) 682 17 ((upS S74 682 22 ((S74 682 22) - 1)) 696 ((4 * ((upS S74 682 22 ((S74 682 22) - 1)) 682 22))).toNat)) 696 (((4 * ((upS (upS S74 682 22 ((S74 682 22) - 1)) 682 17 ((upS S74 682 22 ((S74 682 22) - 1)) 696 ((4 * ((upS S74 682 22 ((S74 682 22) - 1)) 682 22))).toNat)) 682 22)) + 1)).toNat)) 696 (((4 * ((upS (upS (upS S74 682 22 ((S74 682 22) - 1)) 682 17 ((upS S74 682 22 ((S74 682 22) - 1)) 696 ((4 * ((upS S74 682 22 ((S74 682 22) - 1)) 682 22))).toNat)) 682 18 ((upS (upS S74 682 22 ((S74 682 22) - 1)) 682 17 ((upS S74 682 22 ((S74 682 22) - 1)) 696 ((4 * ((upS S74 682 22 ((S74 682 22) - 1)) 682 22))).toNat)) 696 (((4 * ((upS (upS S74 682 22 ((S74 682 22) - 1)) 682 17 ((upS S74 682 22 ((S74 682 22) - 1)) 696 ((4 * ((upS S74 682 22 ((S74 682 22) - 1)) 682 22))).toNat)) 682 22)) + 1)).toNat)) 682 22)) + 2)).toNat)) 696 (((4 * ((upS (upS (upS (upS S74 682 22 ((S74 682 22) - 1)) 682 17 ((upS S74 682 22 ((S74 682 22) - 1)) 696 ((4 * ((upS S74 682 22 ((S74 682 22) - 1)) 682 22))).toNat)) 682 18 ((upS (upS S74 682 22 ((S74 682 22) - 1)) 682 17 ((upS S74 682 22 ((S74 682 22) - 1)) 696 ((4 * ((upS S74 682 22 ((S74 682 22) - 1)) 682 22))).toNat)) 696 (((4 * ((upS (upS S74 682 22 ((S74 682 22) - 1)) 682 17 ((upS S74 682 22 ((S74 682 22) - 1)) 696 ((4 * ((upS S74 682 22 ((S74 682 22) - 1)) 682 22))).toNat)) 682 22)) + 1)).toNat)) 682 19 ((upS (upS (upS S74 682 22 ((S74 682 22) - 1)) 682 17 ((upS S74 682 22 ((S74 682 22) - 1)) 696 ((4 * ((upS S74 682 22 ((S74 682 22) - 1)) 682 22))).toNat)) 682 18 ((upS (upS S74 682 22 ((S74 682 22) - 1)) 682 17 ((upS S74 682 22 ((S74 682 22) - 1)) 696 ((4 * ((upS S74 682 22 ((S74 682 22) - 1)) 682 22))).toNat)) 696 (((4 * ((upS (upS S74 682 22 ((S74 682 22) - 1)) 682 17 ((upS S74 682 22 ((S74 682 22) - 1)) 696 ((4 * ((upS S74 682 22 ((S74 682 22) - 1)) 682 22))).toNat)) 682 22)) + 1)).toNat)) 696 (((4 * ((upS (upS (upS S74 682 22 ((S74 682 22) - 1)) 682 17 ((upS S74 682 22 ((S74 682 22) - 1)) 696 ((4 * ((upS S74 682 22 ((S74 682 22) - 1)) 682 22))).toNat)) 682 18 ((upS (upS S74 682 22 ((S74 682 22) - 1)) 682 17 ((upS S74 682 22 ((S74 682 22) - 1)) 696 ((4 * ((upS S74 682 22 ((S74 682 22) - 1)) 682 22))).toNat)) 696 (((4 * ((upS (upS S74 682 22 ((S74 682 22) - 1)) 682 17 ((upS S74 682 22 ((S74 682 22) - 1)) 696 ((4 * ((upS S74 682 22 ((S74 682 22) - 1)) 682 22))).toNat)) 682 22)) + 1)).toNat)) 682 22)) + 2)).toNat)) 682 22)) + 3)).toNat)) = (upS (upS (upS (upS (upS S74 682 22 0) 682 17 0) 682 18 0) 682 19 0) 682 20 0) from by rw [show ((upS (upS (upS (upS S74 682 22 ((S74 682 22) - 1)) 682 17 ((upS S74 682 22 ((S74 682 22) - 1)) 696 ((4 * ((upS S74 682 22 ((S74 682 22) - 1)) 682 22))).toNat)) 682 18 ((upS (upS S74 682 22 ((S74 682 22) - 1)) 682 17 ((upS S74 682 22 ((S74 682 22) - 1)) 696 ((4 * ((upS S74 682 22 ((S74 682 22) - 1)) 682 22))).toNat)) 696 (((4 * ((upS (upS S74 682 22 ((S74 682 22) - 1)) 682 17 ((upS S74 682 22 ((S74 682 22) - 1)) 696 ((4 * ((upS S74 682 22 ((S74 682 22) - 1)) 682 22))).toNat)) 682 22)) + 1)).toNat)) 682 19 ((upS (upS (upS S74 682 22 ((S74 682 22) - 1)) 682 17 ((upS S74 682 22 ((S74 682 22) - 1)) 696 ((4 * ((upS S74 682 22 ((S74 682 22) - 1)) 682 22))).toNat)) 682 18 ((upS (upS S74 682 22 ((S74 682 22) - 1)) 682 17 ((upS S74 682 22 ((S74 682 22) - 1)) 696 ((4 * ((upS S74 682 22 ((S74 682 22) - 1)) 682 22))).toNat)) 696 (((4 * ((upS (upS S74 682 22 ((S74 682 22) - 1)) 682 17 ((upS S74 682 22 ((S74 682 22) - 1)) 696 ((4 * ((upS S74 682 22 ((S74 682 22) - 1)) 682 22))).toNat)) 682 22)) + 1)).toNat)) 696 (((4 * ((upS (upS (upS S74 682 22 ((S74 682 22) - 1)) 682 17 ((upS S74 682 22 ((S74 682 22) - 1)) 696 ((4 * ((upS S74 682 22 ((S74 682 22) - 1)) 682 22))).toNat)) 682 18 ((upS (upS S74 682 22 ((S74 682 22) - 1)) 682 17 ((upS S74 682 22 ((S74 682 22) - 1)) 696 ((4 * ((upS S74 682 22 ((S74 682 22) - 1)) 682 22))).toNat)) 696 (((4 * ((upS (upS S74 682 22 ((S74 682 22) - 1)) 682 17 ((upS S74 682 22 ((S74 682 22) - 1)) 696 ((4 * ((upS S74 682 22 ((S74 682 22) - 1)) 682 22))).toNat)) 682 22)) + 1)).toNat)) 682 22)) + 2)).toNat)) 696 (((4 * ((upS (upS (upS (upS S74 682 22 ((S74 682 22) - 1)) 682 17 ((upS S74 682 22 ((S74 682 22) - 1)) 696 ((4 * ((upS S74 682 22 ((S74 682 22) - 1)) 682 22))).toNat)) 682 18 ((upS (upS S74 682 22 ((S74 682 22) - 1)) 682 17 ((upS S74 682 22 ((S74 682 22) - 1)) 696 ((4 * ((upS S74 682 22 ((S74 682 22) - 1)) 682 22))).toNat)) 696 (((4 * ((upS (upS S74 682 22 ((S74 682 22) - 1)) 682 17 ((upS S74 682 22 ((S74 682 22) - 1)) 696 ((4 * ((upS S74 682 22 ((S74 682 22) - 1)) 682 22))).toNat)) 682 22)) + 1)).toNat)) 682 19 ((upS (upS (upS S74 682 22 ((S74 682 22) - 1)) 682 17 ((upS S74 682 22 ((S74 682 22) - 1)) 696 ((4 * ((upS S74 682 22 ((S74 682 22) - 1)) 682 22))).toNat)) 682 18 ((upS (upS S74 682 22 ((S74 682 22) - 1)) 682 17 ((upS S74 682 22 ((S74 682 22) - 1)) 696 ((4 * ((upS S74 682 22 ((S74 682 22) - 1)) 682 22))).toNat)) 696 (((4 * ((upS (upS S74 682 22 ((S74 682 22) - 1)) 682 17 ((upS S74 682 22 ((S74 682 22) - 1)) 696 ((4 * ((upS S74 682 22 ((S74 682 22) - 1)) 682 22))).toNat)) 682 22)) + 1)).toNat)) 696 (((4 * ((upS (upS (upS S74 682 22 ((S74 682 22) - 1)) 682 17 ((upS S74 682 22 ((S74 682 22) - 1)) 696 ((4 * ((upS S74 682 22 ((S74 682 22) - 1)) 682 22))).toNat)) 682 18 ((upS (upS S74 682 22 ((S74 682 22) - 1)) 682 17 ((upS S74 682 22 ((S74 682 22) - 1)) 696 ((4 * ((upS S74 682 22 ((S74 682 22) - 1)) 682 22))).toNat)) 696 (((4 * ((upS (upS S74 682 22 ((S74 682 22) - 1)) 682 17 ((upS S74 682 22 ((S74 682 22) - 1)) 696 ((4 * ((upS S74 682 22 ((S74 682 22) - 1)) 682 22))).toNat)) 682 22)) + 1)).toNat)) 682 22)) + 2)).toNat)) 682 22)) + 3)).toNat) = 0 by (first | omega | (simp [upS, hz, za1, z1a1, ca1, za2, z1a2, ca2, E900, E74]; done) | (simp [upS, hz, za1, z1a1, ca1, za2, z1a2, ca2, E900, E74]; omega)), show ((upS (upS (upS S74 682 22 ((S74 682 22) - 1)) 682 17 ((upS S74 682 22 ((S74 682 22) - 1)) 696 ((4 * ((upS S74 682 22 ((S74 682 22) - 1)) 682 22))).toNat)) 682 18 ((upS (upS S74 682 22 ((S74 682 22) - 1)) 682 17 ((upS S74 682 22 ((S74 682 22) - 1)) 696 ((4 * ((upS S74 682 22 ((S74 682 22) - 1)) 682 22))).toNat)) 696 (((4 * ((upS (upS S74 682 22 ((S74 682 22) - 1)) 682 17 ((upS S74 682 22 ((S74 682 22) - 1)) 696 ((4 * ((upS S74 682 22 ((S74 682 22) - 1)) 682 22))).toNat)) 682 22)) + 1)).toNat)) 696 (((4 * ((upS (upS (upS S74 682 22 ((S74 682 22) - 1)) 682 17 ((upS S74 682 22 ((S74 682 22) - 1)) 696 ((4 * ((upS S74 682 22 ((S74 682 22) - 1)) 682 22))).toNat)) 682 18 ((upS (upS S74 682 22 ((S74 682 22) - 1)) 682 17 ((upS S74 682 22 ((S74 682 22) - 1)) 696 ((4 * ((upS S74 682 22 ((S74 682 22) - 1)) 682 22))).toNat)) 696 (((4 * ((upS (upS S74 682 22 ((S74 682 22) - 1)) 682 17 ((upS S74 682 22 ((S74 682 22) - 1)) 696 ((4 * ((upS S74 682 22 ((S74 682 22) - 1)) 682 22))).toNat)) 682 22)) + 1)).toNat)) 682 22)) + 2)).toNat) = 0 by (first | omega | (simp [upS, hz, za1, z1a1, ca1, za2, z1a2, ca2, E900, E74]; done) | (simp [upS, hz, za1, z1a1, ca1, za2, z1a2, ca2, E900, E74]; omega)), show ((upS (upS S74 682 22 ((S74 682 22) - 1)) 682 17 ((upS S74 682 22 ((S74 682 22) - 1)) 696 ((4 * ((upS S74 682 22 ((S74 682 22) - 1)) 682 22))).toNat)) 696 (((4 * ((upS (upS S74 682 22 ((S74 682 22) - 1)) 682 17 ((upS S74 682 22 ((S74 682 22) - 1)) 696 ((4 * ((upS S74 682 22 ((S74 682 22) - 1)) 682 22))).toNat)) 682 22)) + 1)).toNat) = 0 by (first | omega | (simp [upS, hz, za1, z1a1, ca1, za2, z1a2, ca2, E900, E74]; done) | (simp [upS, hz, za1, z1a1, ca1, za2, z1a2, ca2, E900, E74]; omega)), show ((upS S74 682 22 ((S74 682 22) - 1)) 696 ((4 * ((upS S74 682 22 ((S74 682 22) - 1)) 682 22))).toNat) = 0 by (first | omega | (simp [upS, hz, za1, z1a1, ca1, za2, z1a2, ca2, E900, E74]; done) | (simp [upS, hz, za1, z1a1, ca1, za2, z1a2, ca2, E900, E74]; omega)), show ((S74 682 22) - 1) = 0 by (first | omega | (simp [upS, hz, za1, z1a1, ca1, za2, z1a2, ca2, E900, E74]; done) | (simp [upS, hz, za1, z1a1, ca1, za2, z1a2, ca2, E900, E74]; omega))])]
        have hD75 : Dd 268 [(.inr (.inr (some 682)))] (upS (upS (upS (upS (upS S74 682 22 0) 682 17 0) 682 18 0) 682 19 0) 682 20 0) (.inl none, (upS (upS (upS (upS (upS S74 682 22 0) 682 17 0) 682 18 0) 682 19 0) 682 20 0)) := by
          refine b268 ?_
          refine b268_0 ?_
          rw [if_neg (show ¬ (((upS (upS (upS (upS (upS S74 682 22 0) 682 17 0) 682 18 0) 682 19 0) 682 20 0) 682 17) < ((upS (upS (upS (upS (upS S74 682 22 0) 682 17 0) 682 18 0) 682 19 0) 682 20 0) 682 18)) by first | omega | (simp [upS, hz, za1, z1a1, ca1, za2, z1a2, ca2, E900, E74]; done) | (simp [upS, hz, za1, z1a1, ca1, za2, z1a2, ca2, E900, E74]; omega))]
          refine b268_79 ?_
          rw [if_neg (show ¬ (((upS (upS (upS (upS (upS S74 682 22 0) 682 17 0) 682 18 0) 682 19 0) 682 20 0) 682 17) < ((upS (upS (upS (upS (upS S74 682 22 0) 682 17 0) 682 18 0) 682 19 0) 682 20 0) 682 18)) by first | omega | (simp [upS, hz, za1, z1a1, ca1, za2, z1a2, ca2, E900, E74]; done) | (simp [upS, hz, za1, z1a1, ca1, za2, z1a2, ca2, E900, E74]; omega))]
          all_goals rfl
        refine ⟨_, hD75, ?_⟩
        clear hD75
        rw [if_pos (show a3 = 1 by first | omega | (simp [upS, hz, za1, z1a1, ca1, za2, z1a2, ca2, E900, E74]; done) | (simp [upS, hz, za1, z1a1, ca1, za2, z1a2, ca2, E900, E74]; omega))]
        have hD81 : Dd 272 [(.inr (.inr (some 682)))] (upS (upS (upS (upS (upS S74 682 22 0) 682 17 0) 682 18 0) 682 19 0) 682 20 0) (.inl none, (upS (upS (upS (upS (upS (upS S74 682 22 0) 682 17 0) 682 18 0) 682 19 0) 682 20 0) 694 0 0)) := by
          refine b272 ?_
          rw [show ((upS (upS (upS (upS (upS S74 682 22 0) 682 17 0) 682 18 0) 682 19 0) 682 20 0) 682 17) = 0 by (first | omega | (simp [upS, hz, za1, z1a1, ca1, za2, z1a2, ca2, E900, E74]; done) | (simp [upS, hz, za1, z1a1, ca1, za2, z1a2, ca2, E900, E74]; omega))]
          refine b272_7 ?_
          rw [if_neg (show ¬ ((0 : Int) < ((upS (upS (upS (upS (upS S74 682 22 0) 682 17 0) 682 18 0) 682 19 0) 682 20 0) 682 18)) by first | omega | (simp [upS, hz, za1, z1a1, ca1, za2, z1a2, ca2, E900, E74]; done) | (simp [upS, hz, za1, z1a1, ca1, za2, z1a2, ca2, E900, E74]; omega))]
          rw [if_pos (show (0 : Int) = 0 by first | omega | (simp [upS, hz, za1, z1a1, ca1, za2, z1a2, ca2, E900, E74]; done) | (simp [upS, hz, za1, z1a1, ca1, za2, z1a2, ca2, E900, E74]; omega))]
          have hD79 : Dd 266 [(.inr (.inr (some 682)))] (upS (upS (upS (upS (upS S74 682 22 0) 682 17 0) 682 18 0) 682 19 0) 682 20 0) (.inl none, (upS (upS (upS (upS (upS (upS S74 682 22 0) 682 17 0) 682 18 0) 682 19 0) 682 20 0) 694 0 0)) := by
            refine b266 ?_
            rw [show ((upS (upS (upS (upS (upS S74 682 22 0) 682 17 0) 682 18 0) 682 19 0) 682 20 0) 682 17) = 0 by (first | omega | (simp [upS, hz, za1, z1a1, ca1, za2, z1a2, ca2, E900, E74]; done) | (simp [upS, hz, za1, z1a1, ca1, za2, z1a2, ca2, E900, E74]; omega))]
            rw [show ((upS (upS (upS (upS (upS S74 682 22 0) 682 17 0) 682 18 0) 682 19 0) 682 20 0) 682 18) = 0 by (first | omega | (simp [upS, hz, za1, z1a1, ca1, za2, z1a2, ca2, E900, E74]; done) | (simp [upS, hz, za1, z1a1, ca1, za2, z1a2, ca2, E900, E74]; omega))]
            rw [show ((upS (upS (upS (upS (upS S74 682 22 0) 682 17 0) 682 18 0) 682 19 0) 682 20 0) 682 19) = 0 by (first | omega | (simp [upS, hz, za1, z1a1, ca1, za2, z1a2, ca2, E900, E74]; done) | (simp [upS, hz, za1, z1a1, ca1, za2, z1a2, ca2, E900, E74]; omega))]
            rw [show ((upS (upS (upS (upS (upS S74 682 22 0) 682 17 0) 682 18 0) 682 19 0) 682 20 0) 682 20) = 0 by (first | omega | (simp [upS, hz, za1, z1a1, ca1, za2, z1a2, ca2, E900, E74]; done) | (simp [upS, hz, za1, z1a1, ca1, za2, z1a2, ca2, E900, E74]; omega))]
            have hD77 : Dd 265 [(.inr (.inr (some 682))), (.inl 0), (.inl 0), (.inl 0), (.inl 0)] (upS (upS (upS (upS (upS S74 682 22 0) 682 17 0) 682 18 0) 682 19 0) 682 20 0) (.inl none, (upS (upS (upS (upS (upS (upS S74 682 22 0) 682 17 0) 682 18 0) 682 19 0) 682 20 0) 694 0 0)) := by
              refine b265 ?_
              refine b265_3 ?_
              rw [if_pos (show (0 : Int) ≤ 0 by first | omega | (simp [upS, hz, za1, z1a1, ca1, za2, z1a2, ca2, E900, E74]; done) | (simp [upS, hz, za1, z1a1, ca1, za2, z1a2, ca2, E900, E74]; omega))]
              refine b265_13 ?_
              rw [if_pos (show (0 : Int) ≤ 0 by first | omega | (simp [upS, hz, za1, z1a1, ca1, za2, z1a2, ca2, E900, E74]; done) | (simp [upS, hz, za1, z1a1, ca1, za2, z1a2, ca2, E900, E74]; omega))]
              rw [if_neg (show ¬ ((0 : Int) < 0) by first | omega | (simp [upS, hz, za1, z1a1, ca1, za2, z1a2, ca2, E900, E74]; done) | (simp [upS, hz, za1, z1a1, ca1, za2, z1a2, ca2, E900, E74]; omega))]
              refine b265_124 ?_
              refine ⟨(show (-2147483648 : Int) ≤ (65 * 0) ∧ ((65 * 0) : Int) ≤ 2147483647 by first | omega | (simp [upS, hz, za1, z1a1, ca1, za2, z1a2, ca2, E900, E74]; done) | (simp [upS, hz, za1, z1a1, ca1, za2, z1a2, ca2, E900, E74]; omega)), ?_⟩
              refine ⟨(show (-2147483648 : Int) ≤ ((65 * 0) + 0) ∧ (((65 * 0) + 0) : Int) ≤ 2147483647 by first | omega | (simp [upS, hz, za1, z1a1, ca1, za2, z1a2, ca2, E900, E74]; done) | (simp [upS, hz, za1, z1a1, ca1, za2, z1a2, ca2, E900, E74]; omega)), ?_⟩
              refine ⟨(show (0 : Int) ≤ ((65 * 0) + 0) ∧ (((65 * 0) + 0) : Int) < 4225 by first | omega | (simp [upS, hz, za1, z1a1, ca1, za2, z1a2, ca2, E900, E74]; done) | (simp [upS, hz, za1, z1a1, ca1, za2, z1a2, ca2, E900, E74]; omega)), ?_⟩
              refine ⟨(show (-2147483648 : Int) ≤ (0 + (-1)) ∧ ((0 + (-1)) : Int) ≤ 2147483647 by first | omega | (simp [upS, hz, za1, z1a1, ca1, za2, z1a2, ca2, E900, E74]; done) | (simp [upS, hz, za1, z1a1, ca1, za2, z1a2, ca2, E900, E74]; omega)), ?_⟩
              rw [(show (upS (upS (upS (upS (upS (upS S74 682 22 0) 682 17 0) 682 18 0) 682 19 0) 682 20 0) 694 ((((65 * 0) + 0) : Int).toNat) 0) = (upS (upS (upS (upS (upS (upS S74 682 22 0) 682 17 0) 682 18 0) 682 19 0) 682 20 0) 694 0 0) from by rw [show ((((65 * 0) + 0) : Int).toNat) = 0 by (first | omega | (simp [upS, hz, za1, z1a1, ca1, za2, z1a2, ca2, E900, E74]; done) | (simp [upS, hz, za1, z1a1, ca1, za2, z1a2, ca2, E900, E74]; omega))])]
              obtain ⟨S76, E76⟩ : ∃ s : Sg, s = (upS (upS (upS (upS (upS (upS S74 682 22 0) 682 17 0) 682 18 0) 682 19 0) 682 20 0) 694 0 0) := ⟨_, rfl⟩
              rw [← E76]
              rw [show ((0 + (-1)) : Int) = (-1) by (first | omega | (simp [upS, hz, za1, z1a1, ca1, za2, z1a2, ca2, E900, E74, E76]; done) | (simp [upS, hz, za1, z1a1, ca1, za2, z1a2, ca2, E900, E74, E76]; omega))]
              refine b265_13 ?_
              rw [if_neg (show ¬ ((0 : Int) ≤ (-1)) by first | omega | (simp [upS, hz, za1, z1a1, ca1, za2, z1a2, ca2, E900, E74, E76]; done) | (simp [upS, hz, za1, z1a1, ca1, za2, z1a2, ca2, E900, E74, E76]; omega))]
              refine ⟨(show (-2147483648 : Int) ≤ (0 + (-1)) ∧ ((0 + (-1)) : Int) ≤ 2147483647 by first | omega | (simp [upS, hz, za1, z1a1, ca1, za2, z1a2, ca2, E900, E74, E76]; done) | (simp [upS, hz, za1, z1a1, ca1, za2, z1a2, ca2, E900, E74, E76]; omega)), ?_⟩
              rw [show ((0 + (-1)) : Int) = (-1) by (first | omega | (simp [upS, hz, za1, z1a1, ca1, za2, z1a2, ca2, E900, E74, E76]; done) | (simp [upS, hz, za1, z1a1, ca1, za2, z1a2, ca2, E900, E74, E76]; omega))]
              refine b265_3 ?_
              rw [if_neg (show ¬ ((0 : Int) ≤ (-1)) by first | omega | (simp [upS, hz, za1, z1a1, ca1, za2, z1a2, ca2, E900, E74, E76]; done) | (simp [upS, hz, za1, z1a1, ca1, za2, z1a2, ca2, E900, E74, E76]; omega))]
              all_goals (first | rfl | (simp only [E76]))
            obtain ⟨S78, E78⟩ : ∃ s : Sg, s = (upS (upS (upS (upS (upS (upS S74 682 22 0) 682 17 0) 682 18 0) 682 19 0) 682 20 0) 694 0 0) := ⟨_, rfl⟩
            rw [← E78] at hD77
            refine ⟨_, hD77, ?_⟩
            clear hD77
            rw [show (S78 682 17) = 0 by (first | omega | (simp [upS, hz, za1, z1a1, ca1, za2, z1a2, ca2, E900, E74, E78]; done) | (simp [upS, hz, za1, z1a1, ca1, za2, z1a2, ca2, E900, E74, E78]; omega))]
            rw [show (S78 682 19) = 0 by (first | omega | (simp [upS, hz, za1, z1a1, ca1, za2, z1a2, ca2, E900, E74, E78]; done) | (simp [upS, hz, za1, z1a1, ca1, za2, z1a2, ca2, E900, E74, E78]; omega))]
            refine b266_30 ?_
            rw [if_neg (show ¬ ((0 : Int) < (S78 682 18)) by first | omega | (simp [upS, hz, za1, z1a1, ca1, za2, z1a2, ca2, E900, E74, E78]; done) | (simp [upS, hz, za1, z1a1, ca1, za2, z1a2, ca2, E900, E74, E78]; omega))]
            all_goals (first | rfl | (simp only [E78]))
          obtain ⟨S80, E80⟩ : ∃ s : Sg, s = (upS (upS (upS (upS (upS (upS S74 682 22 0) 682 17 0) 682 18 0) 682 19 0) 682 20 0) 694 0 0) := ⟨_, rfl⟩
          rw [← E80] at hD79
          refine ⟨_, hD79, ?_⟩
          clear hD79
          all_goals (first | rfl | (simp only [E80]))
        obtain ⟨S82, E82⟩ : ∃ s : Sg, s = (upS (upS (upS (upS (upS (upS S74 682 22 0) 682 17 0) 682 18 0) 682 19 0) 682 20 0) 694 0 0) := ⟨_, rfl⟩
        rw [← E82] at hD81
        refine ⟨_, hD81, ?_⟩
        clear hD81
        refine b274_42 ?_
        rw [if_neg (show ¬ ((0 : Int) < (S82 682 22)) by first | omega | (simp [upS, hz, za1, z1a1, ca1, za2, z1a2, ca2, E900, E74, E82]; done) | (simp [upS, hz, za1, z1a1, ca1, za2, z1a2, ca2, E900, E74, E82]; omega))]
        refine b274_163 ?_
        rw [if_neg (show ¬ ((0 : Int) < (S82 682 12)) by first | omega | (simp [upS, hz, za1, z1a1, ca1, za2, z1a2, ca2, E900, E74, E82]; done) | (simp [upS, hz, za1, z1a1, ca1, za2, z1a2, ca2, E900, E74, E82]; omega))]
        all_goals (first | rfl | (simp only [E74, E82]))
      obtain ⟨S84, E84⟩ : ∃ s : Sg, s = (upS (upS (upS (upS (upS (upS (upS (upS (upS (upS (upS (upS (upS (upS (upS S900 682 0 0) 682 12 0) 682 13 0) 682 22 0) 696 0 0) 696 1 0) 696 2 0) 696 3 0) 682 22 1) 682 22 0) 682 17 0) 682 18 0) 682 19 0) 682 20 0) 694 0 0) := ⟨_, rfl⟩
      rw [← E84] at hD83
      refine ⟨_, _, hD83, ?_⟩
      clear hD83
      refine ⟨(show (0 : Int) ≤ 0 ∧ (0 : Int) < 44 by first | omega | (simp [upS, hz, za1, z1a1, ca1, za2, z1a2, ca2, E900, E84]; done) | (simp [upS, hz, za1, z1a1, ca1, za2, z1a2, ca2, E900, E84]; omega)), ?_⟩
      refine ⟨(show (0 : Int) ≤ 0 ∧ (0 : Int) < 44 by first | omega | (simp [upS, hz, za1, z1a1, ca1, za2, z1a2, ca2, E900, E84]; done) | (simp [upS, hz, za1, z1a1, ca1, za2, z1a2, ca2, E900, E84]; omega)), ?_⟩
      rw [(show (upS (upS S84 688 ((0 : Int).toNat) (S84 682 12)) 689 ((0 : Int).toNat) ((upS S84 688 ((0 : Int).toNat) (S84 682 12)) 682 13)) = (upS (upS S84 688 0 0) 689 0 0) from by rw [show ((upS S84 688 ((0 : Int).toNat) (S84 682 12)) 682 13) = 0 by (first | omega | (simp [upS, hz, za1, z1a1, ca1, za2, z1a2, ca2, E900, E84]; done) | (simp [upS, hz, za1, z1a1, ca1, za2, z1a2, ca2, E900, E84]; omega)), show ((0 : Int).toNat) = 0 by (first | omega | (simp [upS, hz, za1, z1a1, ca1, za2, z1a2, ca2, E900, E84]; done) | (simp [upS, hz, za1, z1a1, ca1, za2, z1a2, ca2, E900, E84]; omega)), show (S84 682 12) = 0 by (first | omega | (simp [upS, hz, za1, z1a1, ca1, za2, z1a2, ca2, E900, E84]; done) | (simp [upS, hz, za1, z1a1, ca1, za2, z1a2, ca2, E900, E84]; omega))])]
      refine b287_29 ?_
      rw [if_neg (show ¬ ((0 : Int) < ((upS (upS S84 688 0 0) 689 0 0) 682 12)) by first | omega | (simp [upS, hz, za1, z1a1, ca1, za2, z1a2, ca2, E900, E84]; done) | (simp [upS, hz, za1, z1a1, ca1, za2, z1a2, ca2, E900, E84]; omega))]
      refine b287_85 ?_
      rw [if_neg (show ¬ ((0 : Int) < ((upS (upS S84 688 0 0) 689 0 0) 682 13)) by first | omega | (simp [upS, hz, za1, z1a1, ca1, za2, z1a2, ca2, E900, E84]; done) | (simp [upS, hz, za1, z1a1, ca1, za2, z1a2, ca2, E900, E84]; omega))]
      have hD85 : Dd 280 [(.inr (.inr (some 682))), (.inl 0), (.inl 0)] (upS (upS S84 688 0 0) 689 0 0) (.inl (some (.inl 0)), (upS (upS (upS S84 688 0 0) 689 0 0) 704 0 0)) := by
        refine b280 ?_
        refine b280_8 ?_
        refine ⟨(show (0 : Int) ≤ 0 ∧ (0 : Int) < 44 by first | omega | (simp [upS, hz, za1, z1a1, ca1, za2, z1a2, ca2, E900, E84]; done) | (simp [upS, hz, za1, z1a1, ca1, za2, z1a2, ca2, E900, E84]; omega)), ?_⟩
        rw [if_pos (show ((upS (upS S84 688 0 0) 689 0 0) 688 (0 : Int).toNat) ≤ 0 by first | omega | (simp [upS, hz, za1, z1a1, ca1, za2, z1a2, ca2, E900, E84]; done) | (simp [upS, hz, za1, z1a1, ca1, za2, z1a2, ca2, E900, E84]; omega))]
        refine ⟨(show (0 : Int) ≤ 0 ∧ (0 : Int) < 44 by first | omega | (simp [upS, hz, za1, z1a1, ca1, za2, z1a2, ca2, E900, E84]; done) | (simp [upS, hz, za1, z1a1, ca1, za2, z1a2, ca2, E900, E84]; omega)), ?_⟩
        rw [if_neg (show ¬ ((0 : Int) < ((upS (upS S84 688 0 0) 689 0 0) 689 (0 : Int).toNat)) by first | omega | (simp [upS, hz, za1, z1a1, ca1, za2, z1a2, ca2, E900, E84]; done) | (simp [upS, hz, za1, z1a1, ca1, za2, z1a2, ca2, E900, E84]; omega))]
        refine ⟨(show (0 : Int) ≤ 0 ∧ (0 : Int) < 2 by first | omega | (simp [upS, hz, za1, z1a1, ca1, za2, z1a2, ca2, E900, E84]; done) | (simp [upS, hz, za1, z1a1, ca1, za2, z1a2, ca2, E900, E84]; omega)), ?_⟩
        rw [(show (upS (upS (upS S84 688 0 0) 689 0 0) 704 ((0 : Int).toNat) 0) = (upS (upS (upS S84 688 0 0) 689 0 0) 704 0 0) from by rw [show ((0 : Int).toNat) = 0 by (first | omega | (simp [upS, hz, za1, z1a1, ca1, za2, z1a2, ca2, E900, E84]; done) | (simp [upS, hz, za1, z1a1, ca1, za2, z1a2, ca2, E900, E84]; omega))])]
        all_goals rfl
      refine ⟨_, _, hD85, ?_⟩
      clear hD85
      refine b287_130 ?_
      rw [if_neg (show ¬ ((0 : Int) < 0) by first | omega | (simp [upS, hz, za1, z1a1, ca1, za2, z1a2, ca2, E900, E84]; done) | (simp [upS, hz, za1, z1a1, ca1, za2, z1a2, ca2, E900, E84]; omega))]
      all_goals (first | rfl | (simp only [E84]))
    obtain ⟨S87, E87⟩ : ∃ s : Sg, s = (upS (upS (upS (upS (upS (upS (upS (upS (upS (upS (upS (upS (upS (upS (upS (upS (upS (upS S900 682 0 0) 682 12 0) 682 13 0) 682 22 0) 696 0 0) 696 1 0) 696 2 0) 696 3 0) 682 22 1) 682 22 0) 682 17 0) 682 18 0) 682 19 0) 682 20 0) 694 0 0) 688 0 0) 689 0 0) 704 0 0) := ⟨_, rfl⟩
    rw [← E87] at hD86
    refine ⟨_, hD86, ?_⟩
    clear hD86
    refine ⟨(show -2147483648 ≤ ((S87 682 3) + 1) ∧ ((S87 682 3) + 1) ≤ 2147483647 by first | omega | (simp [upS, hz, za1, z1a1, ca1, za2, z1a2, ca2, E900, E87]; done) | (simp [upS, hz, za1, z1a1, ca1, za2, z1a2, ca2, E900, E87]; omega)), ?_⟩
    refine ⟨(show -2147483648 ≤ (((upS S87 682 3 ((S87 682 3) + 1)) 682 3) - 1) ∧ (((upS S87 682 3 ((S87 682 3) + 1)) 682 3) - 1) ≤ 2147483647 by first | omega | (simp [upS, hz, za1, z1a1, ca1, za2, z1a2, ca2, E900, E87]; done) | (simp [upS, hz, za1, z1a1, ca1, za2, z1a2, ca2, E900, E87]; omega)), ?_⟩
    rw [(show (upS S87 682 3 ((S87 682 3) + 1)) = (upS S87 682 3 1) from by rw [show ((S87 682 3) + 1) = 1 by (first | omega | (simp [upS, hz, za1, z1a1, ca1, za2, z1a2, ca2, E900, E87]; done) | (simp [upS, hz, za1, z1a1, ca1, za2, z1a2, ca2, E900, E87]; omega))])]
    rw [show (((upS S87 682 3 1) 682 3) - 1) = 0 by (first | omega | (simp [upS, hz, za1, z1a1, ca1, za2, z1a2, ca2, E900, E87]; done) | (simp [upS, hz, za1, z1a1, ca1, za2, z1a2, ca2, E900, E87]; omega))]
    all_goals (first | rfl | (simp only [E87]))
  refine ⟨_, _, _, _, hA, hB, ?_, ?_, ?_, ?_, ?_⟩
  all_goals subst E900
  · (first | rfl | (simp [upS, SCR, hz, za1, z1a1, ca1, za2, z1a2, ca2]; done) | (simp [upS, SCR, hz, za1, z1a1, ca1, za2, z1a2, ca2]; omega))
  · first | (intro h9; omega) | (intro _; first | rfl | (simp [upS, SCR, hz, za1, z1a1, ca1, za2, z1a2, ca2]; done) | (simp [upS, SCR, hz, za1, z1a1, ca1, za2, z1a2, ca2]; omega))
  · intro i; first | rfl | (unfold upS SCR; (repeat' split) <;> first | rfl | omega)
  · first | rfl | (unfold upS SCR; (repeat' split) <;> first | rfl | omega)
  · first | rfl | (unfold upS SCR; (repeat' split) <;> first | rfl | omega)
theorem q9_8 {σ : Sg} {a1 : Int} {a2 : Int} {a3 : Int} (hz : ∀ a i, a < 1000 → σ a i = 0) (h0 : 0 ≤ a1 ∧ a1 < 4) (h1 : 0 ≤ a2 ∧ a2 < 4) (h2 : a3 = 2) : ∃ (kx b : Int) (s1 s2 : Sg), Dd 399 [(.inr (.inr (some 0))), (.inl a1), (.inl a2), (.inl a3), (.inr (.inr (some 726)))] σ (.inl (some (.inl kx)), s1) ∧ Dd 299 [(.inr (.inr (some 682))), (.inl a1), (.inl a2), (.inl a3)] s1 (.inl (some (.inl b)), s2) ∧ s2 682 0 = kx ∧ (kx = 0 → s2 726 0 = b) ∧ (∀ i, s1 SCR i = σ SCR i) ∧ s1 (SCR + 1) 0 = σ (SCR + 1) 0 ∧ s2 (SCR + 1) 0 = σ (SCR + 1) 0 := by
  have za1 : ∀ i, σ (2 + 2 * ((a1)).toNat) i = 0 := fun i => hz _ i (by omega)
  have z1a1 : ∀ i, σ ((2 + 2 * ((a1)).toNat) + 1) i = 0 := fun i => hz _ i (by omega)
  have ca1 : (cap (2 + 2 * ((a1)).toNat) : Int) = 16 := cp_1 (by omega)
  have za2 : ∀ i, σ (2 + 2 * ((a2)).toNat) i = 0 := fun i => hz _ i (by omega)
  have z1a2 : ∀ i, σ ((2 + 2 * ((a2)).toNat) + 1) i = 0 := fun i => hz _ i (by omega)
  have ca2 : (cap (2 + 2 * ((a2)).toNat) : Int) = 16 := cp_1 (by omega)
  have hA : Dd 399 [(.inr (.inr (some 0))), (.inl a1), (.inl a2), (.inl a3), (.inr (.inr (some 726)))] σ (.inl (some (.inl 0)), (upS (upS (upS (upS (upS (upS (upS (upS (upS (upS (upS (upS (upS (upS (upS (upS (upS (upS σ 333 1 0) 335 1 0) 337 1 0) 343 1 0) 380 1 0) 382 1 0) 384 1 0) 386 1 0) 388 1 0) 384 1 0) 386 1 0) 21 1 0) 23 1 0) 25 1 0) 27 1 0) 29 1 0) 0 3 1) 726 0 0)) := by
    refine b399 ?_
    have hD61 : Dd 181 [(.inr (.inr (some 0))), (.inl a1), (.inl a2), (.inl a3)] σ (.inl (some (.inl 0)), (upS (upS (upS (upS (upS (upS (upS (upS (upS (upS (upS (upS (upS (upS (upS (upS (upS σ 333 1 0) 335 1 0) 337 1 0) 343 1 0) 380 1 0) 382 1 0) 384 1 0) 386 1 0) 388 1 0) 384 1 0) 386 1 0) 21 1 0) 23 1 0) 25 1 0) 27 1 0) 29 1 0) 0 3 1)) := by
      refine b181 ?_
      have hD3 : Dd 227 [(.inr (.inr (some 0))), (.inl a1)] σ (.inl (some (.inr (.inr (some (2 + 2 * ((a1)).toNat))))), σ) := by
        refine b227 ?_
        have hD1 : Dd 145 [(.inr (.inr (some 1))), (.inl a1)] σ (.inl (some (.inr (.inr (some (2 + 2 * ((a1)).toNat))))), σ) := by
          refine b145 ?_
          rw [if_pos (show (0 : Int) ≤ a1 by first | omega | (simp [upS, hz, za1, z1a1, ca1, za2, z1a2, ca2]; done) | (simp [upS, hz, za1, z1a1, ca1, za2, z1a2, ca2]; omega))]
          refine ⟨4, (by decide +kernel), (by decide), ?_⟩
          rw [if_pos (show a1 < ((4 : Nat) : Int) by first | omega | (simp [upS, hz, za1, z1a1, ca1, za2, z1a2, ca2]; done) | (simp [upS, hz, za1, z1a1, ca1, za2, z1a2, ca2]; omega))]
          refine ⟨(show 0 ≤ a1 by first | omega | (simp [upS, hz, za1, z1a1, ca1, za2, z1a2, ca2]; done) | (simp [upS, hz, za1, z1a1, ca1, za2, z1a2, ca2]; omega)), ?_⟩
          refine ⟨(2 + 2 * ((a1)).toNat), (el_1 (i := (a1)) (by first | omega | (simp [upS, hz, za1, z1a1, ca1, za2, z1a2, ca2]; done) | (simp [upS, hz, za1, z1a1, ca1, za2, z1a2, ca2]; omega))).1, (el_1 (i := (a1)) (by first | omega | (simp [upS, hz, za1, z1a1, ca1, za2, z1a2, ca2]; done) | (simp [upS, hz, za1, z1a1, ca1, za2, z1a2, ca2]; omega))).2, ?_⟩
          all_goals rfl
        refine ⟨_, _, hD1, ?_⟩
        clear hD1
        refine ⟨fun hz2 => (by cases hz2), fun _ hz2 => ?_⟩
        cases hz2
        refine ⟨(el_1 (i := (a1)) (by first | omega | (simp [upS, hz, za1, z1a1, ca1, za2, z1a2, ca2]; done) | (simp [upS, hz, za1, z1a1, ca1, za2, z1a2, ca2]; omega))).2, ?_⟩
        all_goals rfl
      refine Or.inl ⟨_, _, hD3, (el_1 (i := (a1)) (by first | omega | (simp [upS, hz, za1, z1a1, ca1, za2, z1a2, ca2]; done) | (simp [upS, hz, za1, z1a1, ca1, za2, z1a2, ca2]; omega))).2, ?_⟩
      clear hD3
      have hD6 : Dd 227 [(.inr (.inr (some 0))), (.inl a2)] σ (.inl (some (.inr (.inr (some (2 + 2 * ((a2)).toNat))))), σ) := by
        refine b227 ?_
        have hD4 : Dd 145 [(.inr (.inr (some 1))), (.inl a2)] σ (.inl (some (.inr (.inr (some (2 + 2 * ((a2)).toNat))))), σ) := by
          refine b145 ?_
          rw [if_pos (show (0 : Int) ≤ a2 by first | omega | (simp [upS, hz, za1, z1a1, ca1, za2, z1a2, ca2]; done) | (simp [upS, hz, za1, z1a1, ca1, za2, z1a2, ca2]; omega))]
          refine ⟨4, (by decide +kernel), (by decide), ?_⟩
          rw [if_pos (show a2 < ((4 : Nat) : Int) by first | omega | (simp [upS, hz, za1, z1a1, ca1, za2, z1a2, ca2]; done) | (simp [upS, hz, za1, z1a1, ca1, za2, z1a2, ca2]; omega))]
          refine ⟨(show 0 ≤ a2 by first | omega | (simp [upS, hz, za1, z1a1, ca1, za2, z1a2, ca2]; done) | (simp [upS, hz, za1, z1a1, ca1, za2, z1a2, ca2]; omega)), ?_⟩
          refine ⟨(2 + 2 * ((a2)).toNat), (el_1 (i := (a2)) (by first | omega | (simp [upS, hz, za1, z1a1, ca1, za2, z1a2, ca2]; done) | (simp [upS, hz, za1, z1a1, ca1, za2, z1a2, ca2]; omega))).1, (el_1 (i := (a2)) (by first | omega | (simp [upS, hz, za1, z1a1, ca1, za2, z1a2, ca2]; done) | (simp [upS, hz, za1, z1a1, ca1, za2, z1a2, ca2]; omega))).2, ?_⟩
          all_goals rfl
        refine ⟨_, _, hD4, ?_⟩
        clear hD4
        refine ⟨fun hz5 => (by cases hz5), fun _ hz5 => ?_⟩
        cases hz5
        refine ⟨(el_1 (i := (a2)) (by first | omega | (simp [upS, hz, za1, z1a1, ca1, za2, z1a2, ca2]; done) | (simp [upS, hz, za1, z1a1, ca1, za2, z1a2, ca2]; omega))).2, ?_⟩
        all_goals rfl
      refine Or.inl ⟨_, _, hD6, (el_1 (i := (a2)) (by first | omega | (simp [upS, hz, za1, z1a1, ca1, za2, z1a2, ca2]; done) | (simp [upS, hz, za1, z1a1, ca1, za2, z1a2, ca2]; omega))).2, ?_⟩
      clear hD6
      have hD7 : Dd 236 [(.inr (.inr (some 0))), (.inl a3)] σ (.inl none, σ) := by
        refine b236 ?_
        rw [if_neg (show ¬ (a3 = 0) by first | omega | (simp [upS, hz, za1, z1a1, ca1, za2, z1a2, ca2]; done) | (simp [upS, hz, za1, z1a1, ca1, za2, z1a2, ca2]; omega))]
        rw [if_neg (show ¬ (a3 = 1) by first | omega | (simp [upS, hz, za1, z1a1, ca1, za2, z1a2, ca2]; done) | (simp [upS, hz, za1, z1a1, ca1, za2, z1a2, ca2]; omega))]
        rw [if_pos (show a3 = 2 by first | omega | (simp [upS, hz, za1, z1a1, ca1, za2, z1a2, ca2]; done) | (simp [upS, hz, za1, z1a1, ca1, za2, z1a2, ca2]; omega))]
        all_goals rfl
      refine Or.inl ⟨_, hD7, ?_⟩
      clear hD7
      have hD18 : Dd 15 [(.inr (.inr (some 332))), (.inr (.inr (some (2 + 2 * ((a1)).toNat)))), (.inr (.inr (some (2 + 2 * ((a2)).toNat)))), (.inl a3)] σ (.inl (some (.inr (.inr (some 337)))), (upS (upS (upS (upS σ 333 1 0) 335 1 0) 337 1 0) 343 1 0)) := by
        refine b15 ?_
        have hD13 : Dd 19 [(.inr (.inr (some 332))), (.inr (.inr (some (2 + 2 * ((a1)).toNat)))), (.inr (.inr (some (2 + 2 * ((a2)).toNat))))] σ (.inl none, (upS (upS (upS (upS σ 333 1 0) 335 1 0) 337 1 0) 343 1 0)) := by
          refine b19 ?_
          have hD8 : Dd 155 [(.inr (.inr (some 333))), (.inr (.inr (some (2 + 2 * ((a1)).toNat))))] σ (.inl none, (upS σ 333 1 0)) := by
            refine b155 (el_1 (i := (a1)) (by first | omega | (simp [upS, hz, za1, z1a1, ca1, za2, z1a2, ca2]; done) | (simp [upS, hz, za1, z1a1, ca1, za2, z1a2, ca2]; omega))).2 (by decide +kernel) ?_
            refine ⟨(show -2147483648 ≤ ((cap 333) : Int) ∧ ((cap 333) : Int) ≤ 2147483647 by have e333 : (cap 333 : Int) = 40 := (by decide +kernel); first | omega | (simp [upS, hz, za1, z1a1, ca1, za2, z1a2, ca2]; done) | (simp [upS, hz, za1, z1a1, ca1, za2, z1a2, ca2]; omega)), ?_⟩
            rw [(show (upS σ 333 1 (if ((cap 333) : Int) < (σ (2 + 2 * ((a1)).toNat) 1) then ((cap 333) : Int) else (σ (2 + 2 * ((a1)).toNat) 1))) = (upS σ 333 1 0) from by rw [show (if ((cap 333) : Int) < (σ (2 + 2 * ((a1)).toNat) 1) then ((cap 333) : Int) else (σ (2 + 2 * ((a1)).toNat) 1)) = 0 by (have e333 : (cap 333 : Int) = 40 := (by decide +kernel); first | omega | (simp [upS, hz, za1, z1a1, ca1, za2, z1a2, ca2]; done) | (simp [upS, hz, za1, z1a1, ca1, za2, z1a2, ca2]; omega))])]
            refine b155_18 (by decide +kernel) (el_1 (i := (a1)) (by first | omega | (simp [upS, hz, za1, z1a1, ca1, za2, z1a2, ca2]; done) | (simp [upS, hz, za1, z1a1, ca1, za2, z1a2, ca2]; omega))).2 ?_
            rw [if_neg (show ¬ ((0 : Int) < ((upS σ 333 1 0) 333 1)) by first | omega | (simp [upS, hz, za1, z1a1, ca1, za2, z1a2, ca2]; done) | (simp [upS, hz, za1, z1a1, ca1, za2, z1a2, ca2]; omega))]
            all_goals rfl
          refine ⟨_, hD8, ?_⟩
          clear hD8
          have hD9 : Dd 155 [(.inr (.inr (some 335))), (.inr (.inr (some (2 + 2 * ((a2)).toNat))))] (upS σ 333 1 0) (.inl none, (upS (upS σ 333 1 0) 335 1 0)) := by
            refine b155 (el_1 (i := (a2)) (by first | omega | (simp [upS, hz, za1, z1a1, ca1, za2, z1a2, ca2]; done) | (simp [upS, hz, za1, z1a1, ca1, za2, z1a2, ca2]; omega))).2 (by decide +kernel) ?_
            refine ⟨(show -2147483648 ≤ ((cap 335) : Int) ∧ ((cap 335) : Int) ≤ 2147483647 by have e335 : (cap 335 : Int) = 40 := (by decide +kernel); first | omega | (simp [upS, hz, za1, z1a1, ca1, za2, z1a2, ca2]; done) | (simp [upS, hz, za1, z1a1, ca1, za2, z1a2, ca2]; omega)), ?_⟩
            rw [(show (upS (upS σ 333 1 0) 335 1 (if ((cap 335) : Int) < ((upS σ 333 1 0) (2 + 2 * ((a2)).toNat) 1) then ((cap 335) : Int) else ((upS σ 333 1 0) (2 + 2 * ((a2)).toNat) 1))) = (upS (upS σ 333 1 0) 335 1 0) from by rw [show (if ((cap 335) : Int) < ((upS σ 333 1 0) (2 + 2 * ((a2)).toNat) 1) then ((cap 335) : Int) else ((upS σ 333 1 0) (2 + 2 * ((a2)).toNat) 1)) = 0 by (have e335 : (cap 335 : Int) = 40 := (by decide +kernel); first | omega | (simp [upS, hz, za1, z1a1, ca1, za2, z1a2, ca2]; done) | (simp [upS, hz, za1, z1a1, ca1, za2, z1a2, ca2]; omega))])]
            refine b155_18 (by decide +kernel) (el_1 (i := (a2)) (by first | omega | (simp [upS, hz, za1, z1a1, ca1, za2, z1a2, ca2]; done) | (simp [upS, hz, za1, z1a1, ca1, za2, z1a2, ca2]; omega))).2 ?_
            rw [if_neg (show ¬ ((0 : Int) < ((upS (upS σ 333 1 0) 335 1 0) 335 1)) by first | omega | (simp [upS, hz, za1, z1a1, ca1, za2, z1a2, ca2]; done) | (simp [upS, hz, za1, z1a1, ca1, za2, z1a2, ca2]; omega))]
            all_goals rfl
          refine ⟨_, hD9, ?_⟩
          clear hD9
          have hD10 : Dd 146 [(.inr (.inr (some 333)))] (upS (upS σ 333 1 0) 335 1 0) (.inl (some (.inl 0)), (upS (upS σ 333 1 0) 335 1 0)) := by
            refine b146 (by decide +kernel) ?_
            rw [show ((upS (upS σ 333 1 0) 335 1 0) 333 1) = 0 by (first | omega | (simp [upS, hz, za1, z1a1, ca1, za2, z1a2, ca2]; done) | (simp [upS, hz, za1, z1a1, ca1, za2, z1a2, ca2]; omega))]
            all_goals rfl
          refine ⟨_, _, hD10, ?_⟩
          clear hD10
          have hD11 : Dd 153 [(.inr (.inr (some 337))), (.inl 0), (.inl (-1))] (upS (upS σ 333 1 0) 335 1 0) (.inl none, (upS (upS (upS σ 333 1 0) 335 1 0) 337 1 0)) := by
            refine b153 (by decide +kernel) ?_
            refine ⟨(show -2147483648 ≤ ((cap 337) : Int) ∧ ((cap 337) : Int) ≤ 2147483647 by have e337 : (cap 337 : Int) = 40 := (by decide +kernel); first | omega | (simp [upS, hz, za1, z1a1, ca1, za2, z1a2, ca2]; done) | (simp [upS, hz, za1, z1a1, ca1, za2, z1a2, ca2]; omega)), ?_⟩
            rw [(show (upS (upS (upS σ 333 1 0) 335 1 0) 337 1 (if 0 < (if ((cap 337) : Int) < 0 then ((cap 337) : Int) else 0) then (if ((cap 337) : Int) < 0 then ((cap 337) : Int) else 0) else 0)) = (upS (upS (upS σ 333 1 0) 335 1 0) 337 1 0) from by rw [show (if (0 : Int) < (if ((cap 337) : Int) < 0 then ((cap 337) : Int) else 0) then (if ((cap 337) : Int) < 0 then ((cap 337) : Int) else 0) else 0) = 0 by (have e337 : (cap 337 : Int) = 40 := (by decide +kernel); first | omega | (simp [upS, hz, za1, z1a1, ca1, za2, z1a2, ca2]; done) | (simp [upS, hz, za1, z1a1, ca1, za2, z1a2, ca2]; omega))])]
            refine b153_19 (by decide +kernel) ?_
            rw [if_neg (show ¬ ((0 : Int) < ((upS (upS (upS σ 333 1 0) 335 1 0) 337 1 0) 337 1)) by first | omega | (simp [upS, hz, za1, z1a1, ca1, za2, z1a2, ca2]; done) | (simp [upS, hz, za1, z1a1, ca1, za2, z1a2, ca2]; omega))]
            all_goals rfl
          refine ⟨_, hD11, ?_⟩
          clear hD11
          have hD12 : Dd 152 [(.inr (.inr (some 343)))] (upS (upS (upS σ 333 1 0) 335 1 0) 337 1 0) (.inl none, (upS (upS (upS (upS σ 333 1 0) 335 1 0) 337 1 0) 343 1 0)) := by
            refine b152 (by decide +kernel) ?_
            all_goals rfl
          refine ⟨_, hD12, ?_⟩
          clear hD12
          all_goals rfl
        refine ⟨_, hD13, ?_⟩
        clear hD13
        have hD14 : Dd 146 [(.inr (.inr (some 333)))] (upS (upS (upS (upS σ 333 1 0) 335 1 0) 337 1 0) 343 1 0) (.inl (some (.inl 0)), (upS (upS (upS (upS σ 333 1 0) 335 1 0) 337 1 0) 343 1 0)) := by
          refine b146 (by decide +kernel) ?_
          rw [show ((upS (upS (upS (upS σ 333 1 0) 335 1 0) 337 1 0) 343 1 0) 333 1) = 0 by (first | omega | (simp [upS, hz, za1, z1a1, ca1, za2, z1a2, ca2]; done) | (simp [upS, hz, za1, z1a1, ca1, za2, z1a2, ca2]; omega))]
          all_goals rfl
        refine ⟨_, _, hD14, ?_⟩
        clear hD14
        have hD15 : Dd 146 [(.inr (.inr (some 335)))] (upS (upS (upS (upS σ 333 1 0) 335 1 0) 337 1 0) 343 1 0) (.inl (some (.inl 0)), (upS (upS (upS (upS σ 333 1 0) 335 1 0) 337 1 0) 343 1 0)) := by
          refine b146 (by decide +kernel) ?_
          rw [show ((upS (upS (upS (upS σ 333 1 0) 335 1 0) 337 1 0) 343 1 0) 335 1) = 0 by (first | omega | (simp [upS, hz, za1, z1a1, ca1, za2, z1a2, ca2]; done) | (simp [upS, hz, za1, z1a1, ca1, za2, z1a2, ca2]; omega))]
          all_goals rfl
        refine ⟨_, _, hD15, ?_⟩
        clear hD15
        have hD16 : Dd 20 [(.inr (.inr (some 332))), (.inl 0), (.inl 0), (.inl 0), (.inl 0)] (upS (upS (upS (upS σ 333 1 0) 335 1 0) 337 1 0) 343 1 0) (.inl none, (upS (upS (upS (upS σ 333 1 0) 335 1 0) 337 1 0) 343 1 0)) := by
          refine b20 ?_
          rw [if_neg (show ¬ ((0 : Int) < 0) by first | omega | (simp [upS, hz, za1, z1a1, ca1, za2, z1a2, ca2]; done) | (simp [upS, hz, za1, z1a1, ca1, za2, z1a2, ca2]; omega))]
          all_goals rfl
        refine ⟨_, hD16, ?_⟩
        clear hD16
        refine b15_29 ?_
        rw [if_pos (show (0 : Int) < 160 by first | omega | (simp [upS, hz, za1, z1a1, ca1, za2, z1a2, ca2]; done) | (simp [upS, hz, za1, z1a1, ca1, za2, z1a2, ca2]; omega))]
        refine ⟨(show (-2147483648 : Int) ≤ (4 * 0) ∧ ((4 * 0) : Int) ≤ 2147483647 by first | omega | (simp [upS, hz, za1, z1a1, ca1, za2, z1a2, ca2]; done) | (simp [upS, hz, za1, z1a1, ca1, za2, z1a2, ca2]; omega)), ?_⟩
        have hD17 : Dd 146 [(.inr (.inr (some 343)))] (upS (upS (upS (upS σ 333 1 0) 335 1 0) 337 1 0) 343 1 0) (.inl (some (.inl 0)), (upS (upS (upS (upS σ 333 1 0) 335 1 0) 337 1 0) 343 1 0)) := by
          refine b146 (by decide +kernel) ?_
          rw [show ((upS (upS (upS (upS σ 333 1 0) 335 1 0) 337 1 0) 343 1 0) 343 1) = 0 by (first | omega | (simp [upS, hz, za1, z1a1, ca1, za2, z1a2, ca2]; done) | (simp [upS, hz, za1, z1a1, ca1, za2, z1a2, ca2]; omega))]
          all_goals rfl
        refine ⟨_, _, hD17, ?_⟩
        clear hD17
        rw [if_neg (show ¬ (((4 * 0) : Int) < 0) by first | omega | (simp [upS, hz, za1, z1a1, ca1, za2, z1a2, ca2]; done) | (simp [upS, hz, za1, z1a1, ca1, za2, z1a2, ca2]; omega))]
        refine b15_147 ?_
        all_goals rfl
      refine ⟨_, _, hD18, (by decide +kernel), ?_⟩
      clear hD18
      have hD31 : Dd 95 [(.inr (.inr (some 379))), (.inr (.inr (some (2 + 2 * ((a1)).toNat)))), (.inr (.inr (some (2 + 2 * ((a2)).toNat)))), (.inr (.inr (some 337)))] (upS (upS (upS (upS σ 333 1 0) 335 1 0) 337 1 0) 343 1 0) (.inl none, (upS (upS (upS (upS (upS (upS (upS (upS (upS σ 333 1 0) 335 1 0) 337 1 0) 343 1 0) 380 1 0) 382 1 0) 384 1 0) 386 1 0) 388 1 0)) := by
        refine b95 (by decide +kernel) (el_1 (i := (a2)) (by first | omega | (simp [upS, hz, za1, z1a1, ca1, za2, z1a2, ca2]; done) | (simp [upS, hz, za1, z1a1, ca1, za2, z1a2, ca2]; omega))).2 ?_
        rw [show (379 + 1) = 380 from rfl]
        have hD19 : Dd 155 [(.inr (.inr (some 380))), (.inr (.inr (some (2 + 2 * ((a1)).toNat))))] (upS (upS (upS (upS σ 333 1 0) 335 1 0) 337 1 0) 343 1 0) (.inl none, (upS (upS (upS (upS (upS σ 333 1 0) 335 1 0) 337 1 0) 343 1 0) 380 1 0)) := by
          refine b155 (el_1 (i := (a1)) (by first | omega | (simp [upS, hz, za1, z1a1, ca1, za2, z1a2, ca2]; done) | (simp [upS, hz, za1, z1a1, ca1, za2, z1a2, ca2]; omega))).2 (by decide +kernel) ?_
          refine ⟨(show -2147483648 ≤ ((cap 380) : Int) ∧ ((cap 380) : Int) ≤ 2147483647 by have e380 : (cap 380 : Int) = 16 := (by decide +kernel); first | omega | (simp [upS, hz, za1, z1a1, ca1, za2, z1a2, ca2]; done) | (simp [upS, hz, za1, z1a1, ca1, za2, z1a2, ca2]; omega)), ?_⟩
          rw [(show (upS (upS (upS (upS (upS σ 333 1 0) 335 1 0) 337 1 0) 343 1 0) 380 1 (if ((cap 380) : Int) < ((upS (upS (upS (upS σ 333 1 0) 335 1 0) 337 1 0) 343 1 0) (2 + 2 * ((a1)).toNat) 1) then ((cap 380) : Int) else ((upS (upS (upS (upS σ 333 1 0) 335 1 0) 337 1 0) 343 1 0) (2 + 2 * ((a1)).toNat) 1))) = (upS (upS (upS (upS (upS σ 333 1 0) 335 1 0) 337 1 0) 343 1 0) 380 1 0) from by rw [show (if ((cap 380) : Int) < ((upS (upS (upS (upS σ 333 1 0) 335 1 0) 337 1 0) 343 1 0) (2 + 2 * ((a1)).toNat) 1) then ((cap 380) : Int) else ((upS (upS (upS (upS σ 333 1 0) 335 1 0) 337 1 0) 343 1 0) (2 + 2 * ((a1)).toNat) 1)) = 0 by (have e380 : (cap 380 : Int) = 16 := (by decide +kernel); first | omega | (simp [upS, hz, za1, z1a1, ca1, za2, z1a2, ca2]; done) | (simp [upS, hz, za1, z1a1, ca1, za2, z1a2, ca2]; omega))])]
          refine b155_18 (by decide +kernel) (el_1 (i := (a1)) (by first | omega | (simp [upS, hz, za1, z1a1, ca1, za2, z1a2, ca2]; done) | (simp [upS, hz, za1, z1a1, ca1, za2, z1a2, ca2]; omega))).2 ?_
          rw [if_neg (show ¬ ((0 : Int) < ((upS (upS (upS (upS (upS σ 333 1 0) 335 1 0) 337 1 0) 343 1 0) 380 1 0) 380 1)) by first | omega | (simp [upS, hz, za1, z1a1, ca1, za2, z1a2, ca2]; done) | (simp [upS, hz, za1, z1a1, ca1, za2, z1a2, ca2]; omega))]
          all_goals rfl
        refine ⟨_, hD19, ?_⟩
        clear hD19
        rw [show (379 + 3) = 382 from rfl]
        have hD20 : Dd 155 [(.inr (.inr (some 382))), (.inr (.inr (some (2 + 2 * ((a2)).toNat))))] (upS (upS (upS (upS (upS σ 333 1 0) 335 1 0) 337 1 0) 343 1 0) 380 1 0) (.inl none, (upS (upS (upS (upS (upS (upS σ 333 1 0) 335 1 0) 337 1 0) 343 1 0) 380 1 0) 382 1 0)) := by
          refine b155 (el_1 (i := (a2)) (by first | omega | (simp [upS, hz, za1, z1a1, ca1, za2, z1a2, ca2]; done) | (simp [upS, hz, za1, z1a1, ca1, za2, z1a2, ca2]; omega))).2 (by decide +kernel) ?_
          refine ⟨(show -2147483648 ≤ ((cap 382) : Int) ∧ ((cap 382) : Int) ≤ 2147483647 by have e382 : (cap 382 : Int) = 16 := (by decide +kernel); first | omega | (simp [upS, hz, za1, z1a1, ca1, za2, z1a2, ca2]; done) | (simp [upS, hz, za1, z1a1, ca1, za2, z1a2, ca2]; omega)), ?_⟩
          rw [(show (upS (upS (upS (upS (upS (upS σ 333 1 0) 335 1 0) 337 1 0) 343 1 0) 380 1 0) 382 1 (if ((cap 382) : Int) < ((upS (upS (upS (upS (upS σ 333 1 0) 335 1 0) 337 1 0) 343 1 0) 380 1 0) (2 + 2 * ((a2)).toNat) 1) then ((cap 382) : Int) else ((upS (upS (upS (upS (upS σ 333 1 0) 335 1 0) 337 1 0) 343 1 0) 380 1 0) (2 + 2 * ((a2)).toNat) 1))) = (upS (upS (upS (upS (upS (upS σ 333 1 0) 335 1 0) 337 1 0) 343 1 0) 380 1 0) 382 1 0) from by rw [show (if ((cap 382) : Int) < ((upS (upS (upS (upS (upS σ 333 1 0) 335 1 0) 337 1 0) 343 1 0) 380 1 0) (2 + 2 * ((a2)).toNat) 1) then ((cap 382) : Int) else ((upS (upS (upS (upS (upS σ 333 1 0) 335 1 0) 337 1 0) 343 1 0) 380 1 0) (2 + 2 * ((a2)).toNat) 1)) = 0 by (have e382 : (cap 382 : Int) = 16 := (by decide +kernel); first | omega | (simp [upS, hz, za1, z1a1, ca1, za2, z1a2, ca2]; done) | (simp [upS, hz, za1, z1a1, ca1, za2, z1a2, ca2]; omega))])]
          refine b155_18 (by decide +kernel) (el_1 (i := (a2)) (by first | omega | (simp [upS, hz, za1, z1a1, ca1, za2, z1a2, ca2]; done) | (simp [upS, hz, za1, z1a1, ca1, za2, z1a2, ca2]; omega))).2 ?_
          rw [if_neg (show ¬ ((0 : Int) < ((upS (upS (upS (upS (upS (upS σ 333 1 0) 335 1 0) 337 1 0) 343 1 0) 380 1 0) 382 1 0) 382 1)) by first | omega | (simp [upS, hz, za1, z1a1, ca1, za2, z1a2, ca2]; done) | (simp [upS, hz, za1, z1a1, ca1, za2, z1a2, ca2]; omega))]
          all_goals rfl
        refine ⟨_, hD20, ?_⟩
        clear hD20
        rw [show (379 + 5) = 384 from rfl]
        have hD22 : Dd 155 [(.inr (.inr (some 384))), (.inr (.inr (some 337)))] (upS (upS (upS (upS (upS (upS σ 333 1 0) 335 1 0) 337 1 0) 343 1 0) 380 1 0) 382 1 0) (.inl none, (upS (upS (upS (upS (upS (upS (upS σ 333 1 0) 335 1 0) 337 1 0) 343 1 0) 380 1 0) 382 1 0) 384 1 0)) := by
          refine b155 (by decide +kernel) (by decide +kernel) ?_
          refine ⟨(show -2147483648 ≤ ((cap 384) : Int) ∧ ((cap 384) : Int) ≤ 2147483647 by have e384 : (cap 384 : Int) = 16 := (by decide +kernel); first | omega | (simp [upS, hz, za1, z1a1, ca1, za2, z1a2, ca2]; done) | (simp [upS, hz, za1, z1a1, ca1, za2, z1a2, ca2]; omega)), ?_⟩
          rw [(show (upS (upS (upS (upS (upS (upS (upS σ 333 1 0) 335 1 0) 337 1 0) 343 1 0) 380 1 0) 382 1 0) 384 1 (if ((cap 384) : Int) < ((upS (upS (upS (upS (upS (upS σ 333 1 0) 335 1 0) 337 1 0) 343 1 0) 380 1 0) 382 1 0) 337 1) then ((cap 384) : Int) else ((upS (upS (upS (upS (upS (upS σ 333 1 0) 335 1 0) 337 1 0) 343 1 0) 380 1 0) 382 1 0) 337 1))) = (upS (upS (upS (upS (upS (upS (upS σ 333 1 0) 335 1 0) 337 1 0) 343 1 0) 380 1 0) 382 1 0) 384 1 0) from by rw [show (if ((cap 384) : Int) < ((upS (upS (upS (upS (upS (upS σ 333 1 0) 335 1 0) 337 1 0) 343 1 0) 380 1 0) 382 1 0) 337 1) then ((cap 384) : Int) else ((upS (upS (upS (upS (upS (upS σ 333 1 0) 335 1 0) 337 1 0) 343 1 0) 380 1 0) 382 1 0) 337 1)) = 0 by (have e384 : (cap 384 : Int) = 16 := (by decide +kernel); first | omega | (simp [upS, hz, za1, z1a1, ca1, za2, z1a2, ca2]; done) | (simp [upS, hz, za1, z1a1, ca1, za2, z1a2, ca2]; omega))])]
          obtain ⟨S21, E21⟩ : ∃ s : Sg, s = (upS (upS (upS (upS (upS (upS (upS σ 333 1 0) 335 1 0) 337 1 0) 343 1 0) 380 1 0) 382 1 0) 384 1 0) := ⟨_, rfl⟩
          rw [← E21]
          refine b155_18 (by decide +kernel) (by decide +kernel) ?_
          rw [if_neg (show ¬ ((0 : Int) < (S21 384 1)) by first | omega | (simp [upS, hz, za1, z1a1, ca1, za2, z1a2, ca2, E21]; done) | (simp [upS, hz, za1, z1a1, ca1, za2, z1a2, ca2, E21]; omega))]
          all_goals (first | rfl | (simp only [E21]))
        obtain ⟨S23, E23⟩ : ∃ s : Sg, s = (upS (upS (upS (upS (upS (upS (upS σ 333 1 0) 335 1 0) 337 1 0) 343 1 0) 380 1 0) 382 1 0) 384 1 0) := ⟨_, rfl⟩
        rw [← E23] at hD22
        refine ⟨_, hD22, ?_⟩
        clear hD22
        have hD24 : Dd 146 [(.inr (.inr (some (2 + 2 * ((a2)).toNat))))] S23 (.inl (some (.inl 0)), S23) := by
          refine b146 (el_1 (i := (a2)) (by first | omega | (simp [upS, hz, za1, z1a1, ca1, za2, z1a2, ca2]; done) | (simp [upS, hz, za1, z1a1, ca1, za2, z1a2, ca2]; omega))).2 ?_
          rw [show (S23 (2 + 2 * ((a2)).toNat) 1) = 0 by (first | omega | (simp [upS, hz, za1, z1a1, ca1, za2, z1a2, ca2, E23]; done) | (simp [upS, hz, za1, z1a1, ca1, za2, z1a2, ca2, E23]; omega))]
          all_goals rfl
        refine ⟨_, _, hD24, ?_⟩
        clear hD24
        rw [show (379 + 7) = 386 from rfl]
        have hD25 : Dd 153 [(.inr (.inr (some 386))), (.inl 0), (.inl (-1))] S23 (.inl none, (upS S23 386 1 0)) := by
          refine b153 (by decide +kernel) ?_
          refine ⟨(show -2147483648 ≤ ((cap 386) : Int) ∧ ((cap 386) : Int) ≤ 2147483647 by have e386 : (cap 386 : Int) = 16 := (by decide +kernel); first | omega | (simp [upS, hz, za1, z1a1, ca1, za2, z1a2, ca2, E23]; done) | (simp [upS, hz, za1, z1a1, ca1, za2, z1a2, ca2, E23]; omega)), ?_⟩
          rw [(show (upS S23 386 1 (if 0 < (if ((cap 386) : Int) < 0 then ((cap 386) : Int) else 0) then (if ((cap 386) : Int) < 0 then ((cap 386) : Int) else 0) else 0)) = (upS S23 386 1 0) from by rw [show (if (0 : Int) < (if ((cap 386) : Int) < 0 then ((cap 386) : Int) else 0) then (if ((cap 386) : Int) < 0 then ((cap 386) : Int) else 0) else 0) = 0 by (have e386 : (cap 386 : Int) = 16 := (by decide +kernel); first | omega | (simp [upS, hz, za1, z1a1, ca1, za2, z1a2, ca2, E23]; done) | (simp [upS, hz, za1, z1a1, ca1, za2, z1a2, ca2, E23]; omega))])]
          refine b153_19 (by decide +kernel) ?_
          rw [if_neg (show ¬ ((0 : Int) < ((upS S23 386 1 0) 386 1)) by first | omega | (simp [upS, hz, za1, z1a1, ca1, za2, z1a2, ca2, E23]; done) | (simp [upS, hz, za1, z1a1, ca1, za2, z1a2, ca2, E23]; omega))]
          all_goals rfl
        refine ⟨_, hD25, ?_⟩
        clear hD25
        refine b95_39 (by decide +kernel) (by decide +kernel) ?_
        have hD26 : Dd 146 [(.inr (.inr (some 337)))] (upS S23 386 1 0) (.inl (some (.inl 0)), (upS S23 386 1 0)) := by
          refine b146 (by decide +kernel) ?_
          rw [show ((upS S23 386 1 0) 337 1) = 0 by (first | omega | (simp [upS, hz, za1, z1a1, ca1, za2, z1a2, ca2, E23]; done) | (simp [upS, hz, za1, z1a1, ca1, za2, z1a2, ca2, E23]; omega))]
          all_goals rfl
        refine ⟨_, _, hD26, ?_⟩
        clear hD26
        rw [if_neg (show ¬ ((0 : Int) < 0) by first | omega | (simp [upS, hz, za1, z1a1, ca1, za2, z1a2, ca2, E23]; done) | (simp [upS, hz, za1, z1a1, ca1, za2, z1a2, ca2, E23]; omega))]
        have hD30 : Dd 94 [(.inr (.inr (some 379)))] (upS S23 386 1 0) (.inl none, (upS (upS S23 386 1 0) 388 1 0)) := by
          refine b94 (by decide +kernel) ?_
          rw [show (379 + 9) = 388 from rfl]
          have hD27 : Dd 152 [(.inr (.inr (some 388)))] (upS S23 386 1 0) (.inl none, (upS (upS S23 386 1 0) 388 1 0)) := by
            refine b152 (by decide +kernel) ?_
            all_goals rfl
          refine ⟨_, hD27, ?_⟩
          clear hD27
          refine b94_11 (by decide +kernel) ?_
          rw [show (379 + 1) = 380 from rfl]
          have hD28 : Dd 146 [(.inr (.inr (some 380)))] (upS (upS S23 386 1 0) 388 1 0) (.inl (some (.inl 0)), (upS (upS S23 386 1 0) 388 1 0)) := by
            refine b146 (by decide +kernel) ?_
            rw [show ((upS (upS S23 386 1 0) 388 1 0) 380 1) = 0 by (first | omega | (simp [upS, hz, za1, z1a1, ca1, za2, z1a2, ca2, E23]; done) | (simp [upS, hz, za1, z1a1, ca1, za2, z1a2, ca2, E23]; omega))]
            all_goals rfl
          refine ⟨_, _, hD28, ?_⟩
          clear hD28
          rw [if_pos (show (0 : Int) ≤ 0 by first | omega | (simp [upS, hz, za1, z1a1, ca1, za2, z1a2, ca2, E23]; done) | (simp [upS, hz, za1, z1a1, ca1, za2, z1a2, ca2, E23]; omega))]
          rw [show (379 + 3) = 382 from rfl]
          have hD29 : Dd 146 [(.inr (.inr (some 382)))] (upS (upS S23 386 1 0) 388 1 0) (.inl (some (.inl 0)), (upS (upS S23 386 1 0) 388 1 0)) := by
            refine b146 (by decide +kernel) ?_
            rw [show ((upS (upS S23 386 1 0) 388 1 0) 382 1) = 0 by (first | omega | (simp [upS, hz, za1, z1a1, ca1, za2, z1a2, ca2, E23]; done) | (simp [upS, hz, za1, z1a1, ca1, za2, z1a2, ca2, E23]; omega))]
            all_goals rfl
          refine ⟨_, _, hD29, ?_⟩
          clear hD29
          rw [if_neg (show ¬ ((0 : Int) < 0) by first | omega | (simp [upS, hz, za1, z1a1, ca1, za2, z1a2, ca2, E23]; done) | (simp [upS, hz, za1, z1a1, ca1, za2, z1a2, ca2, E23]; omega))]
          all_goals rfl
        refine ⟨_, hD30, ?_⟩
        clear hD30
        all_goals (first | rfl | (simp only [E23]))
      obtain ⟨S32, E32⟩ : ∃ s : Sg, s = (upS (upS (upS (upS (upS (upS (upS (upS (upS σ 333 1 0) 335 1 0) 337 1 0) 343 1 0) 380 1 0) 382 1 0) 384 1 0) 386 1 0) 388 1 0) := ⟨_, rfl⟩
      rw [← E32] at hD31
      refine ⟨_, hD31, ?_⟩
      clear hD31
      have hD49 : Dd 108 [(.inr (.inr (some 379)))] S32 (.inl none, (upS (upS S32 384 1 0) 386 1 0)) := by
        refine b108 ?_
        refine b108_2 (by decide +kernel) ?_
        have hD34 : Dd 98 [(.inr (.inr (some 379)))] S32 (.inl (some (.inl 0)), S32) := by
          refine b98 (by decide +kernel) ?_
          rw [show (379 + 9) = 388 from rfl]
          have hD33 : Dd 146 [(.inr (.inr (some 388)))] S32 (.inl (some (.inl 0)), S32) := by
            refine b146 (by decide +kernel) ?_
            rw [show (S32 388 1) = 0 by (first | omega | (simp [upS, hz, za1, z1a1, ca1, za2, z1a2, ca2, E32]; done) | (simp [upS, hz, za1, z1a1, ca1, za2, z1a2, ca2, E32]; omega))]
            all_goals rfl
          refine ⟨_, _, hD33, ?_⟩
          clear hD33
          rw [show (Int.tdiv 0 4) = 0 by (first | omega | (simp [upS, hz, za1, z1a1, ca1, za2, z1a2, ca2, E32]; done) | (simp [upS, hz, za1, z1a1, ca1, za2, z1a2, ca2, E32]; omega))]
          all_goals rfl
        refine ⟨_, _, hD34, ?_⟩
        clear hD34
        rw [if_neg (show ¬ ((0 : Int) < 0) by first | omega | (simp [upS, hz, za1, z1a1, ca1, za2, z1a2, ca2, E32]; done) | (simp [upS, hz, za1, z1a1, ca1, za2, z1a2, ca2, E32]; omega))]
        have hD48 : Dd 113 [(.inr (.inr (some 379)))] S32 (.inl none, (upS (upS S32 384 1 0) 386 1 0)) := by
          refine b113 (by decide +kernel) ?_
          rw [show (379 + 1) = 380 from rfl]
          have hD35 : Dd 146 [(.inr (.inr (some 380)))] S32 (.inl (some (.inl 0)), S32) := by
            refine b146 (by decide +kernel) ?_
            rw [show (S32 380 1) = 0 by (first | omega | (simp [upS, hz, za1, z1a1, ca1, za2, z1a2, ca2, E32]; done) | (simp [upS, hz, za1, z1a1, ca1, za2, z1a2, ca2, E32]; omega))]
            all_goals rfl
          refine ⟨_, _, hD35, ?_⟩
          clear hD35
          rw [show (379 + 5) = 384 from rfl]
          have hD36 : Dd 153 [(.inr (.inr (some 384))), (.inl 0), (.inl (-1))] S32 (.inl none, (upS S32 384 1 0)) := by
            refine b153 (by decide +kernel) ?_
            refine ⟨(show -2147483648 ≤ ((cap 384) : Int) ∧ ((cap 384) : Int) ≤ 2147483647 by have e384 : (cap 384 : Int) = 16 := (by decide +kernel); first | omega | (simp [upS, hz, za1, z1a1, ca1, za2, z1a2, ca2, E32]; done) | (simp [upS, hz, za1, z1a1, ca1, za2, z1a2, ca2, E32]; omega)), ?_⟩
            rw [(show (upS S32 384 1 (if 0 < (if ((cap 384) : Int) < 0 then ((cap 384) : Int) else 0) then (if ((cap 384) : Int) < 0 then ((cap 384) : Int) else 0) else 0)) = (upS S32 384 1 0) from by rw [show (if (0 : Int) < (if ((cap 384) : Int) < 0 then ((cap 384) : Int) else 0) then (if ((cap 384) : Int) < 0 then ((cap 384) : Int) else 0) else 0) = 0 by (have e384 : (cap 384 : Int) = 16 := (by decide +kernel); first | omega | (simp [upS, hz, za1, z1a1, ca1, za2, z1a2, ca2, E32]; done) | (simp [upS, hz, za1, z1a1, ca1, za2, z1a2, ca2, E32]; omega))])]
            refine b153_19 (by decide +kernel) ?_
            rw [if_neg (show ¬ ((0 : Int) < ((upS S32 384 1 0) 384 1)) by first | omega | (simp [upS, hz, za1, z1a1, ca1, za2, z1a2, ca2, E32]; done) | (simp [upS, hz, za1, z1a1, ca1, za2, z1a2, ca2, E32]; omega))]
            all_goals rfl
          refine ⟨_, hD36, ?_⟩
          clear hD36
          rw [show (379 + 3) = 382 from rfl]
          have hD37 : Dd 146 [(.inr (.inr (some 382)))] (upS S32 384 1 0) (.inl (some (.inl 0)), (upS S32 384 1 0)) := by
            refine b146 (by decide +kernel) ?_
            rw [show ((upS S32 384 1 0) 382 1) = 0 by (first | omega | (simp [upS, hz, za1, z1a1, ca1, za2, z1a2, ca2, E32]; done) | (simp [upS, hz, za1, z1a1, ca1, za2, z1a2, ca2, E32]; omega))]
            all_goals rfl
          refine ⟨_, _, hD37, ?_⟩
          clear hD37
          rw [show (379 + 7) = 386 from rfl]
          have hD38 : Dd 153 [(.inr (.inr (some 386))), (.inl 0), (.inl (-1))] (upS S32 384 1 0) (.inl none, (upS (upS S32 384 1 0) 386 1 0)) := by
            refine b153 (by decide +kernel) ?_
            refine ⟨(show -2147483648 ≤ ((cap 386) : Int) ∧ ((cap 386) : Int) ≤ 2147483647 by have e386 : (cap 386 : Int) = 16 := (by decide +kernel); first | omega | (simp [upS, hz, za1, z1a1, ca1, za2, z1a2, ca2, E32]; done) | (simp [upS, hz, za1, z1a1, ca1, za2, z1a2, ca2, E32]; omega)), ?_⟩
            rw [(show (upS (upS S32 384 1 0) 386 1 (if 0 < (if ((cap 386) : Int) < 0 then ((cap 386) : Int) else 0) then (if ((cap 386) : Int) < 0 then ((cap 386) : Int) else 0) else 0)) = (upS (upS S32 384 1 0) 386 1 0) from by rw [show (if (0 : Int) < (if ((cap 386) : Int) < 0 then ((cap 386) : Int) else 0) then (if ((cap 386) : Int) < 0 then ((cap 386) : Int) else 0) else 0) = 0 by (have e386 : (cap 386 : Int) = 16 := (by decide +kernel); first | omega | (simp [upS, hz, za1, z1a1, ca1, za2, z1a2, ca2, E32]; done) | (simp [upS, hz, za1, z1a1, ca1, za2, z1a2, ca2, E32]; omega))])]
            refine b153_19 (by decide +kernel) ?_
            rw [if_neg (show ¬ ((0 : Int) < ((upS (upS S32 384 1 0) 386 1 0) 386 1)) by first | omega | (simp [upS, hz, za1, z1a1, ca1, za2, z1a2, ca2, E32]; done) | (simp [upS, hz, za1, z1a1, ca1, za2, z1a2, ca2, E32]; omega))]
            all_goals rfl
          refine ⟨_, hD38, ?_⟩
          clear hD38
          refine b113_34 (by decide +kernel) ?_
          have hD40 : Dd 98 [(.inr (.inr (some 379)))] (upS (upS S32 384 1 0) 386 1 0) (.inl (some (.inl 0)), (upS (upS S32 384 1 0) 386 1 0)) := by
            refine b98 (by decide +kernel) ?_
            rw [show (379 + 9) = 388 from rfl]
            have hD39 : Dd 146 [(.inr (.inr (some 388)))] (upS (upS S32 384 1 0) 386 1 0) (.inl (some (.inl 0)), (upS (upS S32 384 1 0) 386 1 0)) := by
              refine b146 (by decide +kernel) ?_
              rw [show ((upS (upS S32 384 1 0) 386 1 0) 388 1) = 0 by (first | omega | (simp [upS, hz, za1, z1a1, ca1, za2, z1a2, ca2, E32]; done) | (simp [upS, hz, za1, z1a1, ca1, za2, z1a2, ca2, E32]; omega))]
              all_goals rfl
            refine ⟨_, _, hD39, ?_⟩
            clear hD39
            rw [show (Int.tdiv 0 4) = 0 by (first | omega | (simp [upS, hz, za1, z1a1, ca1, za2, z1a2, ca2, E32]; done) | (simp [upS, hz, za1, z1a1, ca1, za2, z1a2, ca2, E32]; omega))]
            all_goals rfl
          refine ⟨_, _, hD40, ?_⟩
          clear hD40
          rw [if_pos (show (0 : Int) ≤ 0 by first | omega | (simp [upS, hz, za1, z1a1, ca1, za2, z1a2, ca2, E32]; done) | (simp [upS, hz, za1, z1a1, ca1, za2, z1a2, ca2, E32]; omega))]
          have hD42 : Dd 98 [(.inr (.inr (some 379)))] (upS (upS S32 384 1 0) 386 1 0) (.inl (some (.inl 0)), (upS (upS S32 384 1 0) 386 1 0)) := by
            refine b98 (by decide +kernel) ?_
            rw [show (379 + 9) = 388 from rfl]
            have hD41 : Dd 146 [(.inr (.inr (some 388)))] (upS (upS S32 384 1 0) 386 1 0) (.inl (some (.inl 0)), (upS (upS S32 384 1 0) 386 1 0)) := by
              refine b146 (by decide +kernel) ?_
              rw [show ((upS (upS S32 384 1 0) 386 1 0) 388 1) = 0 by (first | omega | (simp [upS, hz, za1, z1a1, ca1, za2, z1a2, ca2, E32]; done) | (simp [upS, hz, za1, z1a1, ca1, za2, z1a2, ca2, E32]; omega))]
              all_goals rfl
            refine ⟨_, _, hD41, ?_⟩
            clear hD41
            rw [show (Int.tdiv 0 4) = 0 by (first | omega | (simp [upS, hz, za1, z1a1, ca1, za2, z1a2, ca2, E32]; done) | (simp [upS, hz, za1, z1a1, ca1, za2, z1a2, ca2, E32]; omega))]
            all_goals rfl
          refine ⟨_, _, hD42, ?_⟩
          clear hD42
          rw [if_neg (show ¬ ((0 : Int) < 0) by first | omega | (simp [upS, hz, za1, z1a1, ca1, za2, z1a2, ca2, E32]; done) | (simp [upS, hz, za1, z1a1, ca1, za2, z1a2, ca2, E32]; omega))]
          rw [show (379 + 1) = 380 from rfl]
          have hD43 : Dd 146 [(.inr (.inr (some 380)))] (upS (upS S32 384 1 0) 386 1 0) (.inl (some (.inl 0)), (upS (upS S32 384 1 0) 386 1 0)) := by
            refine b146 (by decide +kernel) ?_
            rw [show ((upS (upS S32 384 1 0) 386 1 0) 380 1) = 0 by (first | omega | (simp [upS, hz, za1, z1a1, ca1, za2, z1a2, ca2, E32]; done) | (simp [upS, hz, za1, z1a1, ca1, za2, z1a2, ca2, E32]; omega))]
            all_goals rfl
          refine ⟨_, _, hD43, ?_⟩
          clear hD43
          refine b113_65 ?_
          refine b113_69 (by decide +kernel) ?_
          rw [if_neg (show ¬ ((0 : Int) < 0) by first | omega | (simp [upS, hz, za1, z1a1, ca1, za2, z1a2, ca2, E32]; done) | (simp [upS, hz, za1, z1a1, ca1, za2, z1a2, ca2, E32]; omega))]
          have hD45 : Dd 98 [(.inr (.inr (some 379)))] (upS (upS S32 384 1 0) 386 1 0) (.inl (some (.inl 0)), (upS (upS S32 384 1 0) 386 1 0)) := by
            refine b98 (by decide +kernel) ?_
            rw [show (379 + 9) = 388 from rfl]
            have hD44 : Dd 146 [(.inr (.inr (some 388)))] (upS (upS S32 384 1 0) 386 1 0) (.inl (some (.inl 0)), (upS (upS S32 384 1 0) 386 1 0)) := by
              refine b146 (by decide +kernel) ?_
              rw [show ((upS (upS S32 384 1 0) 386 1 0) 388 1) = 0 by (first | omega | (simp [upS, hz, za1, z1a1, ca1, za2, z1a2, ca2, E32]; done) | (simp [upS, hz, za1, z1a1, ca1, za2, z1a2, ca2, E32]; omega))]
              all_goals rfl
            refine ⟨_, _, hD44, ?_⟩
            clear hD44
            rw [show (Int.tdiv 0 4) = 0 by (first | omega | (simp [upS, hz, za1, z1a1, ca1, za2, z1a2, ca2, E32]; done) | (simp [upS, hz, za1, z1a1, ca1, za2, z1a2, ca2, E32]; omega))]
            all_goals rfl
          refine ⟨_, _, hD45, ?_⟩
          clear hD45
          rw [if_neg (show ¬ ((0 : Int) < 0) by first | omega | (simp [upS, hz, za1, z1a1, ca1, za2, z1a2, ca2, E32]; done) | (simp [upS, hz, za1, z1a1, ca1, za2, z1a2, ca2, E32]; omega))]
          refine b113_132 ?_
          refine ⟨(show (-2147483648 : Int) ≤ (0 + 1) ∧ ((0 + 1) : Int) ≤ 2147483647 by first | omega | (simp [upS, hz, za1, z1a1, ca1, za2, z1a2, ca2, E32]; done) | (simp [upS, hz, za1, z1a1, ca1, za2, z1a2, ca2, E32]; omega)), ?_⟩
          rw [show ((0 + 1) : Int) = 1 by (first | omega | (simp [upS, hz, za1, z1a1, ca1, za2, z1a2, ca2, E32]; done) | (simp [upS, hz, za1, z1a1, ca1, za2, z1a2, ca2, E32]; omega))]
          refine b113_34 (by decide +kernel) ?_
          have hD47 : Dd 98 [(.inr (.inr (some 379)))] (upS (upS S32 384 1 0) 386 1 0) (.inl (some (.inl 0)), (upS (upS S32 384 1 0) 386 1 0)) := by
            refine b98 (by decide +kernel) ?_
            rw [show (379 + 9) = 388 from rfl]
            have hD46 : Dd 146 [(.inr (.inr (some 388)))] (upS (upS S32 384 1 0) 386 1 0) (.inl (some (.inl 0)), (upS (upS S32 384 1 0) 386 1 0)) := by
              refine b146 (by decide +kernel) ?_
              rw [show ((upS (upS S32 384 1 0) 386 1 0) 388 1) = 0 by (first | omega | (simp [upS, hz, za1, z1a1, ca1, za2, z1a2, ca2, E32]; done) | (simp [upS, hz, za1, z1a1, ca1, za2, z1a2, ca2, E32]; omega))]
              all_goals rfl
            refine ⟨_, _, hD46, ?_⟩
            clear hD46
            rw [show (Int.tdiv 0 4) = 0 by (first | omega | (simp [upS, hz, za1, z1a1, ca1, za2, z1a2, ca2, E32]; done) | (simp [upS, hz, za1, z1a1, ca1, za2, z1a2, ca2, E32]; omega))]
            all_goals rfl
          refine ⟨_, _, hD47, ?_⟩
          clear hD47
          rw [if_neg (show ¬ ((1 : Int) ≤ 0) by first | omega | (simp [upS, hz, za1, z1a1, ca1, za2, z1a2, ca2, E32]; done) | (simp [upS, hz, za1, z1a1, ca1, za2, z1a2, ca2, E32]; omega))]
          all_goals rfl
        refine ⟨_, hD48, ?_⟩
        clear hD48
        all_goals rfl
      refine ⟨_, hD49, ?_⟩
      clear hD49
      have hD59 : Dd 242 [(.inr (.inr (some 0))), (.inr (.inr (some 379)))] (upS (upS S32 384 1 0) 386 1 0) (.inl (some (.inl 0)), (upS (upS (upS (upS (upS (upS (upS (upS S32 384 1 0) 386 1 0) 21 1 0) 23 1 0) 25 1 0) 27 1 0) 29 1 0) 0 3 1)) := by
        refine b242 ?_
        rw [if_pos (show ((upS (upS S32 384 1 0) 386 1 0) 0 3) < 24 by first | omega | (simp [upS, hz, za1, z1a1, ca1, za2, z1a2, ca2, E32]; done) | (simp [upS, hz, za1, z1a1, ca1, za2, z1a2, ca2, E32]; omega))]
        rw [if_neg (show ¬ ((24 : Int) ≤ ((upS (upS S32 384 1 0) 386 1 0) 0 3)) by first | omega | (simp [upS, hz, za1, z1a1, ca1, za2, z1a2, ca2, E32]; done) | (simp [upS, hz, za1, z1a1, ca1, za2, z1a2, ca2, E32]; omega))]
        refine ⟨(show 0 ≤ ((upS (upS S32 384 1 0) 386 1 0) 0 3) by first | omega | (simp [upS, hz, za1, z1a1, ca1, za2, z1a2, ca2, E32]; done) | (simp [upS, hz, za1, z1a1, ca1, za2, z1a2, ca2, E32]; omega)), ?_⟩
        rw [show ((((upS (upS S32 384 1 0) 386 1 0) 0 3))).toNat = 0 by (first | omega | (simp [upS, hz, za1, z1a1, ca1, za2, z1a2, ca2, E32]; done) | (simp [upS, hz, za1, z1a1, ca1, za2, z1a2, ca2, E32]; omega))]
        refine ⟨20, (by decide +kernel), (by decide +kernel), ?_⟩
        have hD57 : Dd 96 [(.inr (.inr (some 20))), (.inr (.inr (some 379)))] (upS (upS S32 384 1 0) 386 1 0) (.inl none, (upS (upS (upS (upS (upS (upS (upS S32 384 1 0) 386 1 0) 21 1 0) 23 1 0) 25 1 0) 27 1 0) 29 1 0)) := by
          refine b96 (by decide +kernel) (by decide +kernel) ?_
          rw [show (20 + 1) = 21 from rfl]
          rw [show (379 + 1) = 380 from rfl]
          have hD50 : Dd 155 [(.inr (.inr (some 21))), (.inr (.inr (some 380)))] (upS (upS S32 384 1 0) 386 1 0) (.inl none, (upS (upS (upS S32 384 1 0) 386 1 0) 21 1 0)) := by
            refine b155 (by decide +kernel) (by decide +kernel) ?_
            refine ⟨(show -2147483648 ≤ ((cap 21) : Int) ∧ ((cap 21) : Int) ≤ 2147483647 by have e21 : (cap 21 : Int) = 16 := (by decide +kernel); first | omega | (simp [upS, hz, za1, z1a1, ca1, za2, z1a2, ca2, E32]; done) | (simp [upS, hz, za1, z1a1, ca1, za2, z1a2, ca2, E32]; omega)), ?_⟩
            rw [(show (upS (upS (upS S32 384 1 0) 386 1 0) 21 1 (if ((cap 21) : Int) < ((upS (upS S32 384 1 0) 386 1 0) 380 1) then ((cap 21) : Int) else ((upS (upS S32 384 1 0) 386 1 0) 380 1))) = (upS (upS (upS S32 384 1 0) 386 1 0) 21 1 0) from by rw [show (if ((cap 21) : Int) < ((upS (upS S32 384 1 0) 386 1 0) 380 1) then ((cap 21) : Int) else ((upS (upS S32 384 1 0) 386 1 0) 380 1)) = 0 by (have e21 : (cap 21 : Int) = 16 := (by decide +kernel); first | omega | (simp [upS, hz, za1, z1a1, ca1, za2, z1a2, ca2, E32]; done) | (simp [upS, hz, za1, z1a1, ca1, za2, z1a2, ca2, E32]; omega))])]
            refine b155_18 (by decide +kernel) (by decide +kernel) ?_
            rw [if_neg (show ¬ ((0 : Int) < ((upS (upS (upS S32 384 1 0) 386 1 0) 21 1 0) 21 1)) by first | omega | (simp [upS, hz, za1, z1a1, ca1, za2, z1a2, ca2, E32]; done) | (simp [upS, hz, za1, z1a1, ca1, za2, z1a2, ca2, E32]; omega))]
            all_goals rfl
          refine ⟨_, hD50, ?_⟩
          clear hD50
          rw [show (20 + 3) = 23 from rfl]
          rw [show (379 + 3) = 382 from rfl]
          have hD51 : Dd 155 [(.inr (.inr (some 23))), (.inr (.inr (some 382)))] (upS (upS (upS S32 384 1 0) 386 1 0) 21 1 0) (.inl none, (upS (upS (upS (upS S32 384 1 0) 386 1 0) 21 1 0) 23 1 0)) := by
            refine b155 (by decide +kernel) (by decide +kernel) ?_
            refine ⟨(show -2147483648 ≤ ((cap 23) : Int) ∧ ((cap 23) : Int) ≤ 2147483647 by have e23 : (cap 23 : Int) = 16 := (by decide +kernel); first | omega | (simp [upS, hz, za1, z1a1, ca1, za2, z1a2, ca2, E32]; done) | (simp [upS, hz, za1, z1a1, ca1, za2, z1a2, ca2, E32]; omega)), ?_⟩
            rw [(show (upS (upS (upS (upS S32 384 1 0) 386 1 0) 21 1 0) 23 1 (if ((cap 23) : Int) < ((upS (upS (upS S32 384 1 0) 386 1 0) 21 1 0) 382 1) then ((cap 23) : Int) else ((upS (upS (upS S32 384 1 0) 386 1 0) 21 1 0) 382 1))) = (upS (upS (upS (upS S32 384 1 0) 386 1 0) 21 1 0) 23 1 0) from by rw [show (if ((cap 23) : Int) < ((upS (upS (upS S32 384 1 0) 386 1 0) 21 1 0) 382 1) then ((cap 23) : Int) else ((upS (upS (upS S32 384 1 0) 386 1 0) 21 1 0) 382 1)) = 0 by (have e23 : (cap 23 : Int) = 16 := (by decide +kernel); first | omega | (simp [upS, hz, za1, z1a1, ca1, za2, z1a2, ca2, E32]; done) | (simp [upS, hz, za1, z1a1, ca1, za2, z1a2, ca2, E32]; omega))])]
            refine b155_18 (by decide +kernel) (by decide +kernel) ?_
            rw [if_neg (show ¬ ((0 : Int) < ((upS (upS (upS (upS S32 384 1 0) 386 1 0) 21 1 0) 23 1 0) 23 1)) by first | omega | (simp [upS, hz, za1, z1a1, ca1, za2, z1a2, ca2, E32]; done) | (simp [upS, hz, za1, z1a1, ca1, za2, z1a2, ca2, E32]; omega))]
            all_goals rfl
          refine ⟨_, hD51, ?_⟩
          clear hD51
          rw [show (20 + 5) = 25 from rfl]
          rw [show (379 + 5) = 384 from rfl]
          have hD52 : Dd 155 [(.inr (.inr (some 25))), (.inr (.inr (some 384)))] (upS (upS (upS (upS S32 384 1 0) 386 1 0) 21 1 0) 23 1 0) (.inl none, (upS (upS (upS (upS (upS S32 384 1 0) 386 1 0) 21 1 0) 23 1 0) 25 1 0)) := by
            refine b155 (by decide +kernel) (by decide +kernel) ?_
            refine ⟨(show -2147483648 ≤ ((cap 25) : Int) ∧ ((cap 25) : Int) ≤ 2147483647 by have e25 : (cap 25 : Int) = 16 := (by decide +kernel); first | omega | (simp [upS, hz, za1, z1a1, ca1, za2, z1a2, ca2, E32]; done) | (simp [upS, hz, za1, z1a1, ca1, za2, z1a2, ca2, E32]; omega)), ?_⟩
            rw [(show (upS (upS (upS (upS (upS S32 384 1 0) 386 1 0) 21 1 0) 23 1 0) 25 1 (if ((cap 25) : Int) < ((upS (upS (upS (upS S32 384 1 0) 386 1 0) 21 1 0) 23 1 0) 384 1) then ((cap 25) : Int) else ((upS (upS (upS (upS S32 384 1 0) 386 1 0) 21 1 0) 23 1 0) 384 1))) = (upS (upS (upS (upS (upS S32 384 1 0) 386 1 0) 21 1 0) 23 1 0) 25 1 0) from by rw [show (if ((cap 25) : Int) < ((upS (upS (upS (upS S32 384 1 0) 386 1 0) 21 1 0) 23 1 0) 384 1) then ((cap 25) : Int) else ((upS (upS (upS (upS S32 384 1 0) 386 1 0) 21 1 0) 23 1 0) 384 1)) = 0 by (have e25 : (cap 25 : Int) = 16 := (by decide +kernel); first | omega | (simp [upS, hz, za1, z1a1, ca1, za2, z1a2, ca2, E32]; done) | (simp [upS, hz, za1, z1a1, ca1, za2, z1a2, ca2, E32]; omega))])]
            refine b155_18 (by decide +kernel) (by decide +kernel) ?_
            rw [if_neg (show ¬ ((0 : Int) < ((upS (upS (upS (upS (upS S32 384 1 0) 386 1 0) 21 1 0) 23 1 0) 25 1 0) 25 1)) by first | omega | (simp [upS, hz, za1, z1a1, ca1, za2, z1a2, ca2, E32]; done) | (simp [upS, hz, za1, z1a1, ca1, za2, z1a2, ca2, E32]; omega))]
            all_goals rfl
          refine ⟨_, hD52, ?_⟩
          clear hD52
          rw [show (20 + 7) = 27 from rfl]
          rw [show (379 + 7) = 386 from rfl]
          have hD53 : Dd 155 [(.inr (.inr (some 27))), (.inr (.inr (some 386)))] (upS (upS (upS (upS (upS S32 384 1 0) 386 1 0) 21 1 0) 23 1 0) 25 1 0) (.inl none, (upS (upS (upS (upS (upS (upS S32 384 1 0) 386 1 0) 21 1 0) 23 1 0) 25 1 0) 27 1 0)) := by
            refine b155 (by decide +kernel) (by decide +kernel) ?_
            refine ⟨(show -2147483648 ≤ ((cap 27) : Int) ∧ ((cap 27) : Int) ≤ 2147483647 by have e27 : (cap 27 : Int) = 16 := (by decide +kernel); first | omega | (simp [upS, hz, za1, z1a1, ca1, za2, z1a2, ca2, E32]; done) | (simp [upS, hz, za1, z1a1, ca1, za2, z1a2, ca2, E32]; omega)), ?_⟩
            rw [(show (upS (upS (upS (upS (upS (upS S32 384 1 0) 386 1 0) 21 1 0) 23 1 0) 25 1 0) 27 1 (if ((cap 27) : Int) < ((upS (upS (upS (upS (upS S32 384 1 0) 386 1 0) 21 1 0) 23 1 0) 25 1 0) 386 1) then ((cap 27) : Int) else ((upS (upS (upS (upS (upS S32 384 1 0) 386 1 0) 21 1 0) 23 1 0) 25 1 0) 386 1))) = (upS (upS (upS (upS (upS (upS S32 384 1 0) 386 1 0) 21 1 0) 23 1 0) 25 1 0) 27 1 0) from by rw [show (if ((cap 27) : Int) < ((upS (upS (upS (upS (upS S32 384 1 0) 386 1 0) 21 1 0) 23 1 0) 25 1 0) 386 1) then ((cap 27) : Int) else ((upS (upS (upS (upS (upS S32 384 1 0) 386 1 0) 21 1 0) 23 1 0) 25 1 0) 386 1)) = 0 by (have e27 : (cap 27 : Int) = 16 := (by decide +kernel); first | omega | (simp [upS, hz, za1, z1a1, ca1, za2, z1a2, ca2, E32]; done) | (simp [upS, hz, za1, z1a1, ca1, za2, z1a2, ca2, E32]; omega))])]
            refine b155_18 (by decide +kernel) (by decide +kernel) ?_
            rw [if_neg (show ¬ ((0 : Int) < ((upS (upS (upS (upS (upS (upS S32 384 1 0) 386 1 0) 21 1 0) 23 1 0) 25 1 0) 27 1 0) 27 1)) by first | omega | (simp [upS, hz, za1, z1a1, ca1, za2, z1a2, ca2, E32]; done) | (simp [upS, hz, za1, z1a1, ca1, za2, z1a2, ca2, E32]; omega))]
            all_goals rfl
          refine ⟨_, hD53, ?_⟩
          clear hD53
          rw [show (20 + 9) = 29 from rfl]
          rw [show (379 + 9) = 388 from rfl]
          have hD55 : Dd 155 [(.inr (.inr (some 29))), (.inr (.inr (some 388)))] (upS (upS (upS (upS (upS (upS S32 384 1 0) 386 1 0) 21 1 0) 23 1 0) 25 1 0) 27 1 0) (.inl none, (upS (upS (upS (upS (upS (upS (upS S32 384 1 0) 386 1 0) 21 1 0) 23 1 0) 25 1 0) 27 1 0) 29 1 0)) := by
            refine b155 (by decide +kernel) (by decide +kernel) ?_
            refine ⟨(show -2147483648 ≤ ((cap 29) : Int) ∧ ((cap 29) : Int) ≤ 2147483647 by have e29 : (cap 29 : Int) = 68 := (by decide +kernel); first | omega | (simp [upS, hz, za1, z1a1, ca1, za2, z1a2, ca2, E32]; done) | (simp [upS, hz, za1, z1a1, ca1, za2, z1a2, ca2, E32]; omega)), ?_⟩
            rw [(show (upS (upS (upS (upS (upS (upS (upS S32 384 1 0) 386 1 0) 21 1 0) 23 1 0) 25 1 0) 27 1 0) 29 1 (if ((cap 29) : Int) < ((upS (upS (upS (upS (upS (upS S32 384 1 0) 386 1 0) 21 1 0) 23 1 0) 25 1 0) 27 1 0) 388 1) then ((cap 29) : Int) else ((upS (upS (upS (upS (upS (upS S32 384 1 0) 386 1 0) 21 1 0) 23 1 0) 25 1 0) 27 1 0) 388 1))) = (upS (upS (upS (upS (upS (upS (upS S32 384 1 0) 386 1 0) 21 1 0) 23 1 0) 25 1 0) 27 1 0) 29 1 0) from by rw [show (if ((cap 29) : Int) < ((upS (upS (upS (upS (upS (upS S32 384 1 0) 386 1 0) 21 1 0) 23 1 0) 25 1 0) 27 1 0) 388 1) then ((cap 29) : Int) else ((upS (upS (upS (upS (upS (upS S32 384 1 0) 386 1 0) 21 1 0) 23 1 0) 25 1 0) 27 1 0) 388 1)) = 0 by (have e29 : (cap 29 : Int) = 68 := (by decide +kernel); first | omega | (simp [upS, hz, za1, z1a1, ca1, za2, z1a2, ca2, E32]; done) | (simp [upS, hz, za1, z1a1, ca1, za2, z1a2, ca2, E32]; omega))])]
            obtain ⟨S54, E54⟩ : ∃ s : Sg, s = (upS (upS (upS (upS (upS (upS (upS S32 384 1 0) 386 1 0) 21 1 0) 23 1 0) 25 1 0) 27 1 0) 29 1 0) := ⟨_, rfl⟩
            rw [← E54]
            refine b155_18 (by decide +kernel) (by decide +kernel) ?_
            rw [if_neg (show ¬ ((0 : Int) < (S54 29 1)) by first | omega | (simp [upS, hz, za1, z1a1, ca1, za2, z1a2, ca2, E32, E54]; done) | (simp [upS, hz, za1, z1a1, ca1, za2, z1a2, ca2, E32, E54]; omega))]
            all_goals (first | rfl | (simp only [E54]))
          obtain ⟨S56, E56⟩ : ∃ s : Sg, s = (upS (upS (upS (upS (upS (upS (upS S32 384 1 0) 386 1 0) 21 1 0) 23 1 0) 25 1 0) 27 1 0) 29 1 0) := ⟨_, rfl⟩
          rw [← E56] at hD55
          refine ⟨_, hD55, ?_⟩
          clear hD55
          all_goals (first | rfl | (simp only [E56]))
        obtain ⟨S58, E58⟩ : ∃ s : Sg, s = (upS (upS (upS (upS (upS (upS (upS S32 384 1 0) 386 1 0) 21 1 0) 23 1 0) 25 1 0) 27 1 0) 29 1 0) := ⟨_, rfl⟩
        rw [← E58] at hD57
        refine ⟨_, hD57, ?_⟩
        clear hD57
        refine ⟨(show -2147483648 ≤ ((S58 0 3) + 1) ∧ ((S58 0 3) + 1) ≤ 2147483647 by first | omega | (simp [upS, hz, za1, z1a1, ca1, za2, z1a2, ca2, E32, E58]; done) | (simp [upS, hz, za1, z1a1, ca1, za2, z1a2, ca2, E32, E58]; omega)), ?_⟩
        refine ⟨(show -2147483648 ≤ (((upS S58 0 3 ((S58 0 3) + 1)) 0 3) - 1) ∧ (((upS S58 0 3 ((S58 0 3) + 1)) 0 3) - 1) ≤ 2147483647 by first | omega | (simp [upS, hz, za1, z1a1, ca1, za2, z1a2, ca2, E32, E58]; done) | (simp [upS, hz, za1, z1a1, ca1, za2, z1a2, ca2, E32, E58]; omega)), ?_⟩
        rw [(show (upS S58 0 3 ((S58 0 3) + 1)) = (upS S58 0 3 1) from by rw [show ((S58 0 3) + 1) = 1 by (first | omega | (simp [upS, hz, za1, z1a1, ca1, za2, z1a2, ca2, E32, E58]; done) | (simp [upS, hz, za1, z1a1, ca1, za2, z1a2, ca2, E32, E58]; omega))])]
        rw [show (((upS S58 0 3 1) 0 3) - 1) = 0 by (first | omega | (simp [upS, hz, za1, z1a1, ca1, za2, z1a2, ca2, E32, E58]; done) | (simp [upS, hz, za1, z1a1, ca1, za2, z1a2, ca2, E32, E58]; omega))]
        all_goals (first | rfl | (simp only [E58]))
      obtain ⟨S60, E60⟩ : ∃ s : Sg, s = (upS (upS (upS (upS (upS (upS (upS (upS S32 384 1 0) 386 1 0) 21 1 0) 23 1 0) 25 1 0) 27 1 0) 29 1 0) 0 3 1) := ⟨_, rfl⟩
      rw [← E60] at hD59
      refine Or.inl ⟨_, _, hD59, ?_⟩
      clear hD59
      all_goals (first | rfl | (simp only [E32, E60]))
    obtain ⟨S62, E62⟩ : ∃ s : Sg, s = (upS (upS (upS (upS (upS (upS (upS (upS (upS (upS (upS (upS (upS (upS (upS (upS (upS σ 333 1 0) 335 1 0) 337 1 0) 343 1 0) 380 1 0) 382 1 0) 384 1 0) 386 1 0) 388 1 0) 384 1 0) 386 1 0) 21 1 0) 23 1 0) 25 1 0) 27 1 0) 29 1 0) 0 3 1) := ⟨_, rfl⟩
    rw [← E62] at hD61
    refine Or.inl ⟨_, _, hD61, ?_⟩
    clear hD61
    rw [(show (upS S62 726 ((0 : Int).toNat) 0) = (upS S62 726 0 0) from by rw [show ((0 : Int).toNat) = 0 by (first | omega | (simp [upS, hz, za1, z1a1, ca1, za2, z1a2, ca2, E62]; done) | (simp [upS, hz, za1, z1a1, ca1, za2, z1a2, ca2, E62]; omega))])]
    all_goals (first | rfl | (simp only [E62]))
  obtain ⟨S900, E900⟩ : ∃ s : Sg, s = (upS (upS (upS (upS (upS (upS (upS (upS (upS (upS (upS (upS (upS (upS (upS (upS (upS (upS σ 333 1 0) 335 1 0) 337 1 0) 343 1 0) 380 1 0) 382 1 0) 384 1 0) 386 1 0) 388 1 0) 384 1 0) 386 1 0) 21 1 0) 23 1 0) 25 1 0) 27 1 0) 29 1 0) 0 3 1) 726 0 0) := ⟨_, rfl⟩
  rw [← E900] at hA
  have hB : Dd 299 [(.inr (.inr (some 682))), (.inl a1), (.inl a2), (.inl a3)] S900 (.inl (some (.inl 0)), (upS (upS (upS (upS (upS (upS (upS (upS (upS (upS (upS (upS (upS (upS (upS (upS (upS (upS (upS S900 682 0 0) 682 12 0) 682 13 0) 682 22 0) 696 0 0) 696 1 0) 696 2 0) 696 3 0) 682 22 1) 682 22 0) 682 17 0) 682 18 0) 682 19 0) 682 20 0) 694 0 0) 688 0 0) 689 0 0) 704 0 0) 682 3 1)) := by
    refine b299 ?_
    have hD64 : Dd 247 [(.inl a1)] S900 (.inl (some (.inl 1)), S900) := by
      refine b247 ?_
      have hD63 : Dd 246 [(.inl a1), (.inl 4)] S900 (.inl (some (.inl 1)), S900) := by
        refine b246 ?_
        try rw [if_pos (show (0 : Int) ≤ a1 by first | omega | (simp [upS, hz, za1, z1a1, ca1, za2, z1a2, ca2, E900]; done) | (simp [upS, hz, za1, z1a1, ca1, za2, z1a2, ca2, E900]; omega))]
        try rw [if_pos (show a1 < 4 by first | omega | (simp [upS, hz, za1, z1a1, ca1, za2, z1a2, ca2, E900]; done) | (simp [upS, hz, za1, z1a1, ca1, za2, z1a2, ca2, E900]; omega))]
        all_goals rfl
      refine ⟨_, _, hD63, ?_⟩
      clear hD63
      refine ⟨(show 1 = 0 ∨ 1 = 1 by first | omega | (simp [upS, hz, za1, z1a1, ca1, za2, z1a2, ca2, E900]; done) | (simp [upS, hz, za1, z1a1, ca1, za2, z1a2, ca2, E900]; omega)), ?_⟩
      all_goals rfl
    refine ⟨_, _, hD64, ?_⟩
    clear hD64
    rw [if_neg (show ¬ ((1 : Int) = 0) by first | omega | (simp [upS, hz, za1, z1a1, ca1, za2, z1a2, ca2, E900]; done) | (simp [upS, hz, za1, z1a1, ca1, za2, z1a2, ca2, E900]; omega))]
    have hD66 : Dd 247 [(.inl a2)] S900 (.inl (some (.inl 1)), S900) := by
      refine b247 ?_
      have hD65 : Dd 246 [(.inl a2), (.inl 4)] S900 (.inl (some (.inl 1)), S900) := by
        refine b246 ?_
        try rw [if_pos (show (0 : Int) ≤ a2 by first | omega | (simp [upS, hz, za1, z1a1, ca1, za2, z1a2, ca2, E900]; done) | (simp [upS, hz, za1, z1a1, ca1, za2, z1a2, ca2, E900]; omega))]
        try rw [if_pos (show a2 < 4 by first | omega | (simp [upS, hz, za1, z1a1, ca1, za2, z1a2, ca2, E900]; done) | (simp [upS, hz, za1, z1a1, ca1, za2, z1a2, ca2, E900]; omega))]
        all_goals rfl
      refine ⟨_, _, hD65, ?_⟩
      clear hD65
      refine ⟨(show 1 = 0 ∨ 1 = 1 by first | omega | (simp [upS, hz, za1, z1a1, ca1, za2, z1a2, ca2, E900]; done) | (simp [upS, hz, za1, z1a1, ca1, za2, z1a2, ca2, E900]; omega)), ?_⟩
      all_goals rfl
    refine ⟨_, _, hD66, ?_⟩
    clear hD66
    rw [if_neg (show ¬ ((1 : Int) = 0) by first | omega | (simp [upS, hz, za1, z1a1, ca1, za2, z1a2, ca2, E900]; done) | (simp [upS, hz, za1, z1a1, ca1, za2, z1a2, ca2, E900]; omega))]
    have hD68 : Dd 275 [(.inl a3)] S900 (.inl (some (.inl 1)), S900) := by
      refine b275 ?_
      have hD67 : Dd 246 [(.inl a3), (.inl 3)] S900 (.inl (some (.inl 1)), S900) := by
        refine b246 ?_
        try rw [if_pos (show (0 : Int) ≤ a3 by first | omega | (simp [upS, hz, za1, z1a1, ca1, za2, z1a2, ca2, E900]; done) | (simp [upS, hz, za1, z1a1, ca1, za2, z1a2, ca2, E900]; omega))]
        try rw [if_pos (show a3 < 3 by first | omega | (simp [upS, hz, za1, z1a1, ca1, za2, z1a2, ca2, E900]; done) | (simp [upS, hz, za1, z1a1, ca1, za2, z1a2, ca2, E900]; omega))]
        all_goals rfl
      refine ⟨_, _, hD67, ?_⟩
      clear hD67
      refine ⟨(show 1 = 0 ∨ 1 = 1 by first | omega | (simp [upS, hz, za1, z1a1, ca1, za2, z1a2, ca2, E900]; done) | (simp [upS, hz, za1, z1a1, ca1, za2, z1a2, ca2, E900]; omega)), ?_⟩
      all_goals rfl
    refine ⟨_, _, hD68, ?_⟩
    clear hD68
    try rw [if_neg (show ¬ ((1 : Int) = 0) by first | omega | (simp [upS, hz, za1, z1a1, ca1, za2, z1a2, ca2, E900]; done) | (simp [upS, hz, za1, z1a1, ca1, za2, z1a2, ca2, E900]; omega))]
    try rw [if_neg (show ¬ ((S900 682 3) = 24) by first | omega | (simp [upS, hz, za1, z1a1, ca1, za2, z1a2, ca2, E900]; done) | (simp [upS, hz, za1, z1a1, ca1, za2, z1a2, ca2, E900]; omega))]
    refine b299_44 ?_
    have hD69 : Dd 245 [(.inr (.inr (some 682))), (.inl 0)] S900 (.inl (some (.inl 1)), (upS S900 682 0 0)) := by
      refine b245 ?_
      try rw [if_pos (show (0 : Int) = 0 by first | omega | (simp [upS, hz, za1, z1a1, ca1, za2, z1a2, ca2, E900]; done) | (simp [upS, hz, za1, z1a1, ca1, za2, z1a2, ca2, E900]; omega))]
      all_goals rfl
    refine ⟨_, _, hD69, ?_⟩
    clear hD69
    rw [if_neg (show ¬ ((1 : Int) = 0) by first | omega | (simp [upS, hz, za1, z1a1, ca1, za2, z1a2, ca2, E900]; done) | (simp [upS, hz, za1, z1a1, ca1, za2, z1a2, ca2, E900]; omega))]
    have hD72 : Dd 276 [(.inr (.inr (some 682))), (.inl a1), (.inl a2)] (upS S900 682 0 0) (.inl none, (upS (upS (upS S900 682 0 0) 682 12 0) 682 13 0)) := by
      refine b276 ?_
      refine ⟨(show -2147483648 ≤ (16 * a1) ∧ (16 * a1) ≤ 2147483647 by first | omega | (simp [upS, hz, za1, z1a1, ca1, za2, z1a2, ca2, E900]; done) | (simp [upS, hz, za1, z1a1, ca1, za2, z1a2, ca2, E900]; omega)), ?_⟩
      refine ⟨(show 0 ≤ a1 ∧ a1 < 4 by first | omega | (simp [upS, hz, za1, z1a1, ca1, za2, z1a2, ca2, E900]; done) | (simp [upS, hz, za1, z1a1, ca1, za2, z1a2, ca2, E900]; omega)), ?_⟩
      rw [show ((upS S900 682 0 0) 684 (a1).toNat) = 0 by (first | omega | (simp [upS, hz, za1, z1a1, ca1, za2, z1a2, ca2, E900]; done) | (simp [upS, hz, za1, z1a1, ca1, za2, z1a2, ca2, E900]; omega))]
      have hD70 : Dd 263 [(.inr (.inr (some 682))), (.inr (.inr (some 683))), (.inl (16 * a1)), (.inl 0)] (upS S900 682 0 0) (.inl none, (upS (upS S900 682 0 0) 682 12 0)) := by
        refine b263 ?_
        refine b263_8 (show qA 683 0 64 = true by decide +kernel) ?_
        rw [if_neg (show ¬ ((0 : Int) < 0) by first | omega | (simp [upS, hz, za1, z1a1, ca1, za2, z1a2, ca2, E900]; done) | (simp [upS, hz, za1, z1a1, ca1, za2, z1a2, ca2, E900]; omega))]
        all_goals rfl
      refine ⟨_, hD70, ?_⟩
      clear hD70
      refine ⟨(show -2147483648 ≤ (16 * a2) ∧ (16 * a2) ≤ 2147483647 by first | omega | (simp [upS, hz, za1, z1a1, ca1, za2, z1a2, ca2, E900]; done) | (simp [upS, hz, za1, z1a1, ca1, za2, z1a2, ca2, E900]; omega)), ?_⟩
      refine ⟨(show 0 ≤ a2 ∧ a2 < 4 by first | omega | (simp [upS, hz, za1, z1a1, ca1, za2, z1a2, ca2, E900]; done) | (simp [upS, hz, za1, z1a1, ca1, za2, z1a2, ca2, E900]; omega)), ?_⟩
      rw [show ((upS (upS S900 682 0 0) 682 12 0) 684 (a2).toNat) = 0 by (first | omega | (simp [upS, hz, za1, z1a1, ca1, za2, z1a2, ca2, E900]; done) | (simp [upS, hz, za1, z1a1, ca1, za2, z1a2, ca2, E900]; omega))]
      have hD71 : Dd 264 [(.inr (.inr (some 682))), (.inr (.inr (some 683))), (.inl (16 * a2)), (.inl 0)] (upS (upS S900 682 0 0) 682 12 0) (.inl none, (upS (upS (upS S900 682 0 0) 682 12 0) 682 13 0)) := by
        refine b264 ?_
        refine b264_8 (show qA 683 0 64 = true by decide +kernel) ?_
        rw [if_neg (show ¬ ((0 : Int) < 0) by first | omega | (simp [upS, hz, za1, z1a1, ca1, za2, z1a2, ca2, E900]; done) | (simp [upS, hz, za1, z1a1, ca1, za2, z1a2, ca2, E900]; omega))]
        all_goals rfl
      refine ⟨_, hD71, ?_⟩
      clear hD71
      all_goals rfl
    refine ⟨_, hD72, ?_⟩
    clear hD72
    rw [show ((upS (upS (upS S900 682 0 0) 682 12 0) 682 13 0) 682 3) = 0 by (first | omega | (simp [upS, hz, za1, z1a1, ca1, za2, z1a2, ca2, E900]; done) | (simp [upS, hz, za1, z1a1, ca1, za2, z1a2, ca2, E900]; omega))]
    have hD86 : Dd 287 [(.inr (.inr (some 682))), (.inl 0), (.inl a3)] (upS (upS (upS S900 682 0 0) 682 12 0) 682 13 0) (.inl none, (upS (upS (upS (upS (upS (upS (upS (upS (upS (upS (upS (upS (upS (upS (upS (upS (upS (upS S900 682 0 0) 682 12 0) 682 13 0) 682 22 0) 696 0 0) 696 1 0) 696 2 0) 696 3 0) 682 22 1) 682 22 0) 682 17 0) 682 18 0) 682 19 0) 682 20 0) 694 0 0) 688 0 0) 689 0 0) 704 0 0)) := by
      refine b287 ?_
      have hD83 : Dd 274 [(.inr (.inr (some 682))), (.inl a3)] (upS (upS (upS S900 682 0 0) 682 12 0) 682 13 0) (.inl (some (.inl 0)), (upS (upS (upS (upS (upS (upS (upS (upS (upS (upS (upS (upS (upS (upS (upS S900 682 0 0) 682 12 0) 682 13 0) 682 22 0) 696 0 0) 696 1 0) 696 2 0) 696 3 0) 682 22 1) 682 22 0) 682 17 0) 682 18 0) 682 19 0) 682 20 0) 694 0 0)) := by
        refine b274 ?_
        refine b274_2 ?_
        rw [if_neg (show ¬ ((0 : Int) < ((upS (upS (upS S900 682 0 0) 682 12 0) 682 13 0) 682 12)) by first | omega | (simp [upS, hz, za1, z1a1, ca1, za2, z1a2, ca2, E900]; done) | (simp [upS, hz, za1, z1a1, ca1, za2, z1a2, ca2, E900]; omega))]
        rw [show ((upS (upS (upS (upS S900 682 0 0) 682 12 0) 682 13 0) 682 22 0) 682 12) = 0 by (first | omega | (simp [upS, hz, za1, z1a1, ca1, za2, z1a2, ca2, E900]; done) | (simp [upS, hz, za1, z1a1, ca1, za2, z1a2, ca2, E900]; omega))]
        rw [show ((upS (upS (upS (upS S900 682 0 0) 682 12 0) 682 13 0) 682 22 0) 682 13) = 0 by (first | omega | (simp [upS, hz, za1, z1a1, ca1, za2, z1a2, ca2, E900]; done) | (simp [upS, hz, za1, z1a1, ca1, za2, z1a2, ca2, E900]; omega))]
        have hD73 : Dd 267 [(.inr (.inr (some 682))), (.inl 0), (.inl 0), (.inl 0), (.inl 0)] (upS (upS (upS (upS S900 682 0 0) 682 12 0) 682 13 0) 682 22 0) (.inl none, (upS (upS (upS (upS (upS (upS (upS (upS (upS S900 682 0 0) 682 12 0) 682 13 0) 682 22 0) 696 0 0) 696 1 0) 696 2 0) 696 3 0) 682 22 1)) := by
          refine b267 ?_
          refine ⟨(show -2147483648 ≤ (4 * ((upS (upS (upS (upS S900 682 0 0) 682 12 0) 682 13 0) 682 22 0) 682 22)) ∧ (4 * ((upS (upS (upS (upS S900 682 0 0) 682 12 0) 682 13 0) 682 22 0) 682 22)) ≤ 2147483647 by first | omega | (simp [upS, hz, za1, z1a1, ca1, za2, z1a2, ca2, E900]; done) | (simp [upS, hz, za1, z1a1, ca1, za2, z1a2, ca2, E900]; omega)), ?_⟩
          refine ⟨(show 0 ≤ (4 * ((upS (upS (upS (upS S900 682 0 0) 682 12 0) 682 13 0) 682 22 0) 682 22)) ∧ (4 * ((upS (upS (upS (upS S900 682 0 0) 682 12 0) 682 13 0) 682 22 0) 682 22)) < 512 by first | omega | (simp [upS, hz, za1, z1a1, ca1, za2, z1a2, ca2, E900]; done) | (simp [upS, hz, za1, z1a1, ca1, za2, z1a2, ca2, E900]; omega)), ?_⟩
          refine ⟨(show -2147483648 ≤ (4 * ((upS (upS (upS (upS (upS S900 682 0 0) 682 12 0) 682 13 0) 682 22 0) 696 (((4 * ((upS (upS (upS (upS S900 682 0 0) 682 12 0) 682 13 0) 682 22 0) 682 22))).toNat) 0) 682 22)) ∧ (4 * ((upS (upS (upS (upS (upS S900 682 0 0) 682 12 0) 682 13 0) 682 22 0) 696 (((4 * ((upS (upS (upS (upS S900 682 0 0) 682 12 0) 682 13 0) 682 22 0) 682 22))).toNat) 0) 682 22)) ≤ 2147483647 by first | omega | (simp [upS, hz, za1, z1a1, ca1, za2, z1a2, ca2, E900]; done) | (simp [upS, hz, za1, z1a1, ca1, za2, z1a2, ca2, E900]; omega)), ?_⟩
          refine ⟨(show -2147483648 ≤ ((4 * ((upS (upS (upS (upS (upS S900 682 0 0) 682 12 0) 682 13 0) 682 22 0) 696 (((4 * ((upS (upS (upS (upS S900 682 0 0) 682 12 0) 682 13 0) 682 22 0) 682 22))).toNat) 0) 682 22)) + 1) ∧ ((4 * ((upS (upS (upS (upS (upS S900 682 0 0) 682 12 0) 682 13 0) 682 22 0) 696 (((4 * ((upS (upS (upS (upS S900 682 0 0) 682 12 0) 682 13 0) 682 22 0) 682 22))).toNat) 0) 682 22)) + 1) ≤ 2147483647 by first | omega | (simp [upS, hz, za1, z1a1, ca1, za2, z1a2, ca2, E900]; done) | (simp [upS, hz, za1, z1a1, ca1, za2, z1a2, ca2, E900]; omega)), ?_⟩
          refine ⟨(show 0 ≤ ((4 * ((upS (upS (upS (upS (upS S900 682 0 0) 682 12 0) 682 13 0) 682 22 0) 696 (((4 * ((upS (upS (upS (upS S900 682 0 0) 682 12 0) 682 13 0) 682 22 0) 682 22))).toNat) 0) 682 22)) + 1) ∧ ((4 * ((upS (upS (upS (upS (upS S900 682 0 0) 682 12 0) 682 13 0) 682 22 0) 696 (((4 * ((upS (upS (upS (upS S900 682 0 0) 682 12 0) 682 13 0) 682 22 0) 682 22))).toNat) 0) 682 22)) + 1) < 512 by first | omega | (simp [upS, hz, za1, z1a1, ca1, za2, z1a2, ca2, E900]; done) | (simp [upS, hz, za1, z1a1, ca1, za2, z1a2, ca2, E900]; omega)), ?_⟩
          refine ⟨(show -2147483648 ≤ (4 * ((upS (upS (upS (upS (upS (upS S900 682 0 0) 682 12 0) 682 13 0) 682 22 0) 696 (((4 * ((upS (upS (upS (upS S900 682 0 0) 682 12 0) 682 13 0) 682 22 0) 682 22))).toNat) 0) 696 ((((4 * ((upS (upS (upS (upS (upS S900 682 0 0) 682 12 0) 682 13 0) 682 22 0) 696 (((4 * ((upS (upS (upS (upS S900 682 0 0) 682 12 0) 682 13 0) 682 22 0) 682 22))).toNat) 0) 682 22)) + 1)).toNat) 0) 682 22)) ∧ (4 * ((upS (upS (upS (upS (upS (upS S900 682 0 0) 682 12 0) 682 13 0) 682 22 0) 696 (((4 * ((upS (upS (upS (upS S900 682 0 0) 682 12 0) 682 13 0) 682 22 0) 682 22))).toNat) 0) 696 ((((4 * ((upS (upS (upS (upS (upS S900 682 0 0) 682 12 0) 682 13 0) 682 22 0) 696 (((4 * ((upS (upS (upS (upS S900 682 0 0) 682 12 0) 682 13 0) 682 22 0) 682 22))).toNat) 0) 682 22)) + 1)).toNat) 0) 682 22)) ≤ 2147483647 by first | omega | (simp [upS, hz, za1, z1a1, ca1, za2, z1a2, ca2, E900]; done) | (simp [upS, hz, za1, z1a1, ca1, za2, z1a2, ca2, E900]; omega)), ?_⟩
          refine ⟨(show -2147483648 ≤ ((4 * ((upS (upS (upS (upS (upS (upS S900 682 0 0) 682 12 0) 682 13 0) 682 22 0) 696 (((4 * ((upS (upS (upS (upS S900 682 0 0) 682 12 0) 682 13 0) 682 22 0) 682 22))).toNat) 0) 696 ((((4 * ((upS (upS (upS (upS (upS S900 682 0 0) 682 12 0) 682 13 0) 682 22 0) 696 (((4 * ((upS (upS (upS (upS S900 682 0 0) 682 12 0) 682 13 0) 682 22 0) 682 22))).toNat) 0) 682 22)) + 1)).toNat) 0) 682 22)) + 2) ∧ ((4 * ((upS (upS (upS (upS (upS (upS S900 682 0 0) 682 12 0) 682 13 0) 682 22 0) 696 (((4 * ((upS (upS (upS (upS S900 682 0 0) 682 12 0) 682 13 0) 682 22 0) 682 22))).toNat) 0) 696 ((((4 * ((upS (upS (upS (upS (upS S900 682 0 0) 682 12 0) 682 13 0) 682 22 0) 696 (((4 * ((upS (upS (upS (upS S900 682 0 0) 682 12 0) 682 13 0) 682 22 0) 682 22))).toNat) 0) 682 22)) + 1)).toNat) 0) 682 22)) + 2) ≤ 2147483647 by first | omega | (simp [upS, hz, za1, z1a1, ca1, za2, z1a2, ca2, E900]; done) | (simp [upS, hz, za1, z1a1, ca1, za2, z1a2, ca2, E900]; omega)), ?_⟩
          refine ⟨(show 0 ≤ ((4 * ((upS (upS (upS (upS (upS (upS S900 682 0 0) 682 12 0) 682 13 0) 682 22 0) 696 (((4 * ((upS (upS (upS (upS S900 682 0 0) 682 12 0) 682 13 0) 682 22 0) 682 22))).toNat) 0) 696 ((((4 * ((upS (upS (upS (upS (upS S900 682 0 0) 682 12 0) 682 13 0) 682 22 0) 696 (((4 * ((upS (upS (upS (upS S900 682 0 0) 682 12 0) 682 13 0) 682 22 0) 682 22))).toNat) 0) 682 22)) + 1)).toNat) 0) 682 22)) + 2) ∧ ((4 * ((upS (upS (upS (upS (upS (upS S900 682 0 0) 682 12 0) 682 13 0) 682 22 0) 696 (((4 * ((upS (upS (upS (upS S900 682 0 0) 682 12 0) 682 13 0) 682 22 0) 682 22))).toNat) 0) 696 ((((4 * ((upS (upS (upS (upS (upS S900 682 0 0) 682 12 0) 682 13 0) 682 22 0) 696 (((4 * ((upS (upS (upS (upS S900 682 0 0) 682 12 0) 682 13 0) 682 22 0) 682 22))).toNat) 0) 682 22)) + 1)).toNat) 0) 682 22)) + 2) < 512 by first | omega | (simp [upS, hz, za1, z1a1, ca1, za2, z1a2, ca2, E900]; done) | (simp [upS, hz, za1, z1a1, ca1, za2, z1a2, ca2, E900]; omega)), ?_⟩
          refine ⟨(show -2147483648 ≤ (4 * ((upS (upS (upS (upS (upS (upS (upS S900 682 0 0) 682 12 0) 682 13 0) 682 22 0) 696 (((4 * ((upS (upS (upS (upS S900 682 0 0) 682 12 0) 682 13 0) 682 22 0) 682 22))).toNat) 0) 696 ((((4 * ((upS (upS (upS (upS (upS S900 682 0 0) 682 12 0) 682 13 0) 682 22 0) 696 (((4 * ((upS (upS (upS (upS S900 682 0 0) 682 12 0) 682 13 0) 682 22 0) 682 22))).toNat) 0) 682 22)) + 1)).toNat) 0) 696 ((((4 * ((upS (upS (upS (upS (upS (upS S900 682 0 0) 682 12 0) 682 13 0) 682 22 0) 696 (((4 * ((upS (upS (upS (upS S900 682 0 0) 682 12 0) 682 13 0) 682 22 0) 682 22))).toNat) 0) 696 ((((4 * ((upS (upS (upS (upS (upS S900 682 0 0) 682 12 0) 682 13 0) 682 22 0) 696 (((4 * ((upS (upS (upS (upS S900 682 0 0) 682 12 0) 682 13 0) 682 22 0) 682 22))).toNat) 0) 682 22)) + 1)).toNat) 0) 682 22)) + 2)).toNat) 0) 682 22)) ∧ (4 * ((upS (upS (upS (upS (upS (upS (upS S900 682 0 0) 682 12 0) 682 13 0) 682 22 0) 696 (((4 * ((upS (upS (upS (upS S900 682 0 0) 682 12 0) 682 13 0) 682 22 0) 682 22))).toNat) 0) 696 ((((4 * ((upS (upS (upS (upS (upS S900 682 0 0) 682 12 0) 682 13 0) 682 22 0) 696 (((4 * ((upS (upS (upS (upS S900 682 0 0) 682 12 0) 682 13 0) 682 22 0) 682 22))).toNat) 0) 682 22)) + 1)).toNat) 0) 696 ((((4 * ((upS (upS (upS (upS (upS (upS S900 682 0 0) 682 12 0) 682 13 0) 682 22 0) 696 (((4 * ((upS (upS (upS (upS S900 682 0 0) 682 12 0) 682 13 0) 682 22 0) 682 22))).toNat) 0) 696 ((((4 * ((upS (upS (upS (upS (upS S900 682 0 0) 682 12 0) 682 13 0) 682 22 0) 696 (((4 * ((upS (upS (upS (upS S900 682 0 0) 682 12 0) 682 13 0) 682 22 0) 682 22))).toNat) 0) 682 22)) + 1)).toNat) 0) 682 22)) + 2)).toNat) 0) 682 22)) ≤ 2147483647 by first | omega | (simp [upS, hz, za1, z1a1, ca1, za2, z1a2, ca2, E900]; done) | (simp [upS, hz, za1, z1a1, ca1, za2, z1a2, ca2, E900]; omega)), ?_⟩
          refine ⟨(show -2147483648 ≤ ((4 * ((upS (upS (upS (upS (upS (upS (upS S900 682 0 0) 682 12 0) 682 13 0) 682 22 0) 696 (((4 * ((upS (upS (upS (upS S900 682 0 0) 682 12 0) 682 13 0) 682 22 0) 682 22))).toNat) 0) 696 ((((4 * ((upS (upS (upS (upS (upS S900 682 0 0) 682 12 0) 682 13 0) 682 22 0) 696 (((4 * ((upS (upS (upS (upS S900 682 0 0) 682 12 0) 682 13 0) 682 22 0) 682 22))).toNat) 0) 682 22)) + 1)).toNat) 0) 696 ((((4 * ((upS (upS (upS (upS (upS (upS S900 682 0 0) 682 12 0) 682 13 0) 682 22 0) 696 (((4 * ((upS (upS (upS (upS S900 682 0 0) 682 12 0) 682 13 0) 682 22 0) 682 22))).toNat) 0) 696 ((((4 * ((upS (upS (upS (upS (upS S900 682 0 0) 682 12 0) 682 13 0) 682 22 0) 696 (((4 * ((upS (upS (upS (upS S900 682 0 0) 682 12 0) 682 13 0) 682 22 0) 682 22))).toNat) 0) 682 22)) + 1)).toNat) 0) 682 22)) + 2)).toNat) 0) 682 22)) + 3) ∧ ((4 * ((upS (upS (upS (upS (upS (upS (upS S900 682 0 0) 682 12 0) 682 13 0) 682 22 0) 696 (((4 * ((upS (upS (upS (upS S900 682 0 0) 682 12 0) 682 13 0) 682 22 0) 682 22))).toNat) 0) 696 ((((4 * ((upS (upS (upS (upS (upS S900 682 0 0) 682 12 0) 682 13 0) 682 22 0) 696 (((4 * ((upS (upS (upS (upS S900 682 0 0) 682 12 0) 682 13 0) 682 22 0) 682 22))).toNat) 0) 682 22)) + 1)).toNat) 0) 696 ((((4 * ((upS (upS (upS (upS (upS (upS S900 682 0 0) 682 12 0) 682 13 0) 682 22 0) 696 (((4 * ((upS (upS (upS (upS S900 682 0 0) 682 12 0) 682 13 0) 682 22 0) 682 22))).toNat) 0) 696 ((((4 * ((upS (upS (upS (upS (upS S900 682 0 0) 682 12 0) 682 13 0) 682 22 0) 696 (((4 * ((upS (upS (upS (upS S900 682 0 0) 682 12 0) 682 13 0) 682 22 0) 682 22))).toNat) 0) 682 22)) + 1)).toNat) 0) 682 22)) + 2)).toNat) 0) 682 22)) + 3) ≤ 2147483647 by first | omega | (simp [upS, hz, za1, z1a1, ca1, za2, z1a2, ca2, E900]; done) | (simp [upS, hz, za1, z1a1, ca1, za2, z1a2, ca2, E900]; omega)), ?_⟩
          refine ⟨(show 0 ≤ ((4 * ((upS (upS (upS (upS (upS (upS (upS S900 682 0 0) 682 12 0) 682 13 0) 682 22 0) 696 (((4 * ((upS (upS (upS (upS S900 682 0 0) 682 12 0) 682 13 0) 682 22 0) 682 22))).toNat) 0) 696 ((((4 * ((upS (upS (upS (upS (upS S900 682 0 0) 682 12 0) 682 13 0) 682 22 0) 696 (((4 * ((upS (upS (upS (upS S900 682 0 0) 682 12 0) 682 13 0) 682 22 0) 682 22))).toNat) 0) 682 22)) + 1)).toNat) 0) 696 ((((4 * ((upS (upS (upS (upS (upS (upS S900 682 0 0) 682 12 0) 682 13 0) 682 22 0) 696 (((4 * ((upS (upS (upS (upS S900 682 0 0) 682 12 0) 682 13 0) 682 22 0) 682 22))).toNat) 0) 696 ((((4 * ((upS (upS (upS (upS (upS S900 682 0 0) 682 12 0) 682 13 0) 682 22 0) 696 (((4 * ((upS (upS (upS (upS S900 682 0 0) 682 12 0) 682 13 0) 682 22 0) 682 22))).toNat) 0) 682 22)) + 1)).toNat) 0) 682 22)) + 2)).toNat) 0) 682 22)) + 3) ∧ ((4 * ((upS (upS (upS (upS (upS (upS (upS S900 682 0 0) 682 12 0) 682 13 0) 682 22 0) 696 (((4 * ((upS (upS (upS (upS S900 682 0 0) 682 12 0) 682 13 0) 682 22 0) 682 22))).toNat) 0) 696 ((((4 * ((upS (upS (upS (upS (upS S900 682 0 0) 682 12 0) 682 13 0) 682 22 0) 696 (((4 * ((upS (upS (upS (upS S900 682 0 0) 682 12 0) 682 13 0) 682 22 0) 682 22))).toNat) 0) 682 22)) + 1)).toNat) 0) 696 ((((4 * ((upS (upS (upS (upS (upS (upS S900 682 0 0) 682 12 0) 682 13 0) 682 22 0) 696 (((4 * ((upS (upS (upS (upS S900 682 0 0) 682 12 0) 682 13 0) 682 22 0) 682 22))).toNat) 0) 696 ((((4 * ((upS (upS (upS (upS (upS S900 682 0 0) 682 12 0) 682 13 0) 682 22 0) 696 (((4 * ((upS (upS (upS (upS S900 682 0 0) 682 12 0) 682 13 0) 682 22 0) 682 22))).toNat) 0) 682 22)) + 1)).toNat) 0) 682 22)) + 2)).toNat) 0) 682 22)) + 3) < 512 by first | omega | (simp [upS, hz, za1, z1a1, ca1, za2, z1a2, ca2, E900]; done) | (simp [upS, hz, za1, z1a1, ca1, za2, z1a2, ca2, E900]; omega)), ?_⟩
          refine ⟨(show -2147483648 ≤ (((upS (upS (upS (upS (upS (upS (upS (upS S900 682 0 0) 682 12 0) 682 13 0) 682 22 0) 696 (((4 * ((upS (upS (upS (upS S900 682 0 0) 682 12 0) 682 13 0) 682 22 0) 682 22))).toNat) 0) 696 ((((4 * ((upS (upS (upS (upS (upS S900 682 0 0) 682 12 0) 682 13 0) 682 22 0) 696 (((4 * ((upS (upS (upS (upS S900 682 0 0) 682 12 0) 682 13 0) 682 22 0) 682 22))).toNat) 0) 682 22)) + 1)).toNat) 0) 696 ((((4 * ((upS (upS (upS (upS (upS (upS S900 682 0 0) 682 12 0) 682 13 0) 682 22 0) 696 (((4 * ((upS (upS (upS (upS S900 682 0 0) 682 12 0) 682 13 0) 682 22 0) 682 22))).toNat) 0) 696 ((((4 * ((upS (upS (upS (upS (upS S900 682 0 0) 682 12 0) 682 13 0) 682 22 0) 696 (((4 * ((upS (upS (upS (upS S900 682 0 0) 682 12 0) 682 13 0) 682 22 0) 682 22))).toNat) 0) 682 22)) + 1)).toNat) 0) 682 22)) + 2)).toNat) 0) 696 ((((4 * ((upS (upS (upS (upS (upS (upS (upS S900 682 0 0) 682 12 0) 682 13 0) 682 22 0) 696 (((4 * ((upS (upS (upS (upS S900 682 0 0) 682 12 0) 682 13 0) 682 22 0) 682 22))).toNat) 0) 696 ((((4 * ((upS (upS (upS (upS (upS S900 682 0 0) 682 12 0) 682 13 0) 682 22 0) 696 (((4 * ((upS (upS (upS (upS S900 682 0 0) 682 12 0) 682 13 0) 682 22 0) 682 22))).toNat) 0) 682 22)) + 1)).toNat) 0) 696 ((((4 * ((upS (upS (upS (upS (upS (upS S900 682 0 0) 682 12 0) 682 13 0) 682 22 0) 696 (((4 * ((upS (upS (upS (upS S900 682 0 0) 682 12 0) 682 13 0) 682 22 0) 682 22))).toNat) 0) 696 ((((4 * ((upS (upS (upS (upS (upS S900 682 0 0) 682 12 0) 682 13 0) 682 22 0) 696 (((4 * ((upS (upS (upS (upS S900 682 0 0) 682 12 0) 682 13 0) 682 22 0) 682 22))).toNat) 0) 682 22)) + 1)).toNat) 0) 682 22)) + 2)).toNat) 0) 682 22)) + 3)).toNat) 0) 682 22) + 1) ∧ (((upS (upS (upS (upS (upS (upS (upS (upS S900 682 0 0) 682 12 0) 682 13 0) 682 22 0) 696 (((4 * ((upS (upS (upS (upS S900 682 0 0) 682 12 0) 682 13 0) 682 22 0) 682 22))).toNat) 0) 696 ((((4 * ((upS (upS (upS (upS (upS S900 682 0 0) 682 12 0) 682 13 0) 682 22 0) 696 (((4 * ((upS (upS (upS (upS S900 682 0 0) 682 12 0) 682 13 0) 682 22 0) 682 22))).toNat) 0) 682 22)) + 1)).toNat) 0) 696 ((((4 * ((upS (upS (upS (upS (upS (upS S900 682 0 0) 682 12 0) 682 13 0) 682 22 0) 696 (((4 * ((upS (upS (upS (upS S900 682 0 0) 682 12 0) 682 13 0) 682 22 0) 682 22))).toNat) 0) 696 ((((4 * ((upS (upS (upS (upS (upS S900 682 0 0) 682 12 0) 682 13 0) 682 22 0) 696 (((4 * ((upS (upS (upS (upS S900 682 0 0) 682 12 0) 682 13 0) 682 22 0) 682 22))).toNat) 0) 682 22)) + 1)).toNat) 0) 682 22)) + 2)).toNat) 0) 696 ((((4 * ((upS (upS (upS (upS (upS (upS (upS S900 682 0 0) 682 12 0) 682 13 0) 682 22 0) 696 (((4 * ((upS (upS (upS (upS S900 682 0 0) 682 12 0) 682 13 0) 682 22 0) 682 22))).toNat) 0) 696 ((((4 * ((upS (upS (upS (upS (upS S900 682 0 0) 682 12 0) 682 13 0) 682 22 0) 696 (((4 * ((upS (upS (upS (upS S900 682 0 0) 682 12 0) 682 13 0) 682 22 0) 682 22))).toNat) 0) 682 22)) + 1)).toNat) 0) 696 ((((4 * ((upS (upS (upS (upS (upS (upS S900 682 0 0) 682 12 0) 682 13 0) 682 22 0) 696 (((4 * ((upS (upS (upS (upS S900 682 0 0) 682 12 0) 682 13 0) 682 22 0) 682 22))).toNat) 0) 696 ((((4 * ((upS (upS (upS (upS (upS S900 682 0 0) 682 12 0) 682 13 0) 682 22 0) 696 (((4 * ((upS (upS (upS (upS S900 682 0 0) 682 12 0) 682 13 0) 682 22 0) 682 22))).toNat) 0) 682 22)) + 1)).toNat) 0) 682 22)) + 2)).toNat) 0) 682 22)) + 3)).toNat) 0) 682 22) + 1) ≤ 2147483647 by first | omega | (simp [upS, hz, za1, z1a1, ca1, za2, z1a2, ca2, E900]; done) | (simp [upS, hz, za1, z1a1, ca1, za2, z1a2, ca2, E900]; omega)), ?_⟩
          rw [(show (upS (upS (upS (upS (upS (upS (upS (upS (upS S900 682 0 0) 682 12 0) 682 13 0) 682 22 0) 696 (((4 * ((upS (upS (upS (upS S900 682 0 0) 682 12 0) 682 13 0) 682 22 0) 682 22))).toNat) 0) 696 ((((4 * ((upS (upS (upS (upS (upS S900 682 0 0) 682 12 0) 682 13 0) 682 22 0) 696 (((4 * ((upS (upS (upS (upS S900 682 0 0) 682 12 0) 682 13 0) 682 22 0) 682 22))).toNat) 0) 682 22)) + 1)).toNat) 0) 696 ((((4 * ((upS (upS (upS (upS (upS (upS S900 682 0 0) 682 12 0) 682 13 0) 682 22 0) 696 (((4 * ((upS (upS (upS (upS S900 682 0 0) 682 12 0) 682 13 0) 682 22 0) 682 22))).toNat) 0) 696 ((((4 * ((upS (upS (upS (upS (upS S900 682 0 0) 682 12 0) 682 13 0) 682 22 0) 696 (((4 * ((upS (upS (upS (upS S900 682 0 0) 682 12 0) 682 13 0) 682 22 0) 682 22))).toNat) 0) 682 22)) + 1)).toNat) 0) 682 22)) + 2)).toNat) 0) 696 ((((4 * ((upS (upS (upS (upS (upS (upS (upS S900 682 0 0) 682 12 0) 682 13 0) 682 22 0) 696 (((4 * ((upS (upS (upS (upS S900 682 0 0) 682 12 0) 682 13 0) 682 22 0) 682 22))).toNat) 0) 696 ((((4 * ((upS (upS (upS (upS (upS S900 682 0 0) 682 12 0) 682 13 0) 682 22 0) 696 (((4 * ((upS (upS (upS (upS S900 682 0 0) 682 12 0) 682 13 0) 682 22 0) 682 22))).toNat) 0) 682 22)) + 1)).toNat) 0) 696 ((((4 * ((upS (upS (upS (upS (upS (upS S900 682 0 0) 682 12 0) 682 13 0) 682 22 0) 696 (((4 * ((upS (upS (upS (upS S900 682 0 0) 682 12 0) 682 13 0) 682 22 0) 682 22))).toNat) 0) 696 ((((4 * ((upS (upS (upS (upS (upS S900 682 0 0) 682 12 0) 682 13 0) 682 22 0) 696 (((4 * ((upS (upS (upS (upS S900 682 0 0) 682 12 0) 682 13 0) 682 22 0) 682 22))).toNat) 0) 682 22)) + 1)).toNat) 0) 682 22)) + 2)).toNat) 0) 682 22)) + 3)).toNat) 0) 682 22 (((upS (upS (upS (upS (upS (upS (upS (upS S900 682 0 0) 682 12 0) 682 13 0) 682 22 0) 696 (((4 * ((upS (upS (upS (upS S900 682 0 0) 682 12 0) 682 13 0) 682 22 0) 682 22))).toNat) 0) 696 ((((4 * ((upS (upS (upS (upS (upS S900 682 0 0) 682 12 0) 682 13 0) 682 22 0) 696 (((4 * ((upS (upS (upS (upS S900 682 0 0) 682 12 0) 682 13 0) 682 22 0) 682 22))).toNat) 0) 682 22)) + 1)).toNat) 0) 696 ((((4 * ((upS (upS (upS (upS (upS (upS S900 682 0 0) 682 12 0) 682 13 0) 682 22 0) 696 (((4 * ((upS (upS (upS (upS S900 682 0 0) 682 12 0) 682 13 0) 682 22 0) 682 22))).toNat) 0) 696 ((((4 * ((upS (upS (upS (upS (upS S900 682 0 0) 682 12 0) 682 13 0) 682 22 0) 696 (((4 * ((upS (upS (upS (upS S900 682 0 0) 682 12 0) 682 13 0) 682 22 0) 682 22))).toNat) 0) 682 22)) + 1)).toNat) 0) 682 22)) + 2)).toNat) 0) 696 ((((4 * ((upS (upS (upS (upS (upS (upS (upS S900 682 0 0) 682 12 0) 682 13 0) 682 22 0) 696 (((4 * ((upS (upS (upS (upS S900 682 0 0) 682 12 0) 682 13 0) 682 22 0) 682 22))).toNat) 0) 696 ((((4 * ((upS (upS (upS (upS (upS S900 682 0 0) 682 12 0) 682 13 0) 682 22 0) 696 (((4 * ((upS (upS (upS (upS S900 682 0 0) 682 12 0) 682 13 0) 682 22 0) 682 22))).toNat) 0) 682 22)) + 1)).toNat) 0) 696 ((((4 * ((upS (upS (upS (upS (upS (upS S900 682 0 0) 682 12 0) 682 13 0) 682 22 0) 696 (((4 * ((upS (upS (upS (upS S900 682 0 0) 682 12 0) 682 13 0) 682 22 0) 682 22))).toNat) 0) 696 ((((4 * ((upS (upS (upS (upS (upS S900 682 0 0) 682 12 0) 682 13 0) 682 22 0) 696 (((4 * ((upS (upS (upS (upS S900 682 0 0) 682 12 0) 682 13 0) 682 22 0) 682 22))).toNat) 0) 682 22)) + 1)).toNat) 0) 682 22)) + 2)).toNat) 0) 682 22)) + 3)).toNat) 0) 682 22) + 1)) = (upS (upS (upS (upS (upS (upS (upS (upS (upS S900 682 0 0) 682 12 0) 682 13 0) 682 22 0) 696 0 0) 696 1 0) 696 2 0) 696 3 0) 682 22 1) from by rw [show (((upS (upS (upS (upS (upS (upS (upS (upS S900 682 0 0) 682 12 0) 682 13 0) 682 22 0) 696 (((4 * ((upS (upS (upS (upS S900 682 0 0) 682 12 0) 682 13 0) 682 22 0) 682 22))).toNat) 0) 696 ((((4 * ((upS (upS (upS (upS (upS S900 682 0 0) 682 12 0) 682 13 0) 682 22 0) 696 (((4 * ((upS (upS (upS (upS S900 682 0 0) 682 12 0) 682 13 0) 682 22 0) 682 22))).toNat) 0) 682 22)) + 1)).toNat) 0) 696 ((((4 * ((upS (upS (upS (upS (upS (upS S900 682 0 0) 682 12 0) 682 13 0) 682 22 0) 696 (((4 * ((upS (upS (upS (upS S900 682 0 0) 682 12 0) 682 13 0) 682 22 0) 682 22))).toNat) 0) 696 ((((4 * ((upS (upS (upS (upS (upS S900 682 0 0) 682 12 0) 682 13 0) 682 22 0) 696 (((4 * ((upS (upS (upS (upS S900 682 0 0) 682 12 0) 682 13 0) 682 22 0) 682 22))).toNat) 0) 682 22)) + 1)).toNat) 0) 682 22)) + 2)).toNat) 0) 696 ((((4 * ((upS (upS (upS (upS (upS (upS (upS S900 682 0 0) 682 12 0) 682 13 0) 682 22 0) 696 (((4 * ((upS (upS (upS (upS S900 682 0 0) 682 12 0) 682 13 0) 682 22 0) 682 22))).toNat) 0) 696 ((((4 * ((upS (upS (upS (upS (upS S900 682 0 0) 682 12 0) 682 13 0) 682 22 0) 696 (((4 * ((upS (upS (upS (upS S900 682 0 0) 682 12 0) 682 13 0) 682 22 0) 682 22))).toNat) 0) 682 22)) + 1)).toNat) 0) 696 ((((4 * ((upS (upS (upS (upS (upS (upS S900 682 0 0) 682 12 0) 682 13 0) 682 22 0) 696 (((4 * ((upS (upS (upS (upS S900 682 0 0) 682 12 0) 682 13 0) 682 22 0) 682 22))).toNat) 0) 696 ((((4 * ((upS (upS (upS (upS (upS S900 682 0 0) 682 12 0) 682 13 0) 682 22 0) 696 (((4 * ((upS (upS (upS (upS S900 682 0 0) 682 12 0) 682 13 0) 682 22 0) 682 22))).toNat) 0) 682 22)) + 1)).toNat) 0) 682 22)) + 2)).toNat) 0) 682 22)) + 3)).toNat) 0) 682 22) + 1) = 1 by (first | omega | (simp [upS, hz, za1, z1a1, ca1, za2, z1a2, ca2, E900]; done) | (simp [upS, hz, za1, z1a1, ca1, za2, z1a2, ca2, E900]; omega)), show ((((4 * ((upS (upS (upS (upS (upS (upS (upS S900 682 0 0) 682 12 0) 682 13 0) 682 22 0) 696 (((4 * ((upS (upS (upS (upS S900 682 0 0) 682 12 0) 682 13 0) 682 22 0) 682 22))).toNat) 0) 696 ((((4 * ((upS (upS (upS (upS (upS S900 682 0 0) 682 12 0) 682 13 0) 682 22 0) 696 (((4 * ((upS (upS (upS (upS S900 682 0 0) 682 12 0) 682 13 0) 682 22 0) 682 22))).toNat) 0) 682 22)) + 1)).toNat) 0) 696 ((((4 * ((upS (upS (upS (upS (upS (upS S900 682 0 0) 682 12 0) 682 13 0) 682 22 0) 696 (((4 * ((upS (upS (upS (upS S900 682 0 0) 682 12 0) 682 13 0) 682 22 0) 682 22))).toNat) 0) 696 ((((4 * ((upS (upS (upS (upS (upS S900 682 0 0) 682 12 0) 682 13 0) 682 22 0) 696 (((4 * ((upS (upS (upS (upS S900 682 0 0) 682 12 0) 682 13 0) 682 22 0) 682 22))).toNat) 0) 682 22)) + 1)).toNat) 0) 682 22)) + 2)).toNat) 0) 682 22)) + 3)).toNat) = 3 by (first | omega | (simp [upS, hz, za1, z1a1, ca1, za2, z1a2, ca2, E900]; done) | (simp [upS, hz, za1, z1a1, ca1, za2, z1a2, ca2, E900]; omega)), show ((((4 * ((upS (upS (upS (upS (upS (upS S900 682 0 0) 682 12 0) 682 13 0) 682 22 0) 696 (((4 * ((upS (upS (upS (upS S900 682 0 0) 682 12 0) 682 13 0) 682 22 0) 682 22))).toNat) 0) 696 ((((4 * ((upS (upS (upS (upS (upS S900 682 0 0) 682 12 0) 682 13 0) 682 22 0) 696 (((4 * ((upS (upS (upS (upS S900 682 0 0) 682 12 0) 682 13 0) 682 22 0) 682 22))).toNat) 0) 682 22)) + 1)).toNat) 0) 682 22)) + 2)).toNat) = 2 by (first | omega | (simp [upS, hz, za1, z1a1, ca1, za2, z1a2, ca2, E900]; done) | (simp [upS, hz, za1, z1a1, ca1, za2, z1a2, ca2, E900]; omega)), show ((((4 * ((upS (upS (upS (upS (upS S900 682 0 0) 682 12 0) 682 13 0) 682 22 0) 696 (((4 * ((upS (upS (upS (upS S900 682 0 0) 682 12 0) 682 13 0) 682 22 0) 682 22))).toNat) 0) 682 22)) + 1)).toNat) = 1 by (first | omega | (simp [upS, hz, za1, z1a1, ca1, za2, z1a2, ca2, E900]; done) | (simp [upS, hz, za1, z1a1, ca1, za2, z1a2, ca2, E900]; omega)), show (((4 * ((upS (upS (upS (upS S900 682 0 0) 682 12 0) 682 13 0) 682 22 0) 682 22))).toNat) = 0 by (first | omega | (simp [upS, hz, za1, z1a1, ca1, za2, z1a2, ca2, E900]; done) | (simp [upS, hz, za1, z1a1, ca1, za2, z1a2, ca2, E900]; omega))])]
          all_goals rfl
        obtain ⟨S74, E74⟩ : ∃ s : Sg, s = (upS (upS (upS (upS (upS (upS (upS (upS (upS S900 682 0 0) 682 12 0) 682 13 0) 682 22 0) 696 0 0) 696 1 0) 696 2 0) 696 3 0) 682 22 1) := ⟨_, rfl⟩
        rw [← E74] at hD73
        refine ⟨_, hD73, ?_⟩
        clear hD73
        refine b274_42 ?_
        rw [if_pos (show (0 : Int) < (S74 682 22) by first | omega | (simp [upS, hz, za1, z1a1, ca1, za2, z1a2, ca2, E900, E74]; done) | (simp [upS, hz, za1, z1a1, ca1, za2, z1a2, ca2, E900, E74]; omega))]
        refine ⟨(show -2147483648 ≤ ((S74 682 22) - 1) ∧ ((S74 682 22) - 1) ≤ 2147483647 by first | omega | (simp [upS, hz, za1, z1a1, ca1, za2, z1a2, ca2, E900, E74]; done) | (simp [upS, hz, za1, z1a1, ca1, za2, z1a2, ca2, E900, E74]; omega)), ?_⟩
        refine ⟨(show -2147483648 ≤ (4 * ((upS S74 682 22 ((S74 682 22) - 1)) 682 22)) ∧ (4 * ((upS S74 682 22 ((S74 682 22) - 1)) 682 22)) ≤ 2147483647 by first | omega | (simp [upS, hz, za1, z1a1, ca1, za2, z1a2, ca2, E900, E74]; done) | (simp [upS, hz, za1, z1a1, ca1, za2, z1a2, ca2, E900, E74]; omega)), ?_⟩
        refine ⟨(show 0 ≤ (4 * ((upS S74 682 22 ((S74 682 22) - 1)) 682 22)) ∧ (4 * ((upS S74 682 22 ((S74 682 22) - 1)) 682 22)) < 512 by first | omega | (simp [upS, hz, za1, z1a1, ca1, za2, z1a2, ca2, E900, E74]; done) | (simp [upS, hz, za1, z1a1, ca1, za2, z1a2, ca2, E900, E74]; omega)), ?_⟩
        refine ⟨(show -2147483648 ≤ (4 * ((upS (upS S74 682 22 ((S74 682 22) - 1)) 682 17 ((upS S74 682 22 ((S74 682 22) - 1)) 696 ((4 * ((upS S74 682 22 ((S74 682 22) - 1)) 682 22))).toNat)) 682 22)) ∧ (4 * ((upS (upS S74 682 22 ((S74 682 22) - 1)) 682 17 ((upS S74 682 22 ((S74 682 22) - 1)) 696 ((4 * ((upS S74 682 22 ((S74 682 22) - 1)) 682 22))).toNat)) 682 22)) ≤ 2147483647 by first | omega | (simp [upS, hz, za1, z1a1, ca1, za2, z1a2, ca2, E900, E74]; done) | (simp [upS, hz, za1, z1a1, ca1, za2, z1a2, ca2, E900, E74]; omega)), ?_⟩
        refine ⟨(show -2147483648 ≤ ((4 * ((upS (upS S74 682 22 ((S74 682 22) - 1)) 682 17 ((upS S74 682 22 ((S74 682 22) - 1)) 696 ((4 * ((upS S74 682 22 ((S74 682 22) - 1)) 682 22))).toNat)) 682 22)) + 1) ∧ ((4 * ((upS (upS S74 682 22 ((S74 682 22) - 1)) 682 17 ((upS S74 682 22 ((S74 682 22) - 1)) 696 ((4 * ((upS S74 682 22 ((S74 682 22) - 1)) 682 22))).toNat)) 682 22)) + 1) ≤ 2147483647 by first | omega | (simp [upS, hz, za1, z1a1, ca1, za2, z1a2, ca2, E900, E74]; done) | (simp [upS, hz, za1, z1a1, ca1, za2, z1a2, ca2, E900, E74]; omega)), ?_⟩
        refine ⟨(show 0 ≤ ((4 * ((upS (upS S74 682 22 ((S74 682 22) - 1)) 682 17 ((upS S74 682 22 ((S74 682 22) - 1)) 696 ((4 * ((upS S74 682 22 ((S74 682 22) - 1)) 682 22))).toNat)) 682 22)) + 1) ∧ ((4 * ((upS (upS S74 682 22 ((S74 682 22) - 1)) 682 17 ((upS S74 682 22 ((S74 682 22) - 1)) 696 ((4 * ((upS S74 682 22 ((S74 682 22) - 1)) 682 22))).toNat)) 682 22)) + 1) < 512 by first | omega | (simp [upS, hz, za1, z1a1, ca1, za2, z1a2, ca2, E900, E74]; done) | (simp [upS, hz, za1, z1a1, ca1, za2, z1a2, ca2, E900, E74]; omega)), ?_⟩
        refine ⟨(show -2147483648 ≤ (4 * ((upS (upS (upS S74 682 22 ((S74 682 22) - 1)) 682 17 ((upS S74 682 22 ((S74 682 22) - 1)) 696 ((4 * ((upS S74 682 22 ((S74 682 22) - 1)) 682 22))).toNat)) 682 18 ((upS (upS S74 682 22 ((S74 682 22) - 1)) 682 17 ((upS S74 682 22 ((S74 682 22) - 1)) 696 ((4 * ((upS S74 682 22 ((S74 682 22) - 1)) 682 22))).toNat)) 696 (((4 * ((upS (upS S74 682 22 ((S74 682 22) - 1)) 682 17 ((upS S74 682 22 ((S74 682 22) - 1)) 696 ((4 * ((upS S74 682 22 ((S74 682 22) - 1)) 682 22))).toNat)) 682 22)) + 1)).toNat)) 682 22)) ∧ (4 * ((upS (upS (upS S74 682 22 ((S74 682 22) - 1)) 682 17 ((upS S74 682 22 ((S74 682 22) - 1)) 696 ((4 * ((upS S74 682 22 ((S74 682 22) - 1)) 682 22))).toNat)) 682 18 ((upS (upS S74 682 22 ((S74 682 22) - 1)) 682 17 ((upS S74 682 22 ((S74 682 22) - 1)) 696 ((4 * ((upS S74 682 22 ((S74 682 22) - 1)) 682 22))).toNat)) 696 (((4 * ((upS (upS S74 682 22 ((S74 682 22) - 1)) 682 17 ((upS S74 682 22 ((S74 682 22) - 1)) 696 ((4 * ((upS S74 682 22 ((S74 682 22) - 1)) 682 22))).toNat)) 682 22)) + 1)).toNat)) 682 22)) ≤ 2147483647 by first | omega | (simp [upS, hz, za1, z1a1, ca1, za2, z1a2, ca2, E900, E74]; done) | (simp [upS, hz, za1, z1a1, ca1, za2, z1a2, ca2, E900, E74]; omega)), ?_⟩
        refine ⟨(show -2147483648 ≤ ((4 * ((upS (upS (upS S74 682 22 ((S74 682 22) - 1)) 682 17 ((upS S74 682 22 ((S74 682 22) - 1)) 696 ((4 * ((upS S74 682 22 ((S74 682 22) - 1)) 682 22))).toNat)) 682 18 ((upS (upS S74 682 22 ((S74 682 22) - 1)) 682 17 ((upS S74 682 22 ((S74 682 22) - 1)) 696 ((4 * ((upS S74 682 22 ((S74 682 22) - 1)) 682 22))).toNat)) 696 (((4 * ((upS (upS S74 682 22 ((S74 682 22) - 1)) 682 17 ((upS S74 682 22 ((S74 682 22) - 1)) 696 ((4 * ((upS S74 682 22 ((S74 682 22) - 1)) 682 22))).toNat)) 682 22)) + 1)).toNat)) 682 22)) + 2) ∧ ((4 * ((upS (upS (upS S74 682 22 ((S74 682 22) - 1)) 682 17 ((upS S74 682 22 ((S74 682 22) - 1)) 696 ((4 * ((upS S74 682 22 ((S74 682 22) - 1)) 682 22))).toNat)) 682 18 ((upS (upS S74 682 22 ((S74 682 22) - 1)) 682 17 ((upS S74 682 22 ((S74 682 22) - 1)) 696 ((4 * ((upS S74 682 22 ((S74 682 22) - 1)) 682 22))).toNat)) 696 (((4 * ((upS (upS S74 682 22 ((S74 682 22) - 1)) 682 17 ((upS S74 682 22 ((S74 682 22) - 1)) 696 ((4 * ((upS S74 682 22 ((S74 682 22) - 1)) 682 22))).toNat)) 682 22)) + 1)).toNat)) 682 22)) + 2) ≤ 2147483647 by first | omega | (simp [upS, hz, za1, z1a1, ca1, za2, z1a2, ca2, E900, E74]; done) | (simp [upS, hz, za1, z1a1, ca1, za2, z1a2, ca2, E900, E74]; omega)), ?_⟩
        refine ⟨(show 0 ≤ ((4 * ((upS (upS (upS S74 682 22 ((S74 682 22) - 1)) 682 17 ((upS S74 682 22 ((S74 682 22) - 1)) 696 ((4 * ((upS S74 682 22 ((S74 682 22) - 1)) 682 22))).toNat)) 682 18 ((upS (upS S74 682 22 ((S74 682 22) - 1)) 682 17 ((upS S74 682 22 ((S74 682 22) - 1)) 696 ((4 * ((upS S74 682 22 ((S74 682 22) - 1)) 682 22))).toNat)) 696 (((4 * ((upS (upS S74 682 22 ((S74 682 22) - 1)) 682 17 ((upS S74 682 22 ((S74 682 22) - 1)) 696 ((4 * ((upS S74 682 22 ((S74 682 22) - 1)) 682 22))).toNat)) 682 22)) + 1)).toNat)) 682 22)) + 2) ∧ ((4 * ((upS (upS (upS S74 682 22 ((S74 682 22) - 1)) 682 17 ((upS S74 682 22 ((S74 682 22) - 1)) 696 ((4 * ((upS S74 682 22 ((S74 682 22) - 1)) 682 22))).toNat)) 682 18 ((upS (upS S74 682 22 ((S74 682 22) - 1)) 682 17 ((upS S74 682 22 ((S74 682 22) - 1)) 696 ((4 * ((upS S74 682 22 ((S74 682 22) - 1)) 682 22))).toNat)) 696 (((4 * ((upS (upS S74 682 22 ((S74 682 22) - 1)) 682 17 ((upS S74 682 22 ((S74 682 22) - 1)) 696 ((4 * ((upS S74 682 22 ((S74 682 22) - 1)) 682 22))).toNat)) 682 22)) + 1)).toNat)) 682 22)) + 2) < 512 by first | omega | (simp [upS, hz, za1, z1a1, ca1, za2, z1a2, ca2, E900, E74]; done) | (simp [upS, hz, za1, z1a1, ca1, za2, z1a2, ca2, E900, E74]; omega)), ?_⟩
        refine ⟨(show -2147483648 ≤ (4 * ((upS (upS (upS (upS S74 682 22 ((S74 682 22) - 1)) 682 17 ((upS S74 682 22 ((S74 682 22) - 1)) 696 ((4 * ((upS S74 682 22 ((S74 682 22) - 1)) 682 22))).toNat)) 682 18 ((upS (upS S74 682 22 ((S74 682 22) - 1)) 682 17 ((upS S74 682 22 ((S74 682 22) - 1)) 696 ((4 * ((upS S74 682 22 ((S74 682 22) - 1)) 682 22))).toNat)) 696 (((4 * ((upS (upS S74 682 22 ((S74 682 22) - 1)) 682 17 ((upS S74 682 22 ((S74 682 22) - 1)) 696 ((4 * ((upS S74 682 22 ((S74 682 22) - 1)) 682 22))).toNat)) 682 22)) + 1)).toNat)) 682 19 ((upS (upS (upS S74 682 22 ((S74 682 22) - 1)) 682 17 ((upS S74 682 22 ((S74 682 22) - 1)) 696 ((4 * ((upS S74 682 22 ((S74 682 22) - 1)) 682 22))).toNat)) 682 18 ((upS (upS S74 682 22 ((S74 682 22) - 1)) 682 17 ((upS S74 682 22 ((S74 682 22) - 1)) 696 ((4 * ((upS S74 682 22 ((S74 682 22) - 1)) 682 22))).toNat)) 696 (((4 * ((upS (upS S74 682 22 ((S74 682 22) - 1)) 682 17 ((upS S74 682 22 ((S74 682 22) - 1)) 696 ((4 * ((upS S74 682 22 ((S74 682 22) - 1)) 682 22))).toNat)) 682 22)) + 1)).toNat)) 696 (((4 * ((upS (upS (upS S74 682 22 ((S74 682 22) - 1)) 682 17 ((upS S74 682 22 ((S74 682 22) - 1)) 696 ((4 * ((upS S74 682 22 ((S74 682 22) - 1)) 682 22))).toNat)) 682 18 ((upS (upS S74 682 22 ((S74 682 22) - 1)) 682 17 ((upS S74 682 22 ((S74 682 22) - 1)) 696 ((4 * ((upS S74 682 22 ((S74 682 22) - 1)) 682 22))).toNat)) 696 (((4 * ((upS (upS S74 682 22 ((S74 682 22) - 1)) 682 17 ((upS S74 682 22 ((S74 682 22) - 1)) 696 ((4 * ((upS S74 682 22 ((S74 682 22) - 1)) 682 22))).toNat)) 682 22)) + 1)).toNat)) 682 22)) + 2)).toNat)) 682 22)) ∧ (4 * ((upS (upS (upS (upS S74 682 22 ((S74 682 22) - 1)) 682 17 ((upS S74 682 22 ((S74 682 22) - 1)) 696 ((4 * ((upS S74 682 22 ((S74 682 22) - 1)) 682 22))).toNat)) 682 18 ((upS (upS S74 682 22 ((S74 682 22) - 1)) 682 17 ((upS S74 682 22 ((S74 682 22) - 1)) 696 ((4 * ((upS S74 682 22 ((S74 682 22) - 1)) 682 22))).toNat)) 696 (((4 * ((upS (upS S74 682 22 ((S74 682 22) - 1)) 682 17 ((upS S74 682 22 ((S74 682 22) - 1)) 696 ((4 * ((upS S74 682 22 ((S74 682 22) - 1)) 682 22))).toNat)) 682 22)) + 1)).toNat)) 682 19 ((upS (upS (upS S74 682 22 ((S74 682 22) - 1)) 682 17 ((upS S74 682 22 ((S74 682 22) - 1)) 696 ((4 * ((upS S74 682 22 ((S74 682 22) - 1)) 682 22))).toNat)) 682 18 ((upS (upS S74 682 22 ((S74 682 22) - 1)) 682 17 ((upS S74 682 22 ((S74 682 22) - 1)) 696 ((4 * ((upS S74 682 22 ((S74 682 22) - 1)) 682 22))).toNat)) 696 (((4 * ((upS (upS S74 682 22 ((S74 682 22) - 1)) 682 17 ((upS S74 682 22 ((S74 682 22) - 1)) 696 ((4 * ((upS S74 682 22 ((S74 682 22) - 1)) 682 22))).toNat)) 682 22)) + 1)).toNat)) 696 (((4 * ((upS (upS (upS S74 682 22 ((S74 682 22) - 1)) 682 17 ((upS S74 682 22 ((S74 682 22) - 1)) 696 ((4 * ((upS S74 682 22 ((S74 682 22) - 1)) 682 22))).toNat)) 682 18 ((upS (upS S74 682 22 ((S74 682 22) - 1)) 682 17 ((upS S74 682 22 ((S74 682 22) - 1)) 696 ((4 * ((upS S74 682 22 ((S74 682 22) - 1)) 682 22))).toNat)) 696 (((4 * ((upS (upS S74 682 22 ((S74 682 22) - 1)) 682 17 ((upS S74 682 22 ((S74 682 22) - 1)) 696 ((4 * ((upS S74 682 22 ((S74 682 22) - 1)) 682 22))).toNat)) 682 22)) + 1)).toNat)) 682 22)) + 2)).toNat)) 682 22)) ≤ 2147483647 by first | omega | (simp [upS, hz, za1, z1a1, ca1, za2, z1a2, ca2, E900, E74]; done) | (simp [upS, hz, za1, z1a1, ca1, za2, z1a2, ca2, E900, E74]; omega)), ?_⟩
        refine ⟨(show -2147483648 ≤ ((4 * ((upS (upS (upS (upS S74 682 22 ((S74 682 22) - 1)) 682 17 ((upS S74 682 22 ((S74 682 22) - 1)) 696 ((4 * ((upS S74 682 22 ((S74 682 22) - 1)) 682 22))).toNat)) 682 18 ((upS (upS S74 682 22 ((S74 682 22) - 1)) 682 17 ((upS S74 682 22 ((S74 682 22) - 1)) 696 ((4 * ((upS S74 682 22 ((S74 682 22) - 1)) 682 22))).toNat)) 696 (((4 * ((upS (upS S74 682 22 ((S74 682 22) - 1)) 682 17 ((upS S74 682 22 ((S74 682 22) - 1)) 696 ((4 * ((upS S74 682 22 ((S74 682 22) - 1)) 682 22))).toNat)) 682 22)) + 1)).toNat)) 682 19 ((upS (upS (upS S74 682 22 ((S74 682 22) - 1)) 682 17 ((upS S74 682 22 ((S74 682 22) - 1)) 696 ((4 * ((upS S74 682 22 ((S74 682 22) - 1)) 682 22))).toNat)) 682 18 ((upS (upS S74 682 22 ((S74 682 22) - 1)) 682 17 ((upS S74 682 22 ((S74 682 22) - 1)) 696 ((4 * ((upS S74 682 22 ((S74 682 22) - 1)) 682 22))).toNat)) 696 (((4 * ((upS (upS S74 682 22 ((S74 682 22) - 1)) 682 17 ((upS S74 682 22 ((S74 682 22) - 1)) 696 ((4 * ((upS S74 682 22 ((S74 682 22) - 1)) 682 22))).toNat)) 682 22)) + 1)).toNat)) 696 (((4 * ((upS (upS (upS S74 682 22 ((S74 682 22) - 1)) 682 17 ((upS S74 682 22 ((S74 682 22) - 1)) 696 ((4 * ((upS S74 682 22 ((S74 682 22) - 1)) 682 22))).toNat)) 682 18 ((upS (upS S74 682 22 ((S74 682 22) - 1)) 682 17 ((upS S74 682 22 ((S74 682 22) - 1)) 696 ((4 * ((upS S74 682 22 ((S74 682 22) - 1)) 682 22))).toNat)) 696 (((4 * ((upS (upS S74 682 22 ((S74 682 22) - 1)) 682 17 ((upS S74 682 22 ((S74 682 22) - 1)) 696 ((4 * ((upS S74 682 22 ((S74 682 22) - 1)) 682 22))).toNat)) 682 22)) + 1)).toNat)) 682 22)) + 2)).toNat)) 682 22)) + 3) ∧ ((4 * ((upS (upS (upS (upS S74 682 22 ((S74 682 22) - 1)) 682 17 ((upS S74 682 22 ((S74 682 22) - 1)) 696 ((4 * ((upS S74 682 22 ((S74 682 22) - 1)) 682 22))).toNat)) 682 18 ((upS (upS S74 682 22 ((S74 682 22) - 1)) 682 17 ((upS S74 682 22 ((S74 682 22) - 1)) 696 ((4 * ((upS S74 682 22 ((S74 682 22) - 1)) 682 22))).toNat)) 696 (((4 * ((upS (upS S74 682 22 ((S74 682 22) - 1)) 682 17 ((upS S74 682 22 ((S74 682 22) - 1)) 696 ((4 * ((upS S74 682 22 ((S74 682 22) - 1)) 682 22))).toNat)) 682 22)) + 1)).toNat)) 682 19 ((upS (upS (upS S74 682 22 ((S74 682 22) - 1)) 682 17 ((upS S74 682 22 ((S74 682 22) - 1)) 696 ((4 * ((upS S74 682 22 ((S74 682 22) - 1)) 682 22))).toNat)) 682 18 ((upS (upS S74 682 22 ((S74 682 22) - 1)) 682 17 ((upS S74 682 22 ((S74 682 22) - 1)) 696 ((4 * ((upS S74 682 22 ((S74 682 22) - 1)) 682 22))).toNat)) 696 (((4 * ((upS (upS S74 682 22 ((S74 682 22) - 1)) 682 17 ((upS S74 682 22 ((S74 682 22) - 1)) 696 ((4 * ((upS S74 682 22 ((S74 682 22) - 1)) 682 22))).toNat)) 682 22)) + 1)).toNat)) 696 (((4 * ((upS (upS (upS S74 682 22 ((S74 682 22) - 1)) 682 17 ((upS S74 682 22 ((S74 682 22) - 1)) 696 ((4 * ((upS S74 682 22 ((S74 682 22) - 1)) 682 22))).toNat)) 682 18 ((upS (upS S74 682 22 ((S74 682 22) - 1)) 682 17 ((upS S74 682 22 ((S74 682 22) - 1)) 696 ((4 * ((upS S74 682 22 ((S74 682 22) - 1)) 682 22))).toNat)) 696 (((4 * ((upS (upS S74 682 22 ((S74 682 22) - 1)) 682 17 ((upS S74 682 22 ((S74 682 22) - 1)) 696 ((4 * ((upS S74 682 22 ((S74 682 22) - 1)) 682 22))).toNat)) 682 22)) + 1)).toNat)) 682 22)) + 2)).toNat)) 682 22)) + 3) ≤ 2147483647 by first | omega | (simp [upS, hz, za1, z1a1, ca1, za2, z1a2, ca2, E900, E74]; done) | (simp [upS, hz, za1, z1a1, ca1, za2, z1a2, ca2, E900, E74]; omega)), ?_⟩
        refine ⟨(show 0 ≤ ((4 * ((upS (upS (upS (upS S74 682 22 ((S74 682 22) - 1)) 682 17 ((upS S74 682 22 ((S74 682 22) - 1)) 696 ((4 * ((upS S74 682 22 ((S74 682 22) - 1)) 682 22))).toNat)) 682 18 ((upS (upS S74 682 22 ((S74 682 22) - 1)) 682 17 ((upS S74 682 22 ((S74 682 22) - 1)) 696 ((4 * ((upS S74 682 22 ((S74 682 22) - 1)) 682 22))).toNat)) 696 (((4 * ((upS (upS S74 682 22 ((S74 682 22) - 1)) 682 17 ((upS S74 682 22 ((S74 682 22) - 1)) 696 ((4 * ((upS S74 682 22 ((S74 682 22) - 1)) 682 22))).toNat)) 682 22)) + 1)).toNat)) 682 19 ((upS (upS (upS S74 682 22 ((S74 682 22) - 1)) 682 17 ((upS S74 682 22 ((S74 682 22) - 1)) 696 ((4 * ((upS S74 682 22 ((S74 682 22) - 1)) 682 22))).toNat)) 682 18 ((upS (upS S74 682 22 ((S74 682 22) - 1)) 682 17 ((upS S74 682 22 ((S74 682 22) - 1)) 696 ((4 * ((upS S74 682 22 ((S74 682 22) - 1)) 682 22))).toNat)) 696 (((4 * ((upS (upS S74 682 22 ((S74 682 22) - 1)) 682 17 ((upS S74 682 22 ((S74 682 22) - 1)) 696 ((4 * ((upS S74 682 22 ((S74 682 22) - 1)) 682 22))).toNat)) 682 22)) + 1)).toNat)) 696 (((4 * ((upS (upS (upS S74 682 22 ((S74 682 22) - 1)) 682 17 ((upS S74 682 22 ((S74 682 22) - 1)) 696 ((4 * ((upS S74 682 22 ((S74 682 22) - 1)) 682 22))).toNat)) 682 18 ((upS (upS S74 682 22 ((S74 682 22) - 1)) 682 17 ((upS S74 682 22 ((S74 682 22) - 1)) 696 ((4 * ((upS S74 682 22 ((S74 682 22) - 1)) 682 22))).toNat)) 696 (((4 * ((upS (upS S74 682 22 ((S74 682 22) - 1)) 682 17 ((upS S74 682 22 ((S74 682 22) - 1)) 696 ((4 * ((upS S74 682 22 ((S74 682 22) - 1)) 682 22))).toNat)) 682 22)) + 1)).toNat)) 682 22)) + 2)).toNat)) 682 22)) + 3) ∧ ((4 * ((upS (upS (upS (upS S74 682 22 ((S74 682 22) - 1)) 682 17 ((upS S74 682 22 ((S74 682 22) - 1)) 696 ((4 * ((upS S74 682 22 ((S74 682 22) - 1)) 682 22))).toNat)) 682 18 ((upS (upS S74 682 22 ((S74 682 22) - 1)) 682 17 ((upS S74 682 22 ((S74 682 22) - 1)) 696 ((4 * ((upS S74 682 22 ((S74 682 22) - 1)) 682 22))).toNat)) 696 (((4 * ((upS (upS S74 682 22 ((S74 682 22) - 1)) 682 17 ((upS S74 682 22 ((S74 682 22) - 1)) 696 ((4 * ((upS S74 682 22 ((S74 682 22) - 1)) 682 22))).toNat)) 682 22)) + 1)).toNat)) 682 19 ((upS (upS (upS S74 682 22 ((S74 682 22) - 1)) 682 17 ((upS S74 682 22 ((S74 682 22) - 1)) 696 ((4 * ((upS S74 682 22 ((S74 682 22) - 1)) 682 22))).toNat)) 682 18 ((upS (upS S74 682 22 ((S74 682 22) - 1)) 682 17 ((upS S74 682 22 ((S74 682 22) - 1)) 696 ((4 * ((upS S74 682 22 ((S74 682 22) - 1)) 682 22))).toNat)) 696 (((4 * ((upS (upS S74 682 22 ((S74 682 22) - 1)) 682 17 ((upS S74 682 22 ((S74 682 22) - 1)) 696 ((4 * ((upS S74 682 22 ((S74 682 22) - 1)) 682 22))).toNat)) 682 22)) + 1)).toNat)) 696 (((4 * ((upS (upS (upS S74 682 22 ((S74 682 22) - 1)) 682 17 ((upS S74 682 22 ((S74 682 22) - 1)) 696 ((4 * ((upS S74 682 22 ((S74 682 22) - 1)) 682 22))).toNat)) 682 18 ((upS (upS S74 682 22 ((S74 682 22) - 1)) 682 17 ((upS S74 682 22 ((S74 682 22) - 1)) 696 ((4 * ((upS S74 682 22 ((S74 682 22) - 1)) 682 22))).toNat)) 696 (((4 * ((upS (upS S74 682 22 ((S74 682 22) - 1)) 682 17 ((upS S74 682 22 ((S74 682 22) - 1)) 696 ((4 * ((upS S74 682 22 ((S74 682 22) - 1)) 682 22))).toNat)) 682 22)) + 1)).toNat)) 682 22)) + 2)).toNat)) 682 22)) + 3) < 512 by first | omega | (simp [upS, hz, za1, z1a1, ca1, za2, z1a2, ca2, E900, E74]; done) | (simp [upS, hz, za1, z1a1, ca1, za2, z1a2, ca2, E900, E74]; omega)), ?_⟩
        rw [if_neg (show ¬ (a3 = 0) by first | omega | (simp [upS, hz, za1, z1a1, ca1, za2, z1a2, ca2, E900, E74]; done) | (simp [upS, hz, za1, z1a1, ca1, za2, z1a2, ca2, E900, E74]; omega))]
        rw [(show (upS (upS (upS (upS (upS S74 682 22 ((S74 682 22) - 1)) 682 17 ((upS S74 682 22 ((S74 682 22) - 1)) 696 ((4 * ((upS S74 682 22 ((S74 682 22) - 1)) 682 22))).toNat)) 682 18 ((upS (upS S74 682 22 ((S74 682 22) - 1)) 682 17 ((upS S74 682 22 ((S74 682 22) - 1)) 696 ((4 * ((upS S74 682 22 ((S74 682 22) - 1)) 682 22))).toNat)) 696 (((4 * ((upS (upS S74 682 22 ((S74 682 22) - 1)) 682 17 ((upS S74 682 22 ((S74 682 22) - 1)) 696 ((4 * ((upS S74 682 22 ((S74 682 22) - 1)) 682 22))).toNat)) 682 22)) + 1)).toNat)) 682 19 ((upS (upS (upS S74 682 22 ((S74 682 22) - 1)) 682 17 ((upS S74 682 22 ((S74 682 22) - 1)) 696 ((4 * ((upS S74 682 22 ((S74 682 22) - 1)) 682 22))).toNat)) 682 18 ((upS (upS S74 682 22 ((S74 682 22) - 1)) 682 17 ((upS S74 682 22 ((S74 682 22) - 1)) 696 ((4 * ((upS S74 682 22 ((S74 682 22) - 1)) 682 22))).toNat)) 696 (((4 * ((upS (upS S74 682 22 ((S74 682 22) - 1)) 682 17 ((upS S74 682 22 ((S74 682 22) - 1)) 696 ((4 * ((upS S74 682 22 ((S74 682 22) - 1)) 682 22))).toNat)) 682 22)) + 1)).toNat)) 696 (((4 * ((upS (upS (upS S74 682 22 ((S74 682 22) - 1)) 682 17 ((upS S74 682 22 ((S74 682 22) - 1)) 696 ((4 * ((upS S74 682 22 ((S74 682 22) - 1)) 682 22))).toNat)) 682 18 ((upS (upS S74 682 22 ((S74 682 22) - 1)) 682 17 ((upS S74 682 22 ((S74 682 22) - 1)) 696 ((4 * ((upS S74 682 22 ((S74 682 22) - 1)) 682 22))).toNat)) 696 (((4 * ((upS (upS S74 682 22 ((S74 682 22) - 1)) 682 17 ((upS S74 682 22 ((S74 682 22) - 1)) 696 ((4 * ((upS S74 682 22 ((S74 682 22) - 1)) 682 22))).toNat)) 682 22)) + 1)).toNat)) 682 22)) + 2)).toNat)) 682 20 ((upS (upS (upS (upS S74 682 22 ((S74 682 22) - 1)) 682 17 ((upS S74 682 22 ((S74 682 22) - 1)) 696 ((4 * ((upS S74 682 22 ((S74 682 22) - 1)) 682 22))).toNat)) 682 18 ((upS (upS S74 682 22 ((S74 682 22) - 1)) 682 17 ((upS S74 682 22 ((S74 682 22) - 1)) 696 ((4 * ((upS S74 682 22 ((S74 682 22) - 1)) 682 22))).toNat)) 696 (((4 * ((upS (upS S74 682 22 ((S74 682 22) - 1)) 682 17 ((upS S74 682 22 ((S74 682 22) - 1)) 696 ((4 * ((upS S74 682 22 ((S74 682 22) - 1)) 682 22))).toNat)) 682 22)) + 1)).toNat)) 682 19 ((upS (upS (upS S74 682 22 ((S74 682 22) - 1)) 682 17 ((upS S74 682 22 ((S74 682 22) - 1)) 696 ((4 * ((upS S74 682 22 ((S74 682 22) - 1)) 682 22))).toNat)) 682 18 ((upS (upS S74 682 22 ((S74 682 22) - 1)) 682 17 ((upS S74 682 22 ((S74 682 22) - 1)) 696 ((4 * ((upS S74 682 22 ((S74 682 22) - 1)) 682 22))).toNat)) 696 (((4 * ((upS (upS S74 682 22 ((S74 682 22) - 1)) 682 17 ((upS S74 682 22 ((S74 682 22) - 1)) 696 ((4 * ((upS S74 682 22 ((S74 682 22) - 1)) 682 22))).toNat)) 682 22)) + 1)).toNat)) 696 (((4 * ((upS (upS (upS S74 682 22 ((S74 682 22) - 1)) 682 17 ((upS S74 682 22 ((S74 682 22) - 1)) 696 ((4 * ((upS S74 682 22 ((S74 682 22) - 1)) 682 22))).toNat)) 682 18 ((upS (upS S74 682 22 ((S74 682 22) - 1)) 682 17 ((upS S74 682 22 ((S74 682 22) - 1)) 696 ((4 * ((upS S74 682 22 ((S74 682 22) - 1)) 682 22))).toNat)) 696 (((4 * ((upS (upS S74 682 22 ((S74 682 22) - 1)) 682 17 ((upS S74 682 22 ((S74 682 22) - 1)) 696 ((4 * ((upS S74 682 22 ((S74 682 22) - 1)) 682 22))).toNat)) 682 22)) + 1)).toNat)) 682 22)) + 2)).toNat)) 696 (((4 * ((upS (upS (upS (upS S74 682 22 ((S74 682 22) - 1)) 682 17 ((upS S74 682 22 ((S74 682 22) - 1)) 696 ((4 * ((upS S74 682 22 ((S74 682 22) - 1)) 682 22))).toNat)) 682 18 ((upS (upS S74 682 22 ((S74 682 22) - 1)) 682 17 ((upS S74 682 22 ((S74 682 22) - 1)) 696 ((4 * ((upS S74 682 22 ((S74 682 22) - 1)) 682 22))).toNat)) 696 (((4 * ((upS (upS S74 682 22 ((S74 682 22) - 1)) 682 17 ((upS S74 682 22 ((S74 682 22) - 1)) 696 ((4 * ((upS S74 682 22 ((S74 682 22) - 1)) 682 22))).toNat)) 682 22)) + 1)).toNat)) 682 19 ((upS (upS (upS S74 682 22 ((S74 682 22) - 1)) 682 17 ((upS S74 682 22 ((S74 682 22) - 1)) 696 ((4 * ((upS S74 682 22 ((S74 682 22) - 1)) 682 22))).toNat)) 682 18 ((upS (upS S74 682 22 ((S74 682 22) - 1)) 682 17 ((upS S74 682 22 ((S74 682 22) - 1)) 696 ((4 * ((upS S74 682 22 ((S74 682 22) - 1)) 682 22))).toNat)) 696 (((4 * ((upS (upS S74 682 22 ((S74 682 22) - 1)) 682 17 ((upS S74 682 22 ((S74 682 22) - 1)) 696 ((4 * ((upS S74 682 22 ((S74 682 22) - 1)) 682 22))).toNat)) 682 22)) + 1)).toNat)) 696 (((4 * ((upS (upS (upS S74 682 22 ((S74 682 22) - 1)) 682 17 ((upS S74 682 22 ((S74 682 22) - 1)) 696 ((4 * ((upS S74 682 22 ((S74 682 22) - 1)) 682 22))).toNat)) 682 18 ((upS (upS S74 682 22 ((S74 682 22) - 1)) 682 17 ((upS S74 682 22 ((S74 682 22) - 1)) 696 ((4 * ((upS S74 682 22 ((S74 682 22) - 1)) 682 22))).toNat)) 696 (((4 * ((upS (upS S74 682 22 ((S74 682 22) - 1)) 682 17 ((upS S74 682 22 ((S74 682 22) - 1)) 696 ((4 * ((upS S74 682 22 ((S74 682 22) - 1)) 682 22))).toNat)) 682 22)) + 1)).toNat)) 682 22)) + 2)).toNat)) 682 22)) + 3)).toNat)) = (upS (upS (upS (upS (upS S74 682 22 0) 682 17 0) 682 18 0) 682 19 0) 682 20 0) from by rw [show ((upS (upS (upS (upS S74 682 22 ((S74 682 22) - 1)) 682 17 ((upS S74 682 22 ((S74 682 22) - 1)) 696 ((4 * ((upS S74 682 22 ((S74 682 22) - 1)) 682 22))).toNat)) 682 18 ((upS (upS S74 682 22 ((S74 682 22) - 1)) 682 17 ((upS S74 682 22 ((S74 682 22) - 1)) 696 ((4 * ((upS S74 682 22 ((S74 682 22) - 1)) 682 22))).toNat)) 696 (((4 * ((upS (upS S74 682 22 ((S74 682 22) - 1)) 682 17 ((upS S74 682 22 ((S74 682 22) - 1)) 696 ((4 * ((upS S74 682 22 ((S74 682 22) - 1)) 682 22))).toNat)) 682 22)) + 1)).toNat)) 682 19 ((upS (upS (upS S74 682 22 ((S74 682 22) - 1)) 682 17 ((upS S74 682 22 ((S74 682 22) - 1)) 696 ((4 * ((upS S74 682 22 ((S74 682 22) - 1)) 682 22))).toNat)) 682 18 ((upS (upS S74 682 22 ((S74 682 22) - 1)) 682 17 ((upS S74 682 22 ((S74 682 22) - 1)) 696 ((4 * ((upS S74 682 22 ((S74 682 22) - 1)) 682 22))).toNat)) 696 (((4 * ((upS (upS S74 682 22 ((S74 682 22) - 1)) 682 17 ((upS S74 682 22 ((S74 682 22) - 1)) 696 ((4 * ((upS S74 682 22 ((S74 682 22) - 1)) 682 22))).toNat)) 682 22)) + 1)).toNat)) 696 (((4 * ((upS (upS (upS S74 682 22 ((S74 682 22) - 1)) 682 17 ((upS S74 682 22 ((S74 682 22) - 1)) 696 ((4 * ((upS S74 682 22 ((S74 682 22) - 1)) 682 22))).toNat)) 682 18 ((upS (upS S74 682 22 ((S74 682 22) - 1)) 682 17 ((upS S74 682 22 ((S74 682 22) - 1)) 696 ((4 * ((upS S74 682 22 ((S74 682 22) - 1)) 682 22))).toNat)) 696 (((4 * ((upS (upS S74 682 22 ((S74 682 22) - 1)) 682 17 ((upS S74 682 22 ((S74 682 22) - 1)) 696 ((4 * ((upS S74 682 22 ((S74 682 22) - 1)) 682 22))).toNat)) 682 22)) + 1)).toNat)) 682 22)) + 2)).toNat)) 696 (((4 * ((upS (upS (upS (upS S74 682 22 ((S74 682 22) - 1)) 682 17 ((upS S74 682 22 ((S74 682 22) - 1)) 696 ((4 * ((upS S74 682 22 ((S74 682 22) - 1)) 682 22))).toNat)) 682 18 ((upS (upS S74 682 22 ((S74 682 22) - 1)) 682 17 ((upS S74 682 22 ((S74 682 22) - 1)) 696 ((4 * ((upS S74 682 22 ((S74 682 22) - 1)) 682 22))).toNat)) 696 (((4 * ((upS (upS S74 682 22 ((S74 682 22) - 1)) 682 17 ((upS S74 682 22 ((S74 682 22) - 1)) 696 ((4 * ((upS S74 682 22 ((S74 682 22) - 1)) 682 22))).toNat)) 682 22)) + 1)).toNat)) 682 19 ((upS (upS (upS S74 682 22 ((S74 682 22) - 1)) 682 17 ((upS S74 682 22 ((S74 682 22) - 1)) 696 ((4 * ((upS S74 682 22 ((S74 682 22) - 1)) 682 22))).toNat)) 682 18 ((upS (upS S74 682 22 ((S74 682 22) - 1)) 682 17 ((upS S74 682 22 ((S74 682 22) - 1)) 696 ((4 * ((upS S74 682 22 ((S74 682 22) - 1)) 682 22))).toNat)) 696 (((4 * ((upS (upS S74 682 22 ((S74 682 22) - 1)) 682 17 ((upS S74 682 22 ((S74 682 22) - 1)) 696 ((4 * ((upS S74 682 22 ((S74 682 22) - 1)) 682 22))).toNat)) 682 22)) + 1)).toNat)) 696 (((4 * ((upS (upS (upS S74 682 22 ((S74 682 22) - 1)) 682 17 ((upS S74 682 22 ((S74 682 22) - 1)) 696 ((4 * ((upS S74 682 22 ((S74 682 22) - 1)) 682 22))).toNat)) 682 18 ((upS (upS S74 682 22 ((S74 682 22) - 1)) 682 17 ((upS S74 682 22 ((S74 682 22) - 1)) 696 ((4 * ((upS S74 682 22 ((S74 682 22) - 1)) 682 22))).toNat)) 696 (((4 * ((upS (upS S74 682 22 ((S74 682 22) - 1)) 682 17 ((upS S74 682 22 ((S74 682 22) - 1)) 696 ((4 * ((upS S74 682 22 ((S74 682 22) - 1)) 682 22))).toNat)) 682 22)) + 1)).toNat)) 682 22)) + 2)).toNat)) 682 22)) + 3)).toNat) = 0 by (first | omega | (simp [upS, hz, za1, z1a1, ca1, za2, z1a2, ca2, E900, E74]; done) | (simp [upS, hz, za1, z1a1, ca1, za2, z1a2, ca2, E900, E74]; omega)), show ((upS (upS (upS S74 682 22 ((S74 682 22) - 1)) 682 17 ((upS S74 682 22 ((S74 682 22) - 1)) 696 ((4 * ((upS S74 682 22 ((S74 682 22) - 1)) 682 22))).toNat)) 682 18 ((upS (upS S74 682 22 ((S74 682 22) - 1)) 682 17 ((upS S74 682 22 ((S74 682 22) - 1)) 696 ((4 * ((upS S74 682 22 ((S74 682 22) - 1)) 682 22))).toNat)) 696 (((4 * ((upS (upS S74 682 22 ((S74 682 22) - 1)) 682 17 ((upS S74 682 22 ((S74 682 22) - 1)) 696 ((4 * ((upS S74 682 22 ((S74 682 22) - 1)) 682 22))).toNat)) 682 22)) + 1)).toNat)) 696 (((4 * ((upS (upS (upS S74 682 22 ((S74 682 22) - 1)) 682 17 ((upS S74 682 22 ((S74 682 22) - 1)) 696 ((4 * ((upS S74 682 22 ((S74 682 22) - 1)) 682 22))).toNat)) 682 18 ((upS (upS S74 682 22 ((S74 682 22) - 1)) 682 17 ((upS S74 682 22 ((S74 682 22) - 1)) 696 ((4 * ((upS S74 682 22 ((S74 682 22) - 1)) 682 22))).toNat)) 696 (((4 * ((upS (upS S74 682 22 ((S74 682 22) - 1)) 682 17 ((upS S74 682 22 ((S74 682 22) - 1)) 696 ((4 * ((upS S74 682 22 ((S74 682 22) - 1)) 682 22))).toNat)) 682 22)) + 1)).toNat)) 682 22)) + 2)).toNat) = 0 by (first | omega | (simp [upS, hz, za1, z1a1, ca1, za2, z1a2, ca2, E900, E74]; done) | (simp [upS, hz, za1, z1a1, ca1, za2, z1a2, ca2, E900, E74]; omega)), show ((upS (upS S74 682 22 ((S74 682 22) - 1)) 682 17 ((upS S74 682 22 ((S74 682 22) - 1)) 696 ((4 * ((upS S74 682 22 ((S74 682 22) - 1)) 682 22))).toNat)) 696 (((4 * ((upS (upS S74 682 22 ((S74 682 22) - 1)) 682 17 ((upS S74 682 22 ((S74 682 22) - 1)) 696 ((4 * ((upS S74 682 22 ((S74 682 22) - 1)) 682 22))).toNat)) 682 22)) + 1)).toNat) = 0 by (first | omega | (simp [upS, hz, za1, z1a1, ca1, za2, z1a2, ca2, E900, E74]; done) | (simp [upS, hz, za1, z1a1, ca1, za2, z1a2, ca2, E900, E74]; omega)), show ((upS S74 682 22 ((S74 682 22) - 1)) 696 ((4 * ((upS S74 682 22 ((S74 682 22) - 1)) 682 22))).toNat) = 0 by (first | omega | (simp [upS, hz, za1, z1a1, ca1, za2, z1a2, ca2, E900, E74]; done) | (simp [upS, hz, za1, z1a1, ca1, za2, z1a2, ca2, E900, E74]; omega)), show ((S74 682 22) - 1) = 0 by (first | omega | (simp [upS, hz, za1, z1a1, ca1, za2, z1a2, ca2, E900, E74]; done) | (simp [upS, hz, za1, z1a1, ca1, za2, z1a2, ca2, E900, E74]; omega))])]
        have hD75 : Dd 268 [(.inr (.inr (some 682)))] (upS (upS (upS (upS (upS S74 682 22 0) 682 17 0) 682 18 0) 682 19 0) 682 20 0) (.inl none, (upS (upS (upS (upS (upS S74 682 22 0) 682 17 0) 682 18 0) 682 19 0) 682 20 0)) := by
          refine b268 ?_
          refine b268_0 ?_
          rw [if_neg (show ¬ (((upS (upS (upS (upS (upS S74 682 22 0) 682 17 0) 682 18 0) 682 19 0) 682 20 0) 682 17) < ((upS (upS (upS (upS (upS S74 682 22 0) 682 17 0) 682 18 0) 682 19 0) 682 20 0) 682 18)) by first | omega | (simp [upS, hz, za1, z1a1, ca1, za2, z1a2, ca2, E900, E74]; done) | (simp [upS, hz, za1, z1a1, ca1, za2, z1a2, ca2, E900, E74]; omega))]
          refine b268_79 ?_
          rw [if_neg (show ¬ (((upS (upS (upS (upS (upS S74 682 22 0) 682 17 0) 682 18 0) 682 19 0) 682 20 0) 682 17) < ((upS (upS (upS (upS (upS S74 682 22 0) 682 17 0) 682 18 0) 682 19 0) 682 20 0) 682 18)) by first | omega | (simp [upS, hz, za1, z1a1, ca1, za2, z1a2, ca2, E900, E74]; done) | (simp [upS, hz, za1, z1a1, ca1, za2, z1a2, ca2, E900, E74]; omega))]
          all_goals rfl
        refine ⟨_, hD75, ?_⟩
        clear hD75
        rw [if_neg (show ¬ (a3 = 1) by first | omega | (simp [upS, hz, za1, z1a1, ca1, za2, z1a2, ca2, E900, E74]; done) | (simp [upS, hz, za1, z1a1, ca1, za2, z1a2, ca2, E900, E74]; omega))]
        have hD81 : Dd 273 [(.inr (.inr (some 682)))] (upS (upS (upS (upS (upS S74 682 22 0) 682 17 0) 682 18 0) 682 19 0) 682 20 0) (.inl none, (upS (upS (upS (upS (upS (upS S74 682 22 0) 682 17 0) 682 18 0) 682 19 0) 682 20 0) 694 0 0)) := by
          refine b273 ?_
          rw [show ((upS (upS (upS (upS (upS S74 682 22 0) 682 17 0) 682 18 0) 682 19 0) 682 20 0) 682 17) = 0 by (first | omega | (simp [upS, hz, za1, z1a1, ca1, za2, z1a2, ca2, E900, E74]; done) | (simp [upS, hz, za1, z1a1, ca1, za2, z1a2, ca2, E900, E74]; omega))]
          refine b273_9 ?_
          rw [if_neg (show ¬ ((0 : Int) < ((upS (upS (upS (upS (upS S74 682 22 0) 682 17 0) 682 18 0) 682 19 0) 682 20 0) 682 18)) by first | omega | (simp [upS, hz, za1, z1a1, ca1, za2, z1a2, ca2, E900, E74]; done) | (simp [upS, hz, za1, z1a1, ca1, za2, z1a2, ca2, E900, E74]; omega))]
          rw [if_pos (show ((-1) : Int) = (-1) by first | omega | (simp [upS, hz, za1, z1a1, ca1, za2, z1a2, ca2, E900, E74]; done) | (simp [upS, hz, za1, z1a1, ca1, za2, z1a2, ca2, E900, E74]; omega))]
          have hD79 : Dd 266 [(.inr (.inr (some 682)))] (upS (upS (upS (upS (upS S74 682 22 0) 682 17 0) 682 18 0) 682 19 0) 682 20 0) (.inl none, (upS (upS (upS (upS (upS (upS S74 682 22 0) 682 17 0) 682 18 0) 682 19 0) 682 20 0) 694 0 0)) := by
            refine b266 ?_
            rw [show ((upS (upS (upS (upS (upS S74 682 22 0) 682 17 0) 682 18 0) 682 19 0) 682 20 0) 682 17) = 0 by (first | omega | (simp [upS, hz, za1, z1a1, ca1, za2, z1a2, ca2, E900, E74]; done) | (simp [upS, hz, za1, z1a1, ca1, za2, z1a2, ca2, E900, E74]; omega))]
            rw [show ((upS (upS (upS (upS (upS S74 682 22 0) 682 17 0) 682 18 0) 682 19 0) 682 20 0) 682 18) = 0 by (first | omega | (simp [upS, hz, za1, z1a1, ca1, za2, z1a2, ca2, E900, E74]; done) | (simp [upS, hz, za1, z1a1, ca1, za2, z1a2, ca2, E900, E74]; omega))]
            rw [show ((upS (upS (upS (upS (upS S74 682 22 0) 682 17 0) 682 18 0) 682 19 0) 682 20 0) 682 19) = 0 by (first | omega | (simp [upS, hz, za1, z1a1, ca1, za2, z1a2, ca2, E900, E74]; done) | (simp [upS, hz, za1, z1a1, ca1, za2, z1a2, ca2, E900, E74]; omega))]
            rw [show ((upS (upS (upS (upS (upS S74 682 22 0) 682 17 0) 682 18 0) 682 19 0) 682 20 0) 682 20) = 0 by (first | omega | (simp [upS, hz, za1, z1a1, ca1, za2, z1a2, ca2, E900, E74]; done) | (simp [upS, hz, za1, z1a1, ca1, za2, z1a2, ca2, E900, E74]; omega))]
            have hD77 : Dd 265 [(.inr (.inr (some 682))), (.inl 0), (.inl 0), (.inl 0), (.inl 0)] (upS (upS (upS (upS (upS S74 682 22 0) 682 17 0) 682 18 0) 682 19 0) 682 20 0) (.inl none, (upS (upS (upS (upS (upS (upS S74 682 22 0) 682 17 0) 682 18 0) 682 19 0) 682 20 0) 694 0 0)) := by
              refine b265 ?_
              refine b265_3 ?_
              rw [if_pos (show (0 : Int) ≤ 0 by first | omega | (simp [upS, hz, za1, z1a1, ca1, za2, z1a2, ca2, E900, E74]; done) | (simp [upS, hz, za1, z1a1, ca1, za2, z1a2, ca2, E900, E74]; omega))]
              refine b265_13 ?_
              rw [if_pos (show (0 : Int) ≤ 0 by first | omega | (simp [upS, hz, za1, z1a1, ca1, za2, z1a2, ca2, E900, E74]; done) | (simp [upS, hz, za1, z1a1, ca1, za2, z1a2, ca2, E900, E74]; omega))]
              rw [if_neg (show ¬ ((0 : Int) < 0) by first | omega | (simp [upS, hz, za1, z1a1, ca1, za2, z1a2, ca2, E900, E74]; done) | (simp [upS, hz, za1, z1a1, ca1, za2, z1a2, ca2, E900, E74]; omega))]
              refine b265_124 ?_
              refine ⟨(show (-2147483648 : Int) ≤ (65 * 0) ∧ ((65 * 0) : Int) ≤ 2147483647 by first | omega | (simp [upS, hz, za1, z1a1, ca1, za2, z1a2, ca2, E900, E74]; done) | (simp [upS, hz, za1, z1a1, ca1, za2, z1a2, ca2, E900, E74]; omega)), ?_⟩
              refine ⟨(show (-2147483648 : Int) ≤ ((65 * 0) + 0) ∧ (((65 * 0) + 0) : Int) ≤ 2147483647 by first | omega | (simp [upS, hz, za1, z1a1, ca1, za2, z1a2, ca2, E900, E74]; done) | (simp [upS, hz, za1, z1a1, ca1, za2, z1a2, ca2, E900, E74]; omega)), ?_⟩
              refine ⟨(show (0 : Int) ≤ ((65 * 0) + 0) ∧ (((65 * 0) + 0) : Int) < 4225 by first | omega | (simp [upS, hz, za1, z1a1, ca1, za2, z1a2, ca2, E900, E74]; done) | (simp [upS, hz, za1, z1a1, ca1, za2, z1a2, ca2, E900, E74]; omega)), ?_⟩
              refine ⟨(show (-2147483648 : Int) ≤ (0 + (-1)) ∧ ((0 + (-1)) : Int) ≤ 2147483647 by first | omega | (simp [upS, hz, za1, z1a1, ca1, za2, z1a2, ca2, E900, E74]; done) | (simp [upS, hz, za1, z1a1, ca1, za2, z1a2, ca2, E900, E74]; omega)), ?_⟩
              rw [(show (upS (upS (upS (upS (upS (upS S74 682 22 0) 682 17 0) 682 18 0) 682 19 0) 682 20 0) 694 ((((65 * 0) + 0) : Int).toNat) 0) = (upS (upS (upS (upS (upS (upS S74 682 22 0) 682 17 0) 682 18 0) 682 19 0) 682 20 0) 694 0 0) from by rw [show ((((65 * 0) + 0) : Int).toNat) = 0 by (first | omega | (simp [upS, hz, za1, z1a1, ca1, za2, z1a2, ca2, E900, E74]; done) | (simp [upS, hz, za1, z1a1, ca1, za2, z1a2, ca2, E900, E74]; omega))])]
              obtain ⟨S76, E76⟩ : ∃ s : Sg, s = (upS (upS (upS (upS (upS (upS S74 682 22 0) 682 17 0) 682 18 0) 682 19 0) 682 20 0) 694 0 0) := ⟨_, rfl⟩
              rw [← E76]
              rw [show ((0 + (-1)) : Int) = (-1) by (first | omega | (simp [upS, hz, za1, z1a1, ca1, za2, z1a2, ca2, E900, E74, E76]; done) | (simp [upS, hz, za1, z1a1, ca1, za2, z1a2, ca2, E900, E74, E76]; omega))]
              refine b265_13 ?_
              rw [if_neg (show ¬ ((0 : Int) ≤ (-1)) by first | omega | (simp [upS, hz, za1, z1a1, ca1, za2, z1a2, ca2, E900, E74, E76]; done) | (simp [upS, hz, za1, z1a1, ca1, za2, z1a2, ca2, E900, E74, E76]; omega))]
              refine ⟨(show (-2147483648 : Int) ≤ (0 + (-1)) ∧ ((0 + (-1)) : Int) ≤ 2147483647 by first | omega | (simp [upS, hz, za1, z1a1, ca1, za2, z1a2, ca2, E900, E74, E76]; done) | (simp [upS, hz, za1, z1a1, ca1, za2, z1a2, ca2, E900, E74, E76]; omega)), ?_⟩
              rw [show ((0 + (-1)) : Int) = (-1) by (first | omega | (simp [upS, hz, za1, z1a1, ca1, za2, z1a2, ca2, E900, E74, E76]; done) | (simp [upS, hz, za1, z1a1, ca1, za2, z1a2, ca2, E900, E74, E76]; omega))]
              refine b265_3 ?_
              rw [if_neg (show ¬ ((0 : Int) ≤ (-1)) by first | omega | (simp [upS, hz, za1, z1a1, ca1, za2, z1a2, ca2, E900, E74, E76]; done) | (simp [upS, hz, za1, z1a1, ca1, za2, z1a2, ca2, E900, E74, E76]; omega))]
              all_goals (first | rfl | (simp only [E76]))
            obtain ⟨S78, E78⟩ : ∃ s : Sg, s = (upS (upS (upS (upS (upS (upS S74 682 22 0) 682 17 0) 682 18 0) 682 19 0) 682 20 0) 694 0 0) := ⟨_, rfl⟩
            rw [← E78] at hD77
            refine ⟨_, hD77, ?_⟩
            clear hD77
            rw [show (S78 682 17) = 0 by (first | omega | (simp [upS, hz, za1, z1a1, ca1, za2, z1a2, ca2, E900, E74, E78]; done) | (simp [upS, hz, za1, z1a1, ca1, za2, z1a2, ca2, E900, E74, E78]; omega))]
            rw [show (S78 682 19) = 0 by (first | omega | (simp [upS, hz, za1, z1a1, ca1, za2, z1a2, ca2, E900, E74, E78]; done) | (simp [upS, hz, za1, z1a1, ca1, za2, z1a2, ca2, E900, E74, E78]; omega))]
            refine b266_30 ?_
            rw [if_neg (show ¬ ((0 : Int) < (S78 682 18)) by first | omega | (simp [upS, hz, za1, z1a1, ca1, za2, z1a2, ca2, E900, E74, E78]; done) | (simp [upS, hz, za1, z1a1, ca1, za2, z1a2, ca2, E900, E74, E78]; omega))]
            all_goals (first | rfl | (simp only [E78]))
          obtain ⟨S80, E80⟩ : ∃ s : Sg, s = (upS (upS (upS (upS (upS (upS S74 682 22 0) 682 17 0) 682 18 0) 682 19 0) 682 20 0) 694 0 0) := ⟨_, rfl⟩
          rw [← E80] at hD79
          refine ⟨_, hD79, ?_⟩
          clear hD79
          all_goals (first | rfl | (simp only [E80]))
        obtain ⟨S82, E82⟩ : ∃ s : Sg, s = (upS (upS (upS (upS (upS (upS S74 682 22 0) 682 17 0) 682 18 0) 682 19 0) 682 20 0) 694 0 0) := ⟨_, rfl⟩
        rw [← E82] at hD81
        refine ⟨_, hD81, ?_⟩
        clear hD81
        refine b274_42 ?_
        rw [if_neg (show ¬ ((0 : Int) < (S82 682 22)) by first | omega | (simp [upS, hz, za1, z1a1, ca1, za2, z1a2, ca2, E900, E74, E82]; done) | (simp [upS, hz, za1, z1a1, ca1, za2, z1a2, ca2, E900, E74, E82]; omega))]
        refine b274_163 ?_
        rw [if_neg (show ¬ ((0 : Int) < (S82 682 12)) by first | omega | (simp [upS, hz, za1, z1a1, ca1, za2, z1a2, ca2, E900, E74, E82]; done) | (simp [upS, hz, za1, z1a1, ca1, za2, z1a2, ca2, E900, E74, E82]; omega))]
        all_goals (first | rfl | (simp only [E74, E82]))
      obtain ⟨S84, E84⟩ : ∃ s : Sg, s = (upS (upS (upS (upS (upS (upS (upS (upS (upS (upS (upS (upS (upS (upS (upS S900 682 0 0) 682 12 0) 682 13 0) 682 22 0) 696 0 0) 696 1 0) 696 2 0) 696 3 0) 682 22 1) 682 22 0) 682 17 0) 682 18 0) 682 19 0) 682 20 0) 694 0 0) := ⟨_, rfl⟩
      rw [← E84] at hD83
      refine ⟨_, _, hD83, ?_⟩
      clear hD83
      refine ⟨(show (0 : Int) ≤ 0 ∧ (0 : Int) < 44 by first | omega | (simp [upS, hz, za1, z1a1, ca1, za2, z1a2, ca2, E900, E84]; done) | (simp [upS, hz, za1, z1a1, ca1, za2, z1a2, ca2, E900, E84]; omega)), ?_⟩
      refine ⟨(show (0 : Int) ≤ 0 ∧ (0 : Int) < 44 by first | omega | (simp [upS, hz, za1, z1a1, ca1, za2, z1a2, ca2, E900, E84]; done) | (simp [upS, hz, za1, z1a1, ca1, za2, z1a2, ca2, E900, E84]; omega)), ?_⟩
      rw [(show (upS (upS S84 688 ((0 : Int).toNat) (S84 682 12)) 689 ((0 : Int).toNat) ((upS S84 688 ((0 : Int).toNat) (S84 682 12)) 682 13)) = (upS (upS S84 688 0 0) 689 0 0) from by rw [show ((upS S84 688 ((0 : Int).toNat) (S84 682 12)) 682 13) = 0 by (first | omega | (simp [upS, hz, za1, z1a1, ca1, za2, z1a2, ca2, E900, E84]; done) | (simp [upS, hz, za1, z1a1, ca1, za2, z1a2, ca2, E900, E84]; omega)), show ((0 : Int).toNat) = 0 by (first | omega | (simp [upS, hz, za1, z1a1, ca1, za2, z1a2, ca2, E900, E84]; done) | (simp [upS, hz, za1, z1a1, ca1, za2, z1a2, ca2, E900, E84]; omega)), show (S84 682 12) = 0 by (first | omega | (simp [upS, hz, za1, z1a1, ca1, za2, z1a2, ca2, E900, E84]; done) | (simp [upS, hz, za1, z1a1, ca1, za2, z1a2, ca2, E900, E84]; omega))])]
      refine b287_29 ?_
      rw [if_neg (show ¬ ((0 : Int) < ((upS (upS S84 688 0 0) 689 0 0) 682 12)) by first | omega | (simp [upS, hz, za1, z1a1, ca1, za2, z1a2, ca2, E900, E84]; done) | (simp [upS, hz, za1, z1a1, ca1, za2, z1a2, ca2, E900, E84]; omega))]
      refine b287_85 ?_
      rw [if_neg (show ¬ ((0 : Int) < ((upS (upS S84 688 0 0) 689 0 0) 682 13)) by first | omega | (simp [upS, hz, za1, z1a1, ca1, za2, z1a2, ca2, E900, E84]; done) | (simp [upS, hz, za1, z1a1, ca1, za2, z1a2, ca2, E900, E84]; omega))]
      have hD85 : Dd 280 [(.inr (.inr (some 682))), (.inl 0), (.inl 0)] (upS (upS S84 688 0 0) 689 0 0) (.inl (some (.inl 0)), (upS (upS (upS S84 688 0 0) 689 0 0) 704 0 0)) := by
        refine b280 ?_
        refine b280_8 ?_
        refine ⟨(show (0 : Int) ≤ 0 ∧ (0 : Int) < 44 by first | omega | (simp [upS, hz, za1, z1a1, ca1, za2, z1a2, ca2, E900, E84]; done) | (simp [upS, hz, za1, z1a1, ca1, za2, z1a2, ca2, E900, E84]; omega)), ?_⟩
        rw [if_pos (show ((upS (upS S84 688 0 0) 689 0 0) 688 (0 : Int).toNat) ≤ 0 by first | omega | (simp [upS, hz, za1, z1a1, ca1, za2, z1a2, ca2, E900, E84]; done) | (simp [upS, hz, za1, z1a1, ca1, za2, z1a2, ca2, E900, E84]; omega))]
        refine ⟨(show (0 : Int) ≤ 0 ∧ (0 : Int) < 44 by first | omega | (simp [upS, hz, za1, z1a1, ca1, za2, z1a2, ca2, E900, E84]; done) | (simp [upS, hz, za1, z1a1, ca1, za2, z1a2, ca2, E900, E84]; omega)), ?_⟩
        rw [if_neg (show ¬ ((0 : Int) < ((upS (upS S84 688 0 0) 689 0 0) 689 (0 : Int).toNat)) by first | omega | (simp [upS, hz, za1, z1a1, ca1, za2, z1a2, ca2, E900, E84]; done) | (simp [upS, hz, za1, z1a1, ca1, za2, z1a2, ca2, E900, E84]; omega))]
        refine ⟨(show (0 : Int) ≤ 0 ∧ (0 : Int) < 2 by first | omega | (simp [upS, hz, za1, z1a1, ca1, za2, z1a2, ca2, E900, E84]; done) | (simp [upS, hz, za1, z1a1, ca1, za2, z1a2, ca2, E900, E84]; omega)), ?_⟩
        rw [(show (upS (upS (upS S84 688 0 0) 689 0 0) 704 ((0 : Int).toNat) 0) = (upS (upS (upS S84 688 0 0) 689 0 0) 704 0 0) from by rw [show ((0 : Int).toNat) = 0 by (first | omega | (simp [upS, hz, za1, z1a1, ca1, za2, z1a2, ca2, E900, E84]; done) | (simp [upS, hz, za1, z1a1, ca1, za2, z1a2, ca2, E900, E84]; omega))])]
        all_goals rfl
      refine ⟨_, _, hD85, ?_⟩
      clear hD85
      refine b287_130 ?_
      rw [if_neg (show ¬ ((0 : Int) < 0) by first | omega | (simp [upS, hz, za1, z1a1, ca1, za2, z1a2, ca2, E900, E84]; done) | (simp [upS, hz, za1, z1a1, ca1, za2, z1a2, ca2, E900, E84]; omega))]
      all_goals (first | rfl | (simp only [E84]))
    obtain ⟨S87, E87⟩ : ∃ s : Sg, s = (upS (upS (upS (upS (upS (upS (upS (upS (upS (upS (upS (upS (upS (upS (upS (upS (upS (upS S900 682 0 0) 682 12 0) 682 13 0) 682 22 0) 696 0 0) 696 1 0) 696 2 0) 696 3 0) 682 22 1) 682 22 0) 682 17 0) 682 18 0) 682 19 0) 682 20 0) 694 0 0) 688 0 0) 689 0 0) 704 0 0) := ⟨_, rfl⟩
    rw [← E87] at hD86
    refine ⟨_, hD86, ?_⟩
    clear hD86
    refine ⟨(show -2147483648 ≤ ((S87 682 3) + 1) ∧ ((S87 682 3) + 1) ≤ 2147483647 by first | omega | (simp [upS, hz, za1, z1a1, ca1, za2, z1a2, ca2, E900, E87]; done) | (simp [upS, hz, za1, z1a1, ca1, za2, z1a2, ca2, E900, E87]; omega)), ?_⟩
    refine ⟨(show -2147483648 ≤ (((upS S87 682 3 ((S87 682 3) + 1)) 682 3) - 1) ∧ (((upS S87 682 3 ((S87 682 3) + 1)) 682 3) - 1) ≤ 2147483647 by first | omega | (simp [upS, hz, za1, z1a1, ca1, za2, z1a2, ca2, E900, E87]; done) | (simp [upS, hz, za1, z1a1, ca1, za2, z1a2, ca2, E900, E87]; omega)), ?_⟩
    rw [(show (upS S87 682 3 ((S87 682 3) + 1)) = (upS S87 682 3 1) from by rw [show ((S87 682 3) + 1) = 1 by (first | omega | (simp [upS, hz, za1, z1a1, ca1, za2, z1a2, ca2, E900, E87]; done) | (simp [upS, hz, za1, z1a1, ca1, za2, z1a2, ca2, E900, E87]; omega))])]
    rw [show (((upS S87 682 3 1) 682 3) - 1) = 0 by (first | omega | (simp [upS, hz, za1, z1a1, ca1, za2, z1a2, ca2, E900, E87]; done) | (simp [upS, hz, za1, z1a1, ca1, za2, z1a2, ca2, E900, E87]; omega))]
    all_goals (first | rfl | (simp only [E87]))
  refine ⟨_, _, _, _, hA, hB, ?_, ?_, ?_, ?_, ?_⟩
  all_goals subst E900
  · (first | rfl | (simp [upS, SCR, hz, za1, z1a1, ca1, za2, z1a2, ca2]; done) | (simp [upS, SCR, hz, za1, z1a1, ca1, za2, z1a2, ca2]; omega))
  · first | (intro h9; omega) | (intro _; first | rfl | (simp [upS, SCR, hz, za1, z1a1, ca1, za2, z1a2, ca2]; done) | (simp [upS, SCR, hz, za1, z1a1, ca1, za2, z1a2, ca2]; omega))
  · intro i; first | rfl | (unfold upS SCR; (repeat' split) <;> first | rfl | omega)
  · first | rfl | (unfold upS SCR; (repeat' split) <;> first | rfl | omega)
  · first | rfl | (unfold upS SCR; (repeat' split) <;> first | rfl | omega)
end
