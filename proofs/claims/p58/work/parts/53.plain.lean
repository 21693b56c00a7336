noncomputable section
theorem n3_0A {σ : Sg} {c : Int} {a1 : Int} (H : Rel c σ) (h0 : 0 ≤ a1 ∧ a1 < 4) : Dd 393 [(.inr (.inr (some 0))), (.inl a1), (.inr (.inr (some 726)))] σ (.inl (some (.inl 0)), (upS σ 726 0 (σ (2 + 2 * ((a1)).toNat) 1))) := by
  obtain ⟨r1, r2, r3, r4, r5⟩ := rel_n H
  have hWF := H.1
  have t1 := rel_t H h0
  refine b393 ?_
  have hD5 : Dd 175 [(.inr (.inr (some 0))), (.inl a1)] σ (.inl (some (.inl (σ (2 + 2 * ((a1)).toNat) 1))), σ) := by
    refine b175 ?_
    have hD3 : Dd 227 [(.inr (.inr (some 0))), (.inl a1)] σ (.inl (some (.inr (.inr (some (2 + 2 * ((a1)).toNat))))), σ) := by
      refine b227 ?_
      have hD1 : Dd 145 [(.inr (.inr (some 1))), (.inl a1)] σ (.inl (some (.inr (.inr (some (2 + 2 * ((a1)).toNat))))), σ) := by
        refine b145 ?_
        rw [if_pos (show (0 : Int) ≤ a1 by first | omega | (simp [upS]; done) | (simp [upS]; omega))]
        refine ⟨4, (by decide +kernel), (by decide), ?_⟩
        rw [if_pos (show a1 < ((4 : Nat) : Int) by first | omega | (simp [upS]; done) | (simp [upS]; omega))]
        refine ⟨(show 0 ≤ a1 by first | omega | (simp [upS]; done) | (simp [upS]; omega)), ?_⟩
        refine ⟨(2 + 2 * ((a1)).toNat), (el_1 (i := (a1)) (by first | omega | (simp [upS]; done) | (simp [upS]; omega))).1, (el_1 (i := (a1)) (by first | omega | (simp [upS]; done) | (simp [upS]; omega))).2, ?_⟩
        all_goals rfl
      refine ⟨_, _, hD1, ?_⟩
      clear hD1
      refine ⟨fun hz2 => (by cases hz2), fun _ hz2 => ?_⟩
      cases hz2
      refine ⟨(el_1 (i := (a1)) (by first | omega | (simp [upS]; done) | (simp [upS]; omega))).2, ?_⟩
      all_goals rfl
    refine Or.inl ⟨_, _, hD3, (el_1 (i := (a1)) (by first | omega | (simp [upS]; done) | (simp [upS]; omega))).2, ?_⟩
    clear hD3
    have hD4 : Dd 146 [(.inr (.inr (some (2 + 2 * ((a1)).toNat))))] σ (.inl (some (.inl (σ (2 + 2 * ((a1)).toNat) 1))), σ) := by
      refine b146 (el_1 (i := (a1)) (by first | omega | (simp [upS]; done) | (simp [upS]; omega))).2 ?_
      all_goals rfl
    refine ⟨_, _, hD4, ?_⟩
    clear hD4
    all_goals rfl
  refine Or.inl ⟨_, _, hD5, ?_⟩
  clear hD5
  rw [(show (upS σ 726 ((0 : Int).toNat) (σ (2 + 2 * ((a1)).toNat) 1)) = (upS σ 726 0 (σ (2 + 2 * ((a1)).toNat) 1)) from by rw [show ((0 : Int).toNat) = 0 by (first | omega | (simp [upS]; done) | (simp [upS]; omega))])]
  all_goals rfl
theorem n3_0B {σ : Sg} {c : Int} {a1 : Int} (H : Rel c σ) (h0 : 0 ≤ a1 ∧ a1 < 4) : Dd 260 [(.inr (.inr (some 682))), (.inl a1)] σ (.inl (some (.inl (σ 684 ((a1).toNat)))), (upS σ 682 0 0)) := by
  obtain ⟨r1, r2, r3, r4, r5⟩ := rel_n H
  have hWF := H.1
  have t1 := rel_t H h0
  refine b260 ?_
  have hD7 : Dd 247 [(.inl a1)] σ (.inl (some (.inl 1)), σ) := by
    refine b247 ?_
    have hD6 : Dd 246 [(.inl a1), (.inl 4)] σ (.inl (some (.inl 1)), σ) := by
      refine b246 ?_
      try rw [if_pos (show (0 : Int) ≤ a1 by first | omega | (simp [upS]; done) | (simp [upS]; omega))]
      try rw [if_pos (show a1 < 4 by first | omega | (simp [upS]; done) | (simp [upS]; omega))]
      all_goals rfl
    refine ⟨_, _, hD6, ?_⟩
    clear hD6
    refine ⟨(show 1 = 0 ∨ 1 = 1 by first | omega | (simp [upS]; done) | (simp [upS]; omega)), ?_⟩
    all_goals rfl
  refine ⟨_, _, hD7, ?_⟩
  clear hD7
  try rw [if_neg (show ¬ ((1 : Int) = 0) by first | omega | (simp [upS]; done) | (simp [upS]; omega))]
  refine b260_13 ?_
  have hD8 : Dd 245 [(.inr (.inr (some 682))), (.inl 0)] σ (.inl (some (.inl 1)), (upS σ 682 0 0)) := by
    refine b245 ?_
    try rw [if_pos (show (0 : Int) = 0 by first | omega | (simp [upS]; done) | (simp [upS]; omega))]
    all_goals rfl
  refine ⟨_, _, hD8, ?_⟩
  clear hD8
  refine ⟨(show ¬ (1 = 0) → 0 ≤ a1 ∧ a1 < 4 by (first | (intros; first | omega | (simp [upS]; done) | (simp [upS]; omega)) | (intros; simp_all [upS]; done) | (intros; simp_all [upS]; omega))), ?_⟩
  try rw [if_neg (show ¬ ((1 : Int) = 0) by first | omega | (simp [upS]; done) | (simp [upS]; omega))]
  rw [show ((upS σ 682 0 0) 684 (a1).toNat) = (σ 684 ((a1).toNat)) by (first | omega | (simp [upS]; done) | (simp [upS]; omega))]
  all_goals rfl
theorem n4_1A {σ : Sg} {c : Int} {a1 : Int} {a2 : Int} (H : Rel c σ) (h0 : 0 ≤ a1 ∧ a1 < 4) (h1 : 0 ≤ a2 ∧ a2 < σ (2 + 2 * ((a1)).toNat) 1) : Dd 394 [(.inr (.inr (some 0))), (.inl a1), (.inl a2), (.inr (.inr (some 726)))] σ (.inl (some (.inl 0)), (upS σ 726 0 (atS σ (2 + 2 * ((a1)).toNat) a2))) := by
  obtain ⟨r1, r2, r3, r4, r5⟩ := rel_n H
  have hWF := H.1
  have t1 := rel_t H h0
  refine b394 ?_
  have hD7 : Dd 176 [(.inr (.inr (some 0))), (.inl a1), (.inl a2)] σ (.inl (some (.inl (atS σ (2 + 2 * ((a1)).toNat) a2))), σ) := by
    refine b176 ?_
    have hD3 : Dd 227 [(.inr (.inr (some 0))), (.inl a1)] σ (.inl (some (.inr (.inr (some (2 + 2 * ((a1)).toNat))))), σ) := by
      refine b227 ?_
      have hD1 : Dd 145 [(.inr (.inr (some 1))), (.inl a1)] σ (.inl (some (.inr (.inr (some (2 + 2 * ((a1)).toNat))))), σ) := by
        refine b145 ?_
        rw [if_pos (show (0 : Int) ≤ a1 by first | omega | (simp [upS]; done) | (simp [upS]; omega))]
        refine ⟨4, (by decide +kernel), (by decide), ?_⟩
        rw [if_pos (show a1 < ((4 : Nat) : Int) by first | omega | (simp [upS]; done) | (simp [upS]; omega))]
        refine ⟨(show 0 ≤ a1 by first | omega | (simp [upS]; done) | (simp [upS]; omega)), ?_⟩
        refine ⟨(2 + 2 * ((a1)).toNat), (el_1 (i := (a1)) (by first | omega | (simp [upS]; done) | (simp [upS]; omega))).1, (el_1 (i := (a1)) (by first | omega | (simp [upS]; done) | (simp [upS]; omega))).2, ?_⟩
        all_goals rfl
      refine ⟨_, _, hD1, ?_⟩
      clear hD1
      refine ⟨fun hz2 => (by cases hz2), fun _ hz2 => ?_⟩
      cases hz2
      refine ⟨(el_1 (i := (a1)) (by first | omega | (simp [upS]; done) | (simp [upS]; omega))).2, ?_⟩
      all_goals rfl
    refine Or.inl ⟨_, _, hD3, (el_1 (i := (a1)) (by first | omega | (simp [upS]; done) | (simp [upS]; omega))).2, ?_⟩
    clear hD3
    have hD4 : Dd 146 [(.inr (.inr (some (2 + 2 * ((a1)).toNat))))] σ (.inl (some (.inl (σ (2 + 2 * ((a1)).toNat) 1))), σ) := by
      refine b146 (el_1 (i := (a1)) (by first | omega | (simp [upS]; done) | (simp [upS]; omega))).2 ?_
      all_goals rfl
    refine ⟨_, _, hD4, ?_⟩
    clear hD4
    have hD5 : Dd 232 [(.inr (.inr (some 0))), (.inl a2), (.inl (σ (2 + 2 * ((a1)).toNat) 1))] σ (.inl none, σ) := by
      refine b232 ?_
      rw [if_pos (show (0 : Int) ≤ a2 by first | omega | (simp [upS]; done) | (simp [upS]; omega))]
      rw [if_neg (show ¬ ((σ (2 + 2 * ((a1)).toNat) 1) ≤ a2) by first | omega | (simp [upS]; done) | (simp [upS]; omega))]
      all_goals rfl
    refine Or.inl ⟨_, hD5, ?_⟩
    clear hD5
    have hD6 : Dd 147 [(.inr (.inr (some (2 + 2 * ((a1)).toNat)))), (.inl a2)] σ (.inl (some (.inl (atS σ (2 + 2 * ((a1)).toNat) a2))), σ) := d147 (WF_w hWF (el_1 (i := (a1)) (by first | omega | (simp [upS]; done) | (simp [upS]; omega))).2)
    refine ⟨_, _, hD6, ?_⟩
    clear hD6
    all_goals rfl
  refine Or.inl ⟨_, _, hD7, ?_⟩
  clear hD7
  rw [(show (upS σ 726 ((0 : Int).toNat) (atS σ (2 + 2 * ((a1)).toNat) a2)) = (upS σ 726 0 (atS σ (2 + 2 * ((a1)).toNat) a2)) from by rw [show ((0 : Int).toNat) = 0 by (first | omega | (simp [upS]; done) | (simp [upS]; omega))])]
  all_goals rfl
theorem n4_1B {σ : Sg} {c : Int} {a1 : Int} {a2 : Int} (H : Rel c σ) (h0 : 0 ≤ a1 ∧ a1 < 4) (h1 : 0 ≤ a2 ∧ a2 < σ (2 + 2 * ((a1)).toNat) 1) : Dd 261 [(.inr (.inr (some 682))), (.inl a1), (.inl a2)] σ (.inl (some (.inl (σ 683 ((((16 * a1) + a2)).toNat)))), (upS σ 682 0 0)) := by
  obtain ⟨r1, r2, r3, r4, r5⟩ := rel_n H
  have hWF := H.1
  have t1 := rel_t H h0
  refine b261 ?_
  have hD12 : Dd 257 [(.inr (.inr (some 682))), (.inl a1), (.inl a2)] σ (.inl (some (.inl 1)), (upS σ 682 0 0)) := by
    refine b257 ?_
    have hD9 : Dd 247 [(.inl a1)] σ (.inl (some (.inl 1)), σ) := by
      refine b247 ?_
      have hD8 : Dd 246 [(.inl a1), (.inl 4)] σ (.inl (some (.inl 1)), σ) := by
        refine b246 ?_
        try rw [if_pos (show (0 : Int) ≤ a1 by first | omega | (simp [upS]; done) | (simp [upS]; omega))]
        try rw [if_pos (show a1 < 4 by first | omega | (simp [upS]; done) | (simp [upS]; omega))]
        all_goals rfl
      refine ⟨_, _, hD8, ?_⟩
      clear hD8
      refine ⟨(show 1 = 0 ∨ 1 = 1 by first | omega | (simp [upS]; done) | (simp [upS]; omega)), ?_⟩
      all_goals rfl
    refine ⟨_, _, hD9, ?_⟩
    clear hD9
    rw [if_neg (show ¬ ((1 : Int) = 0) by first | omega | (simp [upS]; done) | (simp [upS]; omega))]
    refine ⟨(show 0 ≤ a1 ∧ a1 < 4 by first | omega | (simp [upS]; done) | (simp [upS]; omega)), ?_⟩
    rw [show (σ 684 (a1).toNat) = (σ 684 ((a1).toNat)) by (first | omega | (simp [upS]; done) | (simp [upS]; omega))]
    have hD10 : Dd 246 [(.inl a2), (.inl (σ 684 ((a1).toNat)))] σ (.inl (some (.inl 1)), σ) := by
      refine b246 ?_
      try rw [if_pos (show (0 : Int) ≤ a2 by first | omega | (simp [upS]; done) | (simp [upS]; omega))]
      try rw [if_pos (show a2 < (σ 684 ((a1).toNat)) by first | omega | (simp [upS]; done) | (simp [upS]; omega))]
      all_goals rfl
    refine ⟨_, _, hD10, ?_⟩
    clear hD10
    rw [if_neg (show ¬ ((1 : Int) = 0) by first | omega | (simp [upS]; done) | (simp [upS]; omega))]
    refine b257_26 ?_
    have hD11 : Dd 245 [(.inr (.inr (some 682))), (.inl 0)] σ (.inl (some (.inl 1)), (upS σ 682 0 0)) := by
      refine b245 ?_
      try rw [if_pos (show (0 : Int) = 0 by first | omega | (simp [upS]; done) | (simp [upS]; omega))]
      all_goals rfl
    refine ⟨_, _, hD11, ?_⟩
    clear hD11
    refine ⟨(show 1 = 0 ∨ 1 = 1 by first | omega | (simp [upS]; done) | (simp [upS]; omega)), ?_⟩
    all_goals rfl
  refine ⟨_, _, hD12, ?_⟩
  clear hD12
  refine ⟨(show ¬ (1 = 0) → -2147483648 ≤ (16 * a1) ∧ (16 * a1) ≤ 2147483647 by (first | (intros; first | omega | (simp [upS]; done) | (simp [upS]; omega)) | (intros; simp_all [upS]; done) | (intros; simp_all [upS]; omega))), ?_⟩
  refine ⟨(show ¬ (1 = 0) → -2147483648 ≤ ((16 * a1) + a2) ∧ ((16 * a1) + a2) ≤ 2147483647 by (first | (intros; first | omega | (simp [upS]; done) | (simp [upS]; omega)) | (intros; simp_all [upS]; done) | (intros; simp_all [upS]; omega))), ?_⟩
  refine ⟨(show ¬ (1 = 0) → 0 ≤ ((16 * a1) + a2) ∧ ((16 * a1) + a2) < 64 by (first | (intros; first | omega | (simp [upS]; done) | (simp [upS]; omega)) | (intros; simp_all [upS]; done) | (intros; simp_all [upS]; omega))), ?_⟩
  try rw [if_neg (show ¬ ((1 : Int) = 0) by first | omega | (simp [upS]; done) | (simp [upS]; omega))]
  rw [show ((upS σ 682 0 0) 683 (((16 * a1) + a2)).toNat) = (σ 683 ((((16 * a1) + a2)).toNat)) by (first | omega | (simp [upS]; done) | (simp [upS]; omega))]
  all_goals rfl
theorem n16_2A {σ : Sg} {c : Int} {a1 : Int} {a2 : Int} {a3 : Int} (H : Rel c σ) (h0 : 0 ≤ a1 ∧ a1 < σ 0 3) (h1 : a2 = 0) (h2 : 0 ≤ a3 ∧ a3 < σ 688 (a1).toNat) : Dd 405 [(.inr (.inr (some 0))), (.inl a1), (.inl a2), (.inl a3), (.inr (.inr (some 726)))] σ (.inl (some (.inl 0)), (upS σ 726 0 (atS σ ((20 + 13 * ((a1)).toNat) + 1) a3))) := by
  obtain ⟨r1, r2, r3, r4, r5⟩ := rel_n H
  have hWF := H.1
  have t1 := rel_p H h0
  refine b405 ?_
  have hD6 : Dd 188 [(.inr (.inr (some 0))), (.inl a1), (.inl a2), (.inl a3)] σ (.inl (some (.inl (atS σ ((20 + 13 * ((a1)).toNat) + 1) a3))), σ) := by
    refine b188 ?_
    have hD3 : Dd 230 [(.inr (.inr (some 0))), (.inl a1)] σ (.inl (some (.inr (.inr (some (20 + 13 * ((a1)).toNat))))), σ) := by
      refine b230 ?_
      have hD1 : Dd 89 [(.inr (.inr (some 19))), (.inl a1), (.inl (σ 0 3))] σ (.inl (some (.inr (.inr (some (20 + 13 * ((a1)).toNat))))), σ) := by
        refine b89 ?_
        rw [if_pos (show (0 : Int) ≤ a1 by first | omega | (simp [upS]; done) | (simp [upS]; omega))]
        rw [if_pos (show a1 < (σ 0 3) by first | omega | (simp [upS]; done) | (simp [upS]; omega))]
        refine ⟨24, (by decide +kernel), (by decide), ?_⟩
        rw [if_pos (show a1 < ((24 : Nat) : Int) by first | omega | (simp [upS]; done) | (simp [upS]; omega))]
        refine ⟨(show 0 ≤ a1 by first | omega | (simp [upS]; done) | (simp [upS]; omega)), ?_⟩
        refine ⟨(20 + 13 * ((a1)).toNat), (el_19 (i := (a1)) (by first | omega | (simp [upS]; done) | (simp [upS]; omega))).1, (el_19 (i := (a1)) (by first | omega | (simp [upS]; done) | (simp [upS]; omega))).2, ?_⟩
        all_goals rfl
      refine ⟨_, _, hD1, ?_⟩
      clear hD1
      refine ⟨fun hz2 => (by cases hz2), fun _ hz2 => ?_⟩
      cases hz2
      refine ⟨(el_19 (i := (a1)) (by first | omega | (simp [upS]; done) | (simp [upS]; omega))).2, ?_⟩
      all_goals rfl
    refine Or.inl ⟨_, _, hD3, (el_19 (i := (a1)) (by first | omega | (simp [upS]; done) | (simp [upS]; omega))).2, ?_⟩
    clear hD3
    have hD4 : Dd 233 [(.inr (.inr (some 0))), (.inl a3)] σ (.inl none, σ) := by
      refine b233 ?_
      rw [if_neg (show ¬ (a3 < 0) by first | omega | (simp [upS]; done) | (simp [upS]; omega))]
      all_goals rfl
    refine Or.inl ⟨_, hD4, ?_⟩
    clear hD4
    rw [if_pos (show a2 = 0 by first | omega | (simp [upS]; done) | (simp [upS]; omega))]
    have hD5 : Dd 147 [(.inr (.inr (some ((20 + 13 * ((a1)).toNat) + 1)))), (.inl a3)] σ (.inl (some (.inl (atS σ ((20 + 13 * ((a1)).toNat) + 1) a3))), σ) := d147 (WF_w hWF (pat_1 (el_19 (i := (a1)) (by first | omega | (simp [upS]; done) | (simp [upS]; omega))).2))
    refine ⟨_, _, hD5, ?_⟩
    clear hD5
    all_goals rfl
  refine Or.inl ⟨_, _, hD6, ?_⟩
  clear hD6
  rw [(show (upS σ 726 ((0 : Int).toNat) (atS σ ((20 + 13 * ((a1)).toNat) + 1) a3)) = (upS σ 726 0 (atS σ ((20 + 13 * ((a1)).toNat) + 1) a3)) from by rw [show ((0 : Int).toNat) = 0 by (first | omega | (simp [upS]; done) | (simp [upS]; omega))])]
  all_goals rfl
theorem n16_2B {σ : Sg} {c : Int} {a1 : Int} {a2 : Int} {a3 : Int} (H : Rel c σ) (h0 : 0 ≤ a1 ∧ a1 < σ 0 3) (h1 : a2 = 0) (h2 : 0 ≤ a3 ∧ a3 < σ 688 (a1).toNat) : Dd 307 [(.inr (.inr (some 682))), (.inl a1), (.inl a2), (.inl a3)] σ (.inl (some (.inl (σ 685 ((((100 * a1) + a3)).toNat)))), (upS σ 682 0 0)) := by
  obtain ⟨r1, r2, r3, r4, r5⟩ := rel_n H
  have hWF := H.1
  have t1 := rel_p H h0
  refine b307 ?_
  have hD8 : Dd 248 [(.inr (.inr (some 682))), (.inl a1)] σ (.inl (some (.inl 1)), σ) := by
    refine b248 ?_
    have hD7 : Dd 246 [(.inl a1), (.inl (σ 682 3))] σ (.inl (some (.inl 1)), σ) := by
      refine b246 ?_
      try rw [if_pos (show (0 : Int) ≤ a1 by first | omega | (simp [upS]; done) | (simp [upS]; omega))]
      try rw [if_pos (show a1 < (σ 682 3) by first | omega | (simp [upS]; done) | (simp [upS]; omega))]
      all_goals rfl
    refine ⟨_, _, hD7, ?_⟩
    clear hD7
    refine ⟨(show 1 = 0 ∨ 1 = 1 by first | omega | (simp [upS]; done) | (simp [upS]; omega)), ?_⟩
    all_goals rfl
  refine ⟨_, _, hD8, ?_⟩
  clear hD8
  rw [if_neg (show ¬ ((1 : Int) = 0) by first | omega | (simp [upS]; done) | (simp [upS]; omega))]
  rw [if_pos (show (0 : Int) ≤ a3 by first | omega | (simp [upS]; done) | (simp [upS]; omega))]
  refine b307_18 ?_
  have hD9 : Dd 245 [(.inr (.inr (some 682))), (.inl 0)] σ (.inl (some (.inl 1)), (upS σ 682 0 0)) := by
    refine b245 ?_
    try rw [if_pos (show (0 : Int) = 0 by first | omega | (simp [upS]; done) | (simp [upS]; omega))]
    all_goals rfl
  refine ⟨_, _, hD9, ?_⟩
  clear hD9
  rw [if_neg (show ¬ ((1 : Int) = 0) by first | omega | (simp [upS]; done) | (simp [upS]; omega))]
  refine ⟨(show (a2 = 0) → 0 ≤ a1 ∧ a1 < 44 by (first | (intros; first | omega | (simp [upS]; done) | (simp [upS]; omega)) | (intros; simp_all [upS]; done) | (intros; simp_all [upS]; omega))), ?_⟩
  refine ⟨(show ¬ (a2 = 0) → 0 ≤ a1 ∧ a1 < 44 by (first | (intros; first | omega | (simp [upS]; done) | (simp [upS]; omega)) | (intros; simp_all [upS]; done) | (intros; simp_all [upS]; omega))), ?_⟩
  try rw [if_pos (show a2 = 0 by first | omega | (simp [upS]; done) | (simp [upS]; omega))]
  rw [show ((upS σ 682 0 0) 688 (a1).toNat) = (σ 688 ((a1).toNat)) by (first | omega | (simp [upS]; done) | (simp [upS]; omega))]
  refine b307_46 ?_
  rw [if_pos (show a3 < (σ 688 ((a1).toNat)) by first | omega | (simp [upS]; done) | (simp [upS]; omega))]
  refine ⟨(show -2147483648 ≤ (100 * a1) ∧ (100 * a1) ≤ 2147483647 by first | omega | (simp [upS]; done) | (simp [upS]; omega)), ?_⟩
  refine ⟨(show -2147483648 ≤ ((100 * a1) + a3) ∧ ((100 * a1) + a3) ≤ 2147483647 by first | omega | (simp [upS]; done) | (simp [upS]; omega)), ?_⟩
  have hD10 : Dd 286 [(.inr (.inr (some 682))), (.inl a2), (.inl ((100 * a1) + a3))] (upS σ 682 0 0) (.inl (some (.inl (σ 685 ((((100 * a1) + a3)).toNat)))), (upS σ 682 0 0)) := by
    refine b286 ?_
    refine ⟨(show (a2 = 0) → 0 ≤ ((100 * a1) + a3) ∧ ((100 * a1) + a3) < 4400 by (first | (intros; first | omega | (simp [upS]; done) | (simp [upS]; omega)) | (intros; simp_all [upS]; done) | (intros; simp_all [upS]; omega))), ?_⟩
    refine ⟨(show ¬ (a2 = 0) → 0 ≤ ((100 * a1) + a3) ∧ ((100 * a1) + a3) < 4400 by (first | (intros; first | omega | (simp [upS]; done) | (simp [upS]; omega)) | (intros; simp_all [upS]; done) | (intros; simp_all [upS]; omega))), ?_⟩
    try rw [if_pos (show a2 = 0 by first | omega | (simp [upS]; done) | (simp [upS]; omega))]
    rw [show ((upS σ 682 0 0) 685 (((100 * a1) + a3)).toNat) = (σ 685 ((((100 * a1) + a3)).toNat)) by (first | omega | (simp [upS]; done) | (simp [upS]; omega))]
    all_goals rfl
  refine ⟨_, _, hD10, ?_⟩
  clear hD10
  all_goals rfl
theorem n16_3A {σ : Sg} {c : Int} {a1 : Int} {a2 : Int} {a3 : Int} (H : Rel c σ) (h0 : 0 ≤ a1 ∧ a1 < σ 0 3) (h1 : a2 = 0) (h2 : 0 ≤ a3 ∧ σ 688 (a1).toNat ≤ a3) : Dd 405 [(.inr (.inr (some 0))), (.inl a1), (.inl a2), (.inl a3), (.inr (.inr (some 726)))] σ (.inl (some (.inl 0)), (upS σ 726 0 (atS σ ((20 + 13 * ((a1)).toNat) + 1) a3))) := by
  obtain ⟨r1, r2, r3, r4, r5⟩ := rel_n H
  have hWF := H.1
  have t1 := rel_p H h0
  refine b405 ?_
  have hD6 : Dd 188 [(.inr (.inr (some 0))), (.inl a1), (.inl a2), (.inl a3)] σ (.inl (some (.inl (atS σ ((20 + 13 * ((a1)).toNat) + 1) a3))), σ) := by
    refine b188 ?_
    have hD3 : Dd 230 [(.inr (.inr (some 0))), (.inl a1)] σ (.inl (some (.inr (.inr (some (20 + 13 * ((a1)).toNat))))), σ) := by
      refine b230 ?_
      have hD1 : Dd 89 [(.inr (.inr (some 19))), (.inl a1), (.inl (σ 0 3))] σ (.inl (some (.inr (.inr (some (20 + 13 * ((a1)).toNat))))), σ) := by
        refine b89 ?_
        rw [if_pos (show (0 : Int) ≤ a1 by first | omega | (simp [upS]; done) | (simp [upS]; omega))]
        rw [if_pos (show a1 < (σ 0 3) by first | omega | (simp [upS]; done) | (simp [upS]; omega))]
        refine ⟨24, (by decide +kernel), (by decide), ?_⟩
        rw [if_pos (show a1 < ((24 : Nat) : Int) by first | omega | (simp [upS]; done) | (simp [upS]; omega))]
        refine ⟨(show 0 ≤ a1 by first | omega | (simp [upS]; done) | (simp [upS]; omega)), ?_⟩
        refine ⟨(20 + 13 * ((a1)).toNat), (el_19 (i := (a1)) (by first | omega | (simp [upS]; done) | (simp [upS]; omega))).1, (el_19 (i := (a1)) (by first | omega | (simp [upS]; done) | (simp [upS]; omega))).2, ?_⟩
        all_goals rfl
      refine ⟨_, _, hD1, ?_⟩
      clear hD1
      refine ⟨fun hz2 => (by cases hz2), fun _ hz2 => ?_⟩
      cases hz2
      refine ⟨(el_19 (i := (a1)) (by first | omega | (simp [upS]; done) | (simp [upS]; omega))).2, ?_⟩
      all_goals rfl
    refine Or.inl ⟨_, _, hD3, (el_19 (i := (a1)) (by first | omega | (simp [upS]; done) | (simp [upS]; omega))).2, ?_⟩
    clear hD3
    have hD4 : Dd 233 [(.inr (.inr (some 0))), (.inl a3)] σ (.inl none, σ) := by
      refine b233 ?_
      rw [if_neg (show ¬ (a3 < 0) by first | omega | (simp [upS]; done) | (simp [upS]; omega))]
      all_goals rfl
    refine Or.inl ⟨_, hD4, ?_⟩
    clear hD4
    rw [if_pos (show a2 = 0 by first | omega | (simp [upS]; done) | (simp [upS]; omega))]
    have hD5 : Dd 147 [(.inr (.inr (some ((20 + 13 * ((a1)).toNat) + 1)))), (.inl a3)] σ (.inl (some (.inl (atS σ ((20 + 13 * ((a1)).toNat) + 1) a3))), σ) := d147 (WF_w hWF (pat_1 (el_19 (i := (a1)) (by first | omega | (simp [upS]; done) | (simp [upS]; omega))).2))
    refine ⟨_, _, hD5, ?_⟩
    clear hD5
    all_goals rfl
  refine Or.inl ⟨_, _, hD6, ?_⟩
  clear hD6
  rw [(show (upS σ 726 ((0 : Int).toNat) (atS σ ((20 + 13 * ((a1)).toNat) + 1) a3)) = (upS σ 726 0 (atS σ ((20 + 13 * ((a1)).toNat) + 1) a3)) from by rw [show ((0 : Int).toNat) = 0 by (first | omega | (simp [upS]; done) | (simp [upS]; omega))])]
  all_goals rfl
theorem n16_3B {σ : Sg} {c : Int} {a1 : Int} {a2 : Int} {a3 : Int} (H : Rel c σ) (h0 : 0 ≤ a1 ∧ a1 < σ 0 3) (h1 : a2 = 0) (h2 : 0 ≤ a3 ∧ σ 688 (a1).toNat ≤ a3) : Dd 307 [(.inr (.inr (some 682))), (.inl a1), (.inl a2), (.inl a3)] σ (.inl (some (.inl (-1))), (upS σ 682 0 0)) := by
  obtain ⟨r1, r2, r3, r4, r5⟩ := rel_n H
  have hWF := H.1
  have t1 := rel_p H h0
  refine b307 ?_
  have hD8 : Dd 248 [(.inr (.inr (some 682))), (.inl a1)] σ (.inl (some (.inl 1)), σ) := by
    refine b248 ?_
    have hD7 : Dd 246 [(.inl a1), (.inl (σ 682 3))] σ (.inl (some (.inl 1)), σ) := by
      refine b246 ?_
      try rw [if_pos (show (0 : Int) ≤ a1 by first | omega | (simp [upS]; done) | (simp [upS]; omega))]
      try rw [if_pos (show a1 < (σ 682 3) by first | omega | (simp [upS]; done) | (simp [upS]; omega))]
      all_goals rfl
    refine ⟨_, _, hD7, ?_⟩
    clear hD7
    refine ⟨(show 1 = 0 ∨ 1 = 1 by first | omega | (simp [upS]; done) | (simp [upS]; omega)), ?_⟩
    all_goals rfl
  refine ⟨_, _, hD8, ?_⟩
  clear hD8
  rw [if_neg (show ¬ ((1 : Int) = 0) by first | omega | (simp [upS]; done) | (simp [upS]; omega))]
  rw [if_pos (show (0 : Int) ≤ a3 by first | omega | (simp [upS]; done) | (simp [upS]; omega))]
  refine b307_18 ?_
  have hD9 : Dd 245 [(.inr (.inr (some 682))), (.inl 0)] σ (.inl (some (.inl 1)), (upS σ 682 0 0)) := by
    refine b245 ?_
    try rw [if_pos (show (0 : Int) = 0 by first | omega | (simp [upS]; done) | (simp [upS]; omega))]
    all_goals rfl
  refine ⟨_, _, hD9, ?_⟩
  clear hD9
  rw [if_neg (show ¬ ((1 : Int) = 0) by first | omega | (simp [upS]; done) | (simp [upS]; omega))]
  refine ⟨(show (a2 = 0) → 0 ≤ a1 ∧ a1 < 44 by (first | (intros; first | omega | (simp [upS]; done) | (simp [upS]; omega)) | (intros; simp_all [upS]; done) | (intros; simp_all [upS]; omega))), ?_⟩
  refine ⟨(show ¬ (a2 = 0) → 0 ≤ a1 ∧ a1 < 44 by (first | (intros; first | omega | (simp [upS]; done) | (simp [upS]; omega)) | (intros; simp_all [upS]; done) | (intros; simp_all [upS]; omega))), ?_⟩
  try rw [if_pos (show a2 = 0 by first | omega | (simp [upS]; done) | (simp [upS]; omega))]
  rw [show ((upS σ 682 0 0) 688 (a1).toNat) = (σ 688 ((a1).toNat)) by (first | omega | (simp [upS]; done) | (simp [upS]; omega))]
  refine b307_46 ?_
  rw [if_neg (show ¬ (a3 < (σ 688 ((a1).toNat))) by first | omega | (simp [upS]; done) | (simp [upS]; omega))]
  all_goals rfl
theorem n16_4A {σ : Sg} {c : Int} {a1 : Int} {a2 : Int} {a3 : Int} (H : Rel c σ) (h0 : 0 ≤ a1 ∧ a1 < σ 0 3) (h1 : a2 = 1) (h2 : 0 ≤ a3 ∧ a3 < σ 689 (a1).toNat) : Dd 405 [(.inr (.inr (some 0))), (.inl a1), (.inl a2), (.inl a3), (.inr (.inr (some 726)))] σ (.inl (some (.inl 0)), (upS σ 726 0 (atS σ ((20 + 13 * ((a1)).toNat) + 3) a3))) := by
  obtain ⟨r1, r2, r3, r4, r5⟩ := rel_n H
  have hWF := H.1
  have t1 := rel_p H h0
  refine b405 ?_
  have hD6 : Dd 188 [(.inr (.inr (some 0))), (.inl a1), (.inl a2), (.inl a3)] σ (.inl (some (.inl (atS σ ((20 + 13 * ((a1)).toNat) + 3) a3))), σ) := by
    refine b188 ?_
    have hD3 : Dd 230 [(.inr (.inr (some 0))), (.inl a1)] σ (.inl (some (.inr (.inr (some (20 + 13 * ((a1)).toNat))))), σ) := by
      refine b230 ?_
      have hD1 : Dd 89 [(.inr (.inr (some 19))), (.inl a1), (.inl (σ 0 3))] σ (.inl (some (.inr (.inr (some (20 + 13 * ((a1)).toNat))))), σ) := by
        refine b89 ?_
        rw [if_pos (show (0 : Int) ≤ a1 by first | omega | (simp [upS]; done) | (simp [upS]; omega))]
        rw [if_pos (show a1 < (σ 0 3) by first | omega | (simp [upS]; done) | (simp [upS]; omega))]
        refine ⟨24, (by decide +kernel), (by decide), ?_⟩
        rw [if_pos (show a1 < ((24 : Nat) : Int) by first | omega | (simp [upS]; done) | (simp [upS]; omega))]
        refine ⟨(show 0 ≤ a1 by first | omega | (simp [upS]; done) | (simp [upS]; omega)), ?_⟩
        refine ⟨(20 + 13 * ((a1)).toNat), (el_19 (i := (a1)) (by first | omega | (simp [upS]; done) | (simp [upS]; omega))).1, (el_19 (i := (a1)) (by first | omega | (simp [upS]; done) | (simp [upS]; omega))).2, ?_⟩
        all_goals rfl
      refine ⟨_, _, hD1, ?_⟩
      clear hD1
      refine ⟨fun hz2 => (by cases hz2), fun _ hz2 => ?_⟩
      cases hz2
      refine ⟨(el_19 (i := (a1)) (by first | omega | (simp [upS]; done) | (simp [upS]; omega))).2, ?_⟩
      all_goals rfl
    refine Or.inl ⟨_, _, hD3, (el_19 (i := (a1)) (by first | omega | (simp [upS]; done) | (simp [upS]; omega))).2, ?_⟩
    clear hD3
    have hD4 : Dd 233 [(.inr (.inr (some 0))), (.inl a3)] σ (.inl none, σ) := by
      refine b233 ?_
      rw [if_neg (show ¬ (a3 < 0) by first | omega | (simp [upS]; done) | (simp [upS]; omega))]
      all_goals rfl
    refine Or.inl ⟨_, hD4, ?_⟩
    clear hD4
    rw [if_neg (show ¬ (a2 = 0) by first | omega | (simp [upS]; done) | (simp [upS]; omega))]
    have hD5 : Dd 147 [(.inr (.inr (some ((20 + 13 * ((a1)).toNat) + 3)))), (.inl a3)] σ (.inl (some (.inl (atS σ ((20 + 13 * ((a1)).toNat) + 3) a3))), σ) := d147 (WF_w hWF (pat_3 (el_19 (i := (a1)) (by first | omega | (simp [upS]; done) | (simp [upS]; omega))).2))
    refine ⟨_, _, hD5, ?_⟩
    clear hD5
    all_goals rfl
  refine Or.inl ⟨_, _, hD6, ?_⟩
  clear hD6
  rw [(show (upS σ 726 ((0 : Int).toNat) (atS σ ((20 + 13 * ((a1)).toNat) + 3) a3)) = (upS σ 726 0 (atS σ ((20 + 13 * ((a1)).toNat) + 3) a3)) from by rw [show ((0 : Int).toNat) = 0 by (first | omega | (simp [upS]; done) | (simp [upS]; omega))])]
  all_goals rfl
theorem n16_4B {σ : Sg} {c : Int} {a1 : Int} {a2 : Int} {a3 : Int} (H : Rel c σ) (h0 : 0 ≤ a1 ∧ a1 < σ 0 3) (h1 : a2 = 1) (h2 : 0 ≤ a3 ∧ a3 < σ 689 (a1).toNat) : Dd 307 [(.inr (.inr (some 682))), (.inl a1), (.inl a2), (.inl a3)] σ (.inl (some (.inl (σ 686 ((((100 * a1) + a3)).toNat)))), (upS σ 682 0 0)) := by
  obtain ⟨r1, r2, r3, r4, r5⟩ := rel_n H
  have hWF := H.1
  have t1 := rel_p H h0
  refine b307 ?_
  have hD8 : Dd 248 [(.inr (.inr (some 682))), (.inl a1)] σ (.inl (some (.inl 1)), σ) := by
    refine b248 ?_
    have hD7 : Dd 246 [(.inl a1), (.inl (σ 682 3))] σ (.inl (some (.inl 1)), σ) := by
      refine b246 ?_
      try rw [if_pos (show (0 : Int) ≤ a1 by first | omega | (simp [upS]; done) | (simp [upS]; omega))]
      try rw [if_pos (show a1 < (σ 682 3) by first | omega | (simp [upS]; done) | (simp [upS]; omega))]
      all_goals rfl
    refine ⟨_, _, hD7, ?_⟩
    clear hD7
    refine ⟨(show 1 = 0 ∨ 1 = 1 by first | omega | (simp [upS]; done) | (simp [upS]; omega)), ?_⟩
    all_goals rfl
  refine ⟨_, _, hD8, ?_⟩
  clear hD8
  rw [if_neg (show ¬ ((1 : Int) = 0) by first | omega | (simp [upS]; done) | (simp [upS]; omega))]
  rw [if_pos (show (0 : Int) ≤ a3 by first | omega | (simp [upS]; done) | (simp [upS]; omega))]
  refine b307_18 ?_
  have hD9 : Dd 245 [(.inr (.inr (some 682))), (.inl 0)] σ (.inl (some (.inl 1)), (upS σ 682 0 0)) := by
    refine b245 ?_
    try rw [if_pos (show (0 : Int) = 0 by first | omega | (simp [upS]; done) | (simp [upS]; omega))]
    all_goals rfl
  refine ⟨_, _, hD9, ?_⟩
  clear hD9
  rw [if_neg (show ¬ ((1 : Int) = 0) by first | omega | (simp [upS]; done) | (simp [upS]; omega))]
  refine ⟨(show (a2 = 0) → 0 ≤ a1 ∧ a1 < 44 by (first | (intros; first | omega | (simp [upS]; done) | (simp [upS]; omega)) | (intros; simp_all [upS]; done) | (intros; simp_all [upS]; omega))), ?_⟩
  refine ⟨(show ¬ (a2 = 0) → 0 ≤ a1 ∧ a1 < 44 by (first | (intros; first | omega | (simp [upS]; done) | (simp [upS]; omega)) | (intros; simp_all [upS]; done) | (intros; simp_all [upS]; omega))), ?_⟩
  try rw [if_neg (show ¬ (a2 = 0) by first | omega | (simp [upS]; done) | (simp [upS]; omega))]
  rw [show ((upS σ 682 0 0) 689 (a1).toNat) = (σ 689 ((a1).toNat)) by (first | omega | (simp [upS]; done) | (simp [upS]; omega))]
  refine b307_46 ?_
  rw [if_pos (show a3 < (σ 689 ((a1).toNat)) by first | omega | (simp [upS]; done) | (simp [upS]; omega))]
  refine ⟨(show -2147483648 ≤ (100 * a1) ∧ (100 * a1) ≤ 2147483647 by first | omega | (simp [upS]; done) | (simp [upS]; omega)), ?_⟩
  refine ⟨(show -2147483648 ≤ ((100 * a1) + a3) ∧ ((100 * a1) + a3) ≤ 2147483647 by first | omega | (simp [upS]; done) | (simp [upS]; omega)), ?_⟩
  have hD10 : Dd 286 [(.inr (.inr (some 682))), (.inl a2), (.inl ((100 * a1) + a3))] (upS σ 682 0 0) (.inl (some (.inl (σ 686 ((((100 * a1) + a3)).toNat)))), (upS σ 682 0 0)) := by
    refine b286 ?_
    refine ⟨(show (a2 = 0) → 0 ≤ ((100 * a1) + a3) ∧ ((100 * a1) + a3) < 4400 by (first | (intros; first | omega | (simp [upS]; done) | (simp [upS]; omega)) | (intros; simp_all [upS]; done) | (intros; simp_all [upS]; omega))), ?_⟩
    refine ⟨(show ¬ (a2 = 0) → 0 ≤ ((100 * a1) + a3) ∧ ((100 * a1) + a3) < 4400 by (first | (intros; first | omega | (simp [upS]; done) | (simp [upS]; omega)) | (intros; simp_all [upS]; done) | (intros; simp_all [upS]; omega))), ?_⟩
    try rw [if_neg (show ¬ (a2 = 0) by first | omega | (simp [upS]; done) | (simp [upS]; omega))]
    rw [show ((upS σ 682 0 0) 686 (((100 * a1) + a3)).toNat) = (σ 686 ((((100 * a1) + a3)).toNat)) by (first | omega | (simp [upS]; done) | (simp [upS]; omega))]
    all_goals rfl
  refine ⟨_, _, hD10, ?_⟩
  clear hD10
  all_goals rfl
theorem n16_5A {σ : Sg} {c : Int} {a1 : Int} {a2 : Int} {a3 : Int} (H : Rel c σ) (h0 : 0 ≤ a1 ∧ a1 < σ 0 3) (h1 : a2 = 1) (h2 : 0 ≤ a3 ∧ σ 689 (a1).toNat ≤ a3) : Dd 405 [(.inr (.inr (some 0))), (.inl a1), (.inl a2), (.inl a3), (.inr (.inr (some 726)))] σ (.inl (some (.inl 0)), (upS σ 726 0 (atS σ ((20 + 13 * ((a1)).toNat) + 3) a3))) := by
  obtain ⟨r1, r2, r3, r4, r5⟩ := rel_n H
  have hWF := H.1
  have t1 := rel_p H h0
  refine b405 ?_
  have hD6 : Dd 188 [(.inr (.inr (some 0))), (.inl a1), (.inl a2), (.inl a3)] σ (.inl (some (.inl (atS σ ((20 + 13 * ((a1)).toNat) + 3) a3))), σ) := by
    refine b188 ?_
    have hD3 : Dd 230 [(.inr (.inr (some 0))), (.inl a1)] σ (.inl (some (.inr (.inr (some (20 + 13 * ((a1)).toNat))))), σ) := by
      refine b230 ?_
      have hD1 : Dd 89 [(.inr (.inr (some 19))), (.inl a1), (.inl (σ 0 3))] σ (.inl (some (.inr (.inr (some (20 + 13 * ((a1)).toNat))))), σ) := by
        refine b89 ?_
        rw [if_pos (show (0 : Int) ≤ a1 by first | omega | (simp [upS]; done) | (simp [upS]; omega))]
        rw [if_pos (show a1 < (σ 0 3) by first | omega | (simp [upS]; done) | (simp [upS]; omega))]
        refine ⟨24, (by decide +kernel), (by decide), ?_⟩
        rw [if_pos (show a1 < ((24 : Nat) : Int) by first | omega | (simp [upS]; done) | (simp [upS]; omega))]
        refine ⟨(show 0 ≤ a1 by first | omega | (simp [upS]; done) | (simp [upS]; omega)), ?_⟩
        refine ⟨(20 + 13 * ((a1)).toNat), (el_19 (i := (a1)) (by first | omega | (simp [upS]; done) | (simp [upS]; omega))).1, (el_19 (i := (a1)) (by first | omega | (simp [upS]; done) | (simp [upS]; omega))).2, ?_⟩
        all_goals rfl
      refine ⟨_, _, hD1, ?_⟩
      clear hD1
      refine ⟨fun hz2 => (by cases hz2), fun _ hz2 => ?_⟩
      cases hz2
      refine ⟨(el_19 (i := (a1)) (by first | omega | (simp [upS]; done) | (simp [upS]; omega))).2, ?_⟩
      all_goals rfl
    refine Or.inl ⟨_, _, hD3, (el_19 (i := (a1)) (by first | omega | (simp [upS]; done) | (simp [upS]; omega))).2, ?_⟩
    clear hD3
    have hD4 : Dd 233 [(.inr (.inr (some 0))), (.inl a3)] σ (.inl none, σ) := by
      refine b233 ?_
      rw [if_neg (show ¬ (a3 < 0) by first | omega | (simp [upS]; done) | (simp [upS]; omega))]
      all_goals rfl
    refine Or.inl ⟨_, hD4, ?_⟩
    clear hD4
    rw [if_neg (show ¬ (a2 = 0) by first | omega | (simp [upS]; done) | (simp [upS]; omega))]
    have hD5 : Dd 147 [(.inr (.inr (some ((20 + 13 * ((a1)).toNat) + 3)))), (.inl a3)] σ (.inl (some (.inl (atS σ ((20 + 13 * ((a1)).toNat) + 3) a3))), σ) := d147 (WF_w hWF (pat_3 (el_19 (i := (a1)) (by first | omega | (simp [upS]; done) | (simp [upS]; omega))).2))
    refine ⟨_, _, hD5, ?_⟩
    clear hD5
    all_goals rfl
  refine Or.inl ⟨_, _, hD6, ?_⟩
  clear hD6
  rw [(show (upS σ 726 ((0 : Int).toNat) (atS σ ((20 + 13 * ((a1)).toNat) + 3) a3)) = (upS σ 726 0 (atS σ ((20 + 13 * ((a1)).toNat) + 3) a3)) from by rw [show ((0 : Int).toNat) = 0 by (first | omega | (simp [upS]; done) | (simp [upS]; omega))])]
  all_goals rfl
theorem n16_5B {σ : Sg} {c : Int} {a1 : Int} {a2 : Int} {a3 : Int} (H : Rel c σ) (h0 : 0 ≤ a1 ∧ a1 < σ 0 3) (h1 : a2 = 1) (h2 : 0 ≤ a3 ∧ σ 689 (a1).toNat ≤ a3) : Dd 307 [(.inr (.inr (some 682))), (.inl a1), (.inl a2), (.inl a3)] σ (.inl (some (.inl (-1))), (upS σ 682 0 0)) := by
  obtain ⟨r1, r2, r3, r4, r5⟩ := rel_n H
  have hWF := H.1
  have t1 := rel_p H h0
  refine b307 ?_
  have hD8 : Dd 248 [(.inr (.inr (some 682))), (.inl a1)] σ (.inl (some (.inl 1)), σ) := by
    refine b248 ?_
    have hD7 : Dd 246 [(.inl a1), (.inl (σ 682 3))] σ (.inl (some (.inl 1)), σ) := by
      refine b246 ?_
      try rw [if_pos (show (0 : Int) ≤ a1 by first | omega | (simp [upS]; done) | (simp [upS]; omega))]
      try rw [if_pos (show a1 < (σ 682 3) by first | omega | (simp [upS]; done) | (simp [upS]; omega))]
      all_goals rfl
    refine ⟨_, _, hD7, ?_⟩
    clear hD7
    refine ⟨(show 1 = 0 ∨ 1 = 1 by first | omega | (simp [upS]; done) | (simp [upS]; omega)), ?_⟩
    all_goals rfl
  refine ⟨_, _, hD8, ?_⟩
  clear hD8
  rw [if_neg (show ¬ ((1 : Int) = 0) by first | omega | (simp [upS]; done) | (simp [upS]; omega))]
  rw [if_pos (show (0 : Int) ≤ a3 by first | omega | (simp [upS]; done) | (simp [upS]; omega))]
  refine b307_18 ?_
  have hD9 : Dd 245 [(.inr (.inr (some 682))), (.inl 0)] σ (.inl (some (.inl 1)), (upS σ 682 0 0)) := by
    refine b245 ?_
    try rw [if_pos (show (0 : Int) = 0 by first | omega | (simp [upS]; done) | (simp [upS]; omega))]
    all_goals rfl
  refine ⟨_, _, hD9, ?_⟩
  clear hD9
  rw [if_neg (show ¬ ((1 : Int) = 0) by first | omega | (simp [upS]; done) | (simp [upS]; omega))]
  refine ⟨(show (a2 = 0) → 0 ≤ a1 ∧ a1 < 44 by (first | (intros; first | omega | (simp [upS]; done) | (simp [upS]; omega)) | (intros; simp_all [upS]; done) | (intros; simp_all [upS]; omega))), ?_⟩
  refine ⟨(show ¬ (a2 = 0) → 0 ≤ a1 ∧ a1 < 44 by (first | (intros; first | omega | (simp [upS]; done) | (simp [upS]; omega)) | (intros; simp_all [upS]; done) | (intros; simp_all [upS]; omega))), ?_⟩
  try rw [if_neg (show ¬ (a2 = 0) by first | omega | (simp [upS]; done) | (simp [upS]; omega))]
  rw [show ((upS σ 682 0 0) 689 (a1).toNat) = (σ 689 ((a1).toNat)) by (first | omega | (simp [upS]; done) | (simp [upS]; omega))]
  refine b307_46 ?_
  rw [if_neg (show ¬ (a3 < (σ 689 ((a1).toNat))) by first | omega | (simp [upS]; done) | (simp [upS]; omega))]
  all_goals rfl
theorem n17_6A {σ : Sg} {c : Int} {a1 : Int} {a2 : Int} (H : Rel c σ) (h0 : 0 ≤ a1 ∧ a1 < σ 0 3) (h1 : 0 ≤ a2 ∧ a2 < σ ((20 + 13 * ((a1)).toNat) + 1) 1) : Dd 406 [(.inr (.inr (some 0))), (.inl a1), (.inl a2), (.inr (.inr (some 726)))] σ (.inl (some (.inl 0)), (upS σ 726 0 (atS σ ((20 + 13 * ((a1)).toNat) + 5) a2))) := by
  obtain ⟨r1, r2, r3, r4, r5⟩ := rel_n H
  have hWF := H.1
  have t1 := rel_p H h0
  refine b406 ?_
  have hD7 : Dd 189 [(.inr (.inr (some 0))), (.inl a1), (.inl a2)] σ (.inl (some (.inl (atS σ ((20 + 13 * ((a1)).toNat) + 5) a2))), σ) := by
    refine b189 ?_
    have hD3 : Dd 230 [(.inr (.inr (some 0))), (.inl a1)] σ (.inl (some (.inr (.inr (some (20 + 13 * ((a1)).toNat))))), σ) := by
      refine b230 ?_
      have hD1 : Dd 89 [(.inr (.inr (some 19))), (.inl a1), (.inl (σ 0 3))] σ (.inl (some (.inr (.inr (some (20 + 13 * ((a1)).toNat))))), σ) := by
        refine b89 ?_
        rw [if_pos (show (0 : Int) ≤ a1 by first | omega | (simp [upS]; done) | (simp [upS]; omega))]
        rw [if_pos (show a1 < (σ 0 3) by first | omega | (simp [upS]; done) | (simp [upS]; omega))]
        refine ⟨24, (by decide +kernel), (by decide), ?_⟩
        rw [if_pos (show a1 < ((24 : Nat) : Int) by first | omega | (simp [upS]; done) | (simp [upS]; omega))]
        refine ⟨(show 0 ≤ a1 by first | omega | (simp [upS]; done) | (simp [upS]; omega)), ?_⟩
        refine ⟨(20 + 13 * ((a1)).toNat), (el_19 (i := (a1)) (by first | omega | (simp [upS]; done) | (simp [upS]; omega))).1, (el_19 (i := (a1)) (by first | omega | (simp [upS]; done) | (simp [upS]; omega))).2, ?_⟩
        all_goals rfl
      refine ⟨_, _, hD1, ?_⟩
      clear hD1
      refine ⟨fun hz2 => (by cases hz2), fun _ hz2 => ?_⟩
      cases hz2
      refine ⟨(el_19 (i := (a1)) (by first | omega | (simp [upS]; done) | (simp [upS]; omega))).2, ?_⟩
      all_goals rfl
    refine Or.inl ⟨_, _, hD3, (el_19 (i := (a1)) (by first | omega | (simp [upS]; done) | (simp [upS]; omega))).2, ?_⟩
    clear hD3
    have hD4 : Dd 146 [(.inr (.inr (some ((20 + 13 * ((a1)).toNat) + 1))))] σ (.inl (some (.inl (σ ((20 + 13 * ((a1)).toNat) + 1) 1))), σ) := by
      refine b146 (pat_1 (el_19 (i := (a1)) (by first | omega | (simp [upS]; done) | (simp [upS]; omega))).2) ?_
      all_goals rfl
    refine ⟨_, _, hD4, ?_⟩
    clear hD4
    have hD5 : Dd 232 [(.inr (.inr (some 0))), (.inl a2), (.inl (σ ((20 + 13 * ((a1)).toNat) + 1) 1))] σ (.inl none, σ) := by
      refine b232 ?_
      rw [if_pos (show (0 : Int) ≤ a2 by first | omega | (simp [upS]; done) | (simp [upS]; omega))]
      rw [if_neg (show ¬ ((σ ((20 + 13 * ((a1)).toNat) + 1) 1) ≤ a2) by first | omega | (simp [upS]; done) | (simp [upS]; omega))]
      all_goals rfl
    refine Or.inl ⟨_, hD5, ?_⟩
    clear hD5
    have hD6 : Dd 147 [(.inr (.inr (some ((20 + 13 * ((a1)).toNat) + 5)))), (.inl a2)] σ (.inl (some (.inl (atS σ ((20 + 13 * ((a1)).toNat) + 5) a2))), σ) := d147 (WF_w hWF (pat_5 (el_19 (i := (a1)) (by first | omega | (simp [upS]; done) | (simp [upS]; omega))).2))
    refine ⟨_, _, hD6, ?_⟩
    clear hD6
    all_goals rfl
  refine Or.inl ⟨_, _, hD7, ?_⟩
  clear hD7
  rw [(show (upS σ 726 ((0 : Int).toNat) (atS σ ((20 + 13 * ((a1)).toNat) + 5) a2)) = (upS σ 726 0 (atS σ ((20 + 13 * ((a1)).toNat) + 5) a2)) from by rw [show ((0 : Int).toNat) = 0 by (first | omega | (simp [upS]; done) | (simp [upS]; omega))])]
  all_goals rfl
theorem n17_6B {σ : Sg} {c : Int} {a1 : Int} {a2 : Int} (H : Rel c σ) (h0 : 0 ≤ a1 ∧ a1 < σ 0 3) (h1 : 0 ≤ a2 ∧ a2 < σ ((20 + 13 * ((a1)).toNat) + 1) 1) : Dd 309 [(.inr (.inr (some 682))), (.inl a1), (.inl a2)] σ (.inl (some (.inl (σ 687 ((((100 * a1) + a2)).toNat)))), (upS σ 682 0 0)) := by
  obtain ⟨r1, r2, r3, r4, r5⟩ := rel_n H
  have hWF := H.1
  have t1 := rel_p H h0
  refine b309 ?_
  have hD12 : Dd 308 [(.inr (.inr (some 682))), (.inl a1), (.inl a2)] σ (.inl (some (.inl 1)), (upS σ 682 0 0)) := by
    refine b308 ?_
    have hD9 : Dd 248 [(.inr (.inr (some 682))), (.inl a1)] σ (.inl (some (.inl 1)), σ) := by
      refine b248 ?_
      have hD8 : Dd 246 [(.inl a1), (.inl (σ 682 3))] σ (.inl (some (.inl 1)), σ) := by
        refine b246 ?_
        try rw [if_pos (show (0 : Int) ≤ a1 by first | omega | (simp [upS]; done) | (simp [upS]; omega))]
        try rw [if_pos (show a1 < (σ 682 3) by first | omega | (simp [upS]; done) | (simp [upS]; omega))]
        all_goals rfl
      refine ⟨_, _, hD8, ?_⟩
      clear hD8
      refine ⟨(show 1 = 0 ∨ 1 = 1 by first | omega | (simp [upS]; done) | (simp [upS]; omega)), ?_⟩
      all_goals rfl
    refine ⟨_, _, hD9, ?_⟩
    clear hD9
    rw [if_neg (show ¬ ((1 : Int) = 0) by first | omega | (simp [upS]; done) | (simp [upS]; omega))]
    refine ⟨(show 0 ≤ a1 ∧ a1 < 44 by first | omega | (simp [upS]; done) | (simp [upS]; omega)), ?_⟩
    rw [show (σ 688 (a1).toNat) = (σ 688 ((a1).toNat)) by (first | omega | (simp [upS]; done) | (simp [upS]; omega))]
    have hD10 : Dd 246 [(.inl a2), (.inl (σ 688 ((a1).toNat)))] σ (.inl (some (.inl 1)), σ) := by
      refine b246 ?_
      try rw [if_pos (show (0 : Int) ≤ a2 by first | omega | (simp [upS]; done) | (simp [upS]; omega))]
      try rw [if_pos (show a2 < (σ 688 ((a1).toNat)) by first | omega | (simp [upS]; done) | (simp [upS]; omega))]
      all_goals rfl
    refine ⟨_, _, hD10, ?_⟩
    clear hD10
    rw [if_neg (show ¬ ((1 : Int) = 0) by first | omega | (simp [upS]; done) | (simp [upS]; omega))]
    refine b308_27 ?_
    have hD11 : Dd 245 [(.inr (.inr (some 682))), (.inl 0)] σ (.inl (some (.inl 1)), (upS σ 682 0 0)) := by
      refine b245 ?_
      try rw [if_pos (show (0 : Int) = 0 by first | omega | (simp [upS]; done) | (simp [upS]; omega))]
      all_goals rfl
    refine ⟨_, _, hD11, ?_⟩
    clear hD11
    refine ⟨(show 1 = 0 ∨ 1 = 1 by first | omega | (simp [upS]; done) | (simp [upS]; omega)), ?_⟩
    all_goals rfl
  refine ⟨_, _, hD12, ?_⟩
  clear hD12
  refine ⟨(show ¬ (1 = 0) → -2147483648 ≤ (100 * a1) ∧ (100 * a1) ≤ 2147483647 by (first | (intros; first | omega | (simp [upS]; done) | (simp [upS]; omega)) | (intros; simp_all [upS]; done) | (intros; simp_all [upS]; omega))), ?_⟩
  refine ⟨(show ¬ (1 = 0) → -2147483648 ≤ ((100 * a1) + a2) ∧ ((100 * a1) + a2) ≤ 2147483647 by (first | (intros; first | omega | (simp [upS]; done) | (simp [upS]; omega)) | (intros; simp_all [upS]; done) | (intros; simp_all [upS]; omega))), ?_⟩
  refine ⟨(show ¬ (1 = 0) → 0 ≤ ((100 * a1) + a2) ∧ ((100 * a1) + a2) < 4400 by (first | (intros; first | omega | (simp [upS]; done) | (simp [upS]; omega)) | (intros; simp_all [upS]; done) | (intros; simp_all [upS]; omega))), ?_⟩
  try rw [if_neg (show ¬ ((1 : Int) = 0) by first | omega | (simp [upS]; done) | (simp [upS]; omega))]
  rw [show ((upS σ 682 0 0) 687 (((100 * a1) + a2)).toNat) = (σ 687 ((((100 * a1) + a2)).toNat)) by (first | omega | (simp [upS]; done) | (simp [upS]; omega))]
  all_goals rfl
theorem n24_7A {σ : Sg} {c : Int} {a1 : Int} (H : Rel c σ) (h0 : 0 ≤ a1 ∧ a1 < σ 393 1) (h1 : σ 706 (a1).toNat = -1) : Dd 413 [(.inr (.inr (some 0))), (.inl a1), (.inr (.inr (some 726)))] σ (.inl (some (.inl 0)), (upS σ 726 0 (atS σ 393 a1))) := by
  obtain ⟨r1, r2, r3, r4, r5⟩ := rel_n H
  have hWF := H.1
  refine b413 ?_
  have hD4 : Dd 196 [(.inr (.inr (some 0))), (.inl a1)] σ (.inl (some (.inl (atS σ 393 a1))), σ) := by
    refine b196 ?_
    have hD1 : Dd 146 [(.inr (.inr (some 393)))] σ (.inl (some (.inl (σ 393 1))), σ) := by
      refine b146 (by decide +kernel) ?_
      all_goals rfl
    refine ⟨_, _, hD1, ?_⟩
    clear hD1
    have hD2 : Dd 232 [(.inr (.inr (some 0))), (.inl a1), (.inl (σ 393 1))] σ (.inl none, σ) := by
      refine b232 ?_
      rw [if_pos (show (0 : Int) ≤ a1 by first | omega | (simp [upS]; done) | (simp [upS]; omega))]
      rw [if_neg (show ¬ ((σ 393 1) ≤ a1) by first | omega | (simp [upS]; done) | (simp [upS]; omega))]
      all_goals rfl
    refine Or.inl ⟨_, hD2, ?_⟩
    clear hD2
    have hD3 : Dd 147 [(.inr (.inr (some 393))), (.inl a1)] σ (.inl (some (.inl (atS σ 393 a1))), σ) := d147 (WF_w hWF (by decide +kernel))
    refine ⟨_, _, hD3, ?_⟩
    clear hD3
    all_goals rfl
  refine Or.inl ⟨_, _, hD4, ?_⟩
  clear hD4
  rw [(show (upS σ 726 ((0 : Int).toNat) (atS σ 393 a1)) = (upS σ 726 0 (atS σ 393 a1)) from by rw [show ((0 : Int).toNat) = 0 by (first | omega | (simp [upS]; done) | (simp [upS]; omega))])]
  all_goals rfl
theorem n24_7B {σ : Sg} {c : Int} {a1 : Int} (H : Rel c σ) (h0 : 0 ≤ a1 ∧ a1 < σ 393 1) (h1 : σ 706 (a1).toNat = -1) : Dd 327 [(.inr (.inr (some 682))), (.inl a1)] σ (.inl (some (.inl (-1))), (upS σ 682 0 0)) := by
  obtain ⟨r1, r2, r3, r4, r5⟩ := rel_n H
  have hWF := H.1
  refine b327 ?_
  have hD5 : Dd 246 [(.inl a1), (.inl (σ 682 33))] σ (.inl (some (.inl 1)), σ) := by
    refine b246 ?_
    try rw [if_pos (show (0 : Int) ≤ a1 by first | omega | (simp [upS]; done) | (simp [upS]; omega))]
    try rw [if_pos (show a1 < (σ 682 33) by first | omega | (simp [upS]; done) | (simp [upS]; omega))]
    all_goals rfl
  refine ⟨_, _, hD5, ?_⟩
  clear hD5
  try rw [if_neg (show ¬ ((1 : Int) = 0) by first | omega | (simp [upS]; done) | (simp [upS]; omega))]
  refine b327_17 ?_
  have hD6 : Dd 245 [(.inr (.inr (some 682))), (.inl 0)] σ (.inl (some (.inl 1)), (upS σ 682 0 0)) := by
    refine b245 ?_
    try rw [if_pos (show (0 : Int) = 0 by first | omega | (simp [upS]; done) | (simp [upS]; omega))]
    all_goals rfl
  refine ⟨_, _, hD6, ?_⟩
  clear hD6
  refine ⟨(show ¬ (1 = 0) → 0 ≤ a1 ∧ a1 < 32 by (first | (intros; first | omega | (simp [upS]; done) | (simp [upS]; omega)) | (intros; simp_all [upS]; done) | (intros; simp_all [upS]; omega))), ?_⟩
  refine ⟨(show ¬ (1 = 0) → ¬ (((upS σ 682 0 0) 706 (a1).toNat) = (-1)) → 0 ≤ a1 ∧ a1 < 32 by (first | (intros; first | omega | (simp [upS]; done) | (simp [upS]; omega)) | (intros; simp_all [upS]; done) | (intros; simp_all [upS]; omega))), ?_⟩
  refine ⟨(show ¬ (1 = 0) → ¬ (((upS σ 682 0 0) 706 (a1).toNat) = (-1)) → -2147483648 ≤ (10 * ((upS σ 682 0 0) 706 (a1).toNat)) ∧ (10 * ((upS σ 682 0 0) 706 (a1).toNat)) ≤ 2147483647 by (first | (intros; first | omega | (simp [upS]; done) | (simp [upS]; omega)) | (intros; simp_all [upS]; done) | (intros; simp_all [upS]; omega))), ?_⟩
  refine ⟨(show ¬ (1 = 0) → ¬ (((upS σ 682 0 0) 706 (a1).toNat) = (-1)) → 0 ≤ a1 ∧ a1 < 32 by (first | (intros; first | omega | (simp [upS]; done) | (simp [upS]; omega)) | (intros; simp_all [upS]; done) | (intros; simp_all [upS]; omega))), ?_⟩
  refine ⟨(show ¬ (1 = 0) → ¬ (((upS σ 682 0 0) 706 (a1).toNat) = (-1)) → -2147483648 ≤ ((10 * ((upS σ 682 0 0) 706 (a1).toNat)) + ((upS σ 682 0 0) 707 (a1).toNat)) ∧ ((10 * ((upS σ 682 0 0) 706 (a1).toNat)) + ((upS σ 682 0 0) 707 (a1).toNat)) ≤ 2147483647 by (first | (intros; first | omega | (simp [upS]; done) | (simp [upS]; omega)) | (intros; simp_all [upS]; done) | (intros; simp_all [upS]; omega))), ?_⟩
  try rw [if_neg (show ¬ ((1 : Int) = 0) by first | omega | (simp [upS]; done) | (simp [upS]; omega))]
  try rw [if_pos (show ((upS σ 682 0 0) 706 (a1).toNat) = (-1) by first | omega | (simp [upS]; done) | (simp [upS]; omega))]
  all_goals rfl
theorem n24_8A {σ : Sg} {c : Int} {a1 : Int} (H : Rel c σ) (h0 : 0 ≤ a1 ∧ a1 < σ 393 1) (h1 : ¬ σ 706 (a1).toNat = -1) : Dd 413 [(.inr (.inr (some 0))), (.inl a1), (.inr (.inr (some 726)))] σ (.inl (some (.inl 0)), (upS σ 726 0 (atS σ 393 a1))) := by
  obtain ⟨r1, r2, r3, r4, r5⟩ := rel_n H
  have hWF := H.1
  have u1 := H.2.2.2.2.2.2.1.2 a1.toNat (by omega)
  refine b413 ?_
  have hD4 : Dd 196 [(.inr (.inr (some 0))), (.inl a1)] σ (.inl (some (.inl (atS σ 393 a1))), σ) := by
    refine b196 ?_
    have hD1 : Dd 146 [(.inr (.inr (some 393)))] σ (.inl (some (.inl (σ 393 1))), σ) := by
      refine b146 (by decide +kernel) ?_
      all_goals rfl
    refine ⟨_, _, hD1, ?_⟩
    clear hD1
    have hD2 : Dd 232 [(.inr (.inr (some 0))), (.inl a1), (.inl (σ 393 1))] σ (.inl none, σ) := by
      refine b232 ?_
      rw [if_pos (show (0 : Int) ≤ a1 by first | omega | (simp [upS]; done) | (simp [upS]; omega))]
      rw [if_neg (show ¬ ((σ 393 1) ≤ a1) by first | omega | (simp [upS]; done) | (simp [upS]; omega))]
      all_goals rfl
    refine Or.inl ⟨_, hD2, ?_⟩
    clear hD2
    have hD3 : Dd 147 [(.inr (.inr (some 393))), (.inl a1)] σ (.inl (some (.inl (atS σ 393 a1))), σ) := d147 (WF_w hWF (by decide +kernel))
    refine ⟨_, _, hD3, ?_⟩
    clear hD3
    all_goals rfl
  refine Or.inl ⟨_, _, hD4, ?_⟩
  clear hD4
  rw [(show (upS σ 726 ((0 : Int).toNat) (atS σ 393 a1)) = (upS σ 726 0 (atS σ 393 a1)) from by rw [show ((0 : Int).toNat) = 0 by (first | omega | (simp [upS]; done) | (simp [upS]; omega))])]
  all_goals rfl
theorem n24_8B {σ : Sg} {c : Int} {a1 : Int} (H : Rel c σ) (h0 : 0 ≤ a1 ∧ a1 < σ 393 1) (h1 : ¬ σ 706 (a1).toNat = -1) : Dd 327 [(.inr (.inr (some 682))), (.inl a1)] σ (.inl (some (.inl ((10 * (σ 706 ((a1).toNat))) + (σ 707 ((a1).toNat))))), (upS σ 682 0 0)) := by
  obtain ⟨r1, r2, r3, r4, r5⟩ := rel_n H
  have hWF := H.1
  have u1 := H.2.2.2.2.2.2.1.2 a1.toNat (by omega)
  refine b327 ?_
  have hD5 : Dd 246 [(.inl a1), (.inl (σ 682 33))] σ (.inl (some (.inl 1)), σ) := by
    refine b246 ?_
    try rw [if_pos (show (0 : Int) ≤ a1 by first | omega | (simp [upS]; done) | (simp [upS]; omega))]
    try rw [if_pos (show a1 < (σ 682 33) by first | omega | (simp [upS]; done) | (simp [upS]; omega))]
    all_goals rfl
  refine ⟨_, _, hD5, ?_⟩
  clear hD5
  try rw [if_neg (show ¬ ((1 : Int) = 0) by first | omega | (simp [upS]; done) | (simp [upS]; omega))]
  refine b327_17 ?_
  have hD6 : Dd 245 [(.inr (.inr (some 682))), (.inl 0)] σ (.inl (some (.inl 1)), (upS σ 682 0 0)) := by
    refine b245 ?_
    try rw [if_pos (show (0 : Int) = 0 by first | omega | (simp [upS]; done) | (simp [upS]; omega))]
    all_goals rfl
  refine ⟨_, _, hD6, ?_⟩
  clear hD6
  refine ⟨(show ¬ (1 = 0) → 0 ≤ a1 ∧ a1 < 32 by (first | (intros; first | omega | (simp [upS]; done) | (simp [upS]; omega)) | (intros; simp_all [upS]; done) | (intros; simp_all [upS]; omega))), ?_⟩
  refine ⟨(show ¬ (1 = 0) → ¬ (((upS σ 682 0 0) 706 (a1).toNat) = (-1)) → 0 ≤ a1 ∧ a1 < 32 by (first | (intros; first | omega | (simp [upS]; done) | (simp [upS]; omega)) | (intros; simp_all [upS]; done) | (intros; simp_all [upS]; omega))), ?_⟩
  refine ⟨(show ¬ (1 = 0) → ¬ (((upS σ 682 0 0) 706 (a1).toNat) = (-1)) → -2147483648 ≤ (10 * ((upS σ 682 0 0) 706 (a1).toNat)) ∧ (10 * ((upS σ 682 0 0) 706 (a1).toNat)) ≤ 2147483647 by (first | (intros; first | omega | (simp [upS]; done) | (simp [upS]; omega)) | (intros; simp_all [upS]; done) | (intros; simp_all [upS]; omega))), ?_⟩
  refine ⟨(show ¬ (1 = 0) → ¬ (((upS σ 682 0 0) 706 (a1).toNat) = (-1)) → 0 ≤ a1 ∧ a1 < 32 by (first | (intros; first | omega | (simp [upS]; done) | (simp [upS]; omega)) | (intros; simp_all [upS]; done) | (intros; simp_all [upS]; omega))), ?_⟩
  refine ⟨(show ¬ (1 = 0) → ¬ (((upS σ 682 0 0) 706 (a1).toNat) = (-1)) → -2147483648 ≤ ((10 * ((upS σ 682 0 0) 706 (a1).toNat)) + ((upS σ 682 0 0) 707 (a1).toNat)) ∧ ((10 * ((upS σ 682 0 0) 706 (a1).toNat)) + ((upS σ 682 0 0) 707 (a1).toNat)) ≤ 2147483647 by (first | (intros; first | omega | (simp [upS]; done) | (simp [upS]; omega)) | (intros; simp_all [upS]; done) | (intros; simp_all [upS]; omega))), ?_⟩
  try rw [if_neg (show ¬ ((1 : Int) = 0) by first | omega | (simp [upS]; done) | (simp [upS]; omega))]
  try rw [if_neg (show ¬ (((upS σ 682 0 0) 706 (a1).toNat) = (-1)) by first | omega | (simp [upS]; done) | (simp [upS]; omega))]
  rw [show ((10 * ((upS σ 682 0 0) 706 (a1).toNat)) + ((upS σ 682 0 0) 707 (a1).toNat)) = ((10 * (σ 706 ((a1).toNat))) + (σ 707 ((a1).toNat))) by (first | omega | (simp [upS]; done) | (simp [upS]; omega))]
  all_goals rfl
theorem n37_9A {σ : Sg} {c : Int} {a1 : Int} (H : Rel c σ) (h0 : 0 ≤ a1 ∧ a1 < σ 402 3) : Dd 425 [(.inr (.inr (some 0))), (.inl a1), (.inr (.inr (some 726)))] σ (.inl (some (.inl 0)), (upS σ 726 0 (atS σ 471 a1))) := by
  obtain ⟨r1, r2, r3, r4, r5⟩ := rel_n H
  have hWF := H.1
  refine b425 ?_
  have hD3 : Dd 209 [(.inr (.inr (some 0))), (.inl a1)] σ (.inl (some (.inl (atS σ 471 a1))), σ) := by
    refine b209 ?_
    have hD1 : Dd 232 [(.inr (.inr (some 0))), (.inl a1), (.inl (σ 402 3))] σ (.inl none, σ) := by
      refine b232 ?_
      rw [if_pos (show (0 : Int) ≤ a1 by first | omega | (simp [upS]; done) | (simp [upS]; omega))]
      rw [if_neg (show ¬ ((σ 402 3) ≤ a1) by first | omega | (simp [upS]; done) | (simp [upS]; omega))]
      all_goals rfl
    refine Or.inl ⟨_, hD1, ?_⟩
    clear hD1
    have hD2 : Dd 147 [(.inr (.inr (some 471))), (.inl a1)] σ (.inl (some (.inl (atS σ 471 a1))), σ) := d147 (WF_w hWF (by decide +kernel))
    refine ⟨_, _, hD2, ?_⟩
    clear hD2
    all_goals rfl
  refine Or.inl ⟨_, _, hD3, ?_⟩
  clear hD3
  rw [(show (upS σ 726 ((0 : Int).toNat) (atS σ 471 a1)) = (upS σ 726 0 (atS σ 471 a1)) from by rw [show ((0 : Int).toNat) = 0 by (first | omega | (simp [upS]; done) | (simp [upS]; omega))])]
  all_goals rfl
theorem n37_9B {σ : Sg} {c : Int} {a1 : Int} (H : Rel c σ) (h0 : 0 ≤ a1 ∧ a1 < σ 402 3) : Dd 354 [(.inr (.inr (some 682))), (.inl a1)] σ (.inl (some (.inl (σ 711 ((a1).toNat)))), (upS σ 682 0 0)) := by
  obtain ⟨r1, r2, r3, r4, r5⟩ := rel_n H
  have hWF := H.1
  refine b354 ?_
  have hD5 : Dd 340 [(.inr (.inr (some 682))), (.inl a1)] σ (.inl (some (.inl 1)), σ) := by
    refine b340 ?_
    have hD4 : Dd 246 [(.inl a1), (.inl (σ 682 40))] σ (.inl (some (.inl 1)), σ) := by
      refine b246 ?_
      try rw [if_pos (show (0 : Int) ≤ a1 by first | omega | (simp [upS]; done) | (simp [upS]; omega))]
      try rw [if_pos (show a1 < (σ 682 40) by first | omega | (simp [upS]; done) | (simp [upS]; omega))]
      all_goals rfl
    refine ⟨_, _, hD4, ?_⟩
    clear hD4
    refine ⟨(show 1 = 0 ∨ 1 = 1 by first | omega | (simp [upS]; done) | (simp [upS]; omega)), ?_⟩
    all_goals rfl
  refine ⟨_, _, hD5, ?_⟩
  clear hD5
  try rw [if_neg (show ¬ ((1 : Int) = 0) by first | omega | (simp [upS]; done) | (simp [upS]; omega))]
  refine b354_14 ?_
  have hD6 : Dd 245 [(.inr (.inr (some 682))), (.inl 0)] σ (.inl (some (.inl 1)), (upS σ 682 0 0)) := by
    refine b245 ?_
    try rw [if_pos (show (0 : Int) = 0 by first | omega | (simp [upS]; done) | (simp [upS]; omega))]
    all_goals rfl
  refine ⟨_, _, hD6, ?_⟩
  clear hD6
  refine ⟨(show ¬ (1 = 0) → 0 ≤ a1 ∧ a1 < 5 by (first | (intros; first | omega | (simp [upS]; done) | (simp [upS]; omega)) | (intros; simp_all [upS]; done) | (intros; simp_all [upS]; omega))), ?_⟩
  try rw [if_neg (show ¬ ((1 : Int) = 0) by first | omega | (simp [upS]; done) | (simp [upS]; omega))]
  rw [show ((upS σ 682 0 0) 711 (a1).toNat) = (σ 711 ((a1).toNat)) by (first | omega | (simp [upS]; done) | (simp [upS]; omega))]
  all_goals rfl
theorem n46_10A {σ : Sg} {c : Int} {a1 : Int} {a2 : Int} (H : Rel c σ) (h0 : 0 ≤ a1 ∧ a1 < σ 682 53) (h1 : 0 ≤ a2 ∧ a2 < 6) : Dd 434 [(.inr (.inr (some 0))), (.inl a1), (.inl a2), (.inr (.inr (some 726)))] σ (.inl (some (.inl 0)), (upS σ 726 0 (atS σ 653 ((a1 * 6) + a2)))) := by
  obtain ⟨r1, r2, r3, r4, r5⟩ := rel_n H
  have hWF := H.1
  refine b434 ?_
  have hD7 : Dd 218 [(.inr (.inr (some 0))), (.inl a1), (.inl a2)] σ (.inl (some (.inl (atS σ 653 ((a1 * 6) + a2)))), σ) := by
    refine b218 ?_
    have hD2 : Dd 54 [(.inr (.inr (some 614)))] σ (.inl (some (.inl (Int.tdiv (σ 653 1) 6))), σ) := by
      refine b54 ?_
      have hD1 : Dd 146 [(.inr (.inr (some 653)))] σ (.inl (some (.inl (σ 653 1))), σ) := by
        refine b146 (by decide +kernel) ?_
        all_goals rfl
      refine ⟨_, _, hD1, ?_⟩
      clear hD1
      all_goals rfl
    refine ⟨_, _, hD2, ?_⟩
    clear hD2
    have hD3 : Dd 232 [(.inr (.inr (some 0))), (.inl a1), (.inl (Int.tdiv (σ 653 1) 6))] σ (.inl none, σ) := by
      refine b232 ?_
      rw [if_pos (show (0 : Int) ≤ a1 by first | omega | (simp [upS]; done) | (simp [upS]; omega))]
      rw [if_neg (show ¬ ((Int.tdiv (σ 653 1) 6) ≤ a1) by first | omega | (simp [upS]; done) | (simp [upS]; omega))]
      all_goals rfl
    refine Or.inl ⟨_, hD3, ?_⟩
    clear hD3
    have hD4 : Dd 232 [(.inr (.inr (some 0))), (.inl a2), (.inl 6)] σ (.inl none, σ) := by
      refine b232 ?_
      rw [if_pos (show (0 : Int) ≤ a2 by first | omega | (simp [upS]; done) | (simp [upS]; omega))]
      rw [if_neg (show ¬ ((6 : Int) ≤ a2) by first | omega | (simp [upS]; done) | (simp [upS]; omega))]
      all_goals rfl
    refine Or.inl ⟨_, hD4, ?_⟩
    clear hD4
    have hD6 : Dd 55 [(.inr (.inr (some 614))), (.inl a1), (.inl a2)] σ (.inl (some (.inl (atS σ 653 ((a1 * 6) + a2)))), σ) := by
      refine b55 ?_
      rw [if_pos (show (0 : Int) ≤ a2 by first | omega | (simp [upS]; done) | (simp [upS]; omega))]
      rw [if_pos (show a2 < 6 by first | omega | (simp [upS]; done) | (simp [upS]; omega))]
      refine ⟨(show -2147483648 ≤ (a1 * 6) ∧ (a1 * 6) ≤ 2147483647 by first | omega | (simp [upS]; done) | (simp [upS]; omega)), ?_⟩
      refine ⟨(show -2147483648 ≤ ((a1 * 6) + a2) ∧ ((a1 * 6) + a2) ≤ 2147483647 by first | omega | (simp [upS]; done) | (simp [upS]; omega)), ?_⟩
      have hD5 : Dd 147 [(.inr (.inr (some 653))), (.inl ((a1 * 6) + a2))] σ (.inl (some (.inl (atS σ 653 ((a1 * 6) + a2)))), σ) := d147 (WF_w hWF (by decide +kernel))
      refine ⟨_, _, hD5, ?_⟩
      clear hD5
      all_goals rfl
    refine ⟨_, _, hD6, ?_⟩
    clear hD6
    all_goals rfl
  refine Or.inl ⟨_, _, hD7, ?_⟩
  clear hD7
  rw [(show (upS σ 726 ((0 : Int).toNat) (atS σ 653 ((a1 * 6) + a2))) = (upS σ 726 0 (atS σ 653 ((a1 * 6) + a2))) from by rw [show ((0 : Int).toNat) = 0 by (first | omega | (simp [upS]; done) | (simp [upS]; omega))])]
  all_goals rfl
theorem n46_10B {σ : Sg} {c : Int} {a1 : Int} {a2 : Int} (H : Rel c σ) (h0 : 0 ≤ a1 ∧ a1 < σ 682 53) (h1 : 0 ≤ a2 ∧ a2 < 6) : Dd 376 [(.inr (.inr (some 682))), (.inl a1), (.inl a2)] σ (.inl (some (.inl (σ 720 ((((6 * a1) + a2)).toNat)))), (upS σ 682 0 0)) := by
  obtain ⟨r1, r2, r3, r4, r5⟩ := rel_n H
  have hWF := H.1
  refine b376 ?_
  have hD8 : Dd 246 [(.inl a1), (.inl (σ 682 53))] σ (.inl (some (.inl 1)), σ) := by
    refine b246 ?_
    try rw [if_pos (show (0 : Int) ≤ a1 by first | omega | (simp [upS]; done) | (simp [upS]; omega))]
    try rw [if_pos (show a1 < (σ 682 53) by first | omega | (simp [upS]; done) | (simp [upS]; omega))]
    all_goals rfl
  refine ⟨_, _, hD8, ?_⟩
  clear hD8
  rw [if_neg (show ¬ ((1 : Int) = 0) by first | omega | (simp [upS]; done) | (simp [upS]; omega))]
  have hD9 : Dd 246 [(.inl a2), (.inl 6)] σ (.inl (some (.inl 1)), σ) := by
    refine b246 ?_
    try rw [if_pos (show (0 : Int) ≤ a2 by first | omega | (simp [upS]; done) | (simp [upS]; omega))]
    try rw [if_pos (show a2 < 6 by first | omega | (simp [upS]; done) | (simp [upS]; omega))]
    all_goals rfl
  refine ⟨_, _, hD9, ?_⟩
  clear hD9
  rw [if_neg (show ¬ ((1 : Int) = 0) by first | omega | (simp [upS]; done) | (simp [upS]; omega))]
  refine b376_26 ?_
  have hD10 : Dd 245 [(.inr (.inr (some 682))), (.inl 0)] σ (.inl (some (.inl 1)), (upS σ 682 0 0)) := by
    refine b245 ?_
    try rw [if_pos (show (0 : Int) = 0 by first | omega | (simp [upS]; done) | (simp [upS]; omega))]
    all_goals rfl
  refine ⟨_, _, hD10, ?_⟩
  clear hD10
  refine ⟨(show ¬ (1 = 0) → -2147483648 ≤ (6 * a1) ∧ (6 * a1) ≤ 2147483647 by (first | (intros; first | omega | (simp [upS]; done) | (simp [upS]; omega)) | (intros; simp_all [upS]; done) | (intros; simp_all [upS]; omega))), ?_⟩
  refine ⟨(show ¬ (1 = 0) → -2147483648 ≤ ((6 * a1) + a2) ∧ ((6 * a1) + a2) ≤ 2147483647 by (first | (intros; first | omega | (simp [upS]; done) | (simp [upS]; omega)) | (intros; simp_all [upS]; done) | (intros; simp_all [upS]; omega))), ?_⟩
  refine ⟨(show ¬ (1 = 0) → 0 ≤ ((6 * a1) + a2) ∧ ((6 * a1) + a2) < 60 by (first | (intros; first | omega | (simp [upS]; done) | (simp [upS]; omega)) | (intros; simp_all [upS]; done) | (intros; simp_all [upS]; omega))), ?_⟩
  try rw [if_neg (show ¬ ((1 : Int) = 0) by first | omega | (simp [upS]; done) | (simp [upS]; omega))]
  rw [show ((upS σ 682 0 0) 720 (((6 * a1) + a2)).toNat) = (σ 720 ((((6 * a1) + a2)).toNat)) by (first | omega | (simp [upS]; done) | (simp [upS]; omega))]
  all_goals rfl
theorem n49_11A {σ : Sg} {c : Int} {a1 : Int} {a2 : Int} (H : Rel c σ) (h0 : 0 ≤ a1 ∧ a1 < 4) (h1 : 0 ≤ a2 ∧ a2 < σ (11 + 2 * ((a1)).toNat) 1) : Dd 437 [(.inr (.inr (some 0))), (.inl a1), (.inl a2), (.inr (.inr (some 726)))] σ (.inl (some (.inl 0)), (upS σ 726 0 (atS σ (11 + 2 * ((a1)).toNat) a2))) := by
  obtain ⟨r1, r2, r3, r4, r5⟩ := rel_n H
  have hWF := H.1
  have t1 := rel_b H h0
  refine b437 ?_
  have hD6 : Dd 221 [(.inr (.inr (some 0))), (.inl a1), (.inl a2)] σ (.inl (some (.inl (atS σ (11 + 2 * ((a1)).toNat) a2))), σ) := by
    refine b221 ?_
    have hD3 : Dd 228 [(.inr (.inr (some 0))), (.inl a1)] σ (.inl (some (.inr (.inr (some (11 + 2 * ((a1)).toNat))))), σ) := by
      refine b228 ?_
      have hD1 : Dd 145 [(.inr (.inr (some 10))), (.inl a1)] σ (.inl (some (.inr (.inr (some (11 + 2 * ((a1)).toNat))))), σ) := by
        refine b145 ?_
        rw [if_pos (show (0 : Int) ≤ a1 by first | omega | (simp [upS]; done) | (simp [upS]; omega))]
        refine ⟨4, (by decide +kernel), (by decide), ?_⟩
        rw [if_pos (show a1 < ((4 : Nat) : Int) by first | omega | (simp [upS]; done) | (simp [upS]; omega))]
        refine ⟨(show 0 ≤ a1 by first | omega | (simp [upS]; done) | (simp [upS]; omega)), ?_⟩
        refine ⟨(11 + 2 * ((a1)).toNat), (el_10 (i := (a1)) (by first | omega | (simp [upS]; done) | (simp [upS]; omega))).1, (el_10 (i := (a1)) (by first | omega | (simp [upS]; done) | (simp [upS]; omega))).2, ?_⟩
        all_goals rfl
      refine ⟨_, _, hD1, ?_⟩
      clear hD1
      refine ⟨fun hz2 => (by cases hz2), fun _ hz2 => ?_⟩
      cases hz2
      refine ⟨(el_10 (i := (a1)) (by first | omega | (simp [upS]; done) | (simp [upS]; omega))).2, ?_⟩
      all_goals rfl
    refine Or.inl ⟨_, _, hD3, (el_10 (i := (a1)) (by first | omega | (simp [upS]; done) | (simp [upS]; omega))).2, ?_⟩
    clear hD3
    have hD4 : Dd 233 [(.inr (.inr (some 0))), (.inl a2)] σ (.inl none, σ) := by
      refine b233 ?_
      rw [if_neg (show ¬ (a2 < 0) by first | omega | (simp [upS]; done) | (simp [upS]; omega))]
      all_goals rfl
    refine Or.inl ⟨_, hD4, ?_⟩
    clear hD4
    have hD5 : Dd 147 [(.inr (.inr (some (11 + 2 * ((a1)).toNat)))), (.inl a2)] σ (.inl (some (.inl (atS σ (11 + 2 * ((a1)).toNat) a2))), σ) := d147 (WF_w hWF (el_10 (i := (a1)) (by first | omega | (simp [upS]; done) | (simp [upS]; omega))).2)
    refine ⟨_, _, hD5, ?_⟩
    clear hD5
    all_goals rfl
  refine Or.inl ⟨_, _, hD6, ?_⟩
  clear hD6
  rw [(show (upS σ 726 ((0 : Int).toNat) (atS σ (11 + 2 * ((a1)).toNat) a2)) = (upS σ 726 0 (atS σ (11 + 2 * ((a1)).toNat) a2)) from by rw [show ((0 : Int).toNat) = 0 by (first | omega | (simp [upS]; done) | (simp [upS]; omega))])]
  all_goals rfl
theorem n49_11B {σ : Sg} {c : Int} {a1 : Int} {a2 : Int} (H : Rel c σ) (h0 : 0 ≤ a1 ∧ a1 < 4) (h1 : 0 ≤ a2 ∧ a2 < σ (11 + 2 * ((a1)).toNat) 1) : Dd 380 [(.inr (.inr (some 682))), (.inl a1), (.inl a2)] σ (.inl (some (.inl (σ 722 ((((40 * a1) + a2)).toNat)))), (upS σ 682 0 0)) := by
  obtain ⟨r1, r2, r3, r4, r5⟩ := rel_n H
  have hWF := H.1
  have t1 := rel_b H h0
  refine b380 ?_
  have hD8 : Dd 377 [(.inl a1)] σ (.inl (some (.inl 1)), σ) := by
    refine b377 ?_
    have hD7 : Dd 246 [(.inl a1), (.inl 4)] σ (.inl (some (.inl 1)), σ) := by
      refine b246 ?_
      try rw [if_pos (show (0 : Int) ≤ a1 by first | omega | (simp [upS]; done) | (simp [upS]; omega))]
      try rw [if_pos (show a1 < 4 by first | omega | (simp [upS]; done) | (simp [upS]; omega))]
      all_goals rfl
    refine ⟨_, _, hD7, ?_⟩
    clear hD7
    refine ⟨(show 1 = 0 ∨ 1 = 1 by first | omega | (simp [upS]; done) | (simp [upS]; omega)), ?_⟩
    all_goals rfl
  refine ⟨_, _, hD8, ?_⟩
  clear hD8
  rw [if_neg (show ¬ ((1 : Int) = 0) by first | omega | (simp [upS]; done) | (simp [upS]; omega))]
  rw [if_pos (show (0 : Int) ≤ a2 by first | omega | (simp [upS]; done) | (simp [upS]; omega))]
  refine b380_17 ?_
  have hD9 : Dd 245 [(.inr (.inr (some 682))), (.inl 0)] σ (.inl (some (.inl 1)), (upS σ 682 0 0)) := by
    refine b245 ?_
    try rw [if_pos (show (0 : Int) = 0 by first | omega | (simp [upS]; done) | (simp [upS]; omega))]
    all_goals rfl
  refine ⟨_, _, hD9, ?_⟩
  clear hD9
  refine ⟨(show ¬ (1 = 0) → 0 ≤ a1 ∧ a1 < 4 by (first | (intros; first | omega | (simp [upS]; done) | (simp [upS]; omega)) | (intros; simp_all [upS]; done) | (intros; simp_all [upS]; omega))), ?_⟩
  refine ⟨(show ¬ (1 = 0) → (a2 < ((upS σ 682 0 0) 723 (a1).toNat)) → -2147483648 ≤ (40 * a1) ∧ (40 * a1) ≤ 2147483647 by (first | (intros; first | omega | (simp [upS]; done) | (simp [upS]; omega)) | (intros; simp_all [upS]; done) | (intros; simp_all [upS]; omega))), ?_⟩
  refine ⟨(show ¬ (1 = 0) → (a2 < ((upS σ 682 0 0) 723 (a1).toNat)) → -2147483648 ≤ ((40 * a1) + a2) ∧ ((40 * a1) + a2) ≤ 2147483647 by (first | (intros; first | omega | (simp [upS]; done) | (simp [upS]; omega)) | (intros; simp_all [upS]; done) | (intros; simp_all [upS]; omega))), ?_⟩
  refine ⟨(show ¬ (1 = 0) → (a2 < ((upS σ 682 0 0) 723 (a1).toNat)) → 0 ≤ ((40 * a1) + a2) ∧ ((40 * a1) + a2) < 160 by (first | (intros; first | omega | (simp [upS]; done) | (simp [upS]; omega)) | (intros; simp_all [upS]; done) | (intros; simp_all [upS]; omega))), ?_⟩
  try rw [if_neg (show ¬ ((1 : Int) = 0) by first | omega | (simp [upS]; done) | (simp [upS]; omega))]
  try rw [if_pos (show a2 < ((upS σ 682 0 0) 723 (a1).toNat) by first | omega | (simp [upS]; done) | (simp [upS]; omega))]
  rw [show ((upS σ 682 0 0) 722 (((40 * a1) + a2)).toNat) = (σ 722 ((((40 * a1) + a2)).toNat)) by (first | omega | (simp [upS]; done) | (simp [upS]; omega))]
  all_goals rfl
theorem n49_12A {σ : Sg} {c : Int} {a1 : Int} {a2 : Int} (H : Rel c σ) (h0 : 0 ≤ a1 ∧ a1 < 4) (h1 : 0 ≤ a2 ∧ σ (11 + 2 * ((a1)).toNat) 1 ≤ a2) : Dd 437 [(.inr (.inr (some 0))), (.inl a1), (.inl a2), (.inr (.inr (some 726)))] σ (.inl (some (.inl 0)), (upS σ 726 0 (atS σ (11 + 2 * ((a1)).toNat) a2))) := by
  obtain ⟨r1, r2, r3, r4, r5⟩ := rel_n H
  have hWF := H.1
  have t1 := rel_b H h0
  refine b437 ?_
  have hD6 : Dd 221 [(.inr (.inr (some 0))), (.inl a1), (.inl a2)] σ (.inl (some (.inl (atS σ (11 + 2 * ((a1)).toNat) a2))), σ) := by
    refine b221 ?_
    have hD3 : Dd 228 [(.inr (.inr (some 0))), (.inl a1)] σ (.inl (some (.inr (.inr (some (11 + 2 * ((a1)).toNat))))), σ) := by
      refine b228 ?_
      have hD1 : Dd 145 [(.inr (.inr (some 10))), (.inl a1)] σ (.inl (some (.inr (.inr (some (11 + 2 * ((a1)).toNat))))), σ) := by
        refine b145 ?_
        rw [if_pos (show (0 : Int) ≤ a1 by first | omega | (simp [upS]; done) | (simp [upS]; omega))]
        refine ⟨4, (by decide +kernel), (by decide), ?_⟩
        rw [if_pos (show a1 < ((4 : Nat) : Int) by first | omega | (simp [upS]; done) | (simp [upS]; omega))]
        refine ⟨(show 0 ≤ a1 by first | omega | (simp [upS]; done) | (simp [upS]; omega)), ?_⟩
        refine ⟨(11 + 2 * ((a1)).toNat), (el_10 (i := (a1)) (by first | omega | (simp [upS]; done) | (simp [upS]; omega))).1, (el_10 (i := (a1)) (by first | omega | (simp [upS]; done) | (simp [upS]; omega))).2, ?_⟩
        all_goals rfl
      refine ⟨_, _, hD1, ?_⟩
      clear hD1
      refine ⟨fun hz2 => (by cases hz2), fun _ hz2 => ?_⟩
      cases hz2
      refine ⟨(el_10 (i := (a1)) (by first | omega | (simp [upS]; done) | (simp [upS]; omega))).2, ?_⟩
      all_goals rfl
    refine Or.inl ⟨_, _, hD3, (el_10 (i := (a1)) (by first | omega | (simp [upS]; done) | (simp [upS]; omega))).2, ?_⟩
    clear hD3
    have hD4 : Dd 233 [(.inr (.inr (some 0))), (.inl a2)] σ (.inl none, σ) := by
      refine b233 ?_
      rw [if_neg (show ¬ (a2 < 0) by first | omega | (simp [upS]; done) | (simp [upS]; omega))]
      all_goals rfl
    refine Or.inl ⟨_, hD4, ?_⟩
    clear hD4
    have hD5 : Dd 147 [(.inr (.inr (some (11 + 2 * ((a1)).toNat)))), (.inl a2)] σ (.inl (some (.inl (atS σ (11 + 2 * ((a1)).toNat) a2))), σ) := d147 (WF_w hWF (el_10 (i := (a1)) (by first | omega | (simp [upS]; done) | (simp [upS]; omega))).2)
    refine ⟨_, _, hD5, ?_⟩
    clear hD5
    all_goals rfl
  refine Or.inl ⟨_, _, hD6, ?_⟩
  clear hD6
  rw [(show (upS σ 726 ((0 : Int).toNat) (atS σ (11 + 2 * ((a1)).toNat) a2)) = (upS σ 726 0 (atS σ (11 + 2 * ((a1)).toNat) a2)) from by rw [show ((0 : Int).toNat) = 0 by (first | omega | (simp [upS]; done) | (simp [upS]; omega))])]
  all_goals rfl
theorem n49_12B {σ : Sg} {c : Int} {a1 : Int} {a2 : Int} (H : Rel c σ) (h0 : 0 ≤ a1 ∧ a1 < 4) (h1 : 0 ≤ a2 ∧ σ (11 + 2 * ((a1)).toNat) 1 ≤ a2) : Dd 380 [(.inr (.inr (some 682))), (.inl a1), (.inl a2)] σ (.inl (some (.inl (-1))), (upS σ 682 0 0)) := by
  obtain ⟨r1, r2, r3, r4, r5⟩ := rel_n H
  have hWF := H.1
  have t1 := rel_b H h0
  refine b380 ?_
  have hD8 : Dd 377 [(.inl a1)] σ (.inl (some (.inl 1)), σ) := by
    refine b377 ?_
    have hD7 : Dd 246 [(.inl a1), (.inl 4)] σ (.inl (some (.inl 1)), σ) := by
      refine b246 ?_
      try rw [if_pos (show (0 : Int) ≤ a1 by first | omega | (simp [upS]; done) | (simp [upS]; omega))]
      try rw [if_pos (show a1 < 4 by first | omega | (simp [upS]; done) | (simp [upS]; omega))]
      all_goals rfl
    refine ⟨_, _, hD7, ?_⟩
    clear hD7
    refine ⟨(show 1 = 0 ∨ 1 = 1 by first | omega | (simp [upS]; done) | (simp [upS]; omega)), ?_⟩
    all_goals rfl
  refine ⟨_, _, hD8, ?_⟩
  clear hD8
  rw [if_neg (show ¬ ((1 : Int) = 0) by first | omega | (simp [upS]; done) | (simp [upS]; omega))]
  rw [if_pos (show (0 : Int) ≤ a2 by first | omega | (simp [upS]; done) | (simp [upS]; omega))]
  refine b380_17 ?_
  have hD9 : Dd 245 [(.inr (.inr (some 682))), (.inl 0)] σ (.inl (some (.inl 1)), (upS σ 682 0 0)) := by
    refine b245 ?_
    try rw [if_pos (show (0 : Int) = 0 by first | omega | (simp [upS]; done) | (simp [upS]; omega))]
    all_goals rfl
  refine ⟨_, _, hD9, ?_⟩
  clear hD9
  refine ⟨(show ¬ (1 = 0) → 0 ≤ a1 ∧ a1 < 4 by (first | (intros; first | omega | (simp [upS]; done) | (simp [upS]; omega)) | (intros; simp_all [upS]; done) | (intros; simp_all [upS]; omega))), ?_⟩
  refine ⟨(show ¬ (1 = 0) → (a2 < ((upS σ 682 0 0) 723 (a1).toNat)) → -2147483648 ≤ (40 * a1) ∧ (40 * a1) ≤ 2147483647 by (first | (intros; first | omega | (simp [upS]; done) | (simp [upS]; omega)) | (intros; simp_all [upS]; done) | (intros; simp_all [upS]; omega))), ?_⟩
  refine ⟨(show ¬ (1 = 0) → (a2 < ((upS σ 682 0 0) 723 (a1).toNat)) → -2147483648 ≤ ((40 * a1) + a2) ∧ ((40 * a1) + a2) ≤ 2147483647 by (first | (intros; first | omega | (simp [upS]; done) | (simp [upS]; omega)) | (intros; simp_all [upS]; done) | (intros; simp_all [upS]; omega))), ?_⟩
  refine ⟨(show ¬ (1 = 0) → (a2 < ((upS σ 682 0 0) 723 (a1).toNat)) → 0 ≤ ((40 * a1) + a2) ∧ ((40 * a1) + a2) < 160 by (first | (intros; first | omega | (simp [upS]; done) | (simp [upS]; omega)) | (intros; simp_all [upS]; done) | (intros; simp_all [upS]; omega))), ?_⟩
  try rw [if_neg (show ¬ ((1 : Int) = 0) by first | omega | (simp [upS]; done) | (simp [upS]; omega))]
  try rw [if_neg (show ¬ (a2 < ((upS σ 682 0 0) 723 (a1).toNat)) by first | omega | (simp [upS]; done) | (simp [upS]; omega))]
  all_goals rfl
end
