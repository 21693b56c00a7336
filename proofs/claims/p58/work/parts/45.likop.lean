/-! The call 'likeness', on both sides. -/
noncomputable section
theorem isLn_nn {x : Int} (h : isLn x = true) : 0 ≤ x := by
  rcases isLn_iff.mp h with h | h | h
  · omega
  · omega
  · omega
theorem d235_t {x : Int} {σ : Sg} (h : isLn x = true) : Dd 235 [vA 0, vI x] σ (rV σ) := by
  refine b235 ⟨_, _, d68, ?_⟩
  rw [if_pos h, if_neg (by decide)]
theorem d235_f {x : Int} {σ : Sg} (h : ¬ isLn x = true) : Dd 235 [vA 0, vI x] σ (rX 1 σ) := by
  refine b235 ⟨_, _, d68, ?_⟩
  rw [if_neg h, if_pos rfl]
theorem d245 {v : Int} {σ : Sg} : Dd 245 [vA 682, vI v] σ (rI (if v = 0 then 1 else 0) (upS σ 682 0 v)) := b245 rfl
theorem SCR_ne {a : Nat} (h : a < 1000) : ¬ SCR = a := by
  intro e
  rw [← e] at h
  exact absurd h (by decide)
theorem SCR1_ne {a : Nat} (h : a < 1000) : ¬ SCR + 1 = a := by
  intro e
  rw [← e] at h
  exact absurd h (by decide)
theorem lik_op {σ : Sg} {a1 a2 : Int} (hZ : Zl σ) : ∃ (kx b : Int) (s1 s2 : Sg), Dd 395 [(.inr (.inr (some 0))), (.inl a1), (.inl a2), (.inr (.inr (some 726)))] σ (.inl (some (.inl kx)), s1) ∧ Dd 262 [(.inr (.inr (some 682))), (.inl a1), (.inl a2)] s1 (.inl (some (.inl b)), s2) ∧ s2 682 0 = kx ∧ (kx = 0 → s2 726 0 = b) ∧ (∀ i, s1 SCR i = σ SCR i) ∧ s1 (SCR + 1) 0 = σ (SCR + 1) 0 ∧ s2 (SCR + 1) 0 = σ (SCR + 1) 0 := by
  by_cases h1 : isLn a1 = true
  · by_cases h2 : isLn a2 = true
    · have hA : Dd 177 [(.inr (.inr (some 0))), (.inl a1), (.inl a2)] σ (rI (lik a1 a2) σ) := b177 (Or.inl ⟨_, d235_t h1, Or.inl ⟨_, d235_t h2, _, _, d71 (isLn_nn h1) (isLn_nn h2), rfl⟩⟩)
      have hW : Dd 395 [(.inr (.inr (some 0))), (.inl a1), (.inl a2), (.inr (.inr (some 726)))] σ (rI 0 (upS σ 726 0 (lik a1 a2))) := b395 (Or.inl ⟨_, _, hA, rfl⟩)
      have hZ2 : Zl (upS (upS σ 726 0 (lik a1 a2)) 682 0 0) := by
        intro q hq
        rw [up_a (by decide), up_a (by decide), up_a (by decide), up_a (by decide)]
        exact hZ q hq
      obtain ⟨σ', g1, g2, g3⟩ := d254 (isLn_nn h1) (isLn_nn h2) hZ2
      have hB : Dd 262 [(.inr (.inr (some 682))), (.inl a1), (.inl a2)] (upS σ 726 0 (lik a1 a2)) (rI (lik a1 a2) σ') := by
        refine b262 ⟨_, _, d250, ?_⟩
        rw [if_pos h1, if_neg (by decide)]
        refine ⟨_, _, d250, ?_⟩
        rw [if_pos h2, if_neg (by decide)]
        refine b262_20 ⟨_, _, d245, ?_⟩
        rw [if_pos rfl, if_neg (by decide)]
        exact ⟨_, _, g1, rfl⟩
      refine ⟨_, _, _, _, hW, hB, ?_, fun _ => ?_, fun i => ?_, ?_, ?_⟩
      · rw [g3 _ _ (by decide), up_s]
      · rw [g3 _ _ (by decide), up_a (by decide), up_s]
      · rw [up_a (SCR_ne (by decide))]
      · rw [up_a (SCR1_ne (by decide))]
      · rw [g3 _ _ (SCR1_ne (by decide)), up_a (SCR1_ne (by decide)), up_a (SCR1_ne (by decide))]
    · have hA : Dd 177 [(.inr (.inr (some 0))), (.inl a1), (.inl a2)] σ (rX 1 σ) := b177 (Or.inl ⟨_, d235_t h1, Or.inr ⟨_, _, d235_f h2, rfl⟩⟩)
      have hW : Dd 395 [(.inr (.inr (some 0))), (.inl a1), (.inl a2), (.inr (.inr (some 726)))] σ (rI 1 σ) := b395 (Or.inr ⟨_, hA, rfl⟩)
      have hB : Dd 262 [(.inr (.inr (some 682))), (.inl a1), (.inl a2)] σ (rI 0 (upS σ 682 0 1)) := by
        refine b262 ⟨_, _, d250, ?_⟩
        rw [if_pos h1, if_neg (by decide)]
        refine ⟨_, _, d250, ?_⟩
        rw [if_neg h2, if_pos rfl]
        refine b262_19 (b262_20 ⟨_, _, d245, ?_⟩)
        rw [if_pos (by decide)]
      refine ⟨_, _, _, _, hW, hB, up_s, fun h => absurd h (by decide), fun i => rfl, rfl, ?_⟩
      rw [up_a (SCR1_ne (by decide))]
  · have hA : Dd 177 [(.inr (.inr (some 0))), (.inl a1), (.inl a2)] σ (rX 1 σ) := b177 (Or.inr ⟨_, _, d235_f h1, rfl⟩)
    have hW : Dd 395 [(.inr (.inr (some 0))), (.inl a1), (.inl a2), (.inr (.inr (some 726)))] σ (rI 1 σ) := b395 (Or.inr ⟨_, hA, rfl⟩)
    have hB : Dd 262 [(.inr (.inr (some 682))), (.inl a1), (.inl a2)] σ (rI 0 (upS σ 682 0 1)) := by
      refine b262 ⟨_, _, d250, ?_⟩
      rw [if_neg h1, if_pos rfl]
      refine b262_19 (b262_20 ⟨_, _, d245, ?_⟩)
      rw [if_pos (by decide)]
    refine ⟨_, _, _, _, hW, hB, up_s, fun h => absurd h (by decide), fun i => rfl, rfl, ?_⟩
    rw [up_a (SCR1_ne (by decide))]
end
