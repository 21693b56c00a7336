/-! The start of the law. -/
noncomputable section
theorem Rel_init (Ls : Nat) (scr : Nat → Int) : Rel 0 (sig0 Ls scr) := by
  have z : ∀ a k, a < 1000 → sig0 Ls scr a k = 0 := fun a k h => by
    have hs : ¬ a = SCR := by unfold SCR; omega
    have hs2 : ¬ (a = SCR + 1 ∧ k = 0) := by unfold SCR; omega
    unfold sig0
    rw [if_neg hs, if_neg hs2]
  have re : ∀ a A off, a < 900 → A < 900 → ∀ n : Int, n = 0 → rowEq (sig0 Ls scr) a A off n := fun a A off h1 h2 n hn => ⟨by rw [z _ _ (by omega), hn], fun i hi => absurd hi (by omega)⟩
  refine ⟨fun a ha => ?_, ?_, fun t ht => ⟨re _ _ _ (by omega) (by omega) _ (z _ _ (by omega)), fun i hi => ?_⟩, fun t ht => ⟨re _ _ _ (by omega) (by omega) _ (z _ _ (by omega)), fun i hi => ?_⟩, ⟨?_, ?_, ?_, fun p hp => ?_⟩, ⟨?_, ?_, ?_, ?_, ?_, ?_, re _ _ _ (by omega) (by omega) _ (z _ _ (by omega)), fun k hk => ?_, re _ _ _ (by omega) (by omega) _ (z _ _ (by omega)), fun i hi => ?_, fun k hk => ?_⟩, ⟨?_, fun h hh => ?_⟩, ⟨fun f hf => ⟨?_, ?_, fun h => ?_⟩, ?_, ?_, re _ _ _ (by omega) (by omega) _ (by rw [z _ _ (by omega)]; rfl), fun i hi => ?_⟩, ⟨?_, ?_, ?_, fun d hd => ?_⟩⟩
  · rw [z a 1 (by have := row_lt ha; omega)]
    omega
  · intro q hq
    exact ⟨z _ _ (by omega), z _ _ (by omega)⟩
  · rw [z _ _ (by omega)] at hi; omega
  · rw [z _ _ (by omega)] at hi; omega
  · rw [z _ _ (by omega)]; omega
  · rw [z _ _ (by omega)]; omega
  · rw [z _ _ (by omega), z _ _ (by omega)]
  · rw [z _ _ (by omega)] at hp; omega
  · rw [z _ _ (by omega)]; omega
  · rw [z _ _ (by omega)]; omega
  · rw [z _ _ (by omega), z _ _ (by omega)]
  · rw [z _ _ (by omega)]; omega
  · rw [z _ _ (by omega)]; omega
  · rw [z _ _ (by omega), z _ _ (by omega)]
  · rw [z _ _ (by omega)] at hk; omega
  · rw [z _ _ (by omega)] at hi; omega
  · rw [z _ _ (by omega)] at hk; omega
  · rw [z _ _ (by omega), z _ _ (by omega)]
  · rw [z _ _ (by omega)] at hh; omega
  · rw [z _ _ (by omega), z _ _ (by omega)]
  · rw [z _ _ (by omega)]; omega
  · rw [z _ _ (by omega)] at h; omega
  · rw [z _ _ (by omega)]; omega
  · rw [z _ _ (by omega)]; omega
  · rw [z _ _ (by omega)] at hi; omega
  · rw [z _ _ (by omega)]; omega
  · rw [z _ _ (by omega)]; omega
  · rw [z _ _ (by omega), z _ _ (by omega)]
  · rw [z _ _ (by omega)] at hd; omega
end
