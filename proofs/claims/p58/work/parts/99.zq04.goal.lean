/-! Where a line went: nowhere, or to a line that is like it. -/
noncomputable section
theorem gfo_in {O N F K : Nat → Int} {nb na p : Nat} : ∀ (d n : Nat) (s : Int × Nat × Nat), (s.1 = -1 ∨ ∃ x : Nat, s.1 = (x : Int) ∧ knB O N F K nb na p x = true) → ((gfo O N F K nb na p d n s).1 = -1 ∨ ∃ x : Nat, (gfo O N F K nb na p d n s).1 = (x : Int) ∧ knB O N F K nb na p x = true) := by
  intro d
  induction d with
  | zero => intro n s h; exact h
  | succ d ih =>
    intro n s h
    refine ih (n + 1) _ ?_
    unfold gst
    by_cases y : knB O N F K nb na p n = true
    · rw [if_pos y]
      split
      · exact Or.inr ⟨n, rfl, y⟩
      · exact h
    · rw [if_neg y]
      exact h
theorem goal_in {O N F K : Nat → Int} {nb na p : Nat} : goalZ O N F K nb na p = -1 ∨ ∃ n : Nat, goalZ O N F K nb na p = (n : Int) ∧ p < nb ∧ n < na ∧ F p = -1 ∧ K n = -1 ∧ 50 ≤ lik (O p) (N n) := by
  rcases gfo_in (O := O) (N := N) (F := F) (K := K) (nb := nb) (na := na) (p := p) na 0 (-1, 0, 1) (Or.inl rfl) with h | ⟨n, h, k⟩
  · exact Or.inl h
  · obtain ⟨k1, k2, k3, k4, k5, k6⟩ := knB_i.mp k
    exact Or.inr ⟨n, h, k1, k2, k4, k5, k6⟩
theorem goal_pair {O N F K : Nat → Int} {nb na p : Nat} (h : ¬ F p = -1) : goalZ O N F K nb na p = -1 := by
  rcases goal_in (O := O) (N := N) (F := F) (K := K) (nb := nb) (na := na) (p := p) with e | ⟨n, e, k1, k2, k3, k⟩
  · exact e
  · exact absurd k3 h
end
