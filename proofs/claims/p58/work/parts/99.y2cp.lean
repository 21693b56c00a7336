/-! Copies of slots, and the two copying loops of the search for needed patches. -/
noncomputable section
/-- slot p of s is what slot q of the other was -/
def SEq (s : Sg) (p : Nat) (σ : Sg) (q : Nat) : Prop := s 688 p = σ 688 q ∧ s 689 p = σ 689 q ∧ ∀ c k, k < 100 → 685 ≤ c ∧ c ≤ 687 → s c (100 * p + k) = σ c (100 * q + k)
theorem se_r {s : Sg} {p : Nat} : SEq s p s p := ⟨rfl, rfl, fun _ _ _ _ => rfl⟩
theorem se_t {s1 s2 s3 : Sg} {p q r : Nat} (a : SEq s1 p s2 q) (b : SEq s2 q s3 r) : SEq s1 p s3 r :=
  ⟨a.1.trans b.1, a.2.1.trans b.2.1, fun c k h1 h2 => (a.2.2 c k h1 h2).trans (b.2.2 c k h1 h2)⟩
theorem se_c {σ : Sg} {s t : Nat} : SEq (cpyS σ s t) t σ s :=
  ⟨by rw [cpy_n1, if_pos rfl], by rw [cpy_n2, if_pos rfl], fun _ _ h1 h2 => cpy_val h1 h2⟩
theorem se_o {σ : Sg} {s t u : Nat} (h : ¬ u = t) : SEq (cpyS σ s t) u σ u :=
  ⟨by rw [cpy_n1, if_neg h], by rw [cpy_n2, if_neg h], fun _ _ h1 h2 => cpy_other h h1 h2⟩
theorem se_slot {s σ : Sg} {p q nb na : Nat} {O N F : Nat → Int} (a : SEq s p σ q) (hb : nb ≤ 100) (ha : na ≤ 100) (h : Slot σ q nb na O N F) : Slot s p nb na O N F := by
  obtain ⟨h1, h2, h3, h4, h5⟩ := h
  exact ⟨a.1.trans h1, a.2.1.trans h2, fun i hi => (a.2.2 685 i (by omega) (by omega)).trans (h3 i hi), fun i hi => (a.2.2 686 i (by omega) (by omega)).trans (h4 i hi), fun i hi => (a.2.2 687 i (by omega) (by omega)).trans (h5 i hi)⟩
/-- one place up -/
theorem l357a {d1} {x2 x3 x4 : Int} : ∀ (j : Nat) (σ : Sg), j ≤ 10 → ∃ s', (∀ {o : Rs}, C357_100 d1 x2 x3 x4 0 s' o → C357_100 d1 x2 x3 x4 (j : Nat) σ o) ∧ (∀ p, 30 ≤ p → p ≤ 29 + j → SEq s' p σ (p - 1)) ∧ (∀ p, ¬ (30 ≤ p ∧ p ≤ 29 + j) → SEq s' p σ p) ∧ ∀ c k, ¬ (685 ≤ c ∧ c ≤ 689) → s' c k = σ c k := by
  intro j
  induction j with
  | zero =>
    intro σ _
    exact ⟨σ, fun h => h, fun p a b => absurd a (by omega), fun _ _ => se_r, fun _ _ _ => rfl⟩
  | succ j ih =>
    intro σ hj
    obtain ⟨s', a1, a2, a3, a4⟩ := ih (cpyS σ (29 + j) (29 + (j + 1))) (by omega)
    refine ⟨s', fun {o} h => b357_100 ?_, fun p y1 y2 => ?_, fun p y => ?_, fun c k y => (a4 c k y).trans (cpy_off y)⟩
    · rw [if_pos (by omega), show (29 : Int) + ((j + 1 : Nat) : Int) - 1 = ((29 + j : Nat) : Int) by omega, show (29 : Int) + ((j + 1 : Nat) : Int) = ((29 + (j + 1) : Nat) : Int) by omega, show ((j + 1 : Nat) : Int) + (-1) = (j : Int) by omega]
      exact ⟨by omega, by omega, by omega, _, d288 (by omega) (by omega), by omega, a1 h⟩
    · by_cases e : p = 29 + (j + 1)
      · subst e
        exact se_t (a3 _ (by omega)) se_c
      · exact se_t (a2 p y1 (by omega)) (se_o (by omega))
    · exact se_t (a3 p (by omega)) (se_o (by omega))
/-- five places over, kept -/
theorem l357b {d1} {x2 : Nat} {x3 x4 : Int} (hx : x2 ≤ 5) : ∀ (d j : Nat) (σ : Sg), j + d = x2 → ∃ s', (∀ {o : Rs}, C357_148 d1 (x2 : Nat) x3 x4 (some (vI (x2 : Nat))) s' o → C357_68 d1 (x2 : Nat) x3 x4 (j : Nat) σ o) ∧ (∀ p, 29 + j ≤ p → p < 29 + x2 → SEq s' p σ (p + 5)) ∧ (∀ p, ¬ (29 + j ≤ p ∧ p < 29 + x2) → SEq s' p σ p) ∧ ∀ c k, ¬ (685 ≤ c ∧ c ≤ 689) → s' c k = σ c k := by
  intro d
  induction d with
  | zero =>
    intro j σ hd
    refine ⟨σ, fun {o} h => b357_68 ?_, fun p a b => absurd a (by omega), fun _ _ => se_r, fun _ _ _ => rfl⟩
    rw [if_neg (by omega), show j = x2 by omega]
    exact h
  | succ d ih =>
    intro j σ hd
    obtain ⟨s', a1, a2, a3, a4⟩ := ih (j + 1) (cpyS σ (34 + j) (29 + j)) (by omega)
    refine ⟨s', fun {o} h => b357_68 ?_, fun p y1 y2 => ?_, fun p y => ?_, fun c k y => (a4 c k y).trans (cpy_off y)⟩
    · rw [if_pos (by omega), show (34 : Int) + (j : Int) = ((34 + j : Nat) : Int) by omega, show (29 : Int) + (j : Int) = ((29 + j : Nat) : Int) by omega, show (j : Int) + 1 = ((j + 1 : Nat) : Int) by omega]
      exact ⟨by omega, by omega, _, d288 (by omega) (by omega), by omega, a1 h⟩
    · by_cases e : p = 29 + j
      · subst e
        have z := se_t (a3 _ (by omega)) (se_c (σ := σ) (s := 34 + j) (t := 29 + j))
        rw [show 34 + j = 29 + j + 5 by omega] at z
        exact z
      · exact se_t (a2 p (by omega) y2) (se_o (by omega))
    · exact se_t (a3 p (by omega)) (se_o (by omega))
end
