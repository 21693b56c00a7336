/-! Lines: marks, and which numbers are lines. -/
noncomputable section
abbrev mkP (x : Int) : Prop := x = 50001 ∨ x = 50002 ∨ x = 50003
theorem tm {x y : Int} (h : 0 ≤ x) : Int.tmod x y = x % y := Int.tmod_eq_emod_of_nonneg h
theorem td {x y : Int} (h : 0 ≤ x) : Int.tdiv x y = x / y := Int.tdiv_eq_ediv_of_nonneg h
theorem d66 {x : Int} {σ : Sg} : Dd 66 [vI x] σ (rI (if mkP x then 1 else 0) σ) := by
  refine b66 ?_
  by_cases h1 : x = 50001
  · rw [if_pos h1, if_pos (Or.inl h1)]; exact b66_18 rfl
  · by_cases h2 : x = 50002
    · rw [if_neg h1, if_pos h2, if_pos (Or.inr (Or.inl h2))]; exact b66_18 rfl
    · by_cases h3 : x = 50003
      · rw [if_neg h1, if_neg h2, if_pos h3, if_pos (Or.inr (Or.inr h3))]; exact b66_18 rfl
      · rw [if_neg h1, if_neg h2, if_neg h3, if_neg (by omega)]
theorem d249 {x : Int} {σ : Sg} : Dd 249 [vI x] σ (rI (if mkP x then 1 else 0) σ) := by
  refine b249 ?_
  by_cases h1 : mkP x
  · rw [if_pos h1, if_pos (by omega), if_pos (by omega)]
  · rw [if_neg h1]
    by_cases h2 : 50001 ≤ x
    · rw [if_pos h2, if_neg (by omega)]
    · rw [if_neg h2]
theorem d67 {x : Int} {σ : Sg} : Dd 67 [vI x] σ (rI (if x = 0 then 1 else 0) σ) := b67 rfl
def nz : Nat → Int → Bool
  | 0, _ => true
  | k + 1, n => if 0 < n then (if n % 10 = 0 then false else nz k (n / 10)) else true
def isLn (x : Int) : Bool := decide (x = 0) || decide (mkP x) || (decide (0 < x) && decide (x < 40000) && decide (0 < x % 10000) && nz 4 (x % 10000))
theorem isLn_iff {x : Int} : isLn x = true ↔ x = 0 ∨ mkP x ∨ (0 < x ∧ x < 40000 ∧ 0 < x % 10000 ∧ nz 4 (x % 10000) = true) := by
  unfold isLn
  simp only [Bool.or_eq_true, Bool.and_eq_true, decide_eq_true_eq, and_assoc, or_assoc]
theorem l68 {x0 : Int} : ∀ (k : Nat) (x1 : Int) (σ : Sg), k ≤ 4 → 0 ≤ x1 → C68_39 x0 x1 (4 - k) σ (rI (if nz k x1 = true then (if 0 < Int.tmod x0 10000 then 1 else 0) else 0) σ) := by
  intro k
  induction k with
  | zero =>
    intro x1 σ hk h0
    refine b68_39 ?_
    rw [if_neg (by omega)]
    exact b68_68 rfl
  | succ k ih =>
    intro x1 σ hk h0
    refine b68_39 ?_
    rw [if_pos (by omega)]
    unfold nz
    by_cases h1 : 0 < x1
    · rw [if_pos h1, if_pos h1, tm h0]
      by_cases h2 : x1 % 10 = 0
      · rw [if_pos h2, if_pos h2, if_neg (by decide)]
      · rw [if_neg h2, if_neg h2, td h0]
        refine ⟨by omega, ?_⟩
        have e := ih (x1 / 10) σ (by omega) (by omega)
        rw [show (4 : Int) - (k : Nat) = 4 - ((k + 1 : Nat) : Int) + 1 by omega] at e
        exact e
    · rw [if_neg h1, if_neg h1]
      exact b68_68 rfl
theorem d68 {x : Int} {σ : Sg} : Dd 68 [vI x] σ (rI (if isLn x = true then 1 else 0) σ) := by
  refine b68 ⟨_, _, d67, ?_⟩
  by_cases h1 : x = 0
  · rw [if_pos h1, if_neg (by decide), if_pos (isLn_iff.mpr (Or.inl h1))]
  · rw [if_neg h1, if_pos rfl]
    refine ⟨_, _, d66, ?_⟩
    by_cases h2 : mkP x
    · rw [if_pos h2, if_neg (by decide), if_pos (isLn_iff.mpr (Or.inr (Or.inl h2)))]
    · rw [if_neg h2, if_pos rfl]
      by_cases h3 : 0 ≤ x
      · rw [if_pos h3, td h3, tm h3]
        by_cases h4 : 3 < x / 10000
        · rw [if_pos h4, if_neg]
          intro e
          rcases isLn_iff.mp e with e | e | e
          · exact h1 e
          · exact h2 e
          · omega
        · rw [if_neg h4]
          have e := l68 (x0 := x) 4 (x % 10000) σ (by omega) (by omega)
          rw [tm h3] at e
          rw [show (4 : Int) - ((4 : Nat) : Int) = 0 from rfl] at e
          have e2 : (if nz 4 (x % 10000) = true then (if 0 < x % 10000 then (1 : Int) else 0) else 0) = (if isLn x = true then 1 else 0) := by
            by_cases h5 : nz 4 (x % 10000) = true
            · by_cases h6 : 0 < x % 10000
              · rw [if_pos h5, if_pos h6, if_pos (isLn_iff.mpr (Or.inr (Or.inr ⟨by omega, by omega, h6, h5⟩)))]
              · rw [if_pos h5, if_neg h6, if_neg]
                intro e
                rcases isLn_iff.mp e with e | e | e
                · exact h1 e
                · exact h2 e
                · exact h6 e.2.2.1
            · rw [if_neg h5, if_neg]
              intro e
              rcases isLn_iff.mp e with e | e | e
              · exact h1 e
              · exact h2 e
              · exact h5 e.2.2.2
          rw [e2] at e
          exact e
      · rw [if_neg h3, if_neg]
        intro e
        rcases isLn_iff.mp e with e | e | e
        · exact h1 e
        · exact h2 e
        · omega
theorem ite_iff {p q : Prop} [Decidable p] [Decidable q] (h : p ↔ q) : (if p then (1 : Int) else 0) = (if q then 1 else 0) := by
  by_cases hp : p
  · rw [if_pos hp, if_pos (h.mp hp)]
  · rw [if_neg hp, if_neg (fun e => hp (h.mpr e))]
def p10 : Nat → Int
  | 0 => 1
  | k + 1 => 10 * p10 k
theorem l250 {x0 : Int} : ∀ (k : Nat) (x1 x2 : Int) (σ : Sg), 0 ≤ x2 → x2 < p10 k → C250_38 x0 x1 x2 σ (rI (if (¬ x1 = 0 ∧ nz k x2 = true) ∨ x0 = 0 ∨ mkP x0 then 1 else 0) σ) := by
  have hend : ∀ (x1 x2 : Int) (σ : Sg) (b : Bool), b = true → ¬ 0 < x2 → C250_38 x0 x1 x2 σ (rI (if (¬ x1 = 0 ∧ b = true) ∨ x0 = 0 ∨ mkP x0 then 1 else 0) σ) := by
    intro x1 x2 σ b hb h
    refine b250_38 ?_
    rw [if_neg h]
    by_cases h1 : x1 = 0
    · rw [if_pos h1]
      by_cases h2 : x0 = 0
      · rw [if_pos h2, if_pos (Or.inr (Or.inl h2))]
        exact b250_82 rfl
      · rw [if_neg h2]
        refine ⟨_, _, d249, ?_⟩
        by_cases h3 : mkP x0
        · rw [if_pos h3, if_neg (by decide), if_pos (Or.inr (Or.inr h3))]
          exact b250_82 rfl
        · rw [if_neg h3, if_pos rfl, if_neg]
          intro e
          rcases e with e | e | e
          · exact e.1 h1
          · exact h2 e
          · exact h3 e
    · rw [if_neg h1, if_pos (Or.inl ⟨h1, hb⟩)]
      exact b250_82 rfl
  intro k
  induction k with
  | zero =>
    intro x1 x2 σ h0 h1
    have h1' : x2 < 1 := h1
    exact hend x1 x2 σ (nz 0 x2) rfl (by omega)
  | succ k ih =>
    intro x1 x2 σ h0 h1
    have h1' : x2 < 10 * p10 k := h1
    by_cases hp : 0 < x2
    · refine b250_38 ?_
      rw [if_pos hp, tm h0]
      have e : nz (k + 1) x2 = if x2 % 10 = 0 then false else nz k (x2 / 10) := by
        show (if 0 < x2 then _ else _) = _
        rw [if_pos hp]
      rw [e]
      have hd : Int.tdiv x2 10 = x2 / 10 := td h0
      by_cases h2 : x1 = 0
      · rw [if_pos h2]
        refine b250_57 (b250_58 ?_)
        rw [hd]
        have := ih 0 (x2 / 10) σ (by omega) (by omega)
        rw [ite_iff (show ((¬ (0 : Int) = 0 ∧ nz k (x2 / 10) = true) ∨ x0 = 0 ∨ mkP x0) ↔ ((¬ x1 = 0 ∧ (if x2 % 10 = 0 then false else nz k (x2 / 10)) = true) ∨ x0 = 0 ∨ mkP x0) by simp [h2])] at this
        exact this
      · rw [if_neg h2]
        by_cases h3 : 0 < x2 % 10
        · rw [if_pos h3, if_neg (show ¬ x2 % 10 = 0 by omega)]
          refine b250_58 ?_
          rw [hd]
          have := ih 1 (x2 / 10) σ (by omega) (by omega)
          rw [ite_iff (show ((¬ (1 : Int) = 0 ∧ nz k (x2 / 10) = true) ∨ x0 = 0 ∨ mkP x0) ↔ ((¬ x1 = 0 ∧ nz k (x2 / 10) = true) ∨ x0 = 0 ∨ mkP x0) by simp [h2])] at this
          exact this
        · rw [if_neg h3, if_pos (show x2 % 10 = 0 by omega)]
          refine b250_57 (b250_58 ?_)
          rw [hd]
          have := ih 0 (x2 / 10) σ (by omega) (by omega)
          rw [ite_iff (show ((¬ (0 : Int) = 0 ∧ nz k (x2 / 10) = true) ∨ x0 = 0 ∨ mkP x0) ↔ ((¬ x1 = 0 ∧ false = true) ∨ x0 = 0 ∨ mkP x0) by simp)] at this
          exact this
    · refine hend x1 x2 σ (nz (k + 1) x2) ?_ hp
      show (if 0 < x2 then _ else true) = true
      rw [if_neg hp]
theorem d250 {x : Int} {σ : Sg} : Dd 250 [vI x] σ (rI (if isLn x = true then 1 else 0) σ) := by
  refine b250 ?_
  have hno : ¬ (0 < x ∧ x < 40000 ∧ 0 < x % 10000) → C250_22 x none none σ (rI (if isLn x = true then 1 else 0) σ) := by
    intro hn
    refine b250_22 (b250_23 (b250_37 ?_))
    rw [if_pos rfl]
    have e := l250 (x0 := x) 0 0 0 σ (by omega) (by decide)
    rw [show (if (¬ (0 : Int) = 0 ∧ nz 0 0 = true) ∨ x = 0 ∨ mkP x then (1 : Int) else 0) = (if isLn x = true then 1 else 0) by
      by_cases h : x = 0 ∨ mkP x
      · rw [if_pos (Or.inr h), if_pos (isLn_iff.mpr (by rcases h with h | h; exact Or.inl h; exact Or.inr (Or.inl h)))]
      · rw [if_neg (by intro e; rcases e with e | e; exact e.1 rfl; exact h e), if_neg]
        intro e
        rcases isLn_iff.mp e with e | e | e
        · exact h (Or.inl e)
        · exact h (Or.inr e)
        · exact hn ⟨e.1, e.2.1, e.2.2.1⟩] at e
    exact e
  by_cases h1 : 0 < x
  · rw [if_pos h1]
    by_cases h2 : x < 40000
    · rw [if_pos h2, tm (by omega)]
      by_cases h3 : 0 < x % 10000
      · rw [if_pos h3]
        refine b250_23 (b250_37 ?_)
        rw [if_neg (by decide), tm (by omega)]
        have e := l250 (x0 := x) 4 1 (x % 10000) σ (by omega) (by show x % 10000 < 10000; omega)
        rw [show (if (¬ (1 : Int) = 0 ∧ nz 4 (x % 10000) = true) ∨ x = 0 ∨ mkP x then (1 : Int) else 0) = (if isLn x = true then 1 else 0) by
          by_cases h : isLn x = true
          · rw [if_pos h, if_pos]
            rcases isLn_iff.mp h with e | e | e
            · exact Or.inr (Or.inl e)
            · exact Or.inr (Or.inr e)
            · exact Or.inl ⟨by decide, e.2.2.2⟩
          · rw [if_neg h, if_neg]
            intro e
            apply h
            rcases e with e | e | e
            · exact isLn_iff.mpr (Or.inr (Or.inr ⟨h1, h2, h3, e.2⟩))
            · exact isLn_iff.mpr (Or.inl e)
            · exact isLn_iff.mpr (Or.inr (Or.inl e))] at e
        exact e
      · rw [if_neg h3]; exact hno (by omega)
    · rw [if_neg h2]; exact hno (by omega)
  · rw [if_neg h1]; exact hno (by omega)
end
