/-! Trees without files: nothing is paired. -/
noncomputable section
def Nt (σ : Sg) : Prop := (∀ i, σ 652 i = 0) ∧ 0 ≤ σ 655 1 ∧ σ 655 1 ≤ 6
theorem row655 : isRow 655 = true := by decide +kernel
theorem cap655 : (cap 655 : Int) = 6 := by
  have : cap 655 = 6 := by decide +kernel
  omega
theorem Nt_w {σ : Sg} (h : Nt σ) : wR σ 655 := ⟨row655, h.2.1, by rw [cap655]; exact h.2.2⟩
theorem d51_in {t n : Int} {σ : Sg} (ht : 0 ≤ t ∧ t < 3) (hn : 0 ≤ n ∧ n < 6) : Dd 51 [vI t, vI n] σ (rI (t * 6 + n) σ) := by
  refine b51 ?_
  rw [if_pos ht.1, if_pos ht.2, if_pos hn.1, if_pos hn.2]
  refine b51_24 ⟨by intro _; omega, by intro _; omega, ?_⟩
  rw [if_neg (by decide)]
theorem has0 {t n : Int} {σ : Sg} (h : Nt σ) (ht : 0 ≤ t ∧ t < 3) (hn : 0 ≤ n ∧ n < 6) : Dd 50 [vA 614, vI t, vI n] σ (rI 0 σ) := by
  refine b50 ⟨_, _, d51_in ht hn, by intro _; omega, ?_⟩
  rw [if_pos (show t * 6 + n < 18 by omega), if_pos (h.1 _)]
theorem pair0 {t n u g : Int} {σ : Sg} (h : Nt σ) (ht : 0 ≤ t ∧ t < 3) (hn : 0 ≤ n ∧ n < 6) (hg : 0 ≤ g ∧ g < 6) : Dd 63 [vA 614, vI t, vI n, vI u, vI g] σ (rI 0 σ) := by
  have f : ∀ d5, C63_36 t n u g d5 σ (rI 0 σ) := by
    intro d5
    refine b63_36 (b63_37 ?_)
    rw [if_pos rfl]
  refine b63 ⟨_, _, d147 (Nt_w h), ?_⟩
  by_cases h1 : atS σ 655 n = -1
  · rw [if_pos h1, if_pos hg.2]
    refine ⟨hg, ?_⟩
    by_cases h2 : σ 657 g.toNat = 0
    · rw [if_pos h2]
      refine b63_37 ?_
      rw [if_neg (by decide)]
      refine ⟨_, _, has0 h ht hn, ?_⟩
      rw [if_pos rfl]
    · rw [if_neg h2]; exact f _
  · rw [if_neg h1]; exact f _
theorem n60 {t u : Int} {σ : Sg} (h : Nt σ) (ht : 0 ≤ t ∧ t < 3) : Dd 60 [vA 614, vI t, vI u] σ (rV σ) := by
  refine b60 ?_
  have l : ∀ (d : Nat), d ≤ 6 → C60_2 t u (6 - d) σ (rV σ) := by
    intro d
    induction d with
    | zero =>
      intro hd
      refine b60_2 ?_
      rw [if_neg (by omega)]
    | succ d ih =>
      intro hd
      refine b60_2 ?_
      rw [if_pos (by omega)]
      refine ⟨_, _, has0 h ht (by omega), ?_⟩
      rw [if_pos rfl]
      refine b60_32 ⟨by omega, ?_⟩
      have e := ih (by omega)
      rw [show (6 : Int) - (d : Nat) = 6 - ((d + 1 : Nat) : Int) + 1 by omega] at e
      exact e
  exact l 6 (by omega)
theorem n61 {t u : Int} {σ : Sg} (h : Nt σ) (ht : 0 ≤ t ∧ t < 3) : Dd 61 [vA 614, vI t, vI u] σ (rV σ) := by
  refine b61 ?_
  have li : ∀ (x3 : Int), 0 ≤ x3 ∧ x3 < 6 → (∀ d4, C61_2 t u (x3 + 1) d4 σ (rV σ)) → ∀ (d : Nat), d ≤ 6 → C61_11 t u x3 (6 - d) σ (rV σ) := by
    intro x3 h3 H d
    induction d with
    | zero =>
      intro hd
      refine b61_11 ?_
      rw [if_neg (by omega)]
      exact ⟨by omega, H _⟩
    | succ d ih =>
      intro hd
      refine b61_11 ?_
      rw [if_pos (by omega)]
      refine ⟨_, _, pair0 h ht h3 (by omega), ?_⟩
      rw [if_pos rfl]
      refine b61_49 ⟨by omega, ?_⟩
      have e := ih (by omega)
      rw [show (6 : Int) - (d : Nat) = 6 - ((d + 1 : Nat) : Int) + 1 by omega] at e
      exact e
  have lo : ∀ (d : Nat), d ≤ 6 → ∀ d4, C61_2 t u (6 - d) d4 σ (rV σ) := by
    intro d
    induction d with
    | zero =>
      intro hd d4
      refine b61_2 ?_
      rw [if_neg (by omega)]
    | succ d ih =>
      intro hd d4
      refine b61_2 ?_
      rw [if_pos (by omega)]
      have e := ih (by omega)
      rw [show (6 : Int) - (d : Nat) = 6 - ((d + 1 : Nat) : Int) + 1 by omega] at e
      exact li _ (by omega) e 6 (by omega)
  exact lo 6 (by omega) _
theorem n62 {t u : Int} {σ : Sg} (h : Nt σ) (ht : 0 ≤ t ∧ t < 3) : Dd 62 [vA 614, vI t, vI u] σ (rV σ) := by
  refine b62 ?_
  have hend : ∀ (d7 : Option AV), C62_12 t u (-1) (-1) 59 6 d7 σ (rV σ) := by
    intro d7
    refine b62_12 ?_
    rw [if_neg (by decide)]
    refine ⟨_, b59 ?_, rfl⟩
    rw [if_neg (by decide)]
  have li : ∀ (x6 : Int), 0 ≤ x6 ∧ x6 < 6 → (∀ d4, C62_12 t u (-1) (-1) 59 (x6 + 1) d4 σ (rV σ)) → ∀ (d : Nat), d ≤ 6 → C62_22 t u (-1) (-1) 59 x6 (6 - d) σ (rV σ) := by
    intro x6 h3 H d
    induction d with
    | zero =>
      intro hd
      refine b62_22 ?_
      rw [if_neg (by omega)]
      exact ⟨by omega, H _⟩
    | succ d ih =>
      intro hd
      refine b62_22 ?_
      rw [if_pos (by omega)]
      refine ⟨_, _, pair0 h ht h3 (by omega), ?_⟩
      rw [if_pos rfl]
      refine b62_76 ⟨by omega, ?_⟩
      have e := ih (by omega)
      rw [show (6 : Int) - (d : Nat) = 6 - ((d + 1 : Nat) : Int) + 1 by omega] at e
      exact e
  have lo : ∀ (d : Nat), d ≤ 6 → ∀ d4, C62_12 t u (-1) (-1) 59 (6 - d) d4 σ (rV σ) := by
    intro d
    induction d with
    | zero =>
      intro hd d4
      exact hend d4
    | succ d ih =>
      intro hd d4
      refine b62_12 ?_
      rw [if_pos (by omega)]
      have e := ih (by omega)
      rw [show (6 : Int) - (d : Nat) = 6 - ((d + 1 : Nat) : Int) + 1 by omega] at e
      exact li _ (by omega) e 6 (by omega)
  exact lo 6 (by omega) _
end
