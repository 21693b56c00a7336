/-! Rows of numbers: what their methods do, as functions of the numbers. -/
noncomputable section
abbrev rI (v : Int) (σ : Sg) : Rs := (.inl (some (.inl v)), σ)
abbrev rV (σ : Sg) : Rs := (.inl none, σ)
abbrev rA (a : Nat) (σ : Sg) : Rs := (.inl (some (.inr (.inr (some a)))), σ)
abbrev rN (σ : Sg) : Rs := (.inl (some (.inr (.inr none))), σ)
abbrev rX (E : Nat) (σ : Sg) : Rs := (.inr E, σ)
abbrev vI (x : Int) : AV := .inl x
abbrev vA (a : Nat) : AV := .inr (.inr (some a))
theorem up_s {σ : Sg} {a k : Nat} {v : Int} : upS σ a k v a k = v := by unfold upS; rw [if_pos ⟨rfl, rfl⟩]
theorem up_a {σ : Sg} {a k a' k' : Nat} {v : Int} (h : ¬ a' = a) : upS σ a k v a' k' = σ a' k' := by unfold upS; rw [if_neg (fun e => h e.1)]
theorem up_k {σ : Sg} {a k a' k' : Nat} {v : Int} (h : ¬ k' = k) : upS σ a k v a' k' = σ a' k' := by unfold upS; rw [if_neg (fun e => h e.2)]
theorem SH0_small : SH0.all (fun s => decide (s.2.1 ≤ 5000)) = true := by decide +kernel
theorem cap_le {a : Nat} (h : isRow a = true) : (cap a : Int) ≤ 5000 := by
  have h2 := List.mem_of_getElem? (isRow_2 h)
  have h3 := of_decide_eq_true (List.all_eq_true.mp SH0_small _ h2)
  dsimp only at h3
  omega
def wR (σ : Sg) (a : Nat) : Prop := isRow a = true ∧ 0 ≤ σ a 1 ∧ σ a 1 ≤ (cap a : Int)
def atS (σ : Sg) (a : Nat) (i : Int) : Int := if 0 ≤ i ∧ i < σ a 1 then σ (a + 1) i.toNat else -1
def stS (σ : Sg) (a : Nat) (i v : Int) : Sg := if 0 ≤ i ∧ i < σ a 1 then upS σ (a + 1) i.toNat v else σ
def adS (σ : Sg) (a : Nat) (v : Int) : Sg := if σ a 1 < (cap a : Int) then upS (upS σ (a + 1) (σ a 1).toNat v) a 1 (σ a 1 + 1) else σ
def inS1 (σ : Sg) (a : Nat) (p i v : Int) : Sg := fun c k => if c = a + 1 then (if (k : Int) = p then v else if p < (k : Int) ∧ (k : Int) ≤ i then σ c (k - 1) else σ c k) else if c = a ∧ k = 1 then σ a 1 + 1 else σ c k
def rmS1 (σ : Sg) (a : Nat) (i : Int) : Sg := fun c k => if c = a + 1 then (if i ≤ (k : Int) ∧ (k : Int) + 1 < σ a 1 then σ c (k + 1) else σ c k) else if c = a ∧ k = 1 then σ a 1 - 1 else σ c k
def flS1 (σ : Sg) (a : Nat) (i v : Int) : Sg := fun c k => if c = a + 1 ∧ i ≤ (k : Int) ∧ (k : Int) < σ a 1 then v else σ c k
def flS (σ : Sg) (a : Nat) (n v : Int) : Sg := flS1 (upS σ a 1 (if 0 < (if (cap a : Int) < n then (cap a : Int) else n) then (if (cap a : Int) < n then (cap a : Int) else n) else 0)) a 0 v
theorem d146 {σ : Sg} {a : Nat} (h : isRow a = true) : Dd 146 [vA a] σ (rI (σ a 1) σ) := b146 h rfl
theorem d147 {σ : Sg} {a : Nat} {i : Int} (h : wR σ a) : Dd 147 [vA a, vI i] σ (rI (atS σ a i) σ) := by
  refine b147 h.1 ⟨fun h1 h2 => ⟨h1, by have := h.2.2; omega⟩, ?_⟩
  unfold atS
  by_cases h1 : 0 ≤ i
  · by_cases h2 : i < σ a 1
    · rw [if_pos h1, if_pos h2, if_pos ⟨h1, h2⟩]
    · rw [if_pos h1, if_neg h2, if_neg (fun e => h2 e.2)]
  · rw [if_neg h1, if_neg (fun e => h1 e.1)]
theorem d148 {σ : Sg} {a : Nat} {i v : Int} (h : wR σ a) : Dd 148 [vA a, vI i, vI v] σ (rV (stS σ a i v)) := by
  refine b148 h.1 ?_
  unfold stS
  by_cases h1 : 0 ≤ i
  · by_cases h2 : i < σ a 1
    · rw [if_pos h1, if_pos h2, if_pos ⟨h1, h2⟩]
      exact ⟨⟨h1, by have := h.2.2; omega⟩, rfl⟩
    · rw [if_pos h1, if_neg h2, if_neg (fun e => h2 e.2)]
  · rw [if_neg h1, if_neg (fun e => h1 e.1)]
theorem d149 {σ : Sg} {a : Nat} {v : Int} (h : wR σ a) : Dd 149 [vA a, vI v] σ (rV (adS σ a v)) := by
  have hc := cap_le h.1
  have e : (upS σ (a + 1) (σ a 1).toNat v) a 1 = σ a 1 := up_a (by omega)
  refine b149 h.1 ⟨by omega, ?_⟩
  unfold adS
  rw [e]
  by_cases h1 : σ a 1 < (cap a : Int)
  · rw [if_pos h1, if_pos h1]
    exact ⟨⟨h.2.1, h1⟩, by have := h.2.1; omega, rfl⟩
  · rw [if_neg h1, if_neg h1]
theorem l150 {a : Nat} (ha : isRow a = true) {p : Nat} {v : Int} : ∀ (d : Nat) (i : Nat) (σ : Sg), i = p + d → (i : Int) < (cap a : Int) → -1 ≤ σ a 1 → σ a 1 ≤ (cap a : Int) → C150_30 a p v i σ (rV (inS1 σ a p i v)) := by
  have hc := cap_le ha
  intro d
  induction d with
  | zero =>
    intro i σ hi hk h1 h2
    refine b150_30 ha ?_
    have e : (upS σ (a + 1) ((p : Int).toNat) v) a 1 = σ a 1 := up_a (by omega)
    rw [if_neg (by omega), e]
    refine ⟨by omega, by omega, ?_⟩
    congr 1
    funext c k
    unfold inS1 upS
    repeat' split
    all_goals first | rfl | omega | (simp_all; done) | (simp_all; omega)
  | succ d ih =>
    intro i σ hi hk h1 h2
    refine b150_30 ha ?_
    rw [if_pos (by omega)]
    refine ⟨by omega, by omega, by omega, by omega, ?_⟩
    have e := ih (i - 1) (upS σ (a + 1) ((i : Int).toNat) (σ (a + 1) ((i : Int) - 1).toNat)) (by omega) (by omega) (by rw [up_a (by omega)]; exact h1) (by rw [up_a (by omega)]; exact h2)
    rw [show (((i - 1 : Nat)) : Int) = (i : Int) + (-1) by omega] at e
    have e2 : inS1 (upS σ (a + 1) ((i : Int).toNat) (σ (a + 1) ((i : Int) - 1).toNat)) a p ((i : Int) + (-1)) v = inS1 σ a p i v := by
      have t1 : ((i : Int).toNat) = i := by omega
      have t2 : ((i : Int) - 1).toNat = i - 1 := by omega
      funext c k
      unfold inS1
      rw [t1, t2]
      by_cases hc1 : c = a + 1
      · subst hc1
        rw [if_pos rfl, if_pos rfl]
        unfold upS
        repeat' split
        all_goals first | rfl | omega | (simp_all; done) | (exfalso; omega) | skip
        all_goals sorry
      · rw [if_neg hc1, if_neg hc1]
        rw [up_a (by omega), up_a hc1]
    rw [e2] at e
    exact e
end
