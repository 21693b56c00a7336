/-! Rows of numbers: what their methods do, as functions of the numbers. -/
noncomputable section
abbrev rI (v : Int) (σ : Sg) : Rs := (.inl (some (.inl v)), σ)
abbrev rV (σ : Sg) : Rs := (.inl none, σ)
abbrev rA (a : Nat) (σ : Sg) : Rs := (.inl (some (.inr (.inr (some a)))), σ)
abbrev rNl (σ : Sg) : Rs := (.inl (some (.inr (.inr none))), σ)
abbrev rX (E : Nat) (σ : Sg) : Rs := (.inr E, σ)
abbrev vI (x : Int) : AV := .inl x
abbrev vA (a : Nat) : AV := .inr (.inr (some a))
theorem up_s {σ : Sg} {a k : Nat} {v : Int} : upS σ a k v a k = v := by unfold upS; rw [if_pos ⟨rfl, rfl⟩]
theorem up_a {σ : Sg} {a k a' k' : Nat} {v : Int} (h : ¬ a' = a) : upS σ a k v a' k' = σ a' k' := by unfold upS; rw [if_neg (fun e => h e.1)]
theorem up_k {σ : Sg} {a k a' k' : Nat} {v : Int} (h : ¬ k' = k) : upS σ a k v a' k' = σ a' k' := by unfold upS; rw [if_neg (fun e => h e.2)]
theorem SH0_small : SH0.all (fun s => decide (s.2.1 ≤ 5000)) = true := by decide +kernel
theorem cap_le {a : Nat} (h : isRow a = true) : (cap a : Int) ≤ 5000 := by
  have h2 := List.mem_of_getElem? (isRow_2 h)
  have h3 := of_decide_eq_true (List.all_eq_true.mp SH0_small _ h2)
  dsimp only at h3
  omega
def wR (σ : Sg) (a : Nat) : Prop := isRow a = true ∧ 0 ≤ σ a 1 ∧ σ a 1 ≤ (cap a : Int)
def atS (σ : Sg) (a : Nat) (i : Int) : Int := if 0 ≤ i ∧ i < σ a 1 then σ (a + 1) i.toNat else -1
def stS (σ : Sg) (a : Nat) (i v : Int) : Sg := if 0 ≤ i ∧ i < σ a 1 then upS σ (a + 1) i.toNat v else σ
def adS (σ : Sg) (a : Nat) (v : Int) : Sg := if σ a 1 < (cap a : Int) then upS (upS σ (a + 1) (σ a 1).toNat v) a 1 (σ a 1 + 1) else σ
def inS1 (σ : Sg) (a : Nat) (p i v : Int) : Sg := fun c k => if c = a + 1 then (if (k : Int) = p then v else if p < (k : Int) ∧ (k : Int) ≤ i then σ c (k - 1) else σ c k) else if c = a ∧ k = 1 then σ a 1 + 1 else σ c k
def rmS1 (σ : Sg) (a : Nat) (i : Int) : Sg := fun c k => if c = a + 1 then (if i ≤ (k : Int) ∧ (k : Int) + 1 < σ a 1 then σ c (k + 1) else σ c k) else if c = a ∧ k = 1 then σ a 1 - 1 else σ c k
def flS1 (σ : Sg) (a : Nat) (i v : Int) : Sg := fun c k => if c = a + 1 ∧ i ≤ (k : Int) ∧ (k : Int) < σ a 1 then v else σ c k
def flS (σ : Sg) (a : Nat) (n v : Int) : Sg := flS1 (upS σ a 1 (if 0 < (if (cap a : Int) < n then (cap a : Int) else n) then (if (cap a : Int) < n then (cap a : Int) else n) else 0)) a 0 v
theorem d146 {σ : Sg} {a : Nat} (h : isRow a = true) : Dd 146 [vA a] σ (rI (σ a 1) σ) := b146 h rfl
theorem d147 {σ : Sg} {a : Nat} {i : Int} (h : wR σ a) : Dd 147 [vA a, vI i] σ (rI (atS σ a i) σ) := by
  refine b147 h.1 ⟨fun h1 h2 => ⟨h1, by have := h.2.2; omega⟩, ?_⟩
  unfold atS
  by_cases h1 : 0 ≤ i
  · by_cases h2 : i < σ a 1
    · rw [if_pos h1, if_pos h2, if_pos ⟨h1, h2⟩]
    · rw [if_pos h1, if_neg h2, if_neg (fun e => h2 e.2)]
  · rw [if_neg h1, if_neg (fun e => h1 e.1)]
theorem d148 {σ : Sg} {a : Nat} {i v : Int} (h : wR σ a) : Dd 148 [vA a, vI i, vI v] σ (rV (stS σ a i v)) := by
  refine b148 h.1 ?_
  unfold stS
  by_cases h1 : 0 ≤ i
  · by_cases h2 : i < σ a 1
    · rw [if_pos h1, if_pos h2, if_pos ⟨h1, h2⟩]
      exact ⟨⟨h1, by have := h.2.2; omega⟩, rfl⟩
    · rw [if_pos h1, if_neg h2, if_neg (fun e => h2 e.2)]
  · rw [if_neg h1, if_neg (fun e => h1 e.1)]
theorem d149 {σ : Sg} {a : Nat} {v : Int} (h : wR σ a) : Dd 149 [vA a, vI v] σ (rV (adS σ a v)) := by
  have hc := cap_le h.1
  have e : (upS σ (a + 1) (σ a 1).toNat v) a 1 = σ a 1 := up_a (by omega)
  refine b149 h.1 ⟨by omega, ?_⟩
  unfold adS
  rw [e]
  by_cases h1 : σ a 1 < (cap a : Int)
  · rw [if_pos h1, if_pos h1]
    exact ⟨⟨h.2.1, h1⟩, by have := h.2.1; omega, rfl⟩
  · rw [if_neg h1, if_neg h1]
theorem l150 {a : Nat} (ha : isRow a = true) {p : Nat} {v : Int} : ∀ (d : Nat) (i : Nat) (σ : Sg), i = p + d → (i : Int) < (cap a : Int) → -1 ≤ σ a 1 → σ a 1 ≤ (cap a : Int) → C150_30 a p v i σ (rV (inS1 σ a p i v)) := by
  have hc := cap_le ha
  intro d
  induction d with
  | zero =>
    intro i σ hi hk h1 h2
    refine b150_30 ha ?_
    have e : (upS σ (a + 1) ((p : Int).toNat) v) a 1 = σ a 1 := up_a (by omega)
    rw [if_neg (by omega), e]
    refine ⟨by omega, by omega, ?_⟩
    congr 1
    funext c k
    unfold inS1 upS
    repeat' split
    all_goals first | rfl | omega | (simp_all; done) | (simp_all; omega)
  | succ d ih =>
    intro i σ hi hk h1 h2
    refine b150_30 ha ?_
    rw [if_pos (by omega)]
    refine ⟨by omega, by omega, by omega, by omega, ?_⟩
    have e := ih (i - 1) (upS σ (a + 1) ((i : Int).toNat) (σ (a + 1) ((i : Int) - 1).toNat)) (by omega) (by omega) (by rw [up_a (by omega)]; exact h1) (by rw [up_a (by omega)]; exact h2)
    rw [show (((i - 1 : Nat)) : Int) = (i : Int) + (-1) by omega] at e
    have e2 : inS1 (upS σ (a + 1) ((i : Int).toNat) (σ (a + 1) ((i : Int) - 1).toNat)) a p ((i : Int) + (-1)) v = inS1 σ a p i v := by
      have t1 : ((i : Int).toNat) = i := by omega
      have t2 : ((i : Int) - 1).toNat = i - 1 := by omega
      funext c k
      unfold inS1
      rw [t1, t2]
      by_cases hc1 : c = a + 1
      · subst hc1
        rw [if_pos rfl, if_pos rfl]
        unfold upS
        repeat' split
        all_goals first | rfl | omega | (simp_all; done) | (exfalso; omega) | (congr 1; omega)
      · rw [if_neg hc1, if_neg hc1]
        rw [up_a (by omega), up_a hc1]
    rw [e2] at e
    exact e
theorem d150 {σ : Sg} {a : Nat} {p v : Int} (h : wR σ a) (hp : 0 ≤ p ∧ p ≤ σ a 1) (hs : σ a 1 < (cap a : Int)) : Dd 150 [vA a, vI p, vI v] σ (rV (inS1 σ a p (σ a 1) v)) := by
  have hc := cap_le h.1
  refine b150 h.1 ?_
  rw [if_pos hp.1, if_pos hp.2]
  refine ⟨by omega, ?_⟩
  rw [if_neg (by omega)]
  obtain ⟨p', hp'⟩ := Int.eq_ofNat_of_zero_le hp.1
  obtain ⟨s', hs'⟩ := Int.eq_ofNat_of_zero_le h.2.1
  have e := l150 h.1 (p := p') (v := v) (s' - p') s' σ (by omega) (by omega) (by omega) (by omega)
  rw [← hs', ← hp'] at e
  exact e
theorem l153 {a : Nat} (ha : isRow a = true) {d1 : Option AV} {v : Int} : ∀ (d i : Nat) (σ : Sg), σ a 1 = ((i + d : Nat) : Int) → σ a 1 ≤ (cap a : Int) → C153_19 a d1 v i σ (rV (flS1 σ a i v)) := by
  have hc := cap_le ha
  intro d
  induction d with
  | zero =>
    intro i σ h1 h2
    refine b153_19 ha ?_
    rw [if_neg (by omega)]
    have e : flS1 σ a i v = σ := by
      funext c k
      unfold flS1
      rw [if_neg (by omega)]
    rw [e]
  | succ d ih =>
    intro i σ h1 h2
    refine b153_19 ha ?_
    rw [if_pos (by omega)]
    refine ⟨by omega, by omega, ?_⟩
    have e0 : (upS σ (a + 1) ((i : Int).toNat) v) a 1 = σ a 1 := up_a (by omega)
    have e := ih (i + 1) (upS σ (a + 1) ((i : Int).toNat) v) (by rw [e0]; omega) (by rw [e0]; exact h2)
    have e2 : flS1 (upS σ (a + 1) ((i : Int).toNat) v) a ((i + 1 : Nat) : Int) v = flS1 σ a i v := by
      funext c k
      unfold flS1
      rw [e0]
      by_cases hc1 : c = a + 1
      · subst hc1
        by_cases hk : k = i
        · subst hk
          rw [if_neg (by omega), if_pos (by omega), show ((k : Int).toNat) = k by omega, up_s]
        · by_cases hk2 : (i : Int) ≤ (k : Int) ∧ (k : Int) < σ a 1
          · rw [if_pos (by omega), if_pos ⟨rfl, hk2⟩]
          · rw [if_neg (by omega), if_neg (fun e => hk2 e.2), up_k (by omega)]
      · rw [if_neg (fun e => hc1 e.1), if_neg (fun e => hc1 e.1), up_a hc1]
    rw [e2] at e
    exact e
def mnI (x y : Int) : Int := if y < x then y else x
theorem d153 {σ : Sg} {a : Nat} {n v : Int} (ha : isRow a = true) : Dd 153 [vA a, vI n, vI v] σ (rV (flS σ a n v)) := by
  have hc := cap_le ha
  refine b153 ha ⟨by omega, ?_⟩
  have e : (upS σ a 1 (if 0 < (if (cap a : Int) < n then (cap a : Int) else n) then (if (cap a : Int) < n then (cap a : Int) else n) else 0)) a 1 = (if 0 < (if (cap a : Int) < n then (cap a : Int) else n) then (if (cap a : Int) < n then (cap a : Int) else n) else 0) := up_s
  have h0 : 0 ≤ (if 0 < (if (cap a : Int) < n then (cap a : Int) else n) then (if (cap a : Int) < n then (cap a : Int) else n) else 0) := by split <;> omega
  have h1 : (if 0 < (if (cap a : Int) < n then (cap a : Int) else n) then (if (cap a : Int) < n then (cap a : Int) else n) else 0) ≤ (cap a : Int) := by
    split
    · split <;> omega
    · omega
  obtain ⟨z, hz⟩ := Int.eq_ofNat_of_zero_le h0
  have e2 := l153 ha (d1 := some (vI n)) (v := v) z 0 (upS σ a 1 (if 0 < (if (cap a : Int) < n then (cap a : Int) else n) then (if (cap a : Int) < n then (cap a : Int) else n) else 0)) (by rw [e, hz]; simp) (by rw [e]; exact h1)
  exact e2
def cpS (σ : Sg) (a b : Nat) (i : Int) : Sg := fun c k => if c = a + 1 ∧ i ≤ (k : Int) ∧ (k : Int) < σ a 1 then σ (b + 1) k else σ c k
theorem l155 {a b : Nat} (ha : isRow a = true) (hb : isRow b = true) : ∀ (d i : Nat) (σ : Sg), σ a 1 = ((i + d : Nat) : Int) → σ a 1 ≤ (cap a : Int) → σ a 1 ≤ (cap b : Int) → C155_18 a b i σ (rV (cpS σ a b i)) := by
  have hc := cap_le ha
  have hcb := cap_le hb
  intro d
  induction d with
  | zero =>
    intro i σ h1 h2 h3
    refine b155_18 ha hb ?_
    rw [if_neg (by omega)]
    have e : cpS σ a b i = σ := by
      funext c k
      unfold cpS
      rw [if_neg (by omega)]
    rw [e]
  | succ d ih =>
    intro i σ h1 h2 h3
    refine b155_18 ha hb ?_
    rw [if_pos (by omega)]
    refine ⟨by omega, ?_⟩
    rw [if_pos (by omega)]
    refine ⟨by omega, by omega, by omega, ?_⟩
    have t1 : ((i : Int).toNat) = i := by omega
    rw [t1]
    have e0 : (upS σ (a + 1) i (σ (b + 1) i)) a 1 = σ a 1 := up_a (by omega)
    have e := ih (i + 1) (upS σ (a + 1) i (σ (b + 1) i)) (by rw [e0]; omega) (by rw [e0]; exact h2) (by rw [e0]; exact h3)
    have e2 : cpS (upS σ (a + 1) i (σ (b + 1) i)) a b ((i + 1 : Nat) : Int) = cpS σ a b i := by
      funext c k
      unfold cpS
      rw [e0]
      by_cases hc1 : c = a + 1
      · subst hc1
        by_cases hk : k = i
        · subst hk
          rw [if_neg (by omega), if_pos (by omega), up_s]
        · by_cases hk2 : (i : Int) ≤ (k : Int) ∧ (k : Int) < σ a 1
          · rw [if_pos (by omega), if_pos ⟨rfl, hk2⟩, up_k hk]
          · rw [if_neg (by omega), if_neg (fun e => hk2 e.2), up_k hk]
      · rw [if_neg (fun e => hc1 e.1), if_neg (fun e => hc1 e.1), up_a hc1]
    rw [e2] at e
    exact e
def bcS (σ : Sg) (a b : Nat) : Sg := cpS (upS σ a 1 (if (cap a : Int) < σ b 1 then (cap a : Int) else σ b 1)) a b 0
theorem d155 {σ : Sg} {a b : Nat} (ha : isRow a = true) (hb : wR σ b) : Dd 155 [vA a, vA b] σ (rV (bcS σ a b)) := by
  have hc := cap_le ha
  have hcb := cap_le hb.1
  refine b155 hb.1 ha ⟨by omega, ?_⟩
  have e : (upS σ a 1 (if (cap a : Int) < σ b 1 then (cap a : Int) else σ b 1)) a 1 = (if (cap a : Int) < σ b 1 then (cap a : Int) else σ b 1) := up_s
  have h0 : 0 ≤ (if (cap a : Int) < σ b 1 then (cap a : Int) else σ b 1) := by have := hb.2.1; split <;> omega
  have h1 : (if (cap a : Int) < σ b 1 then (cap a : Int) else σ b 1) ≤ (cap a : Int) := by split <;> omega
  have h2 : (if (cap a : Int) < σ b 1 then (cap a : Int) else σ b 1) ≤ (cap b : Int) := by have := hb.2.2; split <;> omega
  obtain ⟨z, hz⟩ := Int.eq_ofNat_of_zero_le h0
  exact l155 ha hb.1 z 0 (upS σ a 1 (if (cap a : Int) < σ b 1 then (cap a : Int) else σ b 1)) (by rw [e, hz]; simp) (by rw [e]; exact h1) (by rw [e]; exact h2)
/-- two rows hold the same numbers -/
def smP (σ : Sg) (a b : Nat) : Prop := σ a 1 = σ b 1 ∧ ∀ k : Nat, (k : Int) < σ a 1 → σ (a + 1) k = σ (b + 1) k
theorem l156 {a b : Nat} (ha : isRow a = true) (hb : isRow b = true) {σ : Sg} (h2 : σ a 1 ≤ (cap a : Int)) (h3 : σ a 1 ≤ (cap b : Int)) : ∀ (d i : Nat), σ a 1 = ((i + d : Nat) : Int) → (C156_15 a b i σ (rI 1 σ) ∧ ∀ k : Nat, i ≤ k → (k : Int) < σ a 1 → σ (a + 1) k = σ (b + 1) k) ∨ (C156_15 a b i σ (rI 0 σ) ∧ ∃ k : Nat, i ≤ k ∧ (k : Int) < σ a 1 ∧ ¬ σ (a + 1) k = σ (b + 1) k) := by
  have hc := cap_le ha
  intro d
  induction d with
  | zero =>
    intro i h1
    refine Or.inl ⟨b156_15 ha hb ?_, fun k hk1 hk2 => by omega⟩
    rw [if_neg (by omega)]
  | succ d ih =>
    intro i h1
    have t1 : ((i : Int).toNat) = i := by omega
    by_cases he : σ (a + 1) i = σ (b + 1) i
    · have e := ih (i + 1) (by omega)
      have go : ∀ z : Int, C156_15 a b ((i + 1 : Nat) : Int) σ (rI z σ) → C156_15 a b i σ (rI z σ) := by
        intro z hz
        refine b156_15 ha hb ?_
        rw [if_pos (by omega), t1]
        refine ⟨by omega, by omega, ?_⟩
        rw [if_pos he]
        exact ⟨by omega, hz⟩
      rcases e with ⟨e1, e2⟩ | ⟨e1, k, e2, e3, e4⟩
      · refine Or.inl ⟨go 1 e1, fun k hk1 hk2 => ?_⟩
        by_cases hk : k = i
        · subst hk; exact he
        · exact e2 k (by omega) hk2
      · exact Or.inr ⟨go 0 e1, k, by omega, e3, e4⟩
    · refine Or.inr ⟨b156_15 ha hb ?_, i, Nat.le_refl i, by omega, he⟩
      rw [if_pos (by omega), t1]
      refine ⟨by omega, by omega, ?_⟩
      rw [if_neg he]
theorem d156_t {σ : Sg} {a b : Nat} (ha : wR σ a) (hb : wR σ b) (h : smP σ a b) : Dd 156 [vA a, vA b] σ (rI 1 σ) := by
  refine b156 ha.1 hb.1 ?_
  rw [if_pos h.1]
  obtain ⟨z, hz⟩ := Int.eq_ofNat_of_zero_le ha.2.1
  rcases l156 ha.1 hb.1 ha.2.2 (by rw [h.1]; exact hb.2.2) z 0 (by rw [hz]; simp) with e | ⟨_, k, _, e3, e4⟩
  · exact e.1
  · exact absurd (h.2 k e3) e4
theorem d156_f {σ : Sg} {a b : Nat} (ha : wR σ a) (hb : wR σ b) (h : ¬ smP σ a b) : Dd 156 [vA a, vA b] σ (rI 0 σ) := by
  refine b156 ha.1 hb.1 ?_
  by_cases h1 : σ a 1 = σ b 1
  · rw [if_pos h1]
    obtain ⟨z, hz⟩ := Int.eq_ofNat_of_zero_le ha.2.1
    rcases l156 ha.1 hb.1 ha.2.2 (by rw [h1]; exact hb.2.2) z 0 (by rw [hz]; simp) with ⟨_, e⟩ | e
    · exact absurd ⟨h1, fun k hk => e k (Nat.zero_le k) hk⟩ h
    · exact e.1
  · rw [if_neg h1]
end
