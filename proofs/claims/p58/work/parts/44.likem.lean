/-! The other side's likeness, by its table. -/
noncomputable section
theorem cwz {k : Nat} {n : Int} (h : ¬ 0 < n) : cw k n = 0 := by
  cases k with
  | zero => rfl
  | succ k => show (if 0 < n then _ else _) = _; rw [if_neg h]
theorem l252 {d0 : Option AV} : ∀ (k : Nat) (x1 x2 : Int) (σ : Sg), 0 ≤ x2 → x2 < p10 k → k ≤ 4 → 0 ≤ x1 → x1 ≤ 4 - k → C252_8 d0 x1 x2 σ (rI (x1 + cw k x2) σ) := by
  intro k
  induction k with
  | zero =>
    intro x1 x2 σ h0 h1 hk h2 h3
    have h1' : x2 < 1 := h1
    refine b252_8 ?_
    rw [if_neg (by omega)]
    show rI (x1 + ((0 : Nat) : Int)) σ = _
    rw [show x1 + ((0 : Nat) : Int) = x1 by omega]
  | succ k ih =>
    intro x1 x2 σ h0 h1 hk h2 h3
    have h1' : x2 < 10 * p10 k := h1
    refine b252_8 ?_
    by_cases hp : 0 < x2
    · rw [if_pos hp, td h0]
      refine ⟨by omega, ?_⟩
      have e := ih (x1 + 1) (x2 / 10) σ (by omega) (by omega) (by omega) (by omega) (by omega)
      have e2 : cw (k + 1) x2 = cw k (x2 / 10) + 1 := by show (if 0 < x2 then _ else _) = _; rw [if_pos hp]
      rw [e2, show x1 + ((cw k (x2 / 10) + 1 : Nat) : Int) = x1 + 1 + (cw k (x2 / 10) : Nat) by omega]
      exact e
    · rw [if_neg hp, cwz hp, show x1 + ((0 : Nat) : Int) = x1 by omega]
theorem d252 {x : Int} {σ : Sg} (h : 0 ≤ x) : Dd 252 [vI x] σ (rI (cw 4 (x % 10000)) σ) := by
  refine b252 ?_
  rw [tm h]
  have e := l252 (d0 := some (vI x)) 4 0 (x % 10000) σ (by omega) (by show x % 10000 < 10000; omega) (by omega) (by omega) (by omega)
  rw [Int.zero_add] at e
  exact e
theorem l253 {d0 : Option AV} {K : Nat} (hK : K ≤ 10) : ∀ (d : Nat) (x2 : Int) (σ : Sg), d ≤ K → 0 ≤ x2 → C253_8 d0 K x2 ((K : Int) - d) σ (rI (dr d x2 % 10) σ) := by
  intro d
  induction d with
  | zero =>
    intro x2 σ hd h
    refine b253_8 ?_
    rw [if_neg (by omega), tm h]
    rfl
  | succ d ih =>
    intro x2 σ hd h
    refine b253_8 ?_
    rw [if_pos (by omega), td h]
    refine ⟨by omega, ?_⟩
    have e := ih (x2 / 10) σ (by omega) (by omega)
    rw [show (K : Int) - (d : Nat) = (K : Int) - ((d + 1 : Nat) : Int) + 1 by omega] at e
    exact e
theorem d253 {x : Int} {K : Nat} {σ : Sg} (h : 0 ≤ x) (hK : K ≤ 10) : Dd 253 [vI x, vI K] σ (rI (dr K (x % 10000) % 10) σ) := by
  refine b253 ?_
  rw [tm h]
  have e := l253 (d0 := some (vI x)) hK K (x % 10000) σ (Nat.le_refl K) (by omega)
  rw [show (K : Int) - (K : Nat) = 0 by omega] at e
  exact e
def Jt (e : Nat → Nat → Bool) (a b : Nat) (σ : Sg) (i j : Nat) : Prop := ∀ p q : Nat, p ≤ a → q ≤ b → (p < i ∨ q = 0 ∨ (p = i ∧ q < j)) → σ 695 (5 * p + q) = ((lcT e p q : Nat) : Int)
def Zl (σ : Sg) : Prop := ∀ q : Nat, q ≤ 4 → σ 695 q = 0 ∧ σ 695 (5 * q) = 0
def Sm (σ σ' : Sg) : Prop := ∀ c k, ¬ c = 695 → σ' c k = σ c k
theorem l254i {x y : Int} (hx : 0 ≤ x) (hy : 0 ≤ y) {a b i : Nat} (ha : a ≤ 4) (hb : b ≤ 4) (hi : 1 ≤ i ∧ i ≤ a) : ∀ (d j : Nat) (σ : Sg), j + d = b + 1 → 1 ≤ j → Jt (eqd (x % 10000) (y % 10000)) a b σ i j → Zl σ → ∃ σ', Jt (eqd (x % 10000) (y % 10000)) a b σ' i (b + 1) ∧ Zl σ' ∧ Sm σ σ' ∧ ∀ o, (∀ d6 d7, C254_40 x y a b ((i : Int) + 1) d6 d7 σ' o) → ∀ d7, C254_49 x y a b i j d7 σ o := by
  intro d
  induction d with
  | zero =>
    intro j σ hj h1 hJ hZ
    have hjb : j = b + 1 := by omega
    subst hjb
    refine ⟨σ, hJ, hZ, fun _ _ _ => rfl, fun o H d7 => ?_⟩
    refine b254_49 ?_
    rw [if_neg (by omega)]
    exact ⟨by omega, H _ _⟩
  | succ d ih =>
    intro j σ hj h1 hJ hZ
    have t1 : ((((5 * (i : Int)) + (j : Int)) - 1)).toNat = 5 * i + (j - 1) := by omega
    have t2 : (((5 * ((i : Int) - 1)) + (j : Int))).toNat = 5 * (i - 1) + j := by omega
    have t3 : ((((5 * ((i : Int) - 1)) + (j : Int)) - 1)).toNat = 5 * (i - 1) + (j - 1) := by omega
    have t4 : (((5 * (i : Int)) + (j : Int))).toNat = 5 * i + j := by omega
    have v1 := hJ i (j - 1) hi.2 (by omega) (by omega)
    have v2 := hJ (i - 1) j (by omega) (by omega) (by omega)
    have v3 := hJ (i - 1) (j - 1) (by omega) (by omega) (by omega)
    have b1 := lcT_le (e := eqd (x % 10000) (y % 10000)) i (j - 1)
    have b2 := lcT_le (e := eqd (x % 10000) (y % 10000)) (i - 1) j
    have b3 := lcT_le (e := eqd (x % 10000) (y % 10000)) (i - 1) (j - 1)
    have hv : (if dr (i - 1) (x % 10000) % 10 = dr (j - 1) (y % 10000) % 10 then (((lcT (eqd (x % 10000) (y % 10000)) (i - 1) (j - 1) : Nat) : Int) + 1) else (if ((lcT (eqd (x % 10000) (y % 10000)) i (j - 1) : Nat) : Int) < ((lcT (eqd (x % 10000) (y % 10000)) (i - 1) j : Nat) : Int) then ((lcT (eqd (x % 10000) (y % 10000)) (i - 1) j : Nat) : Int) else ((lcT (eqd (x % 10000) (y % 10000)) i (j - 1) : Nat) : Int))) = ((lcT (eqd (x % 10000) (y % 10000)) i j : Nat) : Int) := by
      have e := lcT_s (e := eqd (x % 10000) (y % 10000)) (i - 1) (j - 1)
      rw [show i - 1 + 1 = i by omega, show j - 1 + 1 = j by omega] at e
      rw [e]
      by_cases he : dr (i - 1) (x % 10000) % 10 = dr (j - 1) (y % 10000) % 10
      · rw [if_pos he, if_pos (show eqd (x % 10000) (y % 10000) (i - 1) (j - 1) = true from decide_eq_true he)]
        omega
      · rw [if_neg he, if_neg (show ¬ eqd (x % 10000) (y % 10000) (i - 1) (j - 1) = true from fun h => he (of_decide_eq_true h))]
        split <;> omega
    have hJ' : Jt (eqd (x % 10000) (y % 10000)) a b (upS σ 695 (5 * i + j) ((lcT (eqd (x % 10000) (y % 10000)) i j : Nat) : Int)) i (j + 1) := by
      intro p q hp hq hc
      by_cases hpq : p = i ∧ q = j
      · rw [hpq.1, hpq.2, up_s]
      · rw [up_k (by omega)]
        exact hJ p q hp hq (by omega)
    have hZ' : Zl (upS σ 695 (5 * i + j) ((lcT (eqd (x % 10000) (y % 10000)) i j : Nat) : Int)) := by
      intro q hq
      rw [up_k (by omega), up_k (by omega)]
      exact hZ q hq
    obtain ⟨σ', g1, g2, g3, g4⟩ := ih (j + 1) _ (by omega) (by omega) hJ' hZ'
    refine ⟨σ', g1, g2, fun c k hc => by rw [g3 c k hc, up_a hc], fun o H d7 => ?_⟩
    have e := g4 o H
    rw [show (((j + 1 : Nat)) : Int) = (j : Int) + 1 by omega] at e
    refine b254_49 ?_
    rw [if_pos (by omega), t1, t2, v1, v2]
    refine ⟨by omega, by omega, by omega, by omega, by omega, by omega, by omega, by omega, by intro _; omega, by intro _; omega, by intro _; omega, by intro _; omega, by intro _; omega, by intro _; omega, by intro _; omega, by intro _; omega, ?_⟩
    refine b254_118 ⟨by omega, by omega, by omega, ?_⟩
    have w1 := d253 (x := x) (K := i - 1) (σ := σ) hx (by omega)
    have w2 := d253 (x := y) (K := j - 1) (σ := σ) hy (by omega)
    rw [show (((i - 1 : Nat)) : Int) = (i : Int) - 1 by omega] at w1
    rw [show (((j - 1 : Nat)) : Int) = (j : Int) - 1 by omega] at w2
    refine ⟨_, _, w1, by omega, _, _, w2, ?_⟩
    rw [t3, v3]
    refine ⟨by intro _; omega, by intro _; omega, by intro _; omega, by intro _; omega, by intro _; omega, by intro _; omega, ?_⟩
    refine b254_173 ⟨by omega, by omega, ?_⟩
    rw [t4, hv]
    exact e _
theorem l254o {x y : Int} (hx : 0 ≤ x) (hy : 0 ≤ y) {a b : Nat} (ha : a ≤ 4) (hb : b ≤ 4) : ∀ (d i : Nat) (σ : Sg), i + d = a + 1 → 1 ≤ i → Jt (eqd (x % 10000) (y % 10000)) a b σ i 1 → Zl σ → ∃ σ', Jt (eqd (x % 10000) (y % 10000)) a b σ' (a + 1) 1 ∧ Zl σ' ∧ Sm σ σ' ∧ ∀ o, (∀ d6 d7, C254_40 x y a b ((a : Int) + 1) d6 d7 σ' o) → ∀ d6 d7, C254_40 x y a b i d6 d7 σ o := by
  intro d
  induction d with
  | zero =>
    intro i σ hi h1 hJ hZ
    have hia : i = a + 1 := by omega
    subst hia
    exact ⟨σ, hJ, hZ, fun _ _ _ => rfl, fun o H => H⟩
  | succ d ih =>
    intro i σ hi h1 hJ hZ
    obtain ⟨σ1, g1, g2, g3, g4⟩ := l254i hx hy ha hb ⟨h1, by omega⟩ b 1 σ (by omega) (Nat.le_refl 1) hJ hZ
    have hJ2 : Jt (eqd (x % 10000) (y % 10000)) a b σ1 (i + 1) 1 := by
      intro p q hp hq hc
      exact g1 p q hp hq (by omega)
    obtain ⟨σ2, f1, f2, f3, f4⟩ := ih (i + 1) σ1 (by omega) (by omega) hJ2 g2
    refine ⟨σ2, f1, f2, fun c k hc => by rw [f3 c k hc, g3 c k hc], fun o H d6 d7 => ?_⟩
    refine b254_40 ?_
    rw [if_pos (by omega)]
    have e := f4 o H
    rw [show (((i + 1 : Nat)) : Int) = (i : Int) + 1 by omega] at e
    exact g4 o e d7
theorem d254 {x y : Int} {σ : Sg} (hx : 0 ≤ x) (hy : 0 ≤ y) (hZ : Zl σ) : ∃ σ', Dd 254 [vA 682, vI x, vI y] σ (rI (lik x y) σ') ∧ Zl σ' ∧ Sm σ σ' := by
  by_cases h1 : mkP x
  · refine ⟨σ, b254 ⟨_, _, d249, ?_⟩, hZ, fun _ _ _ => rfl⟩
    rw [if_pos h1, if_neg (by decide)]
    refine b254_14 ?_
    unfold lik
    rw [if_pos (Or.inl h1)]
  · by_cases h2 : mkP y
    · refine ⟨σ, b254 ⟨_, _, d249, ?_⟩, hZ, fun _ _ _ => rfl⟩
      rw [if_neg h1, if_pos rfl]
      refine ⟨_, _, d249, ?_⟩
      rw [if_pos h2, if_neg (by decide)]
      refine b254_14 ?_
      unfold lik
      rw [if_pos (Or.inr h2)]
    · have hl : lik x y = if cw 4 (x % 10000) + cw 4 (y % 10000) = 0 then 100 else 200 * ((lcT (eqd (x % 10000) (y % 10000)) (cw 4 (x % 10000)) (cw 4 (y % 10000)) : Nat) : Int) / ((cw 4 (x % 10000) + cw 4 (y % 10000) : Nat) : Int) := by
        unfold lik
        rw [if_neg (show ¬ (mkP x ∨ mkP y) by intro e; rcases e with e | e; exact h1 e; exact h2 e)]
      have ca := cw_le 4 (x % 10000)
      have cb := cw_le 4 (y % 10000)
      have hJ : Jt (eqd (x % 10000) (y % 10000)) (cw 4 (x % 10000)) (cw 4 (y % 10000)) σ 1 1 := by
        intro p q hp hq hc
        rcases hc with hc | hc | hc
        · have : p = 0 := by omega
          subst this
          rw [show 5 * 0 + q = q by omega, (hZ q (by omega)).1]
          rfl
        · subst hc
          rw [lcT_0, show 5 * p + 0 = 5 * p by omega, (hZ p (by omega)).2]
          rfl
        · have : q = 0 := by omega
          subst this
          rw [lcT_0, show 5 * p + 0 = 5 * p by omega, (hZ p (by omega)).2]
          rfl
      obtain ⟨σ', hJ', hZ', hS', hf⟩ := l254o hx hy ca cb (cw 4 (x % 10000)) 1 σ (by omega) (Nat.le_refl 1) hJ hZ
      have fin : ∀ d6 d7, C254_40 x y (cw 4 (x % 10000)) (cw 4 (y % 10000)) ((1 : Nat) : Int) d6 d7 σ (rI (lik x y) σ') := by
        refine hf _ ?_
        intro d6 d7
        refine b254_40 ?_
        rw [if_neg (by omega)]
        refine ⟨by omega, ?_⟩
        by_cases h3 : cw 4 (x % 10000) + cw 4 (y % 10000) = 0
        · rw [if_pos (by omega), hl, if_pos h3]
        · rw [if_neg (by omega), hl, if_neg h3]
          have v := hJ' (cw 4 (x % 10000)) (cw 4 (y % 10000)) (Nat.le_refl _) (Nat.le_refl _) (by omega)
          by_cases h4 : cw 4 (x % 10000) = 0
          · rw [if_pos (by omega)]
            refine b254_207 ?_
            rw [h4]
            show rI (200 * ((0 : Nat) : Int) / _) σ' = _
            simp
          · rw [if_neg (by omega)]
            by_cases h5 : cw 4 (y % 10000) = 0
            · rw [if_pos (by omega)]
              refine b254_207 ?_
              rw [h5, lcT_0]
              simp
            · rw [if_neg (by omega)]
              have t : (((5 * ((cw 4 (x % 10000) : Nat) : Int)) + ((cw 4 (y % 10000) : Nat) : Int))).toNat = 5 * cw 4 (x % 10000) + cw 4 (y % 10000) := by omega
              have bb := lcT_le (e := eqd (x % 10000) (y % 10000)) (cw 4 (x % 10000)) (cw 4 (y % 10000))
              rw [t, v]
              refine ⟨by omega, by omega, by omega, by omega, by omega, by omega, ?_⟩
              rw [td (by omega)]
              simp only [Int.natCast_add]
      refine ⟨σ', b254 ⟨_, _, d249, ?_⟩, hZ', hS'⟩
      rw [if_neg h1, if_pos rfl]
      refine ⟨_, _, d249, ?_⟩
      rw [if_neg h2, if_pos rfl]
      exact ⟨_, _, d252 hx, _, _, d252 hy, fin _ _⟩
end
