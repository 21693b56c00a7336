/-! The table of the longest common parts, on both sides. -/
noncomputable section
def mxI (x y : Int) : Int := if x < y then y else x
def ltr (x : Int) (g : Nat → Int) (be : Nat) (prev : Nat → Int) : Nat → Int
  | 0 => 0
  | v + 1 => if x = g (be - (v + 1)) then prev v + 1 else mxI (prev (v + 1)) (ltr x g be prev v)
/-- how many pairs there can be of the last u of one row and the last v of another -/
def lt (f g : Nat → Int) (ae be : Nat) : Nat → Nat → Int
  | 0 => fun _ => 0
  | u + 1 => ltr (f (ae - (u + 1))) g be (lt f g ae be u)
theorem ltq_0 {f g : Nat → Int} {ae be u : Nat} : lt f g ae be u 0 = 0 := by
  cases u <;> rfl
theorem ltq_s {f g : Nat → Int} {ae be u v : Nat} : lt f g ae be (u + 1) (v + 1) = if f (ae - (u + 1)) = g (be - (v + 1)) then lt f g ae be u v + 1 else mxI (lt f g ae be u (v + 1)) (lt f g ae be (u + 1) v) := rfl
theorem lt_b {f g : Nat → Int} {ae be : Nat} : ∀ (u v : Nat), 0 ≤ lt f g ae be u v ∧ lt f g ae be u v ≤ (u : Int) ∧ lt f g ae be u v ≤ (v : Int) := by
  intro u
  induction u with
  | zero =>
    intro v
    show 0 ≤ (0 : Int) ∧ (0 : Int) ≤ ((0 : Nat) : Int) ∧ (0 : Int) ≤ (v : Int)
    omega
  | succ u ih =>
    intro v
    induction v with
    | zero =>
      rw [ltq_0]
      omega
    | succ v ihv =>
      rw [ltq_s]
      have a := ih v
      have b := ih (v + 1)
      by_cases h : f (ae - (u + 1)) = g (be - (v + 1))
      · rw [if_pos h]; omega
      · rw [if_neg h]
        unfold mxI
        split <;> omega
theorem lt_T {f g : Nat → Int} {ae be i j : Nat} (hi : i < ae) (hj : j < be) : lt f g ae be (ae - i) (be - j) = if f i = g j then lt f g ae be (ae - (i + 1)) (be - (j + 1)) + 1 else mxI (lt f g ae be (ae - (i + 1)) (be - j)) (lt f g ae be (ae - i) (be - (j + 1))) := by
  obtain ⟨u, hu⟩ : ∃ u, ae = i + 1 + u := ⟨ae - (i + 1), by omega⟩
  obtain ⟨v, hv⟩ : ∃ v, be = j + 1 + v := ⟨be - (j + 1), by omega⟩
  have e1 : ae - i = u + 1 := by omega
  have e2 : be - j = v + 1 := by omega
  have e3 : ae - (i + 1) = u := by omega
  have e4 : be - (j + 1) = v := by omega
  rw [e1, e2, e3, e4, ltq_s, show ae - (u + 1) = i by omega, show be - (v + 1) = j by omega]
/-- rows of the same numbers have the same table -/
theorem lt_cg {f g f' g' : Nat → Int} {ae be : Nat} (hf : ∀ i, i < ae → f' i = f i) (hg : ∀ j, j < be → g' j = g j) : ∀ (u v : Nat), u ≤ ae → v ≤ be → lt f' g' ae be u v = lt f g ae be u v := by
  intro u
  induction u with
  | zero => intro v _ _; rfl
  | succ u ih =>
    intro v
    induction v with
    | zero => intro _ _; rfl
    | succ v ihv =>
      intro h1 h2
      rw [ltq_s, ltq_s, hf _ (by omega), hg _ (by omega), ih v (by omega) (by omega), ih (v + 1) (by omega) h2, ihv h1 (by omega)]
theorem d22 {i j : Nat} {σ : Sg} (hi : i ≤ 40) (hj : j ≤ 40) : Dd 22 [vA 332, vI i, vI j] σ (rI (σ 349 (41 * i + j)) σ) := by
  refine b22 ⟨by omega, by omega, fun _ _ => by omega, ?_⟩
  rw [if_pos (by omega), if_pos (by omega), show ((41 * (i : Int)) + (j : Int)).toNat = 41 * i + j by omega]
theorem d23 {i j : Nat} {v : Int} {σ : Sg} (hi : i ≤ 40) (hj : j ≤ 40) : Dd 23 [vA 332, vI i, vI j, vI v] σ (rV (upS σ 349 (41 * i + j) v)) := by
  refine b23 ⟨by omega, by omega, ?_⟩
  rw [if_pos (by omega), if_pos (by omega), show ((41 * (i : Int)) + (j : Int)).toNat = 41 * i + j by omega]
  exact ⟨by omega, rfl⟩
theorem l21b {f g : Nat → Int} {a ae b be n1 n2 i : Nat} {σ0 : Sg} (ha : a ≤ ae) (hb : b ≤ be) (h1 : ae ≤ n1) (h2 : be ≤ n2) (h3 : n1 ≤ 40) (h4 : n2 ≤ 40) (w1 : wR σ0 333) (w2 : wR σ0 335) (z1 : σ0 333 1 = (n1 : Nat)) (z2 : σ0 335 1 = (n2 : Nat)) (hf : ∀ i, i < n1 → σ0 334 i = f i) (hg : ∀ i, i < n2 → σ0 336 i = g i) (hi : i ≤ ae) : ∀ (e : Nat) (σ : Sg), b + e ≤ be + 1 → (∀ c x, ¬ c = 349 → σ c x = σ0 c x) → (∀ i' j', i < i' → i' ≤ ae → b ≤ j' → j' ≤ be → σ 349 (41 * i' + j') = lt f g ae be (ae - i') (be - j')) → (∀ j', b + e ≤ j' → j' ≤ be → σ 349 (41 * i + j') = lt f g ae be (ae - i) (be - j')) → ∃ s, (∀ {o : Rs}, (∀ d6 d7, C21_3 a ae b be ((i : Int) + (-1)) d6 d7 s o) → ∀ d7, C21_13 a ae b be i (((b + e : Nat) : Int) - 1) d7 σ o) ∧ (∀ c x, ¬ c = 349 → s c x = σ0 c x) ∧ ∀ i' j', i ≤ i' → i' ≤ ae → b ≤ j' → j' ≤ be → s 349 (41 * i' + j') = lt f g ae be (ae - i') (be - j') := by
  intro e
  induction e with
  | zero =>
    intro σ he hF hR hC
    refine ⟨σ, fun {o} hh d7 => b21_13 ?_, hF, fun i' j' q1 q2 q3 q4 => ?_⟩
    · rw [if_neg (by omega)]
      exact ⟨by omega, hh _ _⟩
    · by_cases y : i' = i
      · rw [y]; exact hC j' (by omega) q4
      · exact hR i' j' (by omega) q2 q3 q4
  | succ e ih =>
    intro σ he hF hR hC
    obtain ⟨j, hj⟩ : ∃ j, j = b + e := ⟨_, rfl⟩
    have ej : ((b + (e + 1) : Nat) : Int) - 1 = (j : Int) := by omega
    have e2 : (j : Int) + (-1) = ((b + e : Nat) : Int) - 1 := by omega
    obtain ⟨v, hv⟩ : ∃ v, v = lt f g ae be (ae - i) (be - j) := ⟨_, rfl⟩
    have bv := lt_b (f := f) (g := g) (ae := ae) (be := be) (ae - i) (be - j)
    obtain ⟨s, a1, a2, a3⟩ := ih (upS σ 349 (41 * i + j) v) (by omega) (fun c x h => by rw [up_a h]; exact hF c x h) (fun i' j' q1 q2 q3 q4 => by
      rw [up_k (by omega)]
      exact hR i' j' q1 q2 q3 q4) (fun j' q1 q2 => by
      by_cases y : j' = j
      · rw [y, up_s]; exact hv
      · rw [up_k (by omega)]
        exact hC j' (by omega) q2)
    have go : ∀ {o : Rs}, (∀ d6 d7, C21_3 a ae b be ((i : Int) + (-1)) d6 d7 s o) → C21_98 a ae b be i j v σ o := by
      intro o hh
      refine b21_98 ⟨_, d23 (by omega) (by omega), by omega, ?_⟩
      rw [e2]
      exact a1 hh _
    refine ⟨s, fun {o} hh d7 => ?_, a2, a3⟩
    rw [ej]
    refine b21_13 ?_
    rw [if_pos (by omega)]
    by_cases c1 : i < ae
    · rw [if_pos (by omega)]
      by_cases c2 : j < be
      · rw [if_pos (by omega)]
        have e147 := d147 (σ := σ) (a := 333) (i := (i : Int)) ⟨w1.1, by rw [hF _ _ (by decide)]; exact w1.2⟩
        rw [at_on (n := n1) (f := f) (by rw [hF _ _ (by decide)]; exact z1) (fun i hi => by rw [hF _ _ (by decide)]; exact hf i hi) (by omega)] at e147
        have f147 := d147 (σ := σ) (a := 335) (i := (j : Int)) ⟨w2.1, by rw [hF _ _ (by decide)]; exact w2.2⟩
        rw [at_on (n := n2) (f := g) (by rw [hF _ _ (by decide)]; exact z2) (fun i hi => by rw [hF _ _ (by decide)]; exact hg i hi) (by omega)] at f147
        have T := lt_T (f := f) (g := g) c1 c2
        rw [← hv] at T
        have q11 := d22 (σ := σ) (i := i + 1) (j := j + 1) (by omega) (by omega)
        have q10 := d22 (σ := σ) (i := i + 1) (j := j) (by omega) (by omega)
        have q01 := d22 (σ := σ) (i := i) (j := j + 1) (by omega) (by omega)
        rw [hR (i + 1) (j + 1) (by omega) (by omega) (by omega) (by omega), show ((i + 1 : Nat) : Int) = (i : Int) + 1 by omega, show ((j + 1 : Nat) : Int) = (j : Int) + 1 by omega] at q11
        rw [hR (i + 1) j (by omega) (by omega) (by omega) (by omega), show ((i + 1 : Nat) : Int) = (i : Int) + 1 by omega] at q10
        rw [hC (j + 1) (by omega) (by omega), show ((j + 1 : Nat) : Int) = (j : Int) + 1 by omega] at q01
        refine ⟨_, _, e147, _, _, f147, ?_⟩
        have bv2 := lt_b (f := f) (g := g) (ae := ae) (be := be) (ae - (i + 1)) (be - (j + 1))
        by_cases y : f i = g j
        · rw [if_pos y]
          rw [if_pos y] at T
          refine ⟨by omega, by omega, _, _, q11, by omega, b21_96 ?_⟩
          rw [show 1 + lt f g ae be (ae - (i + 1)) (be - (j + 1)) = v by omega]
          exact go hh
        · rw [if_neg y]
          rw [if_neg y] at T
          refine ⟨by omega, _, _, q10, by omega, _, _, q01, b21_96 ?_⟩
          unfold mxI at T
          rw [← T]
          exact go hh
      · rw [if_neg (by omega)]
        have v0 : v = 0 := by
          rw [hv, show be - j = 0 by omega, ltq_0]
        rw [v0] at go
        exact go hh
    · rw [if_neg (by omega)]
      have v0 : v = 0 := by
        rw [hv, show ae - i = 0 by omega]
        rfl
      rw [v0] at go
      exact go hh
/-- Comparer.fillTable -/
theorem d21 {f g : Nat → Int} {a ae b be n1 n2 : Nat} {σ0 : Sg} (ha : a ≤ ae) (hb : b ≤ be) (h1 : ae ≤ n1) (h2 : be ≤ n2) (h3 : n1 ≤ 40) (h4 : n2 ≤ 40) (w1 : wR σ0 333) (w2 : wR σ0 335) (z1 : σ0 333 1 = (n1 : Nat)) (z2 : σ0 335 1 = (n2 : Nat)) (hf : ∀ i, i < n1 → σ0 334 i = f i) (hg : ∀ i, i < n2 → σ0 336 i = g i) : ∃ s, Dd 21 [vA 332, vI a, vI ae, vI b, vI be] σ0 (rV s) ∧ (∀ i j, a ≤ i → i ≤ ae → b ≤ j → j ≤ be → s 349 (41 * i + j) = lt f g ae be (ae - i) (be - j)) ∧ ∀ c x, ¬ c = 349 → s c x = σ0 c x := by
  have L : ∀ (d : Nat) (σ : Sg), a + d ≤ ae + 1 → (∀ c x, ¬ c = 349 → σ c x = σ0 c x) → (∀ i' j', a + d ≤ i' → i' ≤ ae → b ≤ j' → j' ≤ be → σ 349 (41 * i' + j') = lt f g ae be (ae - i') (be - j')) → ∃ s, (∀ d6 d7, C21_3 a ae b be (((a + d : Nat) : Int) - 1) d6 d7 σ (rV s)) ∧ (∀ i j, a ≤ i → i ≤ ae → b ≤ j → j ≤ be → s 349 (41 * i + j) = lt f g ae be (ae - i) (be - j)) ∧ ∀ c x, ¬ c = 349 → s c x = σ0 c x := by
    intro d
    induction d with
    | zero =>
      intro σ hd hF hR
      refine ⟨σ, fun d6 d7 => b21_3 ?_, fun i j q1 q2 q3 q4 => hR i j (by omega) q2 q3 q4, hF⟩
      rw [if_neg (by omega)]
    | succ d ih =>
      intro σ hd hF hR
      obtain ⟨s1, c1, c2, c3⟩ := l21b (i := a + d) ha hb h1 h2 h3 h4 w1 w2 z1 z2 hf hg (by omega) (be + 1 - b) σ (by omega) hF (fun i' j' q1 q2 q3 q4 => hR i' j' (by omega) q2 q3 q4) (fun j' q1 q2 => by omega)
      obtain ⟨s, e1, e2, e3⟩ := ih s1 (by omega) c2 (fun i' j' q1 q2 q3 q4 => c3 i' j' q1 q2 q3 q4)
      refine ⟨s, fun d6 d7 => b21_3 ?_, e2, e3⟩
      rw [show ((a + (d + 1) : Nat) : Int) - 1 = ((a + d : Nat) : Int) by omega, if_pos (by omega)]
      rw [show ((a + d : Nat) : Int) - 1 = ((a + d : Nat) : Int) + (-1) by omega] at e1
      have z := c1 e1 d7
      rw [show ((b + (be + 1 - b) : Nat) : Int) - 1 = (be : Int) by omega] at z
      exact z
  obtain ⟨s, e1, e2, e3⟩ := L (ae + 1 - a) σ0 (by omega) (fun _ _ _ => rfl) (fun i' j' q1 q2 q3 q4 => by omega)
  rw [show ((a + (ae + 1 - a) : Nat) : Int) - 1 = (ae : Int) by omega] at e1
  exact ⟨s, b21 (e1 _ _), e2, e3⟩
/-- the reference's laysTable -/
theorem l265b {f g : Nat → Int} {a ae b be n1 n2 i : Nat} {σ0 : Sg} (ha : a ≤ ae) (hb : b ≤ be) (h1 : ae ≤ n1) (h2 : be ≤ n2) (h3 : n1 ≤ 64) (h4 : n2 ≤ 64) (hf : ∀ i, i < n1 → σ0 691 i = f i) (hg : ∀ i, i < n2 → σ0 692 i = g i) (hi : i ≤ ae) : ∀ (e : Nat) (σ : Sg), b + e ≤ be + 1 → (∀ c x, ¬ c = 694 → σ c x = σ0 c x) → (∀ i' j', i < i' → i' ≤ ae → b ≤ j' → j' ≤ be → σ 694 (65 * i' + j') = lt f g ae be (ae - i') (be - j')) → (∀ j', b + e ≤ j' → j' ≤ be → σ 694 (65 * i + j') = lt f g ae be (ae - i) (be - j')) → ∃ s, (∀ {o : Rs}, (∀ d6 d7 d8 d9, C265_3 a ae b be ((i : Int) + (-1)) d6 d7 d8 d9 s o) → ∀ d7 d8 d9, C265_13 a ae b be i (((b + e : Nat) : Int) - 1) d7 d8 d9 σ o) ∧ (∀ c x, ¬ c = 694 → s c x = σ0 c x) ∧ ∀ i' j', i ≤ i' → i' ≤ ae → b ≤ j' → j' ≤ be → s 694 (65 * i' + j') = lt f g ae be (ae - i') (be - j') := by
  intro e
  induction e with
  | zero =>
    intro σ he hF hR hC
    refine ⟨σ, fun {o} hh d7 d8 d9 => b265_13 ?_, hF, fun i' j' q1 q2 q3 q4 => ?_⟩
    · rw [if_neg (by omega)]
      exact ⟨by omega, hh _ _ _ _⟩
    · by_cases y : i' = i
      · rw [y]; exact hC j' (by omega) q4
      · exact hR i' j' (by omega) q2 q3 q4
  | succ e ih =>
    intro σ he hF hR hC
    obtain ⟨j, hj⟩ : ∃ j, j = b + e := ⟨_, rfl⟩
    have ej : ((b + (e + 1) : Nat) : Int) - 1 = (j : Int) := by omega
    have e2 : (j : Int) + (-1) = ((b + e : Nat) : Int) - 1 := by omega
    obtain ⟨v, hv⟩ : ∃ v, v = lt f g ae be (ae - i) (be - j) := ⟨_, rfl⟩
    obtain ⟨s, a1, a2, a3⟩ := ih (upS σ 694 (65 * i + j) v) (by omega) (fun c x h => by rw [up_a h]; exact hF c x h) (fun i' j' q1 q2 q3 q4 => by
      rw [up_k (by omega)]
      exact hR i' j' q1 q2 q3 q4) (fun j' q1 q2 => by
      by_cases y : j' = j
      · rw [y, up_s]; exact hv
      · rw [up_k (by omega)]
        exact hC j' (by omega) q2)
    have go : ∀ {o : Rs}, (∀ d6 d7 d8 d9, C265_3 a ae b be ((i : Int) + (-1)) d6 d7 d8 d9 s o) → ∀ d8 d9, C265_124 a ae b be i j v d8 d9 σ o := by
      intro o hh d8 d9
      refine b265_124 ⟨by omega, by omega, by omega, by omega, ?_⟩
      rw [e2, show ((65 * (i : Int)) + (j : Int)).toNat = 65 * i + j by omega]
      exact a1 hh _ _ _
    refine ⟨s, fun {o} hh d7 d8 d9 => ?_, a2, a3⟩
    rw [ej]
    refine b265_13 ?_
    rw [if_pos (by omega)]
    by_cases c1 : i < ae
    · rw [if_pos (by omega)]
      by_cases c2 : j < be
      · rw [if_pos (by omega)]
        have T := lt_T (f := f) (g := g) c1 c2
        rw [← hv] at T
        have bv2 := lt_b (f := f) (g := g) (ae := ae) (be := be) (ae - (i + 1)) (be - (j + 1))
        rw [show ((i : Nat) : Int).toNat = i by omega, show ((j : Nat) : Int).toNat = j by omega, show ((65 * ((i : Int) + 1)) + (j : Int)).toNat = 65 * (i + 1) + j by omega, show (((65 * (i : Int)) + (j : Int)) + 1).toNat = 65 * i + (j + 1) by omega, show (((65 * ((i : Int) + 1)) + (j : Int)) + 1).toNat = 65 * (i + 1) + (j + 1) by omega, hF 691 i (by decide), hF 692 j (by decide), hf i (by omega), hg j (by omega), hR (i + 1) (j + 1) (by omega) (by omega) (by omega) (by omega), hR (i + 1) j (by omega) (by omega) (by omega) (by omega), hC (j + 1) (by omega) (by omega)]
        refine ⟨by omega, by omega, by omega, by omega, by omega, by omega, by omega, by omega, by omega, by omega, fun _ => by omega, fun _ => by omega, fun _ => by omega, fun _ => by omega, fun _ => by omega, fun _ => by omega, b265_122 ?_⟩
        have ev : (if f i = g j then lt f g ae be (ae - (i + 1)) (be - (j + 1)) + 1 else (if lt f g ae be (ae - i) (be - (j + 1)) < lt f g ae be (ae - (i + 1)) (be - j) then lt f g ae be (ae - (i + 1)) (be - j) else lt f g ae be (ae - i) (be - (j + 1)))) = v := by
          rw [T]
          by_cases y : f i = g j
          · rw [if_pos y, if_pos y]
          · rw [if_neg y, if_neg y]
            unfold mxI
            by_cases y2 : lt f g ae be (ae - i) (be - (j + 1)) < lt f g ae be (ae - (i + 1)) (be - j)
            · rw [if_pos y2, if_neg (by omega)]
            · rw [if_neg y2]
              by_cases y3 : lt f g ae be (ae - (i + 1)) (be - j) < lt f g ae be (ae - i) (be - (j + 1))
              · rw [if_pos y3]
              · rw [if_neg y3]; omega
        rw [ev]
        exact go hh _ _
      · rw [if_neg (by omega)]
        have v0 : v = 0 := by
          rw [hv, show be - j = 0 by omega, ltq_0]
        rw [v0] at go
        exact go hh _ _
    · rw [if_neg (by omega)]
      have v0 : v = 0 := by
        rw [hv, show ae - i = 0 by omega]
        rfl
      rw [v0] at go
      exact go hh _ _
theorem d265 {f g : Nat → Int} {a ae b be n1 n2 : Nat} {σ0 : Sg} (ha : a ≤ ae) (hb : b ≤ be) (h1 : ae ≤ n1) (h2 : be ≤ n2) (h3 : n1 ≤ 64) (h4 : n2 ≤ 64) (hf : ∀ i, i < n1 → σ0 691 i = f i) (hg : ∀ i, i < n2 → σ0 692 i = g i) : ∃ s, Dd 265 [vA 682, vI a, vI ae, vI b, vI be] σ0 (rV s) ∧ (∀ i j, a ≤ i → i ≤ ae → b ≤ j → j ≤ be → s 694 (65 * i + j) = lt f g ae be (ae - i) (be - j)) ∧ ∀ c x, ¬ c = 694 → s c x = σ0 c x := by
  have L : ∀ (d : Nat) (σ : Sg), a + d ≤ ae + 1 → (∀ c x, ¬ c = 694 → σ c x = σ0 c x) → (∀ i' j', a + d ≤ i' → i' ≤ ae → b ≤ j' → j' ≤ be → σ 694 (65 * i' + j') = lt f g ae be (ae - i') (be - j')) → ∃ s, (∀ d6 d7 d8 d9, C265_3 a ae b be (((a + d : Nat) : Int) - 1) d6 d7 d8 d9 σ (rV s)) ∧ (∀ i j, a ≤ i → i ≤ ae → b ≤ j → j ≤ be → s 694 (65 * i + j) = lt f g ae be (ae - i) (be - j)) ∧ ∀ c x, ¬ c = 694 → s c x = σ0 c x := by
    intro d
    induction d with
    | zero =>
      intro σ hd hF hR
      refine ⟨σ, fun d6 d7 d8 d9 => b265_3 ?_, fun i j q1 q2 q3 q4 => hR i j (by omega) q2 q3 q4, hF⟩
      rw [if_neg (by omega)]
    | succ d ih =>
      intro σ hd hF hR
      obtain ⟨s1, c1, c2, c3⟩ := l265b (i := a + d) ha hb h1 h2 h3 h4 hf hg (by omega) (be + 1 - b) σ (by omega) hF (fun i' j' q1 q2 q3 q4 => hR i' j' (by omega) q2 q3 q4) (fun j' q1 q2 => by omega)
      obtain ⟨s, e1, e2, e3⟩ := ih s1 (by omega) c2 (fun i' j' q1 q2 q3 q4 => c3 i' j' q1 q2 q3 q4)
      refine ⟨s, fun d6 d7 d8 d9 => b265_3 ?_, e2, e3⟩
      rw [show ((a + (d + 1) : Nat) : Int) - 1 = ((a + d : Nat) : Int) by omega, if_pos (by omega)]
      rw [show ((a + d : Nat) : Int) - 1 = ((a + d : Nat) : Int) + (-1) by omega] at e1
      have z := c1 e1 d7 d8 d9
      rw [show ((b + (be + 1 - b) : Nat) : Int) - 1 = (be : Int) by omega] at z
      exact z
  obtain ⟨s, e1, e2, e3⟩ := L (ae + 1 - a) σ0 (by omega) (fun _ _ _ => rfl) (fun i' j' q1 q2 q3 q4 => by omega)
  rw [show ((a + (ae + 1 - a) : Nat) : Int) - 1 = (ae : Int) by omega] at e1
  exact ⟨s, b265 (e1 _ _ _ _), e2, e3⟩
/-- the reference's rows are loaded -/
theorem d263 {A off n N : Nat} {σ : Sg} (hA : qA A 0 N = true) (hne : ¬ A = 691) (hA2 : ¬ A = 682) (h1 : off + n ≤ N) (h2 : n ≤ 64) (h3 : N ≤ 5000) : ∃ s, Dd 263 [vA 682, vA A, vI off, vI n] σ (rV s) ∧ (∀ i, i < n → s 691 i = σ A (off + i)) ∧ s 682 12 = (n : Nat) ∧ ∀ c x, ¬ c = 691 → ¬ (c = 682 ∧ x = 12) → s c x = σ c x := by
  have L : ∀ (d k : Nat) (σ' : Sg), k + d = n → (∀ c x, ¬ c = 691 → σ' c x = upS σ 682 12 n c x) → (∀ i, i < k → σ' 691 i = (upS σ 682 12 n) A (off + i)) → ∃ s, C263_8 A off n k σ' (rV s) ∧ (∀ i, i < n → s 691 i = (upS σ 682 12 n) A (off + i)) ∧ ∀ c x, ¬ c = 691 → s c x = upS σ 682 12 n c x := by
    intro d
    induction d with
    | zero =>
      intro k σ' hk hF hv
      refine ⟨σ', b263_8 hA ?_, fun i hi => hv i (by omega), hF⟩
      rw [if_neg (by omega)]
    | succ d ih =>
      intro k σ' hk hF hv
      obtain ⟨s, a1, a2, a3⟩ := ih (k + 1) (upS σ' 691 k (σ' A (off + k))) (by omega) (fun c x h => by rw [up_a h]; exact hF c x h) (fun i hi => by
        by_cases y : i = k
        · rw [y, up_s]; exact hF _ _ hne
        · rw [up_k y]; exact hv i (by omega))
      refine ⟨s, b263_8 hA ?_, a2, a3⟩
      rw [if_pos (by omega), show ((k : Nat) : Int).toNat = k by omega, show ((off : Int) + (k : Int)).toNat = off + k by omega, show (k : Int) + 1 = ((k + 1 : Nat) : Int) by omega]
      exact ⟨by omega, by omega, by omega, by omega, a1⟩
  obtain ⟨s, e1, e2, e3⟩ := L n 0 (upS σ 682 12 n) (by omega) (fun _ _ _ => rfl) (fun i hi => absurd hi (Nat.not_lt_zero i))
  refine ⟨s, b263 e1, fun i hi => by rw [e2 i hi, up_a hA2], by rw [e3 _ _ (by decide), up_s], fun c x h h' => ?_⟩
  rw [e3 c x h]
  unfold upS
  rw [if_neg h']
theorem d264 {A off n N : Nat} {σ : Sg} (hA : qA A 0 N = true) (hne : ¬ A = 692) (hA2 : ¬ A = 682) (h1 : off + n ≤ N) (h2 : n ≤ 64) (h3 : N ≤ 5000) : ∃ s, Dd 264 [vA 682, vA A, vI off, vI n] σ (rV s) ∧ (∀ i, i < n → s 692 i = σ A (off + i)) ∧ s 682 13 = (n : Nat) ∧ ∀ c x, ¬ c = 692 → ¬ (c = 682 ∧ x = 13) → s c x = σ c x := by
  have L : ∀ (d k : Nat) (σ' : Sg), k + d = n → (∀ c x, ¬ c = 692 → σ' c x = upS σ 682 13 n c x) → (∀ i, i < k → σ' 692 i = (upS σ 682 13 n) A (off + i)) → ∃ s, C264_8 A off n k σ' (rV s) ∧ (∀ i, i < n → s 692 i = (upS σ 682 13 n) A (off + i)) ∧ ∀ c x, ¬ c = 692 → s c x = upS σ 682 13 n c x := by
    intro d
    induction d with
    | zero =>
      intro k σ' hk hF hv
      refine ⟨σ', b264_8 hA ?_, fun i hi => hv i (by omega), hF⟩
      rw [if_neg (by omega)]
    | succ d ih =>
      intro k σ' hk hF hv
      obtain ⟨s, a1, a2, a3⟩ := ih (k + 1) (upS σ' 692 k (σ' A (off + k))) (by omega) (fun c x h => by rw [up_a h]; exact hF c x h) (fun i hi => by
        by_cases y : i = k
        · rw [y, up_s]; exact hF _ _ hne
        · rw [up_k y]; exact hv i (by omega))
      refine ⟨s, b264_8 hA ?_, a2, a3⟩
      rw [if_pos (by omega), show ((k : Nat) : Int).toNat = k by omega, show ((off : Int) + (k : Int)).toNat = off + k by omega, show (k : Int) + 1 = ((k + 1 : Nat) : Int) by omega]
      exact ⟨by omega, by omega, by omega, by omega, a1⟩
  obtain ⟨s, e1, e2, e3⟩ := L n 0 (upS σ 682 13 n) (by omega) (fun _ _ _ => rfl) (fun i hi => absurd hi (Nat.not_lt_zero i))
  refine ⟨s, b264 e1, fun i hi => by rw [e2 i hi, up_a hA2], by rw [e3 _ _ (by decide), up_s], fun c x h h' => ?_⟩
  rw [e3 c x h]
  unfold upS
  rw [if_neg h']
end
