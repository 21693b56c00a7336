/-! Beginnings and ends of a stretch, on both sides. -/
noncomputable section
def hd (f g : Nat → Int) (a ae b be : Nat) : Nat := mt (fun d => decide (f (a + d) = g (b + d))) (mn (ae - a) (be - b))
def tl (f g : Nat → Int) (a ae b be : Nat) : Nat := mt (fun d => decide (f (ae - 1 - d) = g (be - 1 - d))) (mn (ae - a) (be - b))
def pr (i j n : Nat) (G : Nat → Int) : Nat → Int := fun x => if i ≤ x ∧ x < i + n then ((j + (x - i) : Nat) : Int) else G x
theorem hd_b {f g : Nat → Int} {a ae b be : Nat} : hd f g a ae b be ≤ ae - a ∧ hd f g a ae b be ≤ be - b ∧ (∀ d, d < hd f g a ae b be → f (a + d) = g (b + d)) ∧ (hd f g a ae b be < ae - a → hd f g a ae b be < be - b → ¬ f (a + hd f g a ae b be) = g (b + hd f g a ae b be)) := by
  have h := mt_le (p := fun d => decide (f (a + d) = g (b + d))) (n := mn (ae - a) (be - b))
  have m := mn_1 (a := ae - a) (b := be - b)
  have e : mt (fun d => decide (f (a + d) = g (b + d))) (mn (ae - a) (be - b)) = hd f g a ae b be := rfl
  rw [e] at h
  refine ⟨by omega, by omega, fun d hd' => ?_, fun h1 h2 => ?_⟩
  · rw [← e] at hd'
    exact of_decide_eq_true (mt_m hd')
  · have z := mt_n (p := fun d => decide (f (a + d) = g (b + d))) (n := mn (ae - a) (be - b)) (by rw [e]; omega)
    rw [e] at z
    exact of_decide_eq_false z
theorem tl_b {f g : Nat → Int} {a ae b be : Nat} : tl f g a ae b be ≤ ae - a ∧ tl f g a ae b be ≤ be - b ∧ (∀ d, d < tl f g a ae b be → f (ae - 1 - d) = g (be - 1 - d)) ∧ (tl f g a ae b be < ae - a → tl f g a ae b be < be - b → ¬ f (ae - 1 - tl f g a ae b be) = g (be - 1 - tl f g a ae b be)) := by
  have h := mt_le (p := fun d => decide (f (ae - 1 - d) = g (be - 1 - d))) (n := mn (ae - a) (be - b))
  have m := mn_1 (a := ae - a) (b := be - b)
  have e : mt (fun d => decide (f (ae - 1 - d) = g (be - 1 - d))) (mn (ae - a) (be - b)) = tl f g a ae b be := rfl
  rw [e] at h
  refine ⟨by omega, by omega, fun d hd' => ?_, fun h1 h2 => ?_⟩
  · rw [← e] at hd'
    exact of_decide_eq_true (mt_m hd')
  · have z := mt_n (p := fun d => decide (f (ae - 1 - d) = g (be - 1 - d))) (n := mn (ae - a) (be - b)) (by rw [e]; omega)
    rw [e] at z
    exact of_decide_eq_false z
/-- the comparer's rows -/
def CR (σ : Sg) (f g : Nat → Int) (n1 n2 : Nat) : Prop := n1 ≤ 40 ∧ n2 ≤ 40 ∧ wR σ 333 ∧ wR σ 335 ∧ wR σ 337 ∧ σ 333 1 = (n1 : Nat) ∧ σ 335 1 = (n2 : Nat) ∧ σ 337 1 = (n1 : Nat) ∧ (∀ i, i < n1 → σ 334 i = f i) ∧ ∀ i, i < n2 → σ 336 i = g i
theorem CR_fr {σ s : Sg} {f g : Nat → Int} {n1 n2 : Nat} (h : ∀ c x, 333 ≤ c ∧ c ≤ 337 → s c x = σ c x) (C : CR σ f g n1 n2) : CR s f g n1 n2 := by
  obtain ⟨h1, h2, w1, w2, w3, z1, z2, z3, hf, hg⟩ := C
  exact ⟨h1, h2, ⟨w1.1, by rw [h _ _ (by decide)]; exact w1.2⟩, ⟨w2.1, by rw [h _ _ (by decide)]; exact w2.2⟩, ⟨w3.1, by rw [h _ _ (by decide)]; exact w3.2⟩, by rw [h _ _ (by decide)]; exact z1, by rw [h _ _ (by decide)]; exact z2, by rw [h _ _ (by decide)]; exact z3, fun i hi => by rw [h _ _ (by decide)]; exact hf i hi, fun i hi => by rw [h _ _ (by decide)]; exact hg i hi⟩
theorem CR_1 {σ : Sg} {f g : Nat → Int} {n1 n2 i : Nat} (C : CR σ f g n1 n2) (hi : i < n1) : Dd 147 [vA 333, vI i] σ (rI (f i) σ) := by
  obtain ⟨h1, h2, w1, w2, w3, z1, z2, z3, hf, hg⟩ := C
  have e := d147 (σ := σ) (a := 333) (i := (i : Int)) w1
  rw [at_on (n := n1) (f := f) z1 hf hi] at e
  exact e
theorem CR_2 {σ : Sg} {f g : Nat → Int} {n1 n2 i : Nat} (C : CR σ f g n1 n2) (hi : i < n2) : Dd 147 [vA 335, vI i] σ (rI (g i) σ) := by
  obtain ⟨h1, h2, w1, w2, w3, z1, z2, z3, hf, hg⟩ := C
  have e := d147 (σ := σ) (a := 335) (i := (i : Int)) w2
  rw [at_on (n := n2) (f := g) z2 hg hi] at e
  exact e
theorem CR_p {σ : Sg} {f g : Nat → Int} {n1 n2 i : Nat} {v : Int} (C : CR σ f g n1 n2) (hi : i < n1) : Dd 148 [vA 337, vI i, vI v] σ (rV (upS σ 338 i v)) := by
  obtain ⟨h1, h2, w1, w2, w3, z1, z2, z3, hf, hg⟩ := C
  have e := d148 (σ := σ) (a := 337) (i := (i : Int)) (v := v) w3
  rw [st_in (n := n1) z3 hi] at e
  exact e
/-- sameFrom -/
theorem d26 {σ : Sg} {f g : Nat → Int} {n1 n2 a ae b be : Nat} (C : CR σ f g n1 n2) (ha : a ≤ ae) (hb : b ≤ be) (h1 : ae ≤ n1) (h2 : be ≤ n2) : Dd 26 [vA 332, vI a, vI ae, vI b, vI be] σ (rI (hd f g a ae b be : Nat) σ) := by
  have c1 := C.1
  have c2 := C.2.1
  obtain ⟨q1, q2, q3, q4⟩ := hd_b (f := f) (g := g) (a := a) (ae := ae) (b := b) (be := be)
  have m := mn_1 (a := ae - a) (b := be - b)
  have L : ∀ (d k : Nat), k + d = hd f g a ae b be → C26_15 a (some (vI ae)) b (some (vI be)) (mn (ae - a) (be - b) : Nat) k σ (rI (hd f g a ae b be : Nat) σ) := by
    intro d
    induction d with
    | zero =>
      intro k hk
      have e : k = hd f g a ae b be := by omega
      subst e
      refine b26_15 ?_
      by_cases y : hd f g a ae b be < mn (ae - a) (be - b)
      · rw [if_pos (by omega), show (a : Int) + ((hd f g a ae b be : Nat) : Int) = ((a + hd f g a ae b be : Nat) : Int) by omega, show (b : Int) + ((hd f g a ae b be : Nat) : Int) = ((b + hd f g a ae b be : Nat) : Int) by omega]
        refine ⟨by omega, _, _, CR_1 C (by omega), by omega, _, _, CR_2 C (by omega), ?_⟩
        rw [if_neg (q4 (by omega) (by omega))]
      · rw [if_neg (by omega)]
    | succ d ih =>
      intro k hk
      have z := ih (k + 1) (by omega)
      refine b26_15 ?_
      rw [if_pos (by omega), show (a : Int) + (k : Int) = ((a + k : Nat) : Int) by omega, show (b : Int) + (k : Int) = ((b + k : Nat) : Int) by omega, show (k : Int) + 1 = ((k + 1 : Nat) : Int) by omega]
      refine ⟨by omega, _, _, CR_1 C (by omega), by omega, _, _, CR_2 C (by omega), ?_⟩
      rw [if_pos (q3 k (by omega))]
      exact ⟨by omega, z⟩
  refine b26 ⟨by omega, by omega, ?_⟩
  have e : (if (be : Int) - (b : Int) < (ae : Int) - (a : Int) then (be : Int) - (b : Int) else (ae : Int) - (a : Int)) = ((mn (ae - a) (be - b) : Nat) : Int) := by
    unfold mn
    by_cases y : (be : Int) - (b : Int) < (ae : Int) - (a : Int)
    · rw [if_pos y, if_neg (by omega)]; omega
    · rw [if_neg y]
      by_cases y2 : ae - a < be - b
      · rw [if_pos y2]; omega
      · rw [if_neg y2]; omega
  rw [e]
  exact L _ 0 (Nat.zero_add _)
/-- sameUpTo -/
theorem d27 {σ : Sg} {f g : Nat → Int} {n1 n2 a ae b be : Nat} (C : CR σ f g n1 n2) (ha : a ≤ ae) (hb : b ≤ be) (h1 : ae ≤ n1) (h2 : be ≤ n2) : Dd 27 [vA 332, vI a, vI ae, vI b, vI be] σ (rI (tl f g a ae b be : Nat) σ) := by
  have c1 := C.1
  have c2 := C.2.1
  obtain ⟨q1, q2, q3, q4⟩ := tl_b (f := f) (g := g) (a := a) (ae := ae) (b := b) (be := be)
  have m := mn_1 (a := ae - a) (b := be - b)
  have L : ∀ (d k : Nat), k + d = tl f g a ae b be → C27_15 (some (vI a)) ae (some (vI b)) be (mn (ae - a) (be - b) : Nat) k σ (rI (tl f g a ae b be : Nat) σ) := by
    intro d
    induction d with
    | zero =>
      intro k hk
      have e : k = tl f g a ae b be := by omega
      subst e
      refine b27_15 ?_
      by_cases y : tl f g a ae b be < mn (ae - a) (be - b)
      · rw [if_pos (by omega), show (ae : Int) - ((tl f g a ae b be : Nat) : Int) - 1 = ((ae - 1 - tl f g a ae b be : Nat) : Int) by omega, show (be : Int) - ((tl f g a ae b be : Nat) : Int) - 1 = ((be - 1 - tl f g a ae b be : Nat) : Int) by omega]
        refine ⟨by omega, by omega, _, _, CR_1 C (by omega), by omega, by omega, _, _, CR_2 C (by omega), ?_⟩
        rw [if_neg (q4 (by omega) (by omega))]
      · rw [if_neg (by omega)]
    | succ d ih =>
      intro k hk
      have z := ih (k + 1) (by omega)
      refine b27_15 ?_
      rw [if_pos (by omega), show (ae : Int) - (k : Int) - 1 = ((ae - 1 - k : Nat) : Int) by omega, show (be : Int) - (k : Int) - 1 = ((be - 1 - k : Nat) : Int) by omega, show (k : Int) + 1 = ((k + 1 : Nat) : Int) by omega]
      refine ⟨by omega, by omega, _, _, CR_1 C (by omega), by omega, by omega, _, _, CR_2 C (by omega), ?_⟩
      rw [if_pos (q3 k (by omega))]
      exact ⟨by omega, z⟩
  refine b27 ⟨by omega, by omega, ?_⟩
  have e : (if (be : Int) - (b : Int) < (ae : Int) - (a : Int) then (be : Int) - (b : Int) else (ae : Int) - (a : Int)) = ((mn (ae - a) (be - b) : Nat) : Int) := by
    unfold mn
    by_cases y : (be : Int) - (b : Int) < (ae : Int) - (a : Int)
    · rw [if_pos y, if_neg (by omega)]; omega
    · rw [if_neg y]
      by_cases y2 : ae - a < be - b
      · rw [if_pos y2]; omega
      · rw [if_neg y2]; omega
  rw [e]
  exact L _ 0 (Nat.zero_add _)
/-- pairRow -/
theorem d28 {σ0 : Sg} {f g G : Nat → Int} {n1 n2 i j n : Nat} (C : CR σ0 f g n1 n2) (hi : i + n ≤ n1) (hj : j + n ≤ n2) (hG : ∀ x, x < n1 → σ0 338 x = G x) : ∃ s, Dd 28 [vA 332, vI i, vI j, vI n] σ0 (rV s) ∧ (∀ x, x < n1 → s 338 x = pr i j n G x) ∧ ∀ c x, ¬ c = 338 → s c x = σ0 c x := by
  have c1 := C.1
  have c2 := C.2.1
  have L : ∀ (d k : Nat) (σ : Sg), k + d = n → (∀ c x, ¬ c = 338 → σ c x = σ0 c x) → (∀ x, x < n1 → σ 338 x = pr i j k G x) → ∃ s, C28_3 i j n k σ (rV s) ∧ (∀ x, x < n1 → s 338 x = pr i j n G x) ∧ ∀ c x, ¬ c = 338 → s c x = σ0 c x := by
    intro d
    induction d with
    | zero =>
      intro k σ hk hF hv
      have e : k = n := by omega
      subst e
      refine ⟨σ, b28_3 ?_, hv, hF⟩
      rw [if_neg (by omega)]
    | succ d ih =>
      intro k σ hk hF hv
      obtain ⟨s, a1, a2, a3⟩ := ih (k + 1) (upS σ 338 (i + k) ((j + k : Nat) : Int)) (by omega) (fun c x hc => by rw [up_a hc]; exact hF c x hc) (fun x hx => by
        unfold pr
        by_cases e : x = i + k
        · rw [e, up_s, if_pos (by omega)]
          congr 1
          omega
        · rw [up_k e, hv x hx]
          unfold pr
          by_cases y : i ≤ x ∧ x < i + k
          · rw [if_pos y, if_pos (by omega)]
          · rw [if_neg y, if_neg (show ¬ (i ≤ x ∧ x < i + (k + 1)) by omega)])
      have q := CR_p (v := ((j + k : Nat) : Int)) (CR_fr (fun c x hc => hF c x (by omega)) C) (show i + k < n1 by omega)
      refine ⟨s, b28_3 ?_, a2, a3⟩
      rw [if_pos (by omega), show (i : Int) + (k : Int) = ((i + k : Nat) : Int) by omega, show (j : Int) + (k : Int) = ((j + k : Nat) : Int) by omega, show (k : Int) + 1 = ((k + 1 : Nat) : Int) by omega]
      exact ⟨by omega, by omega, _, q, by omega, a1⟩
  obtain ⟨s, a1, a2, a3⟩ := L n 0 σ0 (by omega) (fun _ _ _ => rfl) (fun x hx => by
    unfold pr
    rw [if_neg (by omega)]
    exact hG x hx)
  exact ⟨s, b28 a1, a2, a3⟩
/-- the reference's rows -/
def MRw (σ : Sg) (f g : Nat → Int) (n1 n2 : Nat) : Prop := n1 ≤ 40 ∧ n2 ≤ 40 ∧ (∀ i, i < n1 → σ 691 i = f i) ∧ ∀ i, i < n2 → σ 692 i = g i
/-- the stretch at hand -/
def MS (σ : Sg) (a ae b be : Nat) : Prop := σ 682 17 = (a : Nat) ∧ σ 682 18 = (ae : Nat) ∧ σ 682 19 = (b : Nat) ∧ σ 682 20 = (be : Nat)
theorem tn (n : Nat) : ((n : Nat) : Int).toNat = n := by omega
theorem l268b {f g G : Nat → Int} {n1 n2 a ae b be : Nat} {σ0 : Sg} (R : MRw σ0 f g n1 n2) (ha : a ≤ ae) (hb : b ≤ be) (h1 : ae ≤ n1) (h2 : be ≤ n2) : ∀ (d k : Nat) (σ : Sg), k + d = tl f g a ae b be → MS σ a (ae - k) b (be - k) → (∀ c x, ¬ c = 693 → ¬ (c = 682 ∧ 17 ≤ x ∧ x ≤ 20) → σ c x = σ0 c x) → (∀ x, x < n1 → σ 693 x = pr (ae - k) (be - k) k G x) → ∃ s, C268_79 σ (rV s) ∧ MS s a (ae - tl f g a ae b be) b (be - tl f g a ae b be) ∧ (∀ x, x < n1 → s 693 x = pr (ae - tl f g a ae b be) (be - tl f g a ae b be) (tl f g a ae b be) G x) ∧ ∀ c x, ¬ c = 693 → ¬ (c = 682 ∧ 17 ≤ x ∧ x ≤ 20) → s c x = σ0 c x := by
  obtain ⟨r1, r2, r3, r4⟩ := R
  obtain ⟨q1, q2, q3, q4⟩ := tl_b (f := f) (g := g) (a := a) (ae := ae) (b := b) (be := be)
  intro d
  induction d with
  | zero =>
    intro k σ hk hM hF hv
    have e : k = tl f g a ae b be := by omega
    subst e
    obtain ⟨m17, m18, m19, m20⟩ := hM
    refine ⟨σ, b268_79 ?_, ⟨m17, m18, m19, m20⟩, hv, hF⟩
    by_cases y1 : tl f g a ae b be < ae - a
    · rw [if_pos (by omega)]
      by_cases y2 : tl f g a ae b be < be - b
      · rw [if_pos (by omega), m18, m20, show (((ae - tl f g a ae b be : Nat) : Int) - 1).toNat = ae - 1 - tl f g a ae b be by omega, show (((be - tl f g a ae b be : Nat) : Int) - 1).toNat = be - 1 - tl f g a ae b be by omega, hF 691 _ (by decide) (by omega), hF 692 _ (by decide) (by omega), r3 _ (by omega), r4 _ (by omega), if_neg (q4 y1 y2)]
        exact ⟨by omega, by omega, by omega, by omega, rfl⟩
      · rw [if_neg (by omega)]
    · rw [if_neg (by omega)]
  | succ d ih =>
    intro k σ hk hM hF hv
    obtain ⟨m17, m18, m19, m20⟩ := hM
    obtain ⟨s, a1, a2, a3, a4⟩ := ih (k + 1) (upS (upS (upS σ 682 18 ((ae - (k + 1) : Nat) : Int)) 682 20 ((be - (k + 1) : Nat) : Int)) 693 (ae - (k + 1)) ((be - (k + 1) : Nat) : Int)) (by omega) ⟨by rw [up_a (by decide), up_k (by decide), up_k (by decide)]; exact m17, by rw [up_a (by decide), up_k (by decide), up_s], by rw [up_a (by decide), up_k (by decide), up_k (by decide)]; exact m19, by rw [up_a (by decide), up_s]⟩ (fun c x y1 y2 => by
      rw [up_a y1]
      have : upS (upS σ 682 18 ((ae - (k + 1) : Nat) : Int)) 682 20 ((be - (k + 1) : Nat) : Int) c x = σ c x := by
        unfold upS
        rw [if_neg (by omega), if_neg (by omega)]
      rw [this]
      exact hF c x y1 y2) (fun x hx => by
      unfold pr
      by_cases y : x = ae - (k + 1)
      · rw [y, up_s, if_pos (by omega)]
        congr 1
        omega
      · rw [up_k y, up_a (by decide), up_a (by decide), hv x hx]
        unfold pr
        by_cases y2 : ae - k ≤ x ∧ x < ae - k + k
        · rw [if_pos y2, if_pos (by omega)]
          congr 1
          omega
        · rw [if_neg y2, if_neg (by omega)])
    refine ⟨s, b268_79 ?_, a2, a3, a4⟩
    have E1 : ((ae - k : Nat) : Int) - 1 = ((ae - (k + 1) : Nat) : Int) := by omega
    have E2 : ((be - k : Nat) : Int) - 1 = ((be - (k + 1) : Nat) : Int) := by omega
    have F1 : σ 691 (ae - (k + 1)) = f (ae - (k + 1)) := by rw [hF 691 _ (by decide) (by omega)]; exact r3 _ (by omega)
    have F2 : σ 692 (be - (k + 1)) = g (be - (k + 1)) := by rw [hF 692 _ (by decide) (by omega)]; exact r4 _ (by omega)
    have F3 : f (ae - (k + 1)) = g (be - (k + 1)) := by
      have := q3 k (by omega)
      rw [show ae - 1 - k = ae - (k + 1) by omega, show be - 1 - k = be - (k + 1) by omega] at this
      exact this
    simp only [m17, m18, m19, m20, up_k (show ¬ (20 : Nat) = 18 by decide), up_k (show ¬ (18 : Nat) = 20 by decide), up_s, E1, E2, tn, F1, F2]
    rw [if_pos (by omega), if_pos (by omega), if_pos F3]
    exact ⟨by omega, by omega, by omega, by omega, by omega, by omega, by omega, a1⟩
theorem l268a {f g G : Nat → Int} {n1 n2 a ae b be : Nat} {σ0 : Sg} (R : MRw σ0 f g n1 n2) (ha : a ≤ ae) (hb : b ≤ be) (h1 : ae ≤ n1) (h2 : be ≤ n2) : ∀ (d k : Nat) (σ : Sg), k + d = hd f g a ae b be → MS σ (a + k) ae (b + k) be → (∀ c x, ¬ c = 693 → ¬ (c = 682 ∧ 17 ≤ x ∧ x ≤ 20) → σ c x = σ0 c x) → (∀ x, x < n1 → σ 693 x = pr a b k G x) → ∃ s, (∀ {o : Rs}, C268_79 s o → C268_0 σ o) ∧ MS s (a + hd f g a ae b be) ae (b + hd f g a ae b be) be ∧ (∀ x, x < n1 → s 693 x = pr a b (hd f g a ae b be) G x) ∧ ∀ c x, ¬ c = 693 → ¬ (c = 682 ∧ 17 ≤ x ∧ x ≤ 20) → s c x = σ0 c x := by
  obtain ⟨r1, r2, r3, r4⟩ := R
  obtain ⟨q1, q2, q3, q4⟩ := hd_b (f := f) (g := g) (a := a) (ae := ae) (b := b) (be := be)
  intro d
  induction d with
  | zero =>
    intro k σ hk hM hF hv
    have e : k = hd f g a ae b be := by omega
    subst e
    obtain ⟨m17, m18, m19, m20⟩ := hM
    refine ⟨σ, fun {o} hh => b268_0 ?_, ⟨m17, m18, m19, m20⟩, hv, hF⟩
    by_cases y1 : hd f g a ae b be < ae - a
    · rw [if_pos (by omega)]
      by_cases y2 : hd f g a ae b be < be - b
      · rw [if_pos (by omega), m17, m19, tn, tn, hF 691 _ (by decide) (by omega), hF 692 _ (by decide) (by omega), r3 _ (by omega), r4 _ (by omega), if_neg (q4 y1 y2)]
        exact ⟨by omega, by omega, hh⟩
      · rw [if_neg (by omega)]
        exact hh
    · rw [if_neg (by omega)]
      exact hh
  | succ d ih =>
    intro k σ hk hM hF hv
    obtain ⟨m17, m18, m19, m20⟩ := hM
    obtain ⟨s, a1, a2, a3, a4⟩ := ih (k + 1) (upS (upS (upS σ 693 (a + k) ((b + k : Nat) : Int)) 682 17 ((a + (k + 1) : Nat) : Int)) 682 19 ((b + (k + 1) : Nat) : Int)) (by omega) ⟨by rw [up_k (by decide), up_s], by rw [up_k (by decide), up_k (by decide), up_a (by decide)]; exact m18, by rw [up_s], by rw [up_k (by decide), up_k (by decide), up_a (by decide)]; exact m20⟩ (fun c x y1 y2 => by
      have : upS (upS (upS σ 693 (a + k) ((b + k : Nat) : Int)) 682 17 ((a + (k + 1) : Nat) : Int)) 682 19 ((b + (k + 1) : Nat) : Int) c x = σ c x := by
        unfold upS
        rw [if_neg (by omega), if_neg (by omega), if_neg (by omega)]
      rw [this]
      exact hF c x y1 y2) (fun x hx => by
      rw [up_a (by decide), up_a (by decide)]
      unfold pr
      by_cases y : x = a + k
      · rw [y, up_s, if_pos (by omega)]
        congr 1
        omega
      · rw [up_k y, hv x hx]
        unfold pr
        by_cases y2 : a ≤ x ∧ x < a + k
        · rw [if_pos y2, if_pos (by omega)]
        · rw [if_neg y2, if_neg (by omega)])
    refine ⟨s, fun {o} hh => b268_0 ?_, a2, a3, a4⟩
    have E1 : ((a + k : Nat) : Int) + 1 = ((a + (k + 1) : Nat) : Int) := by omega
    have E2 : ((b + k : Nat) : Int) + 1 = ((b + (k + 1) : Nat) : Int) := by omega
    have F1 : σ 691 (a + k) = f (a + k) := by rw [hF 691 _ (by decide) (by omega)]; exact r3 _ (by omega)
    have F2 : σ 692 (b + k) = g (b + k) := by rw [hF 692 _ (by decide) (by omega)]; exact r4 _ (by omega)
    simp only [m17, m18, m19, m20, up_a (show ¬ (682 : Nat) = 693 by decide), up_k (show ¬ (19 : Nat) = 17 by decide), E1, E2, tn, F1, F2]
    rw [if_pos (by omega), if_pos (by omega), if_pos (q3 k (by omega))]
    exact ⟨by omega, by omega, by omega, by omega, by omega, a1 hh⟩
/-- the reference's trims -/
theorem d268 {f g G : Nat → Int} {n1 n2 a ae b be p q : Nat} {σ : Sg} (R : MRw σ f g n1 n2) (M : MS σ a ae b be) (ha : a ≤ ae) (hb : b ≤ be) (h1 : ae ≤ n1) (h2 : be ≤ n2) (hG : ∀ x, x < n1 → σ 693 x = G x) (hp : p = hd f g a ae b be) (hq : q = tl f g (a + p) ae (b + p) be) : ∃ s, Dd 268 [vA 682] σ (rV s) ∧ MS s (a + p) (ae - q) (b + p) (be - q) ∧ (∀ x, x < n1 → s 693 x = pr (ae - q) (be - q) q (pr a b p G) x) ∧ ∀ c x, ¬ c = 693 → ¬ (c = 682 ∧ 17 ≤ x ∧ x ≤ 20) → s c x = σ c x := by
  have hb1 := hd_b (f := f) (g := g) (a := a) (ae := ae) (b := b) (be := be)
  rw [← hp] at hb1
  obtain ⟨s1, a1, a2, a3, a4⟩ := l268a (G := G) R ha hb h1 h2 p 0 σ (by omega) M (fun _ _ _ _ => rfl) (fun x hx => by
    unfold pr
    rw [if_neg (by omega)]
    exact hG x hx)
  rw [← hp] at a2 a3
  obtain ⟨s, c1, c2, c3, c4⟩ := l268b (σ0 := s1) (G := pr a b p G) (f := f) (g := g) (n1 := n1) (n2 := n2) (a := a + p) (ae := ae) (b := b + p) (be := be) ⟨R.1, R.2.1, fun i hi => by rw [a4 _ _ (by decide) (by omega)]; exact R.2.2.1 i hi, fun i hi => by rw [a4 _ _ (by decide) (by omega)]; exact R.2.2.2 i hi⟩ (by omega) (by omega) h1 h2 q 0 s1 (by omega) a2 (fun _ _ _ _ => rfl) (fun x hx => by
    show s1 693 x = pr (ae - 0) (be - 0) 0 (pr a b p G) x
    unfold pr
    rw [if_neg (by omega)]
    exact a3 x hx)
  rw [← hq] at c2 c3
  exact ⟨s, b268 (a1 c1), c2, c3, fun c x y1 y2 => by rw [c4 c x y1 y2, a4 c x y1 y2]⟩
end
