/-! LEAST: the walk through the table, on both sides. -/
noncomputable section
def updG (G : Nat → Int) (i : Nat) (v : Int) : Nat → Int := fun x => if x = i then v else G x
def wk (f g : Nat → Int) (ae be : Nat) : Nat → Nat → Nat → (Nat → Int) → (Nat → Int)
  | 0, _, _, G => G
  | w + 1, i, j, G => if i < ae ∧ j < be then (if f i = g j then wk f g ae be w (i + 1) (j + 1) (updG G i j) else (if lt f g ae be (ae - (i + 1)) (be - j) = lt f g ae be (ae - i) (be - j) then wk f g ae be w (i + 1) j G else wk f g ae be w i (j + 1) G)) else G
theorem wk_e {f g : Nat → Int} {ae be i j : Nat} {G : Nat → Int} (h : ¬ (i < ae ∧ j < be)) (w : Nat) : wk f g ae be w i j G = G := by
  cases w with
  | zero => rfl
  | succ w =>
    show (if i < ae ∧ j < be then _ else G) = G
    rw [if_neg h]
theorem wk_s {f g : Nat → Int} {ae be w i j : Nat} {G : Nat → Int} : wk f g ae be (w + 1) i j G = if i < ae ∧ j < be then (if f i = g j then wk f g ae be w (i + 1) (j + 1) (updG G i j) else (if lt f g ae be (ae - (i + 1)) (be - j) = lt f g ae be (ae - i) (be - j) then wk f g ae be w (i + 1) j G else wk f g ae be w i (j + 1) G)) else G := rfl
theorem l24 {f g : Nat → Int} {a ae b be n1 n2 : Nat} {d1 d3 : Option AV} {σ0 : Sg} (h1 : ae ≤ n1) (h2 : be ≤ n2) (h3 : n1 ≤ 40) (h4 : n2 ≤ 40) (w1 : wR σ0 333) (w2 : wR σ0 335) (w3 : wR σ0 337) (z1 : σ0 333 1 = (n1 : Nat)) (z2 : σ0 335 1 = (n2 : Nat)) (z3 : σ0 337 1 = (n1 : Nat)) (hf : ∀ i, i < n1 → σ0 334 i = f i) (hg : ∀ i, i < n2 → σ0 336 i = g i) (hT : ∀ i j, a ≤ i → i ≤ ae → b ≤ j → j ≤ be → σ0 349 (41 * i + j) = lt f g ae be (ae - i) (be - j)) : ∀ (w i j : Nat) (G : Nat → Int) (σ : Sg), (ae - i) + (be - j) ≤ w → a ≤ i → i ≤ ae → b ≤ j → j ≤ be → (∀ c x, ¬ c = 338 → σ c x = σ0 c x) → (∀ x, x < n1 → σ 338 x = G x) → ∃ s, C24_15 d1 ae d3 be i j σ (rV s) ∧ (∀ x, x < n1 → s 338 x = wk f g ae be w i j G x) ∧ ∀ c x, ¬ c = 338 → s c x = σ0 c x := by
  intro w
  induction w with
  | zero =>
    intro i j G σ hw ha hi hb hj hF hG
    refine ⟨σ, b24_15 ?_, hG, hF⟩
    rw [if_neg (by omega)]
  | succ w ih =>
    intro i j G σ hw ha hi hb hj hF hG
    rw [wk_s]
    by_cases c1 : i < ae
    · by_cases c2 : j < be
      · rw [if_pos ⟨c1, c2⟩]
        have e147 := d147 (σ := σ) (a := 333) (i := (i : Int)) ⟨w1.1, by rw [hF _ _ (by decide)]; exact w1.2⟩
        rw [at_on (n := n1) (f := f) (by rw [hF _ _ (by decide)]; exact z1) (fun i hi => by rw [hF _ _ (by decide)]; exact hf i hi) (by omega)] at e147
        have f147 := d147 (σ := σ) (a := 335) (i := (j : Int)) ⟨w2.1, by rw [hF _ _ (by decide)]; exact w2.2⟩
        rw [at_on (n := n2) (f := g) (by rw [hF _ _ (by decide)]; exact z2) (fun i hi => by rw [hF _ _ (by decide)]; exact hg i hi) (by omega)] at f147
        by_cases y : f i = g j
        · rw [if_pos y]
          have e148 := d148 (σ := σ) (a := 337) (i := (i : Int)) (v := (j : Int)) ⟨w3.1, by rw [hF _ _ (by decide)]; exact w3.2⟩
          rw [st_in (n := n1) (by rw [hF _ _ (by decide)]; exact z3) (by omega)] at e148
          obtain ⟨s, a1, a2, a3⟩ := ih (i + 1) (j + 1) (updG G i j) (upS σ 338 i j) (by omega) (by omega) (by omega) (by omega) (by omega) (fun c x hc => by rw [up_a hc]; exact hF c x hc) (fun x hx => by
            unfold updG
            by_cases q : x = i
            · rw [if_pos q, q, up_s]
            · rw [if_neg q, up_k q]; exact hG x hx)
          refine ⟨s, b24_15 ?_, a2, a3⟩
          rw [if_pos (by omega), if_pos (by omega)]
          refine ⟨_, _, e147, _, _, f147, ?_⟩
          rw [if_pos y, show (i : Int) + 1 = ((i + 1 : Nat) : Int) by omega, show (j : Int) + 1 = ((j + 1 : Nat) : Int) by omega]
          exact ⟨_, e148, by omega, by omega, a1⟩
        · rw [if_neg y]
          have q10 := d22 (σ := σ) (i := i + 1) (j := j) (by omega) (by omega)
          have q00 := d22 (σ := σ) (i := i) (j := j) (by omega) (by omega)
          rw [hF _ _ (by decide), hT (i + 1) j (by omega) (by omega) (by omega) (by omega), show ((i + 1 : Nat) : Int) = (i : Int) + 1 by omega] at q10
          rw [hF _ _ (by decide), hT i j (by omega) (by omega) (by omega) (by omega)] at q00
          have go : ∀ {o : Rs}, C24_15 d1 ae d3 be (if lt f g ae be (ae - (i + 1)) (be - j) = lt f g ae be (ae - i) (be - j) then ((i : Int) + 1) else (i : Int)) (if lt f g ae be (ae - (i + 1)) (be - j) = lt f g ae be (ae - i) (be - j) then (j : Int) else ((j : Int) + 1)) σ o → C24_15 d1 ae d3 be i j σ o := by
            intro o hh
            refine b24_15 ?_
            rw [if_pos (by omega), if_pos (by omega)]
            refine ⟨_, _, e147, _, _, f147, ?_⟩
            rw [if_neg y]
            exact ⟨by omega, _, _, q10, _, _, q00, fun _ => by omega, fun _ => by omega, hh⟩
          by_cases y2 : lt f g ae be (ae - (i + 1)) (be - j) = lt f g ae be (ae - i) (be - j)
          · rw [if_pos y2, if_pos y2] at go
            rw [if_pos y2]
            obtain ⟨s, a1, a2, a3⟩ := ih (i + 1) j G σ (by omega) (by omega) (by omega) hb hj hF hG
            refine ⟨s, go ?_, a2, a3⟩
            rw [show (i : Int) + 1 = ((i + 1 : Nat) : Int) by omega]
            exact a1
          · rw [if_neg y2, if_neg y2] at go
            rw [if_neg y2]
            obtain ⟨s, a1, a2, a3⟩ := ih i (j + 1) G σ (by omega) ha hi (by omega) (by omega) hF hG
            refine ⟨s, go ?_, a2, a3⟩
            rw [show (j : Int) + 1 = ((j + 1 : Nat) : Int) by omega]
            exact a1
      · rw [if_neg (fun e => c2 e.2)]
        refine ⟨σ, b24_15 ?_, hG, hF⟩
        rw [if_pos (by omega), if_neg (by omega)]
    · rw [if_neg (fun e => c1 e.1)]
      refine ⟨σ, b24_15 ?_, hG, hF⟩
      rw [if_neg (by omega)]
/-- Comparer.pairMost -/
theorem d24 {f g : Nat → Int} {a ae b be n1 n2 : Nat} {G : Nat → Int} {σ0 : Sg} (ha : a ≤ ae) (hb : b ≤ be) (h1 : ae ≤ n1) (h2 : be ≤ n2) (h3 : n1 ≤ 40) (h4 : n2 ≤ 40) (w1 : wR σ0 333) (w2 : wR σ0 335) (w3 : wR σ0 337) (z1 : σ0 333 1 = (n1 : Nat)) (z2 : σ0 335 1 = (n2 : Nat)) (z3 : σ0 337 1 = (n1 : Nat)) (hf : ∀ i, i < n1 → σ0 334 i = f i) (hg : ∀ i, i < n2 → σ0 336 i = g i) (hG : ∀ x, x < n1 → σ0 338 x = G x) : ∃ s, Dd 24 [vA 332, vI a, vI ae, vI b, vI be] σ0 (rV s) ∧ (∀ x, x < n1 → s 338 x = wk f g ae be ((ae - a) + (be - b)) a b G x) ∧ ∀ c x, ¬ c = 338 → ¬ c = 349 → s c x = σ0 c x := by
  obtain ⟨s1, c1, c2, c3⟩ := d21 ha hb h1 h2 h3 h4 w1 w2 z1 z2 hf hg
  obtain ⟨s, e1, e2, e3⟩ := l24 (d1 := some (vI a)) (d3 := some (vI b)) (σ0 := s1) (f := f) (g := g) (a := a) (b := b) h1 h2 h3 h4 ⟨w1.1, by rw [c3 _ _ (by decide)]; exact w1.2⟩ ⟨w2.1, by rw [c3 _ _ (by decide)]; exact w2.2⟩ ⟨w3.1, by rw [c3 _ _ (by decide)]; exact w3.2⟩ (by rw [c3 _ _ (by decide)]; exact z1) (by rw [c3 _ _ (by decide)]; exact z2) (by rw [c3 _ _ (by decide)]; exact z3) (fun i hi => by rw [c3 _ _ (by decide)]; exact hf i hi) (fun i hi => by rw [c3 _ _ (by decide)]; exact hg i hi) c2 ((ae - a) + (be - b)) a b G s1 (Nat.le_refl _) (Nat.le_refl _) ha (Nat.le_refl _) hb (fun _ _ _ => rfl) (fun x hx => by rw [c3 _ _ (by decide)]; exact hG x hx)
  exact ⟨s, b24 ⟨_, c1, e1⟩, e2, fun c x h h' => by rw [e3 c x h, c3 c x h']⟩
/-- the reference's least -/
theorem l266 {f g : Nat → Int} {a ae b be n1 n2 : Nat} {σ0 : Sg} (h1 : ae ≤ n1) (h2 : be ≤ n2) (h3 : n1 ≤ 64) (h4 : n2 ≤ 64) (q18 : σ0 682 18 = (ae : Nat)) (q20 : σ0 682 20 = (be : Nat)) (hf : ∀ i, i < n1 → σ0 691 i = f i) (hg : ∀ i, i < n2 → σ0 692 i = g i) (hT : ∀ i j, a ≤ i → i ≤ ae → b ≤ j → j ≤ be → σ0 694 (65 * i + j) = lt f g ae be (ae - i) (be - j)) : ∀ (w i j : Nat) (G : Nat → Int) (σ : Sg), (ae - i) + (be - j) ≤ w → a ≤ i → i ≤ ae → b ≤ j → j ≤ be → (∀ c x, ¬ c = 693 → σ c x = σ0 c x) → (∀ x, x < n1 → σ 693 x = G x) → ∃ s, C266_30 i j σ (rV s) ∧ (∀ x, x < n1 → s 693 x = wk f g ae be w i j G x) ∧ ∀ c x, ¬ c = 693 → s c x = σ0 c x := by
  intro w
  induction w with
  | zero =>
    intro i j G σ hw ha hi hb hj hF hG
    refine ⟨σ, b266_30 ?_, hG, hF⟩
    rw [hF 682 18 (by decide), q18, if_neg (by omega)]
  | succ w ih =>
    intro i j G σ hw ha hi hb hj hF hG
    rw [wk_s]
    by_cases c1 : i < ae
    · by_cases c2 : j < be
      · rw [if_pos ⟨c1, c2⟩]
        have pre : ∀ {o : Rs}, ((0 ≤ (i : Int) ∧ (i : Int) < 64) ∧ (0 ≤ (j : Int) ∧ (j : Int) < 64) ∧ (if f i = g j then (0 ≤ (i : Int) ∧ (i : Int) < 64) ∧ (-2147483648 ≤ ((i : Int) + 1) ∧ ((i : Int) + 1) ≤ 2147483647) ∧ (-2147483648 ≤ ((j : Int) + 1) ∧ ((j : Int) + 1) ≤ 2147483647) ∧ C266_30 ((i : Int) + 1) ((j : Int) + 1) (upS σ 693 i j) o else (-2147483648 ≤ ((i : Int) + 1) ∧ ((i : Int) + 1) ≤ 2147483647) ∧ (-2147483648 ≤ (65 * ((i : Int) + 1)) ∧ (65 * ((i : Int) + 1)) ≤ 2147483647) ∧ (-2147483648 ≤ ((65 * ((i : Int) + 1)) + (j : Int)) ∧ ((65 * ((i : Int) + 1)) + (j : Int)) ≤ 2147483647) ∧ (0 ≤ ((65 * ((i : Int) + 1)) + (j : Int)) ∧ ((65 * ((i : Int) + 1)) + (j : Int)) < 4225) ∧ (-2147483648 ≤ (65 * (i : Int)) ∧ (65 * (i : Int)) ≤ 2147483647) ∧ (-2147483648 ≤ ((65 * (i : Int)) + (j : Int)) ∧ ((65 * (i : Int)) + (j : Int)) ≤ 2147483647) ∧ (0 ≤ ((65 * (i : Int)) + (j : Int)) ∧ ((65 * (i : Int)) + (j : Int)) < 4225) ∧ ((lt f g ae be (ae - (i + 1)) (be - j) = lt f g ae be (ae - i) (be - j)) → -2147483648 ≤ ((i : Int) + 1) ∧ ((i : Int) + 1) ≤ 2147483647) ∧ (¬ (lt f g ae be (ae - (i + 1)) (be - j) = lt f g ae be (ae - i) (be - j)) → -2147483648 ≤ ((j : Int) + 1) ∧ ((j : Int) + 1) ≤ 2147483647) ∧ C266_30 (if lt f g ae be (ae - (i + 1)) (be - j) = lt f g ae be (ae - i) (be - j) then ((i : Int) + 1) else (i : Int)) (if lt f g ae be (ae - (i + 1)) (be - j) = lt f g ae be (ae - i) (be - j) then (j : Int) else ((j : Int) + 1)) σ o)) → C266_30 i j σ o := by
          intro o hh
          refine b266_30 ?_
          rw [hF 682 18 (by decide), q18, if_pos (by omega), hF 682 20 (by decide), q20, if_pos (by omega), show ((i : Nat) : Int).toNat = i by omega, show ((j : Nat) : Int).toNat = j by omega, hF 691 i (by decide), hF 692 j (by decide), hf i (by omega), hg j (by omega), show ((65 * ((i : Int) + 1)) + (j : Int)).toNat = 65 * (i + 1) + j by omega, show ((65 * (i : Int)) + (j : Int)).toNat = 65 * i + j by omega, hF 694 _ (by decide), hF 694 _ (by decide), hT (i + 1) j (by omega) (by omega) (by omega) (by omega), hT i j (by omega) (by omega) (by omega) (by omega)]
          exact hh
        by_cases y : f i = g j
        · simp only [if_pos y] at pre
          rw [if_pos y]
          obtain ⟨s, a1, a2, a3⟩ := ih (i + 1) (j + 1) (updG G i j) (upS σ 693 i j) (by omega) (by omega) (by omega) (by omega) (by omega) (fun c x hc => by rw [up_a hc]; exact hF c x hc) (fun x hx => by
            unfold updG
            by_cases q : x = i
            · rw [if_pos q, q, up_s]
            · rw [if_neg q, up_k q]; exact hG x hx)
          refine ⟨s, pre ⟨by omega, by omega, by omega, by omega, by omega, ?_⟩, a2, a3⟩
          rw [show (i : Int) + 1 = ((i + 1 : Nat) : Int) by omega, show (j : Int) + 1 = ((j + 1 : Nat) : Int) by omega]
          exact a1
        · simp only [if_neg y] at pre
          rw [if_neg y]
          by_cases y2 : lt f g ae be (ae - (i + 1)) (be - j) = lt f g ae be (ae - i) (be - j)
          · simp only [if_pos y2] at pre
            rw [if_pos y2]
            obtain ⟨s, a1, a2, a3⟩ := ih (i + 1) j G σ (by omega) (by omega) (by omega) hb hj hF hG
            refine ⟨s, pre ⟨by omega, by omega, by omega, by omega, by omega, by omega, by omega, by omega, by omega, fun _ => by omega, fun _ => by omega, ?_⟩, a2, a3⟩
            rw [show (i : Int) + 1 = ((i + 1 : Nat) : Int) by omega]
            exact a1
          · simp only [if_neg y2] at pre
            rw [if_neg y2]
            obtain ⟨s, a1, a2, a3⟩ := ih i (j + 1) G σ (by omega) ha hi (by omega) (by omega) hF hG
            refine ⟨s, pre ⟨by omega, by omega, by omega, by omega, by omega, by omega, by omega, by omega, by omega, fun _ => by omega, fun _ => by omega, ?_⟩, a2, a3⟩
            rw [show (j : Int) + 1 = ((j + 1 : Nat) : Int) by omega]
            exact a1
      · rw [if_neg (fun e => c2 e.2)]
        refine ⟨σ, b266_30 ?_, hG, hF⟩
        rw [hF 682 18 (by decide), q18, if_pos (by omega), hF 682 20 (by decide), q20, if_neg (by omega)]
    · rw [if_neg (fun e => c1 e.1)]
      refine ⟨σ, b266_30 ?_, hG, hF⟩
      rw [hF 682 18 (by decide), q18, if_neg (by omega)]
theorem d266 {f g : Nat → Int} {a ae b be n1 n2 : Nat} {G : Nat → Int} {σ0 : Sg} (ha : a ≤ ae) (hb : b ≤ be) (h1 : ae ≤ n1) (h2 : be ≤ n2) (h3 : n1 ≤ 64) (h4 : n2 ≤ 64) (q17 : σ0 682 17 = (a : Nat)) (q18 : σ0 682 18 = (ae : Nat)) (q19 : σ0 682 19 = (b : Nat)) (q20 : σ0 682 20 = (be : Nat)) (hf : ∀ i, i < n1 → σ0 691 i = f i) (hg : ∀ i, i < n2 → σ0 692 i = g i) (hG : ∀ x, x < n1 → σ0 693 x = G x) : ∃ s, Dd 266 [vA 682] σ0 (rV s) ∧ (∀ x, x < n1 → s 693 x = wk f g ae be ((ae - a) + (be - b)) a b G x) ∧ ∀ c x, ¬ c = 693 → ¬ c = 694 → s c x = σ0 c x := by
  obtain ⟨s1, c1, c2, c3⟩ := d265 ha hb h1 h2 h3 h4 hf hg
  have p17 : s1 682 17 = (a : Nat) := by rw [c3 _ _ (by decide)]; exact q17
  have p19 : s1 682 19 = (b : Nat) := by rw [c3 _ _ (by decide)]; exact q19
  obtain ⟨s, e1, e2, e3⟩ := l266 (σ0 := s1) (f := f) (g := g) (a := a) (b := b) h1 h2 h3 h4 (by rw [c3 _ _ (by decide)]; exact q18) (by rw [c3 _ _ (by decide)]; exact q20) (fun i hi => by rw [c3 _ _ (by decide)]; exact hf i hi) (fun i hi => by rw [c3 _ _ (by decide)]; exact hg i hi) c2 ((ae - a) + (be - b)) a b G s1 (Nat.le_refl _) (Nat.le_refl _) ha (Nat.le_refl _) hb (fun _ _ _ => rfl) (fun x hx => by rw [c3 _ _ (by decide)]; exact hG x hx)
  refine ⟨s, b266 ⟨s1, ?_, ?_⟩, e2, fun c x h h' => by rw [e3 c x h, c3 c x h']⟩
  · rw [q17, q18, q19, q20]
    exact c1
  · rw [p17, p19]
    exact e1
end
