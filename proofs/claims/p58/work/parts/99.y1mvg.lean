/-! Passing, into any two slots. -/
noncomputable section
/-- what the reference has laid so far -/
def RS8g (su sv : Nat) (σ : Sg) (M f g : List Int) : Prop := (∀ (x : Nat) (v : Int), M[x]? = some v → σ 686 (100 * su + x) = v) ∧ (∀ (x : Nat) (v : Int), f[x]? = some v → σ 687 (100 * su + x) = v) ∧ ∀ (x : Nat) (v : Int), g[x]? = some v → σ 687 (100 * sv + x) = v
/-- only the scratch slots' middle text and pairs -/
def FR8g (su sv : Nat) (σ σ0 : Sg) : Prop := ∀ c x, ¬ (c = 686 ∧ 100 * su ≤ x ∧ x < 100 * su + 100) → ¬ (c = 687 ∧ ((100 * su ≤ x ∧ x < 100 * su + 100) ∨ (100 * sv ≤ x ∧ x < 100 * sv + 100))) → σ c x = σ0 c x
/-- the two patches, the hunks of the second and the inverse of the first -/
def CX8g (su sv : Nat) (σ : Sg) (s t nb na nc : Nat) (F K G X Z : Nat → Int) (lB : List St) : Prop := s < 44 ∧ t < 44 ∧ su < 44 ∧ sv < 44 ∧ ¬ s = su ∧ ¬ s = sv ∧ ¬ t = su ∧ ¬ t = sv ∧ ¬ su = sv ∧ nb ≤ 99 ∧ na ≤ 99 ∧ nc ≤ 99 ∧ lB.length ≤ 120 ∧ σ 688 s = (nb : Nat) ∧ σ 689 t = (nc : Nat) ∧ (∀ x, x < nb → σ 685 (100 * s + x) = X x) ∧ (∀ x, x < nb → σ 687 (100 * s + x) = F x) ∧ (∀ x, x < na → σ 687 (100 * t + x) = G x) ∧ (∀ x, x < nc → σ 686 (100 * t + x) = Z x) ∧ HK σ 1 0 lB ∧ (∀ x, x < na → σ 690 x = K x) ∧ (∀ x, x < nb → F x = -1 ∨ ∃ y : Nat, F x = (y : Int) ∧ y < na) ∧ (∀ y, y < na → -1 ≤ K y ∧ K y ≤ 100) ∧ ∀ (h : Nat) (r : St), lB[h]? = some r → r.1 + r.2.1 ≤ na ∧ r.2.2.1 + r.2.2.2 ≤ nc
theorem d296g {su sv : Nat} {σ σ0 : Sg} {s t nb na nc h : Nat} {F K G X Z : Nat → Int} {lB : List St} {r : St} (C : CX8g su sv σ0 s t nb na nc F K G X Z lB) (fr : FR8g su sv σ σ0) (hr : lB[h]? = some r) : Dd 296 [vA 682, vI ((128 + h : Nat) : Int)] σ (rI (psK K r) σ) := by
  obtain ⟨h1, h2, g1', g2', g3', g4', g5', g6', g7', h3, h4, h5, h6, c1, c2, c3, c4, c5, c6, c7, c8, c9, c10, c11⟩ := C
  have hl := (List.getElem?_eq_some_iff.mp hr).1
  have v := (c7 h r hr).1
  rw [show 128 * 1 + (0 + h) = 128 + h by omega] at v
  have b := c11 h r hr
  refine b296 ?_
  rw [tn, fr 700 _ (by omega) (by omega), v]
  unfold psK
  by_cases y : r.1 = 0
  · rw [if_pos y, if_pos (by omega)]
    exact ⟨by omega, fun _ => by omega, fun _ => by omega, fun _ => by omega, fun e => absurd (by omega) e, rfl⟩
  · have k := c10 (r.1 - 1) (by omega)
    rw [if_neg y, if_neg (by omega), show ((r.1 : Nat) : Int) - 1 = ((r.1 - 1 : Nat) : Int) by omega, tn, fr 690 _ (by omega) (by omega), c8 _ (by omega)]
    exact ⟨by omega, fun _ => by omega, fun _ => by omega, fun _ => by omega, fun _ => by omega, rfl⟩
/-- one line of the first text kept -/
theorem l297kg {su sv : Nat} {σ0 : Sg} {s t nb na nc : Nat} {F K G X Z : Nat → Int} {lB : List St} (C : CX8g su sv σ0 s t nb na nc F K G X Z lB) {h i : Nat} {M f g : List Int} {σ : Sg} (hi : i < nb) (hM : M.length < 99) (hf : f.length = i) (hg : g.length = M.length) (hh : h ≤ lB.length) (np : ∀ r, lB[h]? = some r → ¬ psK K r = (i : Int)) (R : RS8g su sv σ M f g) (fr : FR8g su sv σ σ0) : ∃ σ', (∀ {o : Rs}, (∀ d9 : Option AV, C297_24 s t su sv (lB.length : Nat) ((128 + h : Nat) : Int) ((M.length + 1 : Nat) : Int) ((i + 1 : Nat) : Int) d9 σ' o) → ∀ d9 : Option AV, C297_24 s t su sv (lB.length : Nat) ((128 + h : Nat) : Int) (M.length : Nat) i d9 σ o) ∧ RS8g su sv σ' (M ++ [X i]) (f ++ [(M.length : Int)]) (g ++ [if F i = -1 then -1 else G (F i).toNat]) ∧ FR8g su sv σ' σ0 := by
  have CC := C
  obtain ⟨h1, h2, g1', g2', g3', g4', g5', g6', g7', h3, h4, h5, h6, c1, c2, c3, c4, c5, c6, c7, c8, c9, c10, c11⟩ := C
  obtain ⟨R1, R2, R3⟩ := R
  obtain ⟨u, hu⟩ : ∃ u, u = (if F i = -1 then -1 else G (F i).toNat) := ⟨_, rfl⟩
  rw [← hu]
  refine ⟨upS (upS (upS σ 686 (100 * su + M.length) (X i)) 687 (100 * su + i) (M.length : Int)) 687 (100 * sv + M.length) u, fun {o} hx d9 => ?_, ⟨fun x v e => ?_, fun x v e => ?_, fun x v e => ?_⟩, fun c x y1 y2 => ?_⟩
  · have t202 : ∀ d9 : Option AV, C297_202 s t su sv (lB.length : Nat) ((128 + h : Nat) : Int) (M.length : Nat) i d9 σ o := by
      intro d9
      have e685 : σ 685 ((100 * (s : Int) + (i : Int))).toNat = X i := by
        rw [show (100 * (s : Int) + (i : Int)).toNat = 100 * s + i by omega, fr 685 _ (by omega) (by omega)]
        exact c3 i hi
      have e687 : σ 687 ((100 * (s : Int) + (i : Int))).toNat = F i := by
        rw [show (100 * (s : Int) + (i : Int)).toNat = 100 * s + i by omega, fr 687 _ (by omega) (by omega)]
        exact c4 i hi
      have i1 : (100 * (su : Int) + ((M.length : Nat) : Int)).toNat = 100 * su + M.length := by omega
      have i2 : (100 * (su : Int) + (i : Int)).toNat = 100 * su + i := by omega
      refine b297_202 ?_
      rw [e685, e687, i1, i2]
      have z9 := c9 i hi
      have yb : ¬ F i = -1 → ∃ y : Nat, F i = (y : Int) ∧ y < na := fun e => by
        rcases z9 with z | z
        · exact absurd z e
        · exact z
      refine ⟨by omega, by omega, by omega, by omega, by omega, by omega, by omega, by omega, by omega, by omega, by omega, by omega, by omega, by omega, fun e => by omega, fun e => by
        obtain ⟨y, z1, z2⟩ := yb e
        omega, fun e => by
        obtain ⟨y, z1, z2⟩ := yb e
        omega, ?_⟩
      have eu : (if F i = -1 then (-1 : Int) else upS (upS σ 686 (100 * su + M.length) (X i)) 687 (100 * su + i) (M.length : Int) 687 (100 * (t : Int) + F i).toNat) = u := by
        rw [hu]
        by_cases e : F i = -1
        · rw [if_pos e, if_pos e]
        · obtain ⟨y, z1, z2⟩ := yb e
          rw [if_neg e, if_neg e, z1, tn, show (100 * (t : Int) + (y : Int)).toNat = 100 * t + y by omega, up_k (show ¬ 100 * t + y = 100 * su + i by clear z9 yb; omega), up_a (show ¬ (687 : Nat) = 686 by decide), fr 687 (100 * t + y) (by clear z9 yb; omega) (by clear z9 yb; omega)]
          exact c5 y z2
      rw [eu]
      refine b297_288 ?_
      rw [show (100 * (sv : Int) + ((M.length : Nat) : Int)).toNat = 100 * sv + M.length by omega, show ((M.length : Nat) : Int) + 1 = ((M.length + 1 : Nat) : Int) by omega, show (i : Int) + 1 = ((i + 1 : Nat) : Int) by omega]
      exact ⟨by omega, by omega, by omega, hx _⟩
    refine b297_24 ⟨by omega, ?_⟩
    rw [tn, fr 688 s (by omega) (by omega), c1, if_neg (by omega)]
    refine b297_46 ⟨by omega, ?_⟩
    by_cases y : h < lB.length
    · obtain ⟨r, hr⟩ : ∃ r, lB[h]? = some r := ⟨lB[h], List.getElem?_eq_getElem y⟩
      rw [if_pos (by omega)]
      refine ⟨_, _, d296g CC fr hr, ?_⟩
      rw [if_neg (np r hr)]
      exact t202 _
    · rw [if_neg (by omega)]
      exact t202 _
  · rcases ls_at e with ⟨z1, z2⟩ | ⟨z1, z2⟩
    · rw [up_a (by decide), up_a (by decide), up_k (by omega)]
      exact R1 x v z2
    · rw [up_a (by decide), up_a (by decide), z1, up_s, z2]
  · rcases ls_at e with ⟨z1, z2⟩ | ⟨z1, z2⟩
    · rw [up_k (by omega), up_k (by omega), up_a (by decide)]
      exact R2 x v z2
    · rw [up_k (by omega), z1, hf, up_s, z2]
  · rcases ls_at e with ⟨z1, z2⟩ | ⟨z1, z2⟩
    · rw [up_k (by omega), up_k (by omega), up_a (by decide)]
      exact R3 x v z2
    · rw [z1, hg, up_s, z2]
  · unfold upS
    rw [if_neg (by omega), if_neg (by omega), if_neg (by omega)]
    exact fr c x y1 y2
/-- lines of the first text kept -/
theorem l297rg {su sv : Nat} {σ0 : Sg} {s t nb na nc : Nat} {F K G X Z : Nat → Int} {lB : List St} (C : CX8g su sv σ0 s t nb na nc F K G X Z lB) {h : Nat} (hh : h ≤ lB.length) : ∀ (d i : Nat) (M f g : List Int) (σ : Sg), i + d ≤ nb → M.length + d ≤ 99 → f.length = i → g.length = M.length → (∀ x, x < d → ∀ r, lB[h]? = some r → ¬ psK K r = ((i + x : Nat) : Int)) → RS8g su sv σ M f g → FR8g su sv σ σ0 → ∃ σ', (∀ {o : Rs}, (∀ d9 : Option AV, C297_24 s t su sv (lB.length : Nat) ((128 + h : Nat) : Int) ((M.length + d : Nat) : Int) ((i + d : Nat) : Int) d9 σ' o) → ∀ d9 : Option AV, C297_24 s t su sv (lB.length : Nat) ((128 + h : Nat) : Int) (M.length : Nat) i d9 σ o) ∧ RS8g su sv σ' (M ++ rlZ X i d) (f ++ rlZ idZ M.length d) (g ++ rlZ (uZ F G) i d) ∧ FR8g su sv σ' σ0 := by
  intro d
  induction d with
  | zero =>
    intro i M f g σ _ _ _ _ _ R fr
    refine ⟨σ, fun {o} hx => hx, ?_, fr⟩
    rw [rl_0, rl_0, rl_0]
    exact R
  | succ d ih =>
    intro i M f g σ hi hM hf hg np R fr
    obtain ⟨σ1, a1, a2, a3⟩ := l297kg C (h := h) (i := i) (M := M) (f := f) (g := g) (σ := σ) (by omega) (by omega) hf hg hh (fun r hr => np 0 (by omega) r hr) R fr
    have hl : (M ++ [X i]).length = M.length + 1 := by rw [List.length_append, List.length_singleton]
    obtain ⟨σ', c1, c2, c3⟩ := ih (i + 1) (M ++ [X i]) (f ++ [(M.length : Int)]) (g ++ [uZ F G i]) σ1 (by omega) (by rw [hl]; omega) (by rw [List.length_append, List.length_singleton, hf]) (by rw [List.length_append, List.length_singleton, hg, hl]) (fun x hx r hr => by
      rw [show i + 1 + x = i + (x + 1) by omega]
      exact np (x + 1) (by omega) r hr) a2 a3
    rw [hl, show ((M.length : Nat) : Int) = idZ M.length from rfl, rl_c, rl_c, rl_c] at c2
    refine ⟨σ', fun {o} hx => a1 (fun d9 => ?_), c2, c3⟩
    have z := c1 (o := o) (fun d9 => by
      rw [hl, show M.length + 1 + d = M.length + (d + 1) by omega, show i + 1 + d = i + (d + 1) by omega]
      exact hx d9) d9
    rw [hl] at z
    exact z
/-- the added lines of a hunk -/
theorem l297ag {su sv : Nat} {σ0 : Sg} {s t nb na nc : Nat} {F K G X Z : Nat → Int} {lB : List St} (C : CX8g su sv σ0 s t nb na nc F K G X Z lB) {h i : Nat} {r : St} (hr : lB[h]? = some r) {f : List Int} (hi : i ≤ 99) (hf : f.length ≤ 99) : ∀ (d x : Nat) (M g : List Int) (σ : Sg), x + d = r.2.2.2 → M.length + d ≤ 99 → g.length = M.length → RS8g su sv σ M f g → FR8g su sv σ σ0 → ∃ σ', (∀ {o : Rs}, C297_150 s t su sv (lB.length : Nat) ((128 + h : Nat) : Int) ((M.length + d : Nat) : Int) i 0 σ' o → C297_71 s t su sv (lB.length : Nat) ((128 + h : Nat) : Int) (M.length : Nat) i x σ o) ∧ RS8g su sv σ' (M ++ rlZ Z (r.2.2.1 + x) d) f (g ++ rlZ idZ (r.2.2.1 + x) d) ∧ FR8g su sv σ' σ0 := by
  obtain ⟨h1, h2, g1', g2', g3', g4', g5', g6', g7', h3, h4, h5, h6, c1, c2, c3, c4, c5, c6, c7, c8, c9, c10, c11⟩ := C
  have hl := (List.getElem?_eq_some_iff.mp hr).1
  obtain ⟨v0, v1, v2, v3⟩ := c7 h r hr
  rw [show 128 * 1 + (0 + h) = 128 + h by omega] at v0 v1 v2 v3
  have b := c11 h r hr
  intro d
  induction d with
  | zero =>
    intro x M g σ hx hM hg R fr
    refine ⟨σ, fun {o} hh => b297_71 ⟨by omega, ?_⟩, ?_, fr⟩
    · rw [tn, fr 703 _ (by omega) (by omega), v3, if_neg (by omega)]
      exact hh
    · rw [rl_0, rl_0]
      exact R
  | succ d ih =>
    intro x M g σ hx hM hg R fr
    obtain ⟨R1, R2, R3⟩ := R
    have hlen : (M ++ [Z (r.2.2.1 + x)]).length = M.length + 1 := by rw [List.length_append, List.length_singleton]
    have fr1 : FR8g su sv (upS (upS σ 686 (100 * su + M.length) (Z (r.2.2.1 + x))) 687 (100 * sv + M.length) ((r.2.2.1 + x : Nat) : Int)) σ0 := fun c y y1 y2 => by
      unfold upS
      rw [if_neg (by omega), if_neg (by omega)]
      exact fr c y y1 y2
    obtain ⟨σ', a1, a2, a3⟩ := ih (x + 1) (M ++ [Z (r.2.2.1 + x)]) (g ++ [((r.2.2.1 + x : Nat) : Int)]) (upS (upS σ 686 (100 * su + M.length) (Z (r.2.2.1 + x))) 687 (100 * sv + M.length) ((r.2.2.1 + x : Nat) : Int)) (by omega) (by rw [hlen]; omega) (by rw [List.length_append, List.length_singleton, hg, hlen]) ⟨fun y v e => by
      rcases ls_at e with ⟨z1, z2⟩ | ⟨z1, z2⟩
      · rw [up_a (by decide), up_k (by omega)]
        exact R1 y v z2
      · rw [up_a (by decide), z1, up_s, z2], fun y v e => by
      have hy := (List.getElem?_eq_some_iff.mp e).1
      rw [up_k (by omega), up_a (by decide)]
      exact R2 y v e, fun y v e => by
      rcases ls_at e with ⟨z1, z2⟩ | ⟨z1, z2⟩
      · rw [up_k (by omega), up_a (by decide)]
        exact R3 y v z2
      · rw [z1, hg, up_s, z2]⟩ fr1
    rw [show ((r.2.2.1 + x : Nat) : Int) = idZ (r.2.2.1 + x) from rfl, show r.2.2.1 + (x + 1) = r.2.2.1 + x + 1 by omega, rl_c, rl_c] at a2
    refine ⟨σ', fun {o} hh => b297_71 ⟨by omega, ?_⟩, a2, a3⟩
    have z := a1 (o := o) (by
      rw [hlen, show M.length + 1 + d = M.length + (d + 1) by omega]
      exact hh)
    rw [hlen] at z
    have e702 : σ 702 (128 + h) = (r.2.2.1 : Nat) := by rw [fr 702 _ (by omega) (by omega)]; exact v2
    rw [tn, fr 703 _ (by omega) (by omega), v3, if_pos (by omega), e702, show (100 * (su : Int) + ((M.length : Nat) : Int)).toNat = 100 * su + M.length by omega, show (100 * (t : Int) + ((r.2.2.1 : Nat) : Int) + (x : Int)).toNat = 100 * t + (r.2.2.1 + x) by omega, fr 686 _ (by omega) (by omega), c6 _ (by omega), up_a (show ¬ (702 : Nat) = 686 by decide), e702, show (100 * (sv : Int) + ((M.length : Nat) : Int)).toNat = 100 * sv + M.length by omega, show ((r.2.2.1 : Nat) : Int) + (x : Int) = ((r.2.2.1 + x : Nat) : Int) by omega, show ((M.length : Nat) : Int) + 1 = ((M.length + 1 : Nat) : Int) by omega, show (x : Int) + 1 = ((x + 1 : Nat) : Int) by omega]
    exact ⟨by omega, by omega, by omega, by omega, by omega, by omega, by omega, by omega, by omega, by omega, by omega, by omega, by omega, by omega, by omega, z⟩
/-- the dropped lines of a hunk -/
theorem l297bg {su sv : Nat} {σ0 : Sg} {s t nb na nc : Nat} {F K G X Z : Nat → Int} {lB : List St} (C : CX8g su sv σ0 s t nb na nc F K G X Z lB) {h i : Nat} {r : St} (hr : lB[h]? = some r) {M g : List Int} (hi : i + r.2.1 ≤ nb) (hM : M.length ≤ 99) (hg : g.length ≤ 99) : ∀ (d x : Nat) (f : List Int) (σ : Sg), x + d = r.2.1 → f.length = i + x → RS8g su sv σ M f g → FR8g su sv σ σ0 → ∃ σ', (∀ {o : Rs}, (∀ d9 : Option AV, C297_24 s t su sv (lB.length : Nat) ((128 + (h + 1) : Nat) : Int) (M.length : Nat) ((i + r.2.1 : Nat) : Int) d9 σ' o) → C297_150 s t su sv (lB.length : Nat) ((128 + h : Nat) : Int) (M.length : Nat) i x σ o) ∧ RS8g su sv σ' M (f ++ rlZ m1Z (i + x) d) g ∧ FR8g su sv σ' σ0 := by
  obtain ⟨h1, h2, g1', g2', g3', g4', g5', g6', g7', h3, h4, h5, h6, c1, c2, c3, c4, c5, c6, c7, c8, c9, c10, c11⟩ := C
  have hl := (List.getElem?_eq_some_iff.mp hr).1
  obtain ⟨v0, v1, v2, v3⟩ := c7 h r hr
  rw [show 128 * 1 + (0 + h) = 128 + h by omega] at v0 v1 v2 v3
  intro d
  induction d with
  | zero =>
    intro x f σ hx hf R fr
    refine ⟨σ, fun {o} hh => b297_150 ⟨by omega, ?_⟩, ?_, fr⟩
    · rw [tn, fr 701 _ (by omega) (by omega), v1, if_neg (by omega), show ((128 + h : Nat) : Int) + 1 = ((128 + (h + 1) : Nat) : Int) by omega, show (i : Int) + ((r.2.1 : Nat) : Int) = ((i + r.2.1 : Nat) : Int) by omega]
      exact ⟨by omega, by omega, by omega, hh _⟩
    · rw [rl_0]
      exact R
  | succ d ih =>
    intro x f σ hx hf R fr
    obtain ⟨R1, R2, R3⟩ := R
    obtain ⟨σ', a1, a2, a3⟩ := ih (x + 1) (f ++ [-1]) (upS σ 687 (100 * su + (i + x)) (-1)) (by omega) (by rw [List.length_append, List.length_singleton, hf]; omega) ⟨fun y v e => by rw [up_a (by decide)]; exact R1 y v e, fun y v e => by
      rcases ls_at e with ⟨z1, z2⟩ | ⟨z1, z2⟩
      · rw [up_k (by omega)]
        exact R2 y v z2
      · rw [z1, hf, up_s, z2], fun y v e => by
      have hy := (List.getElem?_eq_some_iff.mp e).1
      rw [up_k (by omega)]
      exact R3 y v e⟩ (fun c y y1 y2 => by
      unfold upS
      rw [if_neg (by omega)]
      exact fr c y y1 y2)
    rw [show (-1 : Int) = m1Z (i + x) from rfl, show i + (x + 1) = i + x + 1 by omega, rl_c] at a2
    refine ⟨σ', fun {o} hh => b297_150 ⟨by omega, ?_⟩, a2, a3⟩
    rw [tn, fr 701 _ (by omega) (by omega), v1, if_pos (by omega), show (100 * (su : Int) + (i : Int) + (x : Int)).toNat = 100 * su + (i + x) by omega, show (x : Int) + 1 = ((x + 1 : Nat) : Int) by omega]
    exact ⟨by omega, by omega, by omega, by omega, by omega, a1 hh⟩
/-- a hunk of the second patch -/
theorem l297hg {su sv : Nat} {σ0 : Sg} {s t nb na nc : Nat} {F K G X Z : Nat → Int} {lB : List St} (C : CX8g su sv σ0 s t nb na nc F K G X Z lB) {h i : Nat} {r : St} (hr : lB[h]? = some r) {M f g : List Int} {σ : Sg} (hi : i + r.2.1 ≤ nb) (hp : psK K r = (i : Int)) (hM : M.length + r.2.2.2 ≤ 99) (hf : f.length = i) (hg : g.length = M.length) (R : RS8g su sv σ M f g) (fr : FR8g su sv σ σ0) : ∃ σ', (∀ {o : Rs}, (∀ d9 : Option AV, C297_24 s t su sv (lB.length : Nat) ((128 + (h + 1) : Nat) : Int) ((M.length + r.2.2.2 : Nat) : Int) ((i + r.2.1 : Nat) : Int) d9 σ' o) → ∀ d9 : Option AV, C297_24 s t su sv (lB.length : Nat) ((128 + h : Nat) : Int) (M.length : Nat) i d9 σ o) ∧ RS8g su sv σ' (M ++ rlZ Z r.2.2.1 r.2.2.2) (f ++ rlZ m1Z i r.2.1) (g ++ rlZ idZ r.2.2.1 r.2.2.2) ∧ FR8g su sv σ' σ0 := by
  have CC := C
  obtain ⟨h1, h2, g1', g2', g3', g4', g5', g6', g7', h3, h4, h5, h6, c1, c2, c3, c4, c5, c6, c7, c8, c9, c10, c11⟩ := C
  have hl := (List.getElem?_eq_some_iff.mp hr).1
  obtain ⟨σ1, a1, a2, a3⟩ := l297ag CC hr (i := i) (f := f) (by omega) (by omega) r.2.2.2 0 M g σ (by omega) hM hg R fr
  rw [Nat.add_zero] at a2
  have hl2 : (M ++ rlZ Z r.2.2.1 r.2.2.2).length = M.length + r.2.2.2 := ap_len
  obtain ⟨σ2, e1, e2, e3⟩ := l297bg CC hr (i := i) (M := M ++ rlZ Z r.2.2.1 r.2.2.2) (g := g ++ rlZ idZ r.2.2.1 r.2.2.2) hi (by rw [hl2]; exact hM) (by rw [ap_len, hg]; exact hM) r.2.1 0 f σ1 (by omega) (by omega) a2 a3
  rw [Nat.add_zero] at e2
  rw [hl2] at e1
  refine ⟨σ2, fun {o} hx d9 => ?_, e2, e3⟩
  have t71 : C297_71 s t su sv (lB.length : Nat) ((128 + h : Nat) : Int) (M.length : Nat) i 0 σ o := a1 (e1 hx)
  have t46 : C297_46 s t su sv (lB.length : Nat) ((128 + h : Nat) : Int) (M.length : Nat) i d9 σ o := by
    refine b297_46 ⟨by omega, ?_⟩
    rw [if_pos (by omega)]
    refine ⟨_, _, d296g CC fr hr, ?_⟩
    rw [if_pos hp]
    exact t71
  refine b297_24 ⟨by omega, ?_⟩
  rw [tn, fr 688 s (by omega) (by omega), c1]
  by_cases y : ((nb : Nat) : Int) ≤ (i : Int)
  · rw [if_pos y]
    refine ⟨by omega, ?_⟩
    rw [if_pos (by omega)]
    exact t46
  · rw [if_neg y]
    exact t46
/-- the end of it: the lines copied -/
theorem l297zg {su sv : Nat} {σ0 : Sg} {s t nb na nc : Nat} {F K G X Z : Nat → Int} {lB : List St} (C : CX8g su sv σ0 s t nb na nc F K G X Z lB) {M f g : List Int} {σ : Sg} (hM : M.length ≤ 99) (hf : f.length = nb) (hg : g.length = M.length) (R : RS8g su sv σ M f g) (fr : FR8g su sv σ σ0) : ∃ s2, (∀ d9 : Option AV, C297_24 s t su sv (lB.length : Nat) ((128 + lB.length : Nat) : Int) (M.length : Nat) nb d9 σ (rV s2)) ∧ Slot s2 su nb M.length X (gv M) (gv f) ∧ Slot s2 sv M.length nc (gv M) Z (gv g) ∧ ∀ c x, ¬ (685 ≤ c ∧ c ≤ 687 ∧ ((100 * su ≤ x ∧ x < 100 * su + 100) ∨ (100 * sv ≤ x ∧ x < 100 * sv + 100))) → ¬ ((c = 688 ∨ c = 689) ∧ (x = su ∨ x = sv)) → s2 c x = σ0 c x := by
  obtain ⟨h1, h2, g1', g2', g3', g4', g5', g6', g7', h3, h4, h5, h6, c1, c2, c3, c4, c5, c6, c7, c8, c9, c10, c11⟩ := C
  obtain ⟨R1, R2, R3⟩ := R
  -- the sizes
  obtain ⟨σ1, hσ1⟩ : ∃ σ1, σ1 = upS (upS (upS (upS σ 688 su (nb : Nat)) 689 su (M.length : Nat)) 688 sv (M.length : Nat)) 689 sv (nc : Nat) := ⟨_, rfl⟩
  have k1 : ∀ c x, ¬ ((c = 688 ∨ c = 689) ∧ (x = su ∨ x = sv)) → σ1 c x = σ c x := fun c x h => by
    rw [hσ1]
    unfold upS
    rw [if_neg (by omega), if_neg (by omega), if_neg (by omega), if_neg (by omega)]
  have z1 : σ1 688 su = (nb : Nat) := by rw [hσ1, up_a (by decide), up_k (by omega), up_a (by decide), up_s]
  have z2 : σ1 689 su = (M.length : Nat) := by rw [hσ1, up_k (by omega), up_a (by decide), up_s]
  have z3 : σ1 688 sv = (M.length : Nat) := by rw [hσ1, up_a (by decide), up_s]
  have z4 : σ1 689 sv = (nc : Nat) := by rw [hσ1, up_s]
  have L3 : ∀ (d x : Nat) (σ2 : Sg) (d1 d3 d5 d6 d7 d8 : Option AV), x + d = nc → (∀ y, y < x → σ2 686 (100 * sv + y) = Z y) → (∀ c y, ¬ (c = 685 ∧ ((100 * su ≤ y ∧ y < 100 * su + 100) ∨ (100 * sv ≤ y ∧ y < 100 * sv + 100))) → ¬ (c = 686 ∧ 100 * sv ≤ y ∧ y < 100 * sv + 100) → σ2 c y = σ1 c y) → ∃ s2, C297_428 d1 t d3 sv d5 d6 d7 d8 x σ2 (rV s2) ∧ (∀ y, y < nc → s2 686 (100 * sv + y) = Z y) ∧ ∀ c y, ¬ (c = 686 ∧ 100 * sv ≤ y ∧ y < 100 * sv + 100) → s2 c y = σ2 c y := by
    intro d
    induction d with
    | zero =>
      intro x σ2 d1 d3 d5 d6 d7 d8 hx hv k2
      refine ⟨σ2, b297_428 ⟨by omega, ?_⟩, fun y hy => hv y (by omega), fun _ _ _ => rfl⟩
      rw [tn, k2 689 sv (by omega) (by omega), z4, if_neg (by omega)]
    | succ d ih =>
      intro x σ2 d1 d3 d5 d6 d7 d8 hx hv k2
      have e : σ2 686 (100 * t + x) = Z x := by
        rw [k2 _ _ (by omega) (by omega), k1 _ _ (by omega), fr _ _ (by omega) (by omega)]
        exact c6 x (by omega)
      obtain ⟨s2, a1, a2, a3⟩ := ih (x + 1) (upS σ2 686 (100 * sv + x) (Z x)) d1 d3 d5 d6 d7 d8 (by omega) (fun y hy => by
        by_cases q : y = x
        · rw [q, up_s]
        · rw [up_k (by omega)]
          exact hv y (by omega)) (fun c y y1 y2 => by
        have : upS σ2 686 (100 * sv + x) (Z x) c y = σ2 c y := by
          unfold upS
          rw [if_neg (by omega)]
        rw [this]
        exact k2 c y y1 y2)
      refine ⟨s2, b297_428 ⟨by omega, ?_⟩, a2, fun c y y1 => by
        rw [a3 c y y1]
        unfold upS
        rw [if_neg (by omega)]⟩
      rw [tn, k2 689 sv (by omega) (by omega), z4, if_pos (by omega), show (100 * (sv : Int) + (x : Int)).toNat = 100 * sv + x by omega, show (100 * (t : Int) + (x : Int)).toNat = 100 * t + x by omega, e, show (x : Int) + 1 = ((x + 1 : Nat) : Int) by omega]
      exact ⟨by omega, by omega, by omega, by omega, by omega, by omega, by omega, a1⟩
  have L2 : ∀ (d x : Nat) (σ2 : Sg) (d1 d5 d6 d8 : Option AV), x + d = M.length → (∀ y, y < x → σ2 685 (100 * sv + y) = gv M y) → (∀ c y, ¬ (c = 685 ∧ ((100 * su ≤ y ∧ y < 100 * su + 100) ∨ (100 * sv ≤ y ∧ y < 100 * sv + 100))) → σ2 c y = σ1 c y) → ∃ s2, C297_387 d1 t su sv d5 d6 (M.length : Nat) d8 x σ2 (rV s2) ∧ (∀ y, y < nc → s2 686 (100 * sv + y) = Z y) ∧ (∀ y, y < M.length → s2 685 (100 * sv + y) = gv M y) ∧ ∀ c y, ¬ (c = 685 ∧ 100 * sv ≤ y ∧ y < 100 * sv + 100) → ¬ (c = 686 ∧ 100 * sv ≤ y ∧ y < 100 * sv + 100) → s2 c y = σ2 c y := by
    intro d
    induction d with
    | zero =>
      intro x σ2 d1 d5 d6 d8 hx hv k2
      obtain ⟨s2, a1, a2, a3⟩ := L3 nc 0 σ2 d1 (some (vI su)) d5 d6 (some (vI ((M.length : Nat) : Int))) d8 (by omega) (fun y hy => absurd hy (Nat.not_lt_zero y)) (fun c y y1 y2 => k2 c y y1)
      refine ⟨s2, b297_387 ?_, a2, fun y hy => by rw [a3 _ _ (by omega)]; exact hv y (by omega), fun c y y1 y2 => a3 c y y2⟩
      rw [if_neg (by omega)]
      exact a1
    | succ d ih =>
      intro x σ2 d1 d5 d6 d8 hx hv k2
      have e : σ2 686 (100 * su + x) = gv M x := by
        rw [k2 _ _ (by omega), k1 _ _ (by omega)]
        exact R1 x _ (gv_at (by omega))
      obtain ⟨s2, a1, a2, a3, a4⟩ := ih (x + 1) (upS σ2 685 (100 * sv + x) (gv M x)) d1 d5 d6 d8 (by omega) (fun y hy => by
        by_cases q : y = x
        · rw [q, up_s]
        · rw [up_k (by omega)]
          exact hv y (by omega)) (fun c y y1 => by
        have : upS σ2 685 (100 * sv + x) (gv M x) c y = σ2 c y := by
          unfold upS
          rw [if_neg (by omega)]
        rw [this]
        exact k2 c y y1)
      refine ⟨s2, b297_387 ?_, a2, a3, fun c y y1 y2 => by
        rw [a4 c y y1 y2]
        unfold upS
        rw [if_neg (by omega)]⟩
      rw [if_pos (by omega), show (100 * (sv : Int) + (x : Int)).toNat = 100 * sv + x by omega, show (100 * (su : Int) + (x : Int)).toNat = 100 * su + x by omega, e, show (x : Int) + 1 = ((x + 1 : Nat) : Int) by omega]
      exact ⟨by omega, by omega, by omega, by omega, by omega, by omega, by omega, a1⟩
  have L1 : ∀ (d x : Nat) (σ2 : Sg) (d5 d6 d8 : Option AV), x + d = nb → (∀ y, y < x → σ2 685 (100 * su + y) = X y) → (∀ c y, ¬ (c = 685 ∧ 100 * su ≤ y ∧ y < 100 * su + 100) → σ2 c y = σ1 c y) → ∃ s2, C297_343 s t su sv d5 d6 (M.length : Nat) d8 x σ2 (rV s2) ∧ (∀ y, y < nc → s2 686 (100 * sv + y) = Z y) ∧ (∀ y, y < M.length → s2 685 (100 * sv + y) = gv M y) ∧ (∀ y, y < nb → s2 685 (100 * su + y) = X y) ∧ ∀ c y, ¬ (c = 685 ∧ ((100 * su ≤ y ∧ y < 100 * su + 100) ∨ (100 * sv ≤ y ∧ y < 100 * sv + 100))) → ¬ (c = 686 ∧ 100 * sv ≤ y ∧ y < 100 * sv + 100) → s2 c y = σ1 c y := by
    intro d
    induction d with
    | zero =>
      intro x σ2 d5 d6 d8 hx hv k2
      obtain ⟨s2, a1, a2, a3, a4⟩ := L2 M.length 0 σ2 (some (vI s)) d5 d6 d8 (by omega) (fun y hy => absurd hy (Nat.not_lt_zero y)) (fun c y y1 => k2 c y (by omega))
      refine ⟨s2, b297_343 ⟨by omega, ?_⟩, a2, a3, fun y hy => by rw [a4 _ _ (by omega) (by omega)]; exact hv y (by omega), fun c y y1 y2 => by rw [a4 c y (by omega) y2]; exact k2 c y (by omega)⟩
      rw [tn, k2 688 su (by omega), z1, if_neg (by omega)]
      exact a1
    | succ d ih =>
      intro x σ2 d5 d6 d8 hx hv k2
      have e : σ2 685 (100 * s + x) = X x := by
        rw [k2 _ _ (by omega), k1 _ _ (by omega), fr _ _ (by omega) (by omega)]
        exact c3 x (by omega)
      obtain ⟨s2, a1, a2, a3, a4, a5⟩ := ih (x + 1) (upS σ2 685 (100 * su + x) (X x)) d5 d6 d8 (by omega) (fun y hy => by
        by_cases q : y = x
        · rw [q, up_s]
        · rw [up_k (by omega)]
          exact hv y (by omega)) (fun c y y1 => by
        have : upS σ2 685 (100 * su + x) (X x) c y = σ2 c y := by
          unfold upS
          rw [if_neg (by omega)]
        rw [this]
        exact k2 c y y1)
      refine ⟨s2, b297_343 ⟨by omega, ?_⟩, a2, a3, a4, a5⟩
      rw [tn, k2 688 su (by omega), z1, if_pos (by omega), show (100 * (su : Int) + (x : Int)).toNat = 100 * su + x by omega, show (100 * (s : Int) + (x : Int)).toNat = 100 * s + x by omega, e, show (x : Int) + 1 = ((x + 1 : Nat) : Int) by omega]
      exact ⟨by omega, by omega, by omega, by omega, by omega, by omega, by omega, a1⟩
  obtain ⟨s2, a1, a2, a3, a4, a5⟩ := L1 nb 0 σ1 (some (vI ((lB.length : Nat) : Int))) (some (vI ((128 + lB.length : Nat) : Int))) (some (vI ((nb : Nat) : Int))) (by omega) (fun y hy => absurd hy (Nat.not_lt_zero y)) (fun _ _ _ => rfl)
  refine ⟨s2, fun d9 => b297_24 ⟨by omega, ?_⟩, ⟨by rw [a5 _ _ (by omega) (by omega)]; exact z1, by rw [a5 _ _ (by omega) (by omega)]; exact z2, a4, fun y hy => ?_, fun y hy => ?_⟩, ⟨by rw [a5 _ _ (by omega) (by omega)]; exact z3, by rw [a5 _ _ (by omega) (by omega)]; exact z4, a3, a2, fun y hy => ?_⟩, fun c y y1 y2 => by rw [a5 c y (by omega) (by omega), k1 c y y2]; exact fr c y (by omega) (by omega)⟩
  · rw [tn, fr 688 s (by omega) (by omega), c1, if_pos (by omega)]
    refine ⟨by omega, ?_⟩
    rw [if_neg (by omega)]
    refine ⟨by omega, by omega, by omega, by omega, by omega, by omega, ?_⟩
    have e : upS (upS (upS (upS σ 688 ((su : Int)).toNat (nb : Nat)) 689 ((su : Int)).toNat (M.length : Nat)) 688 ((sv : Int)).toNat (M.length : Nat)) 689 ((sv : Int)).toNat (upS (upS (upS σ 688 ((su : Int)).toNat (nb : Nat)) 689 ((su : Int)).toNat (M.length : Nat)) 688 ((sv : Int)).toNat (M.length : Nat) 689 ((t : Int)).toNat) = σ1 := by
      rw [hσ1, tn, tn, tn, up_a (show ¬ (689 : Nat) = 688 by decide), up_k (show ¬ t = su by omega), up_a (show ¬ (689 : Nat) = 688 by decide), fr 689 t (by omega) (by omega), c2]
    rw [e]
    exact a1
  · show s2 686 (100 * su + y) = gv M y
    rw [a5 _ _ (by omega) (by omega), k1 _ _ (by omega)]
    exact R1 y _ (gv_at hy)
  · show s2 687 (100 * su + y) = gv f y
    rw [a5 _ _ (by omega) (by omega), k1 _ _ (by omega)]
    exact R2 y _ (gv_at (by omega))
  · show s2 687 (100 * sv + y) = gv g y
    rw [a5 _ _ (by omega) (by omega), k1 _ _ (by omega)]
    exact R3 y _ (gv_at (by omega))
def MVRg (su sv : Nat) (σ0 : Sg) (s t nb na nc : Nat) (F K G L X Y Z : Nat → Int) (lB : List St) (W i j k h : Nat) (b M f a g : List Int) : Prop :=
  ∃ b' M' f' a' g', mvW F K G L X Y Z nb na nc W i j k b M f a g = (b', M', f', a', g') ∧ b'.length = nb ∧ M'.length + na = nb + nc ∧ f'.length = nb ∧ a'.length = nc ∧ g'.length = M'.length ∧ (∀ (x : Nat) (v : Int), b'[x]? = some v → v = X x) ∧ (∀ (x : Nat) (v : Int), a'[x]? = some v → v = Z x) ∧ (∀ (x : Nat) (v : Int), M'[x]? = some v → isLn v = true) ∧ M.length ≤ M'.length ∧ (M'.length ≤ 99 → ∀ σ, RS8g su sv σ M f g → FR8g su sv σ σ0 → ∃ σ', (∀ {o : Rs}, (∀ d9 : Option AV, C297_24 s t su sv (lB.length : Nat) ((128 + lB.length : Nat) : Int) (M'.length : Nat) nb d9 σ' o) → ∀ d9 : Option AV, C297_24 s t su sv (lB.length : Nat) ((128 + h : Nat) : Int) (M.length : Nat) i d9 σ o) ∧ RS8g su sv σ' M' f' g' ∧ FR8g su sv σ' σ0)
theorem MVR_kg {su sv : Nat} {σ0 : Sg} {s t nb na nc : Nat} {F K G L X Y Z : Nat → Int} {lB : List St} (C : CX8g su sv σ0 s t nb na nc F K G X Z lB) {W W' i j k j' k' h d : Nat} {b M f a g b2 a2 : List Int} (hh : h ≤ lB.length) (hid : i + d ≤ nb) (hf : f.length = i) (hg : g.length = M.length) (np : ∀ x, x < d → ∀ r, lB[h]? = some r → ¬ psK K r = ((i + x : Nat) : Int)) (e : mvW F K G L X Y Z nb na nc W i j k b M f a g = mvW F K G L X Y Z nb na nc W' (i + d) j' k' b2 (M ++ rlZ X i d) (f ++ rlZ idZ M.length d) a2 (g ++ rlZ (uZ F G) i d)) (R : MVRg su sv σ0 s t nb na nc F K G L X Y Z lB W' (i + d) j' k' h b2 (M ++ rlZ X i d) (f ++ rlZ idZ M.length d) a2 (g ++ rlZ (uZ F G) i d)) : MVRg su sv σ0 s t nb na nc F K G L X Y Z lB W i j k h b M f a g := by
  obtain ⟨b', M', f', a', g', q1, q2, q3, q4, q5, q6, q7, q8, q9, q10, q11⟩ := R
  have hl : (M ++ rlZ X i d).length = M.length + d := ap_len
  rw [hl] at q10
  refine ⟨b', M', f', a', g', e.trans q1, q2, q3, q4, q5, q6, q7, q8, q9, by omega, fun hM σ R fr => ?_⟩
  obtain ⟨σ1, a1, a2, a3⟩ := l297rg C hh d i M f g σ hid (by omega) hf hg np R fr
  obtain ⟨σ', c1, c2, c3⟩ := q11 hM σ1 a2 a3
  rw [hl] at c1
  exact ⟨σ', fun {o} hx => a1 (c1 hx), c2, c3⟩
theorem MVR_2g {su sv : Nat} {σ0 : Sg} {s t nb na nc : Nat} {F K G L X Y Z : Nat → Int} {lB : List St} {W W' i j k j' k' h : Nat} {b M f a g a2 : List Int} (e : mvW F K G L X Y Z nb na nc W i j k b M f a g = mvW F K G L X Y Z nb na nc W' i j' k' b M f a2 g) (R : MVRg su sv σ0 s t nb na nc F K G L X Y Z lB W' i j' k' h b M f a2 g) : MVRg su sv σ0 s t nb na nc F K G L X Y Z lB W i j k h b M f a g := by
  obtain ⟨b', M', f', a', g', q1, q2, q3, q4, q5, q6, q7, q8, q9, q10, q11⟩ := R
  exact ⟨b', M', f', a', g', e.trans q1, q2, q3, q4, q5, q6, q7, q8, q9, q10, q11⟩
theorem MVR_Bg {su sv : Nat} {σ0 : Sg} {s t nb na nc : Nat} {F K G L X Y Z : Nat → Int} {lB : List St} (C : CX8g su sv σ0 s t nb na nc F K G X Z lB) {W W' i j k j' k' h : Nat} {r : St} {b M f a g b2 a2 : List Int} (hr : lB[h]? = some r) (hi : i + r.2.1 ≤ nb) (hp : psK K r = (i : Int)) (hf : f.length = i) (hg : g.length = M.length) (e : mvW F K G L X Y Z nb na nc W i j k b M f a g = mvW F K G L X Y Z nb na nc W' (i + r.2.1) j' k' b2 (M ++ rlZ Z r.2.2.1 r.2.2.2) (f ++ rlZ m1Z i r.2.1) a2 (g ++ rlZ idZ r.2.2.1 r.2.2.2)) (R : MVRg su sv σ0 s t nb na nc F K G L X Y Z lB W' (i + r.2.1) j' k' (h + 1) b2 (M ++ rlZ Z r.2.2.1 r.2.2.2) (f ++ rlZ m1Z i r.2.1) a2 (g ++ rlZ idZ r.2.2.1 r.2.2.2)) : MVRg su sv σ0 s t nb na nc F K G L X Y Z lB W i j k h b M f a g := by
  obtain ⟨b', M', f', a', g', q1, q2, q3, q4, q5, q6, q7, q8, q9, q10, q11⟩ := R
  have hl : (M ++ rlZ Z r.2.2.1 r.2.2.2).length = M.length + r.2.2.2 := ap_len
  rw [hl] at q10
  refine ⟨b', M', f', a', g', e.trans q1, q2, q3, q4, q5, q6, q7, q8, q9, by omega, fun hM σ R fr => ?_⟩
  obtain ⟨σ1, a1, a2, a3⟩ := l297hg C hr hi hp (by omega) hf hg R fr
  obtain ⟨σ', c1, c2, c3⟩ := q11 hM σ1 a2 a3
  rw [hl] at c1
  exact ⟨σ', fun {o} hx => a1 (c1 hx), c2, c3⟩
theorem mv_maing {su sv : Nat} {σ0 : Sg} {s t nb na nc : Nat} {F K G L X Y Z : Nat → Int} {lB : List St} (C : CX8g su sv σ0 s t nb na nc F K G X Z lB) (IF : IV F K nb na) (IG : IV G L na nc) (EX : EQL X Y F nb) (EY : EQL Y Z G na) (lX : ∀ i, i < nb → isLn (X i) = true) (lZ : ∀ i, i < nc → isLn (Z i) = true) : ∀ (n : Nat) (lA lb : List St) (W i j k h eA eB : Nat) (b M f a g : List Int), lA.length + lb.length ≤ n → lB.drop h = lb → h ≤ lB.length → DS F nb na lA i j eA → DS G na nc lb j k eB → (∀ q, q ∈ lA → ∀ r, r ∈ lb → q.2.2.1 + q.2.2.2 < r.1 ∨ r.1 + r.2.1 < q.2.2.1) → ((i = 0 ∧ j = 0) ∨ ∀ r, r ∈ lb → j < r.1) → (∀ x, x < i → F x = -1 ∨ F x < (j : Int)) → (∀ x, x < j → G x = -1 ∨ G x < (k : Int)) → (nb - i) + (na - j) + (nc - k) ≤ W → b.length = i → a.length = k → f.length = i → g.length = M.length → M.length + j = i + k → (∀ (x : Nat) (v : Int), b[x]? = some v → v = X x) → (∀ (x : Nat) (v : Int), a[x]? = some v → v = Z x) → (∀ (x : Nat) (v : Int), M[x]? = some v → isLn v = true) → MVRg su sv σ0 s t nb na nc F K G L X Y Z lB W i j k h b M f a g := by
  intro n
  induction n with
  | zero =>
    intro lA lb W i j k h eA eB b M f a g hn hd hh hA hB NT hz PF PG hW hb ha hf hg hM bv av lv
    have eA' : lA = [] := List.eq_nil_of_length_eq_zero (by omega)
    have eB' : lb = [] := List.eq_nil_of_length_eq_zero (by omega)
    subst eA' eB'
    obtain ⟨a1, a2, a3, a4⟩ := hA
    obtain ⟨b1, b2, b3, b4⟩ := hB
    have hhl : h = lB.length := by
      have := List.drop_eq_nil_iff.mp hd
      omega
    obtain ⟨e, he⟩ : ∃ e, nb = i + e := ⟨nb - i, by omega⟩
    have e1 : na = j + e := by omega
    have e2 : nc = k + e := by omega
    obtain ⟨W', rfl⟩ : ∃ W', W = W' + e := ⟨W - e, by omega⟩
    have hF : ∀ x, x < e → F (i + x) = ((j + x : Nat) : Int) := fun x hx => by
      rw [a4 (i + x) (by omega) (by omega), show j + (i + x - i) = j + x by omega]
    have hG : ∀ x, x < e → G (j + x) = ((k + x : Nat) : Int) := fun x hx => by
      rw [b4 (j + x) (by omega) (by omega), show k + (j + x - j) = k + x by omega]
    have hXY : ∀ x, x < e → Y (j + x) = X (i + x) := fun x hx => by
      have z := EX (i + x) (by omega) (by rw [hF x hx]; omega)
      rw [hF x hx, tn] at z
      exact z.symm
    have hYZ : ∀ x, x < e → Y (j + x) = Z (k + x) := fun x hx => by
      have z := EY (j + x) (by omega) (by rw [hG x hx]; omega)
      rw [hG x hx, tn] at z
      exact z
    have E1 : rlZ Y j e = rlZ X i e := rl_ext _ _ _ hXY
    have E2 : rlZ idZ a.length e = rlZ (uZ F G) i e := rl_ext _ _ _ (fun x hx => by
      unfold uZ
      rw [hF x hx, if_neg (by omega), tn, hG x hx, ha]
      rfl)
    have r5 := mvW_5 (F := F) (K := K) (G := G) (L := L) (X := X) (Y := Y) (Z := Z) (nb := nb) (na := na) (nc := nc) e W' i j k b M f a g (by omega) (fun x hx => by
      have f1 := hF x hx
      have f2 := hG x hx
      have f3 := IV_at IF (by omega) f1
      have f4 := IV_at IG (by omega) f2
      exact ⟨by omega, by omega, by omega, by omega⟩)
    rw [E1, E2] at r5
    refine MVR_kg C hh (by omega) hf hg (fun x hx r hr => by
      rw [hhl, List.getElem?_eq_none (Nat.le_refl _)] at hr
      cases hr) r5 ?_
    have hl : (M ++ rlZ X i e).length = M.length + e := ap_len
    have hl2 : (b ++ rlZ X i e).length = b.length + e := ap_len
    have hl3 : (f ++ rlZ idZ M.length e).length = f.length + e := ap_len
    have hl4 : (a ++ rlZ X i e).length = a.length + e := ap_len
    have hl5 : (g ++ rlZ (uZ F G) i e).length = g.length + e := ap_len
    refine ⟨_, _, _, _, _, mvW_e (by omega) (by omega) (by omega) W', by omega, by omega, by omega, by omega, by omega, ap_bv bv (fun x _ => by rw [hb]), ap_bv av (fun x hx => by rw [ha, ← hYZ x hx, hXY x hx]), ap_ln lv (fun x hx => lX _ (by omega)), Nat.le_refl _, fun _ σ R fr => ⟨σ, fun {o} hx => ?_, R, fr⟩⟩
    rw [hhl, ← he]
    exact hx
  | succ n ih =>
    intro lA lb W i j k h eA eB b M f a g hn hd hh hA hB NT hz PF PG hW hb ha hf hg hM bv av lv
    have bA := DS_b _ _ _ _ hA
    have bB := DS_b _ _ _ _ hB
    have hmem : ∀ r, lB[h]? = some r → r ∈ lb := fun r hr => by
      rw [← hd]
      refine List.mem_of_getElem? (i := 0) ?_
      rw [List.getElem?_drop, Nat.add_zero]
      exact hr
    -- a hunk of the first patch comes next
    have stepA : ∀ (q : St) (tA : List St), lA = q :: tA → (∀ r, r ∈ lb → q.2.2.1 + q.2.2.2 < r.1) → MVRg su sv σ0 s t nb na nc F K G L X Y Z lB W i j k h b M f a g := by
      intro q tA hq hNq
      subst hq
      obtain ⟨o, d, nn, aa⟩ := q
      have bq := bA.2.2 _ List.mem_cons_self
      have bq1 : o + d ≤ nb := bq.2.1
      have bq2 : nn + aa ≤ na := bq.2.2.2
      have hA0 := hA
      obtain ⟨v1, v2, v3, v4, v5, v6⟩ := hA
      have x1 : i + eA ≤ o := v1
      have x2 : nn = j + (o - i) := v2
      have x3 : ∀ x, i ≤ x → x < o → F x = ((j + (x - i) : Nat) : Int) := v3
      have x4 : ∀ x, o ≤ x → x < o + d → F x = -1 := v4
      have x6 : DS F nb na tA (o + d) (nn + aa) 1 := v6
      have hNq2 : ∀ r, r ∈ lb → nn + aa < r.1 := hNq
      obtain ⟨e, rfl⟩ : ∃ e, o = i + e := ⟨o - i, by omega⟩
      have en : nn = j + e := by omega
      subst en
      obtain ⟨y1, y2, y3⟩ := DS_adv1 (i' := j + e + aa) (e' := 1) hB (by omega) bq2 (fun r hr => hNq2 r hr)
      rw [show k + (j + e + aa - j) = k + e + aa by omega] at y1 y3
      obtain ⟨W', rfl⟩ : ∃ W', W = ((W' + aa) + d) + e := ⟨W - e - d - aa, by omega⟩
      have hF : ∀ x, x < e → F (i + x) = ((j + x : Nat) : Int) := fun x hx => by
        rw [x3 (i + x) (by omega) (by omega), show j + (i + x - i) = j + x by omega]
      have hG : ∀ x, x < e + aa → G (j + x) = ((k + x : Nat) : Int) := fun x hx => by
        rw [y2 (j + x) (by omega) (by omega), show k + (j + x - j) = k + x by omega]
      have hXY : ∀ x, x < e → Y (j + x) = X (i + x) := fun x hx => by
        have z := EX (i + x) (by omega) (by rw [hF x hx]; omega)
        rw [hF x hx, tn] at z
        exact z.symm
      have hYZ : ∀ x, x < e + aa → Y (j + x) = Z (k + x) := fun x hx => by
        have z := EY (j + x) (by omega) (by rw [hG x hx]; omega)
        rw [hG x hx, tn] at z
        exact z
      have E1 : rlZ Y j e = rlZ X i e := rl_ext _ _ _ hXY
      have E2 : rlZ idZ a.length e = rlZ (uZ F G) i e := rl_ext _ _ _ (fun x hx => by
        unfold uZ
        rw [hF x hx, if_neg (by omega), tn, hG x (by omega), ha]
        rfl)
      have E3 : rlZ m1Z (i + e) d = rlZ (uZ F G) (i + e) d := rl_ext d (i + e) (i + e) (fun x hx => by
        unfold uZ
        rw [x4 (i + e + x) (by omega) (by omega), if_pos rfl]
        rfl)
      have np : ∀ x, x < e + d → ∀ r, lB[h]? = some r → ¬ psK K r = ((i + x : Nat) : Int) := by
        intro x hx r hr
        have hm := hmem r hr
        have h1 := hNq2 r hm
        have h2 := (bB.2.2 r hm).2.1
        obtain ⟨x0, w1, w2, w3⟩ := DS_on tA (i + e + d) (j + e + aa) 1 (r.1 - 1) x6 (by omega) (by omega) (fun q hq => by
          have := NT q (List.mem_cons_of_mem _ hq) r hm
          omega)
        have w4 := IV_at IF w2 w3
        unfold psK
        rw [if_neg (by omega), w4]
        omega
      have r5 := mvW_5 (F := F) (K := K) (G := G) (L := L) (X := X) (Y := Y) (Z := Z) (nb := nb) (na := na) (nc := nc) e ((W' + aa) + d) i j k b M f a g (by omega) (fun x hx => by
        have f1 := hF x hx
        have f2 := hG x (by omega)
        have f3 := IV_at IF (by omega) f1
        have f4 := IV_at IG (by omega) f2
        exact ⟨by omega, by omega, by omega, by omega⟩)
      rw [E1, E2] at r5
      have hl : (M ++ rlZ X i e).length = M.length + e := ap_len
      have hl2 : (b ++ rlZ X i e).length = b.length + e := ap_len
      have hl3 : (f ++ rlZ idZ M.length e).length = f.length + e := ap_len
      have hl4 : (a ++ rlZ X i e).length = a.length + e := ap_len
      have hl5 : (g ++ rlZ (uZ F G) i e).length = g.length + e := ap_len
      have bv1 : ∀ (x : Nat) (v : Int), (b ++ rlZ X i e)[x]? = some v → v = X x := ap_bv bv (fun x _ => by rw [hb])
      have av1 : ∀ (x : Nat) (v : Int), (a ++ rlZ X i e)[x]? = some v → v = Z x := ap_bv av (fun x hx => by rw [ha, ← hYZ x (by omega), hXY x hx])
      have lv1 : ∀ (x : Nat) (v : Int), (M ++ rlZ X i e)[x]? = some v → isLn v = true := ap_ln lv (fun x hx => lX _ (by omega))
      refine MVR_kg C hh (by omega) hf hg (fun x hx r hr => np x (by omega) r hr) r5 ?_
      have r1 := mvW_1 (F := F) (K := K) (G := G) (L := L) (X := X) (Y := Y) (Z := Z) (nb := nb) (na := na) (nc := nc) d (W' + aa) (i + e) (j + e) (k + e) (b ++ rlZ X i e) (M ++ rlZ X i e) (f ++ rlZ idZ M.length e) (a ++ rlZ X i e) (g ++ rlZ (uZ F G) i e) bq1 (fun x hx => x4 (i + e + x) (by omega) (by omega))
      rw [E3] at r1
      refine MVR_kg C hh bq1 (by omega) (by omega) (fun x hx r hr => by
        rw [show i + e + x = i + (e + x) by omega]
        exact np (e + x) (by omega) r hr) r1 ?_
      have hdd := DS_hd x6
      refine MVR_2g (mvW_2 (fun y => by have := hdd.1 y.1; omega) aa W' (j + e) (k + e) _ _ _ _ _ bq2 (fun x hx => DS_K hA0 IF PF (show j + e ≤ j + e + x by omega) (show j + e + x < j + e + aa by omega))) ?_
      have hm1 : (M ++ rlZ X i e ++ rlZ X (i + e) d).length = (M ++ rlZ X i e).length + d := ap_len
      have hm2 : (b ++ rlZ X i e ++ rlZ X (i + e) d).length = (b ++ rlZ X i e).length + d := ap_len
      have hm3 : (f ++ rlZ idZ M.length e ++ rlZ idZ (M ++ rlZ X i e).length d).length = (f ++ rlZ idZ M.length e).length + d := ap_len
      have hm4 : (a ++ rlZ X i e ++ rlZ Y (j + e) aa).length = (a ++ rlZ X i e).length + aa := ap_len
      have hm5 : (g ++ rlZ (uZ F G) i e ++ rlZ (uZ F G) (i + e) d).length = (g ++ rlZ (uZ F G) i e).length + d := ap_len
      rw [List.length_cons] at hn
      refine ih tA lb W' (i + e + d) (j + e + aa) (k + e + aa) h 1 1 _ _ _ _ _ (by omega) hd hh x6 y1 (fun q hq r hr => NT q (List.mem_cons_of_mem _ hq) r hr) (Or.inr hNq2) (fun x hx => ?_) (fun x hx => ?_) (by omega) (by omega) (by omega) (by omega) (by omega) (by omega) (ap_bv bv1 (fun x hx => by rw [hl2, hb])) (ap_bv av1 (fun x hx => by rw [hl4, ha, show j + e + x = j + (e + x) by omega, hYZ (e + x) (by omega), show k + (e + x) = k + e + x by omega])) (ap_ln lv1 (fun x hx => lX _ (by omega)))
      · by_cases z1 : x < i
        · rcases PF x z1 with z | z
          · exact Or.inl z
          · right; omega
        · by_cases z2 : x < i + e
          · have z := x3 x (by omega) z2
            right; omega
          · exact Or.inl (x4 x (by omega) (by omega))
      · by_cases z1 : x < j
        · rcases PG x z1 with z | z
          · exact Or.inl z
          · right; omega
        · have z := y2 x (by omega) (by omega)
          right; omega
    -- a hunk of the second
    have stepB : ∀ (r : St) (tB : List St), lb = r :: tB → (∀ q, q ∈ lA → r.1 + r.2.1 < q.2.2.1) → MVRg su sv σ0 s t nb na nc F K G L X Y Z lB W i j k h b M f a g := by
      intro r tB hr0 hNr
      subst hr0
      have hr : lB[h]? = some r := by
        have z : (lB.drop h)[0]? = some r := by rw [hd]; rfl
        rw [List.getElem?_drop, Nat.add_zero] at z
        exact z
      have hd1 : lB.drop (h + 1) = tB := by
        rw [← List.tail_drop, hd]
        rfl
      have hh1 : h + 1 ≤ lB.length := (List.getElem?_eq_some_iff.mp hr).1
      obtain ⟨o, d, nn, aa⟩ := r
      have bq := bB.2.2 _ List.mem_cons_self
      have bq1 : o + d ≤ na := bq.2.1
      have bq2 : nn + aa ≤ nc := bq.2.2.2
      have hB0 := hB
      obtain ⟨v1, v2, v3, v4, v5, v6⟩ := hB
      have x1 : j + eB ≤ o := v1
      have x2 : nn = k + (o - j) := v2
      have x3 : ∀ x, j ≤ x → x < o → G x = ((k + (x - j) : Nat) : Int) := v3
      have x4 : ∀ x, o ≤ x → x < o + d → G x = -1 := v4
      have x6 : DS G na nc tB (o + d) (nn + aa) 1 := v6
      have hNr2 : ∀ q, q ∈ lA → o + d < q.2.2.1 := hNr
      obtain ⟨e, rfl⟩ : ∃ e, o = j + e := ⟨o - j, by omega⟩
      have en : nn = k + e := by omega
      subst en
      obtain ⟨y1, y2, y3⟩ := DS_adv (j' := j + e + d) (e' := 1) hA (by omega) bq1 (fun q hq => hNr2 q hq)
      rw [show i + (j + e + d - j) = i + e + d by omega] at y1 y2 y3
      obtain ⟨W', rfl⟩ : ∃ W', W = ((W' + aa) + d) + e := ⟨W - e - d - aa, by omega⟩
      have hF : ∀ x, x < e + d → F (i + x) = ((j + x : Nat) : Int) := fun x hx => by
        rw [y2 (i + x) (by omega) (by omega), show j + (i + x - i) = j + x by omega]
      have hG : ∀ x, x < e → G (j + x) = ((k + x : Nat) : Int) := fun x hx => by
        rw [x3 (j + x) (by omega) (by omega), show k + (j + x - j) = k + x by omega]
      have hXY : ∀ x, x < e + d → Y (j + x) = X (i + x) := fun x hx => by
        have z := EX (i + x) (by omega) (by rw [hF x hx]; omega)
        rw [hF x hx, tn] at z
        exact z.symm
      have hYZ : ∀ x, x < e → Y (j + x) = Z (k + x) := fun x hx => by
        have z := EY (j + x) (by omega) (by rw [hG x hx]; omega)
        rw [hG x hx, tn] at z
        exact z
      have E1 : rlZ Y j e = rlZ X i e := rl_ext _ _ _ (fun x hx => hXY x (by omega))
      have E2 : rlZ idZ a.length e = rlZ (uZ F G) i e := rl_ext _ _ _ (fun x hx => by
        unfold uZ
        rw [hF x (by omega), if_neg (by omega), tn, hG x hx, ha]
        rfl)
      have E3 : rlZ Y (j + e) d = rlZ X (i + e) d := rl_ext _ _ _ (fun x hx => by
        rw [show j + e + x = j + (e + x) by omega, show i + e + x = i + (e + x) by omega]
        exact hXY (e + x) (by omega))
      have hps : psK K (j + e, d, k + e, aa) = ((i + e : Nat) : Int) := by
        unfold psK
        by_cases y : e = 0
        · subst y
          rcases hz with ⟨z1, z2⟩ | z
          · rw [if_pos (show j + 0 = 0 by omega)]
            omega
          · have := z _ List.mem_cons_self
            have : j < j + 0 := this
            omega
        · have w := IV_at IF (by omega) (hF (e - 1) (by omega))
          rw [if_neg (show ¬ j + e = 0 by omega), show (j + e, d, k + e, aa).1 - 1 = j + (e - 1) from (by show j + e - 1 = j + (e - 1); omega), w]
          omega
      have r5 := mvW_5 (F := F) (K := K) (G := G) (L := L) (X := X) (Y := Y) (Z := Z) (nb := nb) (na := na) (nc := nc) e ((W' + aa) + d) i j k b M f a g (by omega) (fun x hx => by
        have f1 := hF x (by omega)
        have f2 := hG x hx
        have f3 := IV_at IF (by omega) f1
        have f4 := IV_at IG (by omega) f2
        exact ⟨by omega, by omega, by omega, by omega⟩)
      rw [E1, E2] at r5
      have hl : (M ++ rlZ X i e).length = M.length + e := ap_len
      have hl2 : (b ++ rlZ X i e).length = b.length + e := ap_len
      have hl3 : (f ++ rlZ idZ M.length e).length = f.length + e := ap_len
      have hl4 : (a ++ rlZ X i e).length = a.length + e := ap_len
      have hl5 : (g ++ rlZ (uZ F G) i e).length = g.length + e := ap_len
      have bv1 : ∀ (x : Nat) (v : Int), (b ++ rlZ X i e)[x]? = some v → v = X x := ap_bv bv (fun x _ => by rw [hb])
      have av1 : ∀ (x : Nat) (v : Int), (a ++ rlZ X i e)[x]? = some v → v = Z x := ap_bv av (fun x hx => by rw [ha, ← hYZ x hx, hXY x (by omega)])
      have lv1 : ∀ (x : Nat) (v : Int), (M ++ rlZ X i e)[x]? = some v → isLn v = true := ap_ln lv (fun x hx => lX _ (by omega))
      refine MVR_kg C hh (by omega) hf hg (fun x hx r' hr' => by
        rw [hr] at hr'
        cases hr'
        rw [hps]
        omega) r5 ?_
      have r3 := mvW_3 (F := F) (K := K) (G := G) (L := L) (X := X) (Y := Y) (Z := Z) (nb := nb) (na := na) (nc := nc) (k := k + e) d (W' + aa) (i + e) (j + e) (b ++ rlZ X i e) (M ++ rlZ X i e) (f ++ rlZ idZ M.length e) (a ++ rlZ X i e) (g ++ rlZ (uZ F G) i e) bq1 (fun x hx => by
        have f1 := hF (e + x) (by omega)
        have f3 := IV_at IF (by omega) f1
        rw [show i + (e + x) = i + e + x by omega] at f1
        rw [show j + (e + x) = j + e + x by omega] at f3
        exact ⟨by omega, by omega, x4 (j + e + x) (by omega) (by omega)⟩)
      rw [E3] at r3
      have hdA := DS_hd y1
      have hdB := DS_hd x6
      have r4 := mvW_4 (F := F) (K := K) (G := G) (L := L) (X := X) (Y := Y) (Z := Z) (nb := nb) (na := na) (nc := nc) (i := i + e + d) (j := j + e + d) (fun y => by have := hdA.1 y.1; omega) (fun y => by
        by_cases z : i + e + d < nb
        · have w := IV_at IF z (hdA.1 z)
          omega
        · have := hdA.2 z
          omega) (fun y => by have := hdB.1 y.1; omega) aa W' (k + e) (b ++ rlZ X i e ++ rlZ X (i + e) d) (M ++ rlZ X i e) (f ++ rlZ idZ M.length e ++ rlZ m1Z (i + e) d) (a ++ rlZ X i e) (g ++ rlZ (uZ F G) i e) bq2 (fun x hx => DS_K hB0 IG PG (show k + e ≤ k + e + x by omega) (show k + e + x < k + e + aa by omega))
      rw [hl4, ha] at r4
      refine MVR_Bg C hr (show i + e + d ≤ nb by omega) hps (by omega) (by omega) (r3.trans r4) ?_
      show MVRg su sv σ0 s t nb na nc F K G L X Y Z lB W' (i + e + d) (j + e + d) (k + e + aa) (h + 1) (b ++ rlZ X i e ++ rlZ X (i + e) d) (M ++ rlZ X i e ++ rlZ Z (k + e) aa) (f ++ rlZ idZ M.length e ++ rlZ m1Z (i + e) d) (a ++ rlZ X i e ++ rlZ Z (k + e) aa) (g ++ rlZ (uZ F G) i e ++ rlZ idZ (k + e) aa)
      have hm1 : (M ++ rlZ X i e ++ rlZ Z (k + e) aa).length = (M ++ rlZ X i e).length + aa := ap_len
      have hm2 : (b ++ rlZ X i e ++ rlZ X (i + e) d).length = (b ++ rlZ X i e).length + d := ap_len
      have hm3 : (f ++ rlZ idZ M.length e ++ rlZ m1Z (i + e) d).length = (f ++ rlZ idZ M.length e).length + d := ap_len
      have hm4 : (a ++ rlZ X i e ++ rlZ Z (k + e) aa).length = (a ++ rlZ X i e).length + aa := ap_len
      have hm5 : (g ++ rlZ (uZ F G) i e ++ rlZ idZ (k + e) aa).length = (g ++ rlZ (uZ F G) i e).length + aa := ap_len
      rw [List.length_cons] at hn
      refine ih lA tB W' (i + e + d) (j + e + d) (k + e + aa) (h + 1) 1 1 _ _ _ _ _ (by omega) hd1 hh1 y1 x6 (fun q hq r hr => NT q hq r (List.mem_cons_of_mem _ hr)) (Or.inr (fun r hr => (DS_e x6 r hr).1)) (fun x hx => ?_) (fun x hx => ?_) (by omega) (by omega) (by omega) (by omega) (by omega) (by omega) (ap_bv bv1 (fun x hx => by rw [hl2, hb])) (ap_bv av1 (fun x hx => by rw [hl4, ha])) (ap_ln lv1 (fun x hx => lZ _ (by omega)))
      · by_cases z1 : x < i
        · rcases PF x z1 with z | z
          · exact Or.inl z
          · right; omega
        · have z := y2 x (by omega) (by omega)
          right; omega
      · by_cases z1 : x < j
        · rcases PG x z1 with z | z
          · exact Or.inl z
          · right; omega
        · by_cases z2 : x < j + e
          · have z := x3 x (by omega) z2
            right; omega
          · exact Or.inl (x4 x (by omega) (by omega))
    cases lA with
    | nil =>
      cases lb with
      | nil => exact ih [] [] W i j k h eA eB b M f a g (by simp) hd hh hA hB NT hz PF PG hW hb ha hf hg hM bv av lv
      | cons r tB => exact stepB r tB rfl (fun q hq => by cases hq)
    | cons q tA =>
      cases lb with
      | nil => exact stepA q tA rfl (fun r hr => by cases hr)
      | cons r tB =>
        rcases NT q List.mem_cons_self r List.mem_cons_self with z | z
        · refine stepA q tA rfl (fun r' hr' => ?_)
          rcases List.mem_cons.mp hr' with y | y
          · rw [y]; exact z
          · have := (DS_b _ _ _ _ hB.2.2.2.2.2).2.2 r' y
            omega
        · refine stepB r tB rfl (fun q' hq' => ?_)
          rcases List.mem_cons.mp hq' with y | y
          · rw [y]; exact z
          · have := (DS_b _ _ _ _ hA.2.2.2.2.2).2.2 q' y
            omega
/-- what the walk ends in, and passes -/
theorem d297g {su sv : Nat} {σ : Sg} {s t nb na nc : Nat} {F K G L X Y Z Y' Y2 : Nat → Int} (hs : s < 44) (ht : t < 44) (gu : su < 44) (gv' : sv < 44) (gsu : ¬ s = su) (gsv : ¬ s = sv) (gtu : ¬ t = su) (gtv : ¬ t = sv) (guv : ¬ su = sv) (h1 : nb ≤ 99) (h2 : na ≤ 99) (h3 : nc ≤ 99) (hm : nb + nc ≤ na + 96) (V : VF F nb na) (V' : VF G na nc) (IF : IV F K nb na) (IG : IV G L na nc) (EX : EQL X Y F nb) (EY : EQL Y Z G na) (lX : ∀ i, i < nb → isLn (X i) = true) (lZ : ∀ i, i < nc → isLn (Z i) = true) (NT : ¬ TCH (hks F nb na) (hks G na nc)) (S : Slot σ s nb na X Y' F) (S' : Slot σ t na nc Y2 Z G) : ∃ b M f a g, mvW F K G L X Y Z nb na nc (nb + na + nc) 0 0 0 [] [] [] [] [] = (b, M, f, a, g) ∧ b.length = nb ∧ M.length + na = nb + nc ∧ f.length = nb ∧ a.length = nc ∧ g.length = M.length ∧ (∀ (x : Nat) (v : Int), b[x]? = some v → v = X x) ∧ (∀ (x : Nat) (v : Int), a[x]? = some v → v = Z x) ∧ (∀ (x : Nat) (v : Int), M[x]? = some v → isLn v = true) ∧ ∃ s2, Dd 297 [vA 682, vI s, vI t, vI su, vI sv] σ (rV s2) ∧ Slot s2 su nb M.length X (gv M) (gv f) ∧ Slot s2 sv M.length nc (gv M) Z (gv g) ∧ ∀ c x, ¬ c = 690 → ¬ (700 ≤ c ∧ c ≤ 704) → ¬ (685 ≤ c ∧ c ≤ 687 ∧ ((100 * su ≤ x ∧ x < 100 * su + 100) ∨ (100 * sv ≤ x ∧ x < 100 * sv + 100))) → ¬ ((c = 688 ∨ c = 689) ∧ (x = su ∨ x = sv)) → s2 c x = σ c x := by
  obtain ⟨t1, t2, t3, t4, t5⟩ := S
  obtain ⟨u1, u2, u3, u4, u5⟩ := S'
  obtain ⟨s1, a1, a2, a3, a4, a5⟩ := d280 (s := t) (wh := 1) (f := G) (σ := σ) (by omega) (by decide) (by omega) (by omega) V' u1 u2 u5
  obtain ⟨s4, e1, e2, e3⟩ := d293 (s := s) (σ := s1) (by omega) (by omega) (by omega) V IF (by rw [a5 _ _ (by omega) (by omega)]; exact t1) (by rw [a5 _ _ (by omega) (by omega)]; exact t2) (fun k hk => by rw [a5 _ _ (by omega) (by omega)]; exact t5 k hk)
  have fr : ∀ c x, ¬ c = 690 → ¬ (700 ≤ c ∧ c ≤ 704) → s4 c x = σ c x := fun c x y1 y2 => by rw [e3 c x y1, a5 c x (by omega) (by omega)]
  obtain ⟨lB, hlB⟩ : ∃ lB, lB = hks G na nc := ⟨_, rfl⟩
  have D1 := DS_0 V
  have D2 := DS_0 V'
  rw [← hlB] at a1 a2 a4 D2 NT
  have C : CX8g su sv s4 s t nb na nc F K G X Z lB := ⟨hs, ht, gu, gv', gsu, gsv, gtu, gtv, guv, h1, h2, h3, by omega, by rw [fr _ _ (by decide) (by decide)]; exact t1, by rw [fr _ _ (by decide) (by decide)]; exact u2, fun x hx => by rw [fr _ _ (by decide) (by decide)]; exact t3 x hx, fun x hx => by rw [fr _ _ (by decide) (by decide)]; exact t5 x hx, fun x hx => by rw [fr _ _ (by decide) (by decide)]; exact u5 x hx, fun x hx => by rw [fr _ _ (by decide) (by decide)]; exact u4 x hx, fun h q hq => by
    rw [e3 _ _ (by decide), e3 _ _ (by decide), e3 _ _ (by decide), e3 _ _ (by decide)]
    exact a2 h q hq, e2, fun x hx => by
    rcases V.1 x hx with z | z
    · exact Or.inl z
    · obtain ⟨y, hy⟩ := Int.eq_ofNat_of_zero_le z.1
      exact Or.inr ⟨y, hy, by omega⟩, fun y hy => by
    rcases IF.1 y hy with z | ⟨z1, z2, z3⟩ <;> omega, fun h r hr => by
    have z := (DS_b _ _ _ _ D2).2.2 r (List.mem_of_getElem? hr)
    omega⟩
  obtain ⟨b, M, f, a, g, q1, q2, q3, q4, q5, q6, q7, q8, q9, -, q11⟩ := mv_maing C IF IG EX EY lX lZ ((hks F nb na).length + lB.length) (hks F nb na) lB (nb + na + nc) 0 0 0 0 0 0 [] [] [] [] [] (Nat.le_refl _) rfl (Nat.zero_le _) D1 D2 (TCH_n NT) (Or.inl ⟨rfl, rfl⟩) (fun x hx => absurd hx (Nat.not_lt_zero x)) (fun x hx => absurd hx (Nat.not_lt_zero x)) (by omega) rfl rfl rfl rfl rfl (fun x v e => by simp at e) (fun x v e => by simp at e) (fun x v e => by simp at e)
  obtain ⟨σ', g1, g2, g3⟩ := q11 (by omega) s4 ⟨fun x v e => by simp at e, fun x v e => by simp at e, fun x v e => by simp at e⟩ (fun _ _ _ _ => rfl)
  obtain ⟨s2, r1, r2, r3, r4⟩ := l297zg C (M := M) (f := f) (g := g) (by omega) q4 q6 g2 g3
  exact ⟨b, M, f, a, g, q1, q2, q3, q4, q5, q6, q7, q8, q9, s2, b297 ⟨_, s1, a1, s4, e1, g1 r1 none⟩, r2, r3, fun c x y1 y2 y3 y4 => by rw [r4 c x y3 y4]; exact fr c x y1 y2⟩
end
