/-! A patch past its predecessor: the reference's steps. -/
noncomputable section
/-- what the reference has laid so far -/
def RS8 (σ : Sg) (M f g : List Int) : Prop := (∀ (x : Nat) (v : Int), M[x]? = some v → σ 686 (3900 + x) = v) ∧ (∀ (x : Nat) (v : Int), f[x]? = some v → σ 687 (3900 + x) = v) ∧ ∀ (x : Nat) (v : Int), g[x]? = some v → σ 687 (4000 + x) = v
theorem ls_at {M : List Int} {u : Int} {x : Nat} {v : Int} (e : (M ++ [u])[x]? = some v) : (x < M.length ∧ M[x]? = some v) ∨ (x = M.length ∧ v = u) := ga e
/-- only the scratch slots' middle text and pairs -/
def FR8 (σ σ0 : Sg) : Prop := ∀ c x, ¬ (c = 686 ∧ 3900 ≤ x ∧ x < 4000) → ¬ (c = 687 ∧ 3900 ≤ x ∧ x < 4100) → σ c x = σ0 c x
def psK (K : Nat → Int) (r : St) : Int := if r.1 = 0 then 0 else K (r.1 - 1) + 1
/-- the two patches, the hunks of the second and the inverse of the first -/
def CX8 (σ : Sg) (s t nb na nc : Nat) (F K G X Z : Nat → Int) (lB : List St) : Prop := s < 39 ∧ t < 39 ∧ nb ≤ 99 ∧ na ≤ 99 ∧ nc ≤ 99 ∧ lB.length ≤ 120 ∧ σ 688 s = (nb : Nat) ∧ σ 689 t = (nc : Nat) ∧ (∀ x, x < nb → σ 685 (100 * s + x) = X x) ∧ (∀ x, x < nb → σ 687 (100 * s + x) = F x) ∧ (∀ x, x < na → σ 687 (100 * t + x) = G x) ∧ (∀ x, x < nc → σ 686 (100 * t + x) = Z x) ∧ HK σ 1 0 lB ∧ (∀ x, x < na → σ 690 x = K x) ∧ (∀ x, x < nb → F x = -1 ∨ ∃ y : Nat, F x = (y : Int) ∧ y < na) ∧ (∀ y, y < na → -1 ≤ K y ∧ K y ≤ 100) ∧ ∀ (h : Nat) (r : St), lB[h]? = some r → r.1 + r.2.1 ≤ na ∧ r.2.2.1 + r.2.2.2 ≤ nc
theorem d296 {σ σ0 : Sg} {s t nb na nc h : Nat} {F K G X Z : Nat → Int} {lB : List St} {r : St} (C : CX8 σ0 s t nb na nc F K G X Z lB) (fr : FR8 σ σ0) (hr : lB[h]? = some r) : Dd 296 [vA 682, vI ((128 + h : Nat) : Int)] σ (rI (psK K r) σ) := by
  obtain ⟨h1, h2, h3, h4, h5, h6, c1, c2, c3, c4, c5, c6, c7, c8, c9, c10, c11⟩ := C
  have hl := (List.getElem?_eq_some_iff.mp hr).1
  have v := (c7 h r hr).1
  rw [show 128 * 1 + (0 + h) = 128 + h by omega] at v
  have b := c11 h r hr
  refine b296 ?_
  rw [tn, fr 700 _ (by omega) (by omega), v]
  unfold psK
  by_cases y : r.1 = 0
  · rw [if_pos y, if_pos (by omega)]
    exact ⟨by omega, fun _ => by omega, fun _ => by omega, fun _ => by omega, fun e => absurd (by omega) e, rfl⟩
  · have k := c10 (r.1 - 1) (by omega)
    rw [if_neg y, if_neg (by omega), show ((r.1 : Nat) : Int) - 1 = ((r.1 - 1 : Nat) : Int) by omega, tn, fr 690 _ (by omega) (by omega), c8 _ (by omega)]
    exact ⟨by omega, fun _ => by omega, fun _ => by omega, fun _ => by omega, fun _ => by omega, rfl⟩
/-- one line of the first text kept -/
theorem l297k {σ0 : Sg} {s t nb na nc : Nat} {F K G X Z : Nat → Int} {lB : List St} (C : CX8 σ0 s t nb na nc F K G X Z lB) {h i : Nat} {M f g : List Int} {σ : Sg} (hi : i < nb) (hM : M.length < 99) (hf : f.length = i) (hg : g.length = M.length) (hh : h ≤ lB.length) (np : ∀ r, lB[h]? = some r → ¬ psK K r = (i : Int)) (R : RS8 σ M f g) (fr : FR8 σ σ0) : ∃ σ', (∀ {o : Rs}, (∀ d9 : Option AV, C297_24 s t 39 40 (lB.length : Nat) ((128 + h : Nat) : Int) ((M.length + 1 : Nat) : Int) ((i + 1 : Nat) : Int) d9 σ' o) → ∀ d9 : Option AV, C297_24 s t 39 40 (lB.length : Nat) ((128 + h : Nat) : Int) (M.length : Nat) i d9 σ o) ∧ RS8 σ' (M ++ [X i]) (f ++ [(M.length : Int)]) (g ++ [if F i = -1 then -1 else G (F i).toNat]) ∧ FR8 σ' σ0 := by
  have CC := C
  obtain ⟨h1, h2, h3, h4, h5, h6, c1, c2, c3, c4, c5, c6, c7, c8, c9, c10, c11⟩ := C
  obtain ⟨R1, R2, R3⟩ := R
  obtain ⟨u, hu⟩ : ∃ u, u = (if F i = -1 then -1 else G (F i).toNat) := ⟨_, rfl⟩
  rw [← hu]
  refine ⟨upS (upS (upS σ 686 (3900 + M.length) (X i)) 687 (3900 + i) (M.length : Int)) 687 (4000 + M.length) u, fun {o} hx d9 => ?_, ⟨fun x v e => ?_, fun x v e => ?_, fun x v e => ?_⟩, fun c x y1 y2 => ?_⟩
  · have t202 : ∀ d9 : Option AV, C297_202 s t 39 40 (lB.length : Nat) ((128 + h : Nat) : Int) (M.length : Nat) i d9 σ o := by
      intro d9
      have e685 : σ 685 ((100 * (s : Int) + (i : Int))).toNat = X i := by
        rw [show (100 * (s : Int) + (i : Int)).toNat = 100 * s + i by omega, fr 685 _ (by omega) (by omega)]
        exact c3 i hi
      have e687 : σ 687 ((100 * (s : Int) + (i : Int))).toNat = F i := by
        rw [show (100 * (s : Int) + (i : Int)).toNat = 100 * s + i by omega, fr 687 _ (by omega) (by omega)]
        exact c4 i hi
      have i1 : (100 * (39 : Int) + ((M.length : Nat) : Int)).toNat = 3900 + M.length := by omega
      have i2 : (100 * (39 : Int) + (i : Int)).toNat = 3900 + i := by omega
      refine b297_202 ?_
      rw [e685, e687, i1, i2]
      have z9 := c9 i hi
      have yb : ¬ F i = -1 → ∃ y : Nat, F i = (y : Int) ∧ y < na := fun e => by
        rcases z9 with z | z
        · exact absurd z e
        · exact z
      refine ⟨by omega, by omega, by omega, by omega, by omega, by omega, by omega, by omega, by omega, by omega, by omega, by omega, by omega, by omega, fun e => by omega, fun e => by
        obtain ⟨y, z1, z2⟩ := yb e
        omega, fun e => by
        obtain ⟨y, z1, z2⟩ := yb e
        omega, ?_⟩
      have eu : (if F i = -1 then (-1 : Int) else upS (upS σ 686 (3900 + M.length) (X i)) 687 (3900 + i) (M.length : Int) 687 (100 * (t : Int) + F i).toNat) = u := by
        rw [hu]
        by_cases e : F i = -1
        · rw [if_pos e, if_pos e]
        · obtain ⟨y, z1, z2⟩ := yb e
          rw [if_neg e, if_neg e, z1, tn, show (100 * (t : Int) + (y : Int)).toNat = 100 * t + y by omega, up_k (show ¬ 100 * t + y = 3900 + i by omega), up_a (show ¬ (687 : Nat) = 686 by decide), fr 687 _ (by omega) (by omega)]
          exact c5 y z2
      rw [eu]
      refine b297_288 ?_
      rw [show (100 * (40 : Int) + ((M.length : Nat) : Int)).toNat = 4000 + M.length by omega, show ((M.length : Nat) : Int) + 1 = ((M.length + 1 : Nat) : Int) by omega, show (i : Int) + 1 = ((i + 1 : Nat) : Int) by omega]
      exact ⟨by omega, by omega, by omega, hx _⟩
    refine b297_24 ⟨by omega, ?_⟩
    rw [tn, fr 688 s (by omega) (by omega), c1, if_neg (by omega)]
    refine b297_46 ⟨by omega, ?_⟩
    by_cases y : h < lB.length
    · obtain ⟨r, hr⟩ : ∃ r, lB[h]? = some r := ⟨lB[h], List.getElem?_eq_getElem y⟩
      rw [if_pos (by omega)]
      refine ⟨_, _, d296 CC fr hr, ?_⟩
      rw [if_neg (np r hr)]
      exact t202 _
    · rw [if_neg (by omega)]
      exact t202 _
  · rcases ls_at e with ⟨z1, z2⟩ | ⟨z1, z2⟩
    · rw [up_a (by decide), up_a (by decide), up_k (by omega)]
      exact R1 x v z2
    · rw [up_a (by decide), up_a (by decide), z1, up_s, z2]
  · rcases ls_at e with ⟨z1, z2⟩ | ⟨z1, z2⟩
    · rw [up_k (by omega), up_k (by omega), up_a (by decide)]
      exact R2 x v z2
    · rw [up_k (by omega), z1, hf, up_s, z2]
  · rcases ls_at e with ⟨z1, z2⟩ | ⟨z1, z2⟩
    · rw [up_k (by omega), up_k (by omega), up_a (by decide)]
      exact R3 x v z2
    · rw [z1, hg, up_s, z2]
  · unfold upS
    rw [if_neg (by omega), if_neg (by omega), if_neg (by omega)]
    exact fr c x y1 y2
def uZ (F G : Nat → Int) : Nat → Int := fun x => if F x = -1 then -1 else G (F x).toNat
/-- lines of the first text kept -/
theorem l297r {σ0 : Sg} {s t nb na nc : Nat} {F K G X Z : Nat → Int} {lB : List St} (C : CX8 σ0 s t nb na nc F K G X Z lB) {h : Nat} (hh : h ≤ lB.length) : ∀ (d i : Nat) (M f g : List Int) (σ : Sg), i + d ≤ nb → M.length + d ≤ 99 → f.length = i → g.length = M.length → (∀ x, x < d → ∀ r, lB[h]? = some r → ¬ psK K r = ((i + x : Nat) : Int)) → RS8 σ M f g → FR8 σ σ0 → ∃ σ', (∀ {o : Rs}, (∀ d9 : Option AV, C297_24 s t 39 40 (lB.length : Nat) ((128 + h : Nat) : Int) ((M.length + d : Nat) : Int) ((i + d : Nat) : Int) d9 σ' o) → ∀ d9 : Option AV, C297_24 s t 39 40 (lB.length : Nat) ((128 + h : Nat) : Int) (M.length : Nat) i d9 σ o) ∧ RS8 σ' (M ++ rlZ X i d) (f ++ rlZ idZ M.length d) (g ++ rlZ (uZ F G) i d) ∧ FR8 σ' σ0 := by
  intro d
  induction d with
  | zero =>
    intro i M f g σ _ _ _ _ _ R fr
    refine ⟨σ, fun {o} hx => hx, ?_, fr⟩
    rw [rl_0, rl_0, rl_0]
    exact R
  | succ d ih =>
    intro i M f g σ hi hM hf hg np R fr
    obtain ⟨σ1, a1, a2, a3⟩ := l297k C (h := h) (i := i) (M := M) (f := f) (g := g) (σ := σ) (by omega) (by omega) hf hg hh (fun r hr => np 0 (by omega) r hr) R fr
    have hl : (M ++ [X i]).length = M.length + 1 := by rw [List.length_append, List.length_singleton]
    obtain ⟨σ', c1, c2, c3⟩ := ih (i + 1) (M ++ [X i]) (f ++ [(M.length : Int)]) (g ++ [uZ F G i]) σ1 (by omega) (by rw [hl]; omega) (by rw [List.length_append, List.length_singleton, hf]) (by rw [List.length_append, List.length_singleton, hg, hl]) (fun x hx r hr => by
      rw [show i + 1 + x = i + (x + 1) by omega]
      exact np (x + 1) (by omega) r hr) a2 a3
    rw [hl, show ((M.length : Nat) : Int) = idZ M.length from rfl, rl_c, rl_c, rl_c] at c2
    refine ⟨σ', fun {o} hx => a1 (fun d9 => ?_), c2, c3⟩
    have z := c1 (o := o) (fun d9 => by
      rw [hl, show M.length + 1 + d = M.length + (d + 1) by omega, show i + 1 + d = i + (d + 1) by omega]
      exact hx d9) d9
    rw [hl] at z
    exact z
/-- the added lines of a hunk -/
theorem l297a {σ0 : Sg} {s t nb na nc : Nat} {F K G X Z : Nat → Int} {lB : List St} (C : CX8 σ0 s t nb na nc F K G X Z lB) {h i : Nat} {r : St} (hr : lB[h]? = some r) {f : List Int} (hi : i ≤ 99) (hf : f.length ≤ 99) : ∀ (d x : Nat) (M g : List Int) (σ : Sg), x + d = r.2.2.2 → M.length + d ≤ 99 → g.length = M.length → RS8 σ M f g → FR8 σ σ0 → ∃ σ', (∀ {o : Rs}, C297_150 s t 39 40 (lB.length : Nat) ((128 + h : Nat) : Int) ((M.length + d : Nat) : Int) i 0 σ' o → C297_71 s t 39 40 (lB.length : Nat) ((128 + h : Nat) : Int) (M.length : Nat) i x σ o) ∧ RS8 σ' (M ++ rlZ Z (r.2.2.1 + x) d) f (g ++ rlZ idZ (r.2.2.1 + x) d) ∧ FR8 σ' σ0 := by
  obtain ⟨h1, h2, h3, h4, h5, h6, c1, c2, c3, c4, c5, c6, c7, c8, c9, c10, c11⟩ := C
  have hl := (List.getElem?_eq_some_iff.mp hr).1
  obtain ⟨v0, v1, v2, v3⟩ := c7 h r hr
  rw [show 128 * 1 + (0 + h) = 128 + h by omega] at v0 v1 v2 v3
  have b := c11 h r hr
  intro d
  induction d with
  | zero =>
    intro x M g σ hx hM hg R fr
    refine ⟨σ, fun {o} hh => b297_71 ⟨by omega, ?_⟩, ?_, fr⟩
    · rw [tn, fr 703 _ (by omega) (by omega), v3, if_neg (by omega)]
      exact hh
    · rw [rl_0, rl_0]
      exact R
  | succ d ih =>
    intro x M g σ hx hM hg R fr
    obtain ⟨R1, R2, R3⟩ := R
    have hlen : (M ++ [Z (r.2.2.1 + x)]).length = M.length + 1 := by rw [List.length_append, List.length_singleton]
    have fr1 : FR8 (upS (upS σ 686 (3900 + M.length) (Z (r.2.2.1 + x))) 687 (4000 + M.length) ((r.2.2.1 + x : Nat) : Int)) σ0 := fun c y y1 y2 => by
      unfold upS
      rw [if_neg (by omega), if_neg (by omega)]
      exact fr c y y1 y2
    obtain ⟨σ', a1, a2, a3⟩ := ih (x + 1) (M ++ [Z (r.2.2.1 + x)]) (g ++ [((r.2.2.1 + x : Nat) : Int)]) (upS (upS σ 686 (3900 + M.length) (Z (r.2.2.1 + x))) 687 (4000 + M.length) ((r.2.2.1 + x : Nat) : Int)) (by omega) (by rw [hlen]; omega) (by rw [List.length_append, List.length_singleton, hg, hlen]) ⟨fun y v e => by
      rcases ls_at e with ⟨z1, z2⟩ | ⟨z1, z2⟩
      · rw [up_a (by decide), up_k (by omega)]
        exact R1 y v z2
      · rw [up_a (by decide), z1, up_s, z2], fun y v e => by
      have hy := (List.getElem?_eq_some_iff.mp e).1
      rw [up_k (by omega), up_a (by decide)]
      exact R2 y v e, fun y v e => by
      rcases ls_at e with ⟨z1, z2⟩ | ⟨z1, z2⟩
      · rw [up_k (by omega), up_a (by decide)]
        exact R3 y v z2
      · rw [z1, hg, up_s, z2]⟩ fr1
    rw [show ((r.2.2.1 + x : Nat) : Int) = idZ (r.2.2.1 + x) from rfl, show r.2.2.1 + (x + 1) = r.2.2.1 + x + 1 by omega, rl_c, rl_c] at a2
    refine ⟨σ', fun {o} hh => b297_71 ⟨by omega, ?_⟩, a2, a3⟩
    have z := a1 (o := o) (by
      rw [hlen, show M.length + 1 + d = M.length + (d + 1) by omega]
      exact hh)
    rw [hlen] at z
    have e702 : σ 702 (128 + h) = (r.2.2.1 : Nat) := by rw [fr 702 _ (by omega) (by omega)]; exact v2
    rw [tn, fr 703 _ (by omega) (by omega), v3, if_pos (by omega), e702, show (100 * (39 : Int) + ((M.length : Nat) : Int)).toNat = 3900 + M.length by omega, show (100 * (t : Int) + ((r.2.2.1 : Nat) : Int) + (x : Int)).toNat = 100 * t + (r.2.2.1 + x) by omega, fr 686 _ (by omega) (by omega), c6 _ (by omega), up_a (show ¬ (702 : Nat) = 686 by decide), e702, show (100 * (40 : Int) + ((M.length : Nat) : Int)).toNat = 4000 + M.length by omega, show ((r.2.2.1 : Nat) : Int) + (x : Int) = ((r.2.2.1 + x : Nat) : Int) by omega, show ((M.length : Nat) : Int) + 1 = ((M.length + 1 : Nat) : Int) by omega, show (x : Int) + 1 = ((x + 1 : Nat) : Int) by omega]
    exact ⟨by omega, by omega, by omega, by omega, by omega, by omega, by omega, by omega, by omega, by omega, by omega, by omega, by omega, by omega, by omega, z⟩
/-- the dropped lines of a hunk -/
theorem l297b {σ0 : Sg} {s t nb na nc : Nat} {F K G X Z : Nat → Int} {lB : List St} (C : CX8 σ0 s t nb na nc F K G X Z lB) {h i : Nat} {r : St} (hr : lB[h]? = some r) {M g : List Int} (hi : i + r.2.1 ≤ nb) (hM : M.length ≤ 99) : ∀ (d x : Nat) (f : List Int) (σ : Sg), x + d = r.2.1 → f.length = i + x → RS8 σ M f g → FR8 σ σ0 → ∃ σ', (∀ {o : Rs}, (∀ d9 : Option AV, C297_24 s t 39 40 (lB.length : Nat) ((128 + (h + 1) : Nat) : Int) (M.length : Nat) ((i + r.2.1 : Nat) : Int) d9 σ' o) → C297_150 s t 39 40 (lB.length : Nat) ((128 + h : Nat) : Int) (M.length : Nat) i x σ o) ∧ RS8 σ' M (f ++ rlZ m1Z (i + x) d) g ∧ FR8 σ' σ0 := by
  obtain ⟨h1, h2, h3, h4, h5, h6, c1, c2, c3, c4, c5, c6, c7, c8, c9, c10, c11⟩ := C
  have hl := (List.getElem?_eq_some_iff.mp hr).1
  obtain ⟨v0, v1, v2, v3⟩ := c7 h r hr
  rw [show 128 * 1 + (0 + h) = 128 + h by omega] at v0 v1 v2 v3
  intro d
  induction d with
  | zero =>
    intro x f σ hx hf R fr
    refine ⟨σ, fun {o} hh => b297_150 ⟨by omega, ?_⟩, ?_, fr⟩
    · rw [tn, fr 701 _ (by omega) (by omega), v1, if_neg (by omega), show ((128 + h : Nat) : Int) + 1 = ((128 + (h + 1) : Nat) : Int) by omega, show (i : Int) + ((r.2.1 : Nat) : Int) = ((i + r.2.1 : Nat) : Int) by omega]
      exact ⟨by omega, by omega, by omega, hh _⟩
    · rw [rl_0]
      exact R
  | succ d ih =>
    intro x f σ hx hf R fr
    obtain ⟨R1, R2, R3⟩ := R
    obtain ⟨σ', a1, a2, a3⟩ := ih (x + 1) (f ++ [-1]) (upS σ 687 (3900 + (i + x)) (-1)) (by omega) (by rw [List.length_append, List.length_singleton, hf]; omega) ⟨fun y v e => by rw [up_a (by decide)]; exact R1 y v e, fun y v e => by
      rcases ls_at e with ⟨z1, z2⟩ | ⟨z1, z2⟩
      · rw [up_k (by omega)]
        exact R2 y v z2
      · rw [z1, hf, up_s, z2], fun y v e => by
      rw [up_k (by omega)]
      exact R3 y v e⟩ (fun c y y1 y2 => by
      unfold upS
      rw [if_neg (by omega)]
      exact fr c y y1 y2)
    rw [show (-1 : Int) = m1Z (i + x) from rfl, show i + (x + 1) = i + x + 1 by omega, rl_c] at a2
    refine ⟨σ', fun {o} hh => b297_150 ⟨by omega, ?_⟩, a2, a3⟩
    rw [tn, fr 701 _ (by omega) (by omega), v1, if_pos (by omega), show (100 * (39 : Int) + (i : Int) + (x : Int)).toNat = 3900 + (i + x) by omega, show (x : Int) + 1 = ((x + 1 : Nat) : Int) by omega]
    exact ⟨by omega, by omega, by omega, by omega, by omega, a1 hh⟩
/-- a hunk of the second patch -/
theorem l297h {σ0 : Sg} {s t nb na nc : Nat} {F K G X Z : Nat → Int} {lB : List St} (C : CX8 σ0 s t nb na nc F K G X Z lB) {h i : Nat} {r : St} (hr : lB[h]? = some r) {M f g : List Int} {σ : Sg} (hi : i + r.2.1 ≤ nb) (hp : psK K r = (i : Int)) (hM : M.length + r.2.2.2 ≤ 99) (hf : f.length = i) (hg : g.length = M.length) (R : RS8 σ M f g) (fr : FR8 σ σ0) : ∃ σ', (∀ {o : Rs}, (∀ d9 : Option AV, C297_24 s t 39 40 (lB.length : Nat) ((128 + (h + 1) : Nat) : Int) ((M.length + r.2.2.2 : Nat) : Int) ((i + r.2.1 : Nat) : Int) d9 σ' o) → ∀ d9 : Option AV, C297_24 s t 39 40 (lB.length : Nat) ((128 + h : Nat) : Int) (M.length : Nat) i d9 σ o) ∧ RS8 σ' (M ++ rlZ Z r.2.2.1 r.2.2.2) (f ++ rlZ m1Z i r.2.1) (g ++ rlZ idZ r.2.2.1 r.2.2.2) ∧ FR8 σ' σ0 := by
  have CC := C
  obtain ⟨h1, h2, h3, h4, h5, h6, c1, c2, c3, c4, c5, c6, c7, c8, c9, c10, c11⟩ := C
  have hl := (List.getElem?_eq_some_iff.mp hr).1
  obtain ⟨σ1, a1, a2, a3⟩ := l297a CC hr (i := i) (f := f) (by omega) (by omega) r.2.2.2 0 M g σ (by omega) hM hg R fr
  rw [Nat.add_zero] at a2
  have hl2 : (M ++ rlZ Z r.2.2.1 r.2.2.2).length = M.length + r.2.2.2 := ap_len
  obtain ⟨σ2, e1, e2, e3⟩ := l297b CC hr (i := i) (M := M ++ rlZ Z r.2.2.1 r.2.2.2) (g := g ++ rlZ idZ r.2.2.1 r.2.2.2) hi (by rw [hl2]; exact hM) r.2.1 0 f σ1 (by omega) (by omega) a2 a3
  rw [Nat.add_zero] at e2
  rw [hl2] at e1
  refine ⟨σ2, fun {o} hx d9 => ?_, e2, e3⟩
  have t71 : C297_71 s t 39 40 (lB.length : Nat) ((128 + h : Nat) : Int) (M.length : Nat) i 0 σ o := a1 (e1 hx)
  have t46 : C297_46 s t 39 40 (lB.length : Nat) ((128 + h : Nat) : Int) (M.length : Nat) i d9 σ o := by
    refine b297_46 ⟨by omega, ?_⟩
    rw [if_pos (by omega)]
    refine ⟨_, _, d296 CC fr hr, ?_⟩
    rw [if_pos hp]
    exact t71
  refine b297_24 ⟨by omega, ?_⟩
  rw [tn, fr 688 s (by omega) (by omega), c1]
  by_cases y : ((nb : Nat) : Int) ≤ (i : Int)
  · rw [if_pos y]
    refine ⟨by omega, ?_⟩
    rw [if_pos (by omega)]
    exact t46
  · rw [if_neg y]
    exact t46
/-- a list's values -/
def gv (l : List Int) : Nat → Int := fun x => (l[x]?).getD 0
theorem gv_at {l : List Int} {x : Nat} (hx : x < l.length) : l[x]? = some (gv l x) := by
  unfold gv
  rw [List.getElem?_eq_getElem hx]
  rfl
theorem gv_v {l : List Int} {x : Nat} {v : Int} (h : l[x]? = some v) : gv l x = v := by
  unfold gv
  rw [h]
  rfl
/-- the end of it: the lines copied -/
theorem l297z {σ0 : Sg} {s t nb na nc : Nat} {F K G X Z : Nat → Int} {lB : List St} (C : CX8 σ0 s t nb na nc F K G X Z lB) {M f g : List Int} {σ : Sg} (hM : M.length ≤ 99) (hf : f.length = nb) (hg : g.length = M.length) (R : RS8 σ M f g) (fr : FR8 σ σ0) : ∃ s2, (∀ d9 : Option AV, C297_24 s t 39 40 (lB.length : Nat) ((128 + lB.length : Nat) : Int) (M.length : Nat) nb d9 σ (rV s2)) ∧ Slot s2 39 nb M.length X (gv M) (gv f) ∧ Slot s2 40 M.length nc (gv M) Z (gv g) ∧ ∀ c x, ¬ (685 ≤ c ∧ c ≤ 687 ∧ 3900 ≤ x ∧ x < 4100) → ¬ ((c = 688 ∨ c = 689) ∧ (x = 39 ∨ x = 40)) → s2 c x = σ0 c x := by
  obtain ⟨h1, h2, h3, h4, h5, h6, c1, c2, c3, c4, c5, c6, c7, c8, c9, c10, c11⟩ := C
  obtain ⟨R1, R2, R3⟩ := R
  -- the sizes
  obtain ⟨σ1, hσ1⟩ : ∃ σ1, σ1 = upS (upS (upS (upS σ 688 39 (nb : Nat)) 689 39 (M.length : Nat)) 688 40 (M.length : Nat)) 689 40 (nc : Nat) := ⟨_, rfl⟩
  have k1 : ∀ c x, ¬ ((c = 688 ∨ c = 689) ∧ (x = 39 ∨ x = 40)) → σ1 c x = σ c x := fun c x h => by
    rw [hσ1]
    unfold upS
    rw [if_neg (by omega), if_neg (by omega), if_neg (by omega), if_neg (by omega)]
  have z1 : σ1 688 39 = (nb : Nat) := by rw [hσ1, up_a (by decide), up_k (by decide), up_a (by decide), up_s]
  have z2 : σ1 689 39 = (M.length : Nat) := by rw [hσ1, up_k (by decide), up_a (by decide), up_s]
  have z3 : σ1 688 40 = (M.length : Nat) := by rw [hσ1, up_a (by decide), up_s]
  have z4 : σ1 689 40 = (nc : Nat) := by rw [hσ1, up_s]
  have L3 : ∀ (d x : Nat) (σ2 : Sg) (d1 d3 d5 d6 d7 d8 : Option AV), x + d = nc → (∀ y, y < x → σ2 686 (4000 + y) = Z y) → (∀ c y, ¬ (c = 685 ∧ 3900 ≤ y ∧ y < 4100) → ¬ (c = 686 ∧ 4000 ≤ y ∧ y < 4100) → σ2 c y = σ1 c y) → ∃ s2, C297_428 d1 t d3 40 d5 d6 d7 d8 x σ2 (rV s2) ∧ (∀ y, y < nc → s2 686 (4000 + y) = Z y) ∧ ∀ c y, ¬ (c = 686 ∧ 4000 ≤ y ∧ y < 4100) → s2 c y = σ2 c y := by
    intro d
    induction d with
    | zero =>
      intro x σ2 d1 d3 d5 d6 d7 d8 hx hv k2
      refine ⟨σ2, b297_428 ⟨by omega, ?_⟩, fun y hy => hv y (by omega), fun _ _ _ => rfl⟩
      rw [show ((40 : Int)).toNat = 40 from rfl, k2 689 40 (by omega) (by omega), z4, if_neg (by omega)]
    | succ d ih =>
      intro x σ2 d1 d3 d5 d6 d7 d8 hx hv k2
      have e : σ2 686 (100 * t + x) = Z x := by
        rw [k2 _ _ (by omega) (by omega), k1 _ _ (by omega), fr _ _ (by omega) (by omega)]
        exact c6 x (by omega)
      obtain ⟨s2, a1, a2, a3⟩ := ih (x + 1) (upS σ2 686 (4000 + x) (Z x)) d1 d3 d5 d6 d7 d8 (by omega) (fun y hy => by
        by_cases q : y = x
        · rw [q, up_s]
        · rw [up_k (by omega)]
          exact hv y (by omega)) (fun c y y1 y2 => by
        have : upS σ2 686 (4000 + x) (Z x) c y = σ2 c y := by
          unfold upS
          rw [if_neg (by omega)]
        rw [this]
        exact k2 c y y1 y2)
      refine ⟨s2, b297_428 ⟨by omega, ?_⟩, a2, fun c y y1 => by
        rw [a3 c y y1]
        unfold upS
        rw [if_neg (by omega)]⟩
      rw [show ((40 : Int)).toNat = 40 from rfl, k2 689 40 (by omega) (by omega), z4, if_pos (by omega), show (100 * (40 : Int) + (x : Int)).toNat = 4000 + x by omega, show (100 * (t : Int) + (x : Int)).toNat = 100 * t + x by omega, e, show (x : Int) + 1 = ((x + 1 : Nat) : Int) by omega]
      exact ⟨by omega, by omega, by omega, by omega, by omega, by omega, by omega, a1⟩
  have L2 : ∀ (d x : Nat) (σ2 : Sg) (d1 d5 d6 d8 : Option AV), x + d = M.length → (∀ y, y < x → σ2 685 (4000 + y) = gv M y) → (∀ c y, ¬ (c = 685 ∧ 3900 ≤ y ∧ y < 4100) → σ2 c y = σ1 c y) → ∃ s2, C297_387 d1 t 39 40 d5 d6 (M.length : Nat) d8 x σ2 (rV s2) ∧ (∀ y, y < nc → s2 686 (4000 + y) = Z y) ∧ (∀ y, y < M.length → s2 685 (4000 + y) = gv M y) ∧ ∀ c y, ¬ (c = 685 ∧ 4000 ≤ y ∧ y < 4100) → ¬ (c = 686 ∧ 4000 ≤ y ∧ y < 4100) → s2 c y = σ2 c y := by
    intro d
    induction d with
    | zero =>
      intro x σ2 d1 d5 d6 d8 hx hv k2
      obtain ⟨s2, a1, a2, a3⟩ := L3 nc 0 σ2 d1 (some (vI 39)) d5 d6 (some (vI ((M.length : Nat) : Int))) d8 (by omega) (fun y hy => absurd hy (Nat.not_lt_zero y)) (fun c y y1 y2 => k2 c y y1)
      refine ⟨s2, b297_387 ?_, a2, fun y hy => by rw [a3 _ _ (by omega)]; exact hv y (by omega), fun c y y1 y2 => a3 c y y2⟩
      rw [if_neg (by omega)]
      exact a1
    | succ d ih =>
      intro x σ2 d1 d5 d6 d8 hx hv k2
      have e : σ2 686 (3900 + x) = gv M x := by
        rw [k2 _ _ (by omega), k1 _ _ (by omega)]
        exact R1 x _ (gv_at (by omega))
      obtain ⟨s2, a1, a2, a3, a4⟩ := ih (x + 1) (upS σ2 685 (4000 + x) (gv M x)) d1 d5 d6 d8 (by omega) (fun y hy => by
        by_cases q : y = x
        · rw [q, up_s]
        · rw [up_k (by omega)]
          exact hv y (by omega)) (fun c y y1 => by
        have : upS σ2 685 (4000 + x) (gv M x) c y = σ2 c y := by
          unfold upS
          rw [if_neg (by omega)]
        rw [this]
        exact k2 c y y1)
      refine ⟨s2, b297_387 ?_, a2, a3, fun c y y1 y2 => by
        rw [a4 c y y1 y2]
        unfold upS
        rw [if_neg (by omega)]⟩
      rw [if_pos (by omega), show (100 * (40 : Int) + (x : Int)).toNat = 4000 + x by omega, show (100 * (39 : Int) + (x : Int)).toNat = 3900 + x by omega, e, show (x : Int) + 1 = ((x + 1 : Nat) : Int) by omega]
      exact ⟨by omega, by omega, by omega, by omega, by omega, by omega, by omega, a1⟩
  have L1 : ∀ (d x : Nat) (σ2 : Sg) (d5 d6 d8 : Option AV), x + d = nb → (∀ y, y < x → σ2 685 (3900 + y) = X y) → (∀ c y, ¬ (c = 685 ∧ 3900 ≤ y ∧ y < 4000) → σ2 c y = σ1 c y) → ∃ s2, C297_343 s t 39 40 d5 d6 (M.length : Nat) d8 x σ2 (rV s2) ∧ (∀ y, y < nc → s2 686 (4000 + y) = Z y) ∧ (∀ y, y < M.length → s2 685 (4000 + y) = gv M y) ∧ (∀ y, y < nb → s2 685 (3900 + y) = X y) ∧ ∀ c y, ¬ (c = 685 ∧ 3900 ≤ y ∧ y < 4100) → ¬ (c = 686 ∧ 4000 ≤ y ∧ y < 4100) → s2 c y = σ1 c y := by
    intro d
    induction d with
    | zero =>
      intro x σ2 d5 d6 d8 hx hv k2
      obtain ⟨s2, a1, a2, a3, a4⟩ := L2 M.length 0 σ2 (some (vI s)) d5 d6 d8 (by omega) (fun y hy => absurd hy (Nat.not_lt_zero y)) (fun c y y1 => k2 c y (by omega))
      refine ⟨s2, b297_343 ⟨by omega, ?_⟩, a2, a3, fun y hy => by rw [a4 _ _ (by omega) (by omega)]; exact hv y (by omega), fun c y y1 y2 => by rw [a4 c y (by omega) y2]; exact k2 c y (by omega)⟩
      rw [show ((39 : Int)).toNat = 39 from rfl, k2 688 39 (by omega), z1, if_neg (by omega)]
      exact a1
    | succ d ih =>
      intro x σ2 d5 d6 d8 hx hv k2
      have e : σ2 685 (100 * s + x) = X x := by
        rw [k2 _ _ (by omega), k1 _ _ (by omega), fr _ _ (by omega) (by omega)]
        exact c3 x (by omega)
      obtain ⟨s2, a1, a2, a3, a4, a5⟩ := ih (x + 1) (upS σ2 685 (3900 + x) (X x)) d5 d6 d8 (by omega) (fun y hy => by
        by_cases q : y = x
        · rw [q, up_s]
        · rw [up_k (by omega)]
          exact hv y (by omega)) (fun c y y1 => by
        have : upS σ2 685 (3900 + x) (X x) c y = σ2 c y := by
          unfold upS
          rw [if_neg (by omega)]
        rw [this]
        exact k2 c y y1)
      refine ⟨s2, b297_343 ⟨by omega, ?_⟩, a2, a3, a4, a5⟩
      rw [show ((39 : Int)).toNat = 39 from rfl, k2 688 39 (by omega), z1, if_pos (by omega), show (100 * (39 : Int) + (x : Int)).toNat = 3900 + x by omega, show (100 * (s : Int) + (x : Int)).toNat = 100 * s + x by omega, e, show (x : Int) + 1 = ((x + 1 : Nat) : Int) by omega]
      exact ⟨by omega, by omega, by omega, by omega, by omega, by omega, by omega, a1⟩
  obtain ⟨s2, a1, a2, a3, a4, a5⟩ := L1 nb 0 σ1 (some (vI ((lB.length : Nat) : Int))) (some (vI ((128 + lB.length : Nat) : Int))) (some (vI ((nb : Nat) : Int))) (by omega) (fun y hy => absurd hy (Nat.not_lt_zero y)) (fun _ _ _ => rfl)
  refine ⟨s2, fun d9 => b297_24 ⟨by omega, ?_⟩, ⟨by rw [a5 _ _ (by omega) (by omega)]; exact z1, by rw [a5 _ _ (by omega) (by omega)]; exact z2, a4, fun y hy => ?_, fun y hy => ?_⟩, ⟨by rw [a5 _ _ (by omega) (by omega)]; exact z3, by rw [a5 _ _ (by omega) (by omega)]; exact z4, a3, a2, fun y hy => ?_⟩, fun c y y1 y2 => by rw [a5 c y (by omega) (by omega), k1 c y y2]; exact fr c y (by omega) (by omega)⟩
  · rw [tn, fr 688 s (by omega) (by omega), c1, if_pos (by omega)]
    refine ⟨by omega, ?_⟩
    rw [if_neg (by omega)]
    refine ⟨by omega, by omega, by omega, by omega, by omega, by omega, ?_⟩
    have e : upS (upS (upS (upS σ 688 ((39 : Int)).toNat (nb : Nat)) 689 ((39 : Int)).toNat (M.length : Nat)) 688 ((40 : Int)).toNat (M.length : Nat)) 689 ((40 : Int)).toNat (upS (upS (upS σ 688 ((39 : Int)).toNat (nb : Nat)) 689 ((39 : Int)).toNat (M.length : Nat)) 688 ((40 : Int)).toNat (M.length : Nat) 689 ((t : Int)).toNat) = σ1 := by
      rw [hσ1, tn, up_a (show ¬ (689 : Nat) = 688 by decide), up_k (show ¬ t = ((39 : Int)).toNat from by rw [show ((39 : Int)).toNat = 39 from rfl]; omega), up_a (show ¬ (689 : Nat) = 688 by decide), fr 689 t (by omega) (by omega), c2]
      rfl
    rw [e]
    exact a1
  · show s2 686 (3900 + y) = gv M y
    rw [a5 _ _ (by omega) (by omega), k1 _ _ (by omega)]
    exact R1 y _ (gv_at hy)
  · show s2 687 (3900 + y) = gv f y
    rw [a5 _ _ (by omega) (by omega), k1 _ _ (by omega)]
    exact R2 y _ (gv_at (by omega))
  · show s2 687 (4000 + y) = gv g y
    rw [a5 _ _ (by omega) (by omega), k1 _ _ (by omega)]
    exact R3 y _ (gv_at (by omega))
end
