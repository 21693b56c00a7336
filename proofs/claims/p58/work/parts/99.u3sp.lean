/-! split: the reference. -/
noncomputable section
/-- the lines laid, and the first text's lines beside -/
def RS9 (σ : Sg) (O : Nat → Int) (i : Nat) (M f g : List Int) : Prop := RS8 σ M f g ∧ ∀ x, x < i → σ 685 (3900 + x) = O x
def FR9 (σ σ0 : Sg) : Prop := ∀ c x, ¬ (c = 685 ∧ 3900 ≤ x ∧ x < 4000) → ¬ (c = 686 ∧ 3900 ≤ x ∧ x < 4000) → ¬ (c = 687 ∧ 3900 ≤ x ∧ x < 4100) → σ c x = σ0 c x
/-- a patch to be cut at a hunk -/
def CX9 (σ : Sg) (s nb na h o n aa : Nat) (F O N : Nat → Int) : Prop := s < 39 ∧ h < 128 ∧ nb ≤ 96 ∧ na ≤ 96 ∧ o ≤ nb ∧ n + aa ≤ na ∧ σ 688 s = (nb : Nat) ∧ σ 689 s = (na : Nat) ∧ (∀ x, x < nb → σ 685 (100 * s + x) = O x) ∧ (∀ x, x < na → σ 686 (100 * s + x) = N x) ∧ (∀ x, x < nb → σ 687 (100 * s + x) = F x) ∧ σ 700 h = (o : Nat) ∧ σ 702 h = (n : Nat)
/-- a line kept -/
theorem l298k {σ0 σ : Sg} {s nb na h o n aa p q i : Nat} {F O N : Nat → Int} {M f g : List Int} (C : CX9 σ0 s nb na h o n aa F O N) (hp : p ≤ 96) (hi : i < nb) (hno : ¬ (o ≤ i ∧ i < o + p)) (hM : M.length < 97) (hf : f.length = i) (hg : g.length = M.length) (R : RS9 σ O i M f g) (fr : FR9 σ σ0) : ∃ σ', (∀ {u : Rs}, (∀ d10 : Option AV, C298_246 s h p q 39 40 ((M.length + 1 : Nat) : Int) o i d10 σ' u) → ∀ d10 : Option AV, C298_105 s h p q 39 40 (M.length : Nat) o i d10 σ u) ∧ RS9 σ' O (i + 1) (M ++ [O i]) (f ++ [(M.length : Int)]) (g ++ [F i]) ∧ FR9 σ' σ0 := by
  obtain ⟨h1, h2, h3, h4, h5, h6, c1, c2, c3, c4, c5, c6, c7⟩ := C
  obtain ⟨⟨R1, R2, R3⟩, R4⟩ := R
  refine ⟨upS (upS (upS (upS σ 685 (3900 + i) (O i)) 687 (3900 + i) (M.length : Int)) 686 (3900 + M.length) (O i)) 687 (4000 + M.length) (F i), fun {u} hx d10 => ?_, ⟨⟨fun x v e => ?_, fun x v e => ?_, fun x v e => ?_⟩, fun x hx => ?_⟩, fun c x y1 y2 y3 => ?_⟩
  · have t136 : C298_136 s h p q 39 40 (M.length : Nat) o i d10 σ u := by
      refine b298_136 (b298_137 ?_)
      have e685 : σ 685 (100 * (s : Int) + (i : Int)).toNat = O i := by
        rw [show (100 * (s : Int) + (i : Int)).toNat = 100 * s + i by omega, fr 685 _ (by omega) (by omega) (by omega)]
        exact c3 i hi
      rw [if_pos rfl, e685, show (100 * (39 : Int) + (i : Int)).toNat = 3900 + i by omega]
      refine ⟨by omega, by omega, by omega, by omega, by omega, by omega, by omega, by omega, b298_187 ⟨by omega, ?_⟩⟩
      rw [if_pos rfl, show (100 * (39 : Int) + (i : Int)).toNat = 3900 + i by omega, show (100 * (39 : Int) + ((M.length : Nat) : Int)).toNat = 3900 + M.length by omega, show (100 * (40 : Int) + ((M.length : Nat) : Int)).toNat = 4000 + M.length by omega, show (100 * (s : Int) + (i : Int)).toNat = 100 * s + i by omega]
      rw [up_a (show ¬ (685 : Nat) = 687 by decide), up_k (show ¬ 100 * s + i = 3900 + i by omega), fr 685 (100 * s + i) (by omega) (by omega) (by omega), c3 i hi, up_a (show ¬ (687 : Nat) = 686 by decide), up_k (show ¬ 100 * s + i = 3900 + i by omega), up_a (show ¬ (687 : Nat) = 685 by decide), fr 687 (100 * s + i) (by omega) (by omega) (by omega), c5 i hi, show ((M.length : Nat) : Int) + 1 = ((M.length + 1 : Nat) : Int) by omega]
      exact ⟨by omega, by omega, by omega, by omega, by omega, by omega, by omega, by omega, by omega, by omega, by omega, by omega, by omega, hx _⟩
    refine b298_105 ⟨by omega, ?_⟩
    rw [tn, fr 688 s (by omega) (by omega) (by omega), c1, if_pos (by omega)]
    by_cases y1 : o ≤ i
    · rw [if_pos (by omega)]
      refine ⟨by omega, ?_⟩
      rw [if_neg (by omega)]
      exact t136
    · rw [if_neg (by omega)]
      exact t136
  · rcases ls_at e with ⟨z1, z2⟩ | ⟨z1, z2⟩
    · rw [up_a (by decide), up_k (by omega), up_a (by decide), up_a (by decide)]
      exact R1 x v z2
    · rw [up_a (by decide), z1, up_s, z2]
  · rcases ls_at e with ⟨z1, z2⟩ | ⟨z1, z2⟩
    · rw [up_k (by omega), up_a (by decide), up_k (by omega), up_a (by decide)]
      exact R2 x v z2
    · rw [up_k (by omega), up_a (by decide), z1, hf, up_s, z2]
  · rcases ls_at e with ⟨z1, z2⟩ | ⟨z1, z2⟩
    · rw [up_k (by omega), up_a (by decide), up_k (by omega), up_a (by decide)]
      exact R3 x v z2
    · rw [z1, hg, up_s, z2]
  · rw [up_a (by decide), up_a (by decide), up_a (by decide)]
    by_cases y : x = i
    · rw [y, up_s]
    · rw [up_k (by omega)]
      exact R4 x (by omega)
  · unfold upS
    rw [if_neg (by omega), if_neg (by omega), if_neg (by omega), if_neg (by omega)]
    exact fr c x y1 y2 y3
/-- a line dropped -/
theorem l298d {σ0 σ : Sg} {s nb na h o n aa p q i : Nat} {F O N : Nat → Int} {M f g : List Int} (C : CX9 σ0 s nb na h o n aa F O N) (hp : p ≤ 96) (hi : i < nb) (hno : o ≤ i ∧ i < o + p) (hf : f.length = i) (R : RS9 σ O i M f g) (fr : FR9 σ σ0) : ∃ σ', (∀ {u : Rs}, (∀ d10 : Option AV, C298_246 s h p q 39 40 (M.length : Nat) o i d10 σ' u) → ∀ d10 : Option AV, C298_105 s h p q 39 40 (M.length : Nat) o i d10 σ u) ∧ RS9 σ' O (i + 1) M (f ++ [-1]) g ∧ FR9 σ' σ0 := by
  obtain ⟨h1, h2, h3, h4, h5, h6, c1, c2, c3, c4, c5, c6, c7⟩ := C
  obtain ⟨⟨R1, R2, R3⟩, R4⟩ := R
  refine ⟨upS (upS σ 685 (3900 + i) (O i)) 687 (3900 + i) (-1), fun {u} hx d10 => ?_, ⟨⟨fun x v e => ?_, fun x v e => ?_, fun x v e => ?_⟩, fun x hx => ?_⟩, fun c x y1 y2 y3 => ?_⟩
  · refine b298_105 ⟨by omega, ?_⟩
    rw [tn, fr 688 s (by omega) (by omega) (by omega), c1, if_pos (by omega), if_pos (by omega)]
    refine ⟨by omega, ?_⟩
    rw [if_pos (by omega)]
    refine b298_137 ?_
    have e685 : σ 685 (100 * (s : Int) + (i : Int)).toNat = O i := by
      rw [show (100 * (s : Int) + (i : Int)).toNat = 100 * s + i by omega, fr 685 _ (by omega) (by omega) (by omega)]
      exact c3 i hi
    rw [if_neg (show ¬ (1 : Int) = 0 by decide), e685, show (100 * (39 : Int) + (i : Int)).toNat = 3900 + i by omega]
    refine ⟨by omega, by omega, by omega, by omega, by omega, by omega, by omega, by omega, b298_187 ⟨by omega, ?_⟩⟩
    rw [if_neg (show ¬ (1 : Int) = 0 by decide), show (100 * (39 : Int) + (i : Int)).toNat = 3900 + i by omega]
    exact hx _
  · rw [up_a (by decide), up_a (by decide)]
    exact R1 x v e
  · rcases ls_at e with ⟨z1, z2⟩ | ⟨z1, z2⟩
    · rw [up_k (by omega), up_a (by decide)]
      exact R2 x v z2
    · rw [z1, hf, up_s, z2]
  · rw [up_k (by omega), up_a (by decide)]
    exact R3 x v e
  · rw [up_a (by decide)]
    by_cases y : x = i
    · rw [y, up_s]
    · rw [up_k (by omega)]
      exact R4 x (by omega)
  · unfold upS
    rw [if_neg (by omega), if_neg (by omega)]
    exact fr c x y1 y2 y3
/-- on to the next line, where no hunk is cut -/
theorem l298n {σ : Sg} {s nb h o p q i : Nat} {m : Int} {d10 : Option AV} {u : Rs} (hs : s < 44) (c1 : σ 688 s = (nb : Nat)) (h96 : nb ≤ 96) (hi : i ≤ nb) (hne : ¬ i = o) (hx : ∀ d10 : Option AV, C298_105 s h p q 39 40 m o i d10 σ u) : C298_14 s h p q 39 40 m o i d10 σ u := by
  refine b298_14 ⟨by omega, ?_⟩
  rw [tn, c1, if_pos (by omega)]
  refine b298_28 ?_
  by_cases y : 0 < (q : Int)
  · rw [if_pos y, if_neg (by omega)]
    exact hx _
  · rw [if_neg y]
    exact hx _
/-- lines kept ahead of the hunk -/
theorem l298a {σ0 : Sg} {s nb na h o n aa p q : Nat} {F O N : Nat → Int} (C : CX9 σ0 s nb na h o n aa F O N) (hp : p ≤ 96) : ∀ (d i : Nat) (M f g : List Int) (σ : Sg), i + d = o → M.length + d ≤ 97 → f.length = i → g.length = M.length → RS9 σ O i M f g → FR9 σ σ0 → ∃ σ', (∀ {u : Rs}, (∀ d10 : Option AV, C298_14 s h p q 39 40 ((M.length + d : Nat) : Int) o ((i + d : Nat) : Int) d10 σ' u) → ∀ d10 : Option AV, C298_14 s h p q 39 40 (M.length : Nat) o i d10 σ u) ∧ RS9 σ' O (i + d) (M ++ rlZ O i d) (f ++ rlZ idZ M.length d) (g ++ rlZ F i d) ∧ FR9 σ' σ0 := by
  have CC := C
  obtain ⟨h1, h2, h3, h4, h5, h6, c1, c2, c3, c4, c5, c6, c7⟩ := C
  intro d
  induction d with
  | zero =>
    intro i M f g σ hi hM hf hg R fr
    refine ⟨σ, fun {u} hx => hx, ?_, fr⟩
    rw [rl_0, rl_0, rl_0]
    exact R
  | succ d ih =>
    intro i M f g σ hi hM hf hg R fr
    obtain ⟨σ1, a1, a2, a3⟩ := l298k (q := q) CC hp (i := i) (by omega) (by omega) (by omega) hf hg R fr
    obtain ⟨σ', e1, e2, e3⟩ := ih (i + 1) (M ++ [O i]) (f ++ [(M.length : Int)]) (g ++ [F i]) σ1 (by omega) (by rw [ap_len1]; omega) (by rw [ap_len1, hf]) (by rw [ap_len1, ap_len1, hg]) a2 a3
    rw [ap_len1, show ((M.length : Nat) : Int) = idZ M.length from rfl, rl_c, rl_c, rl_c, show i + 1 + d = i + (d + 1) by omega] at e2
    refine ⟨σ', fun {u} hx d10 => l298n (nb := nb) (by omega) (by rw [fr _ _ (by omega) (by omega) (by omega)]; exact c1) h3 (by omega) (by omega) (a1 (fun dv => b298_246 ⟨by omega, ?_⟩)), e2, e3⟩
    have z := e1 (u := u) (fun d2 => by
      rw [ap_len1, show M.length + 1 + d = M.length + (d + 1) by omega, show i + 1 + d = i + (d + 1) by omega]
      exact hx d2) dv
    rw [ap_len1] at z
    rw [show (i : Int) + 1 = ((i + 1 : Nat) : Int) by omega]
    exact z
/-- the hunk's first added lines -/
theorem l298i {σ0 : Sg} {s nb na h o n aa p q : Nat} {F O N : Nat → Int} (C : CX9 σ0 s nb na h o n aa F O N) (hq : q ≤ aa) : ∀ (d x : Nat) (M f g : List Int) (σ : Sg), x + d = q → M.length + d ≤ 97 → f.length = o → g.length = M.length → RS9 σ O o M f g → FR9 σ σ0 → ∃ σ', (∀ {u : Rs}, (∀ d10 : Option AV, C298_105 s h p q 39 40 ((M.length + d : Nat) : Int) o o d10 σ' u) → C298_28 s h p q 39 40 (M.length : Nat) o o x σ u) ∧ RS9 σ' O o (M ++ rlZ N (n + x) d) f (g ++ rlZ idZ (n + x) d) ∧ FR9 σ' σ0 := by
  obtain ⟨h1, h2, h3, h4, h5, h6, c1, c2, c3, c4, c5, c6, c7⟩ := C
  intro d
  induction d with
  | zero =>
    intro x M f g σ hx hM hf hg R fr
    refine ⟨σ, fun {u} hh => b298_28 ?_, ?_, fr⟩
    · rw [if_neg (by omega)]
      exact hh _
    · rw [rl_0, rl_0]
      exact R
  | succ d ih =>
    intro x M f g σ hx hM hf hg R fr
    obtain ⟨⟨R1, R2, R3⟩, R4⟩ := R
    obtain ⟨σ', e1, e2, e3⟩ := ih (x + 1) (M ++ [N (n + x)]) f (g ++ [((n + x : Nat) : Int)]) (upS (upS σ 686 (3900 + M.length) (N (n + x))) 687 (4000 + M.length) ((n + x : Nat) : Int)) (by omega) (by rw [ap_len1]; omega) hf (by rw [ap_len1, ap_len1, hg]) ⟨⟨fun y v e => by
      rcases ls_at e with ⟨z1, z2⟩ | ⟨z1, z2⟩
      · rw [up_a (by decide), up_k (by omega)]
        exact R1 y v z2
      · rw [up_a (by decide), z1, up_s, z2], fun y v e => by
      have hy := (List.getElem?_eq_some_iff.mp e).1
      rw [up_k (by omega), up_a (by decide)]
      exact R2 y v e, fun y v e => by
      rcases ls_at e with ⟨z1, z2⟩ | ⟨z1, z2⟩
      · rw [up_k (by omega), up_a (by decide)]
        exact R3 y v z2
      · rw [z1, hg, up_s, z2]⟩, fun y hy => by
      rw [up_a (by decide), up_a (by decide)]
      exact R4 y hy⟩ (fun c y y1 y2 y3 => by
      unfold upS
      rw [if_neg (by omega), if_neg (by omega)]
      exact fr c y y1 y2 y3)
    rw [show ((n + x : Nat) : Int) = idZ (n + x) from rfl, show n + (x + 1) = n + x + 1 by omega, rl_c, rl_c] at e2
    refine ⟨σ', fun {u} hh => b298_28 ?_, e2, e3⟩
    have z := e1 (u := u) (fun d2 => by
      rw [ap_len1, show M.length + 1 + d = M.length + (d + 1) by omega]
      exact hh d2)
    rw [ap_len1] at z
    have e702 : σ 702 h = (n : Nat) := by rw [fr 702 _ (by omega) (by omega) (by omega)]; exact c7
    rw [if_pos (by omega), if_pos rfl, tn, e702, show (100 * (39 : Int) + ((M.length : Nat) : Int)).toNat = 3900 + M.length by omega, show (100 * (s : Int) + (n : Int) + (x : Int)).toNat = 100 * s + (n + x) by omega, fr 686 _ (by omega) (by omega) (by omega), c4 _ (by omega), up_a (show ¬ (702 : Nat) = 686 by decide), e702, show (100 * (40 : Int) + ((M.length : Nat) : Int)).toNat = 4000 + M.length by omega, show ((n : Nat) : Int) + (x : Int) = ((n + x : Nat) : Int) by omega, show ((M.length : Nat) : Int) + 1 = ((M.length + 1 : Nat) : Int) by omega, show (x : Int) + 1 = ((x + 1 : Nat) : Int) by omega]
    exact ⟨by omega, by omega, by omega, by omega, by omega, by omega, by omega, by omega, by omega, by omega, by omega, by omega, by omega, by omega, by omega, z⟩
/-- the hunk's first dropped lines -/
theorem l298p {σ0 : Sg} {s nb na h o n aa p q : Nat} {F O N : Nat → Int} (C : CX9 σ0 s nb na h o n aa F O N) (hp : p ≤ 96) (hpn : o + p ≤ nb) : ∀ (d i : Nat) (M f g : List Int) (σ : Sg), o ≤ i → i + d = o + p → f.length = i → RS9 σ O i M f g → FR9 σ σ0 → ∃ σ', (∀ {u : Rs}, (∀ d10 : Option AV, C298_105 s h p q 39 40 (M.length : Nat) o ((i + d : Nat) : Int) d10 σ' u) → ∀ d10 : Option AV, C298_105 s h p q 39 40 (M.length : Nat) o i d10 σ u) ∧ RS9 σ' O (i + d) M (f ++ rlZ m1Z i d) g ∧ FR9 σ' σ0 := by
  have CC := C
  obtain ⟨h1, h2, h3, h4, h5, h6, c1, c2, c3, c4, c5, c6, c7⟩ := C
  intro d
  induction d with
  | zero =>
    intro i M f g σ hi1 hi hf R fr
    refine ⟨σ, fun {u} hx => hx, ?_, fr⟩
    rw [rl_0]
    exact R
  | succ d ih =>
    intro i M f g σ hi1 hi hf R fr
    obtain ⟨σ1, a1, a2, a3⟩ := l298d (q := q) CC hp (i := i) (by omega) (by omega) hf R fr
    obtain ⟨σ', e1, e2, e3⟩ := ih (i + 1) M (f ++ [-1]) g σ1 (by omega) (by omega) (by rw [ap_len1, hf]) a2 a3
    rw [show (-1 : Int) = m1Z i from rfl, rl_c, show i + 1 + d = i + (d + 1) by omega] at e2
    refine ⟨σ', fun {u} hx d10 => a1 (fun d10 => b298_246 ⟨by omega, ?_⟩) d10, e2, e3⟩
    rw [show (i : Int) + 1 = ((i + 1 : Nat) : Int) by omega]
    refine l298n (nb := nb) (by omega) (by rw [a3 _ _ (by omega) (by omega) (by omega)]; exact c1) h3 (by omega) (by omega) (e1 (fun d2 => ?_))
    rw [show i + 1 + d = i + (d + 1) by omega]
    exact hx d2
/-- the lines behind -/
theorem l298b {σ0 : Sg} {s nb na h o n aa p q : Nat} {F O N : Nat → Int} (C : CX9 σ0 s nb na h o n aa F O N) (hp : p ≤ 96) : ∀ (d i : Nat) (M f g : List Int) (σ : Sg), o + p ≤ i → i + d = nb → M.length + d ≤ 97 → f.length = i → g.length = M.length → RS9 σ O i M f g → FR9 σ σ0 → ∃ σ', (∀ {u : Rs}, (∀ d10 : Option AV, C298_105 s h p q 39 40 ((M.length + d : Nat) : Int) o ((i + d : Nat) : Int) d10 σ' u) → ∀ d10 : Option AV, C298_105 s h p q 39 40 (M.length : Nat) o i d10 σ u) ∧ RS9 σ' O (i + d) (M ++ rlZ O i d) (f ++ rlZ idZ M.length d) (g ++ rlZ F i d) ∧ FR9 σ' σ0 := by
  have CC := C
  obtain ⟨h1, h2, h3, h4, h5, h6, c1, c2, c3, c4, c5, c6, c7⟩ := C
  intro d
  induction d with
  | zero =>
    intro i M f g σ hi1 hi hM hf hg R fr
    refine ⟨σ, fun {u} hx => hx, ?_, fr⟩
    rw [rl_0, rl_0, rl_0]
    exact R
  | succ d ih =>
    intro i M f g σ hi1 hi hM hf hg R fr
    obtain ⟨σ1, a1, a2, a3⟩ := l298k (q := q) CC hp (i := i) (by omega) (by omega) (by omega) hf hg R fr
    obtain ⟨σ', e1, e2, e3⟩ := ih (i + 1) (M ++ [O i]) (f ++ [(M.length : Int)]) (g ++ [F i]) σ1 (by omega) (by omega) (by rw [ap_len1]; omega) (by rw [ap_len1, hf]) (by rw [ap_len1, ap_len1, hg]) a2 a3
    rw [ap_len1, show ((M.length : Nat) : Int) = idZ M.length from rfl, rl_c, rl_c, rl_c, show i + 1 + d = i + (d + 1) by omega] at e2
    refine ⟨σ', fun {u} hx d10 => a1 (fun d10 => b298_246 ⟨by omega, ?_⟩) d10, e2, e3⟩
    have z := e1 (u := u) (fun d2 => by
      rw [ap_len1, show M.length + 1 + d = M.length + (d + 1) by omega, show i + 1 + d = i + (d + 1) by omega]
      exact hx d2)
    rw [ap_len1] at z
    rw [show (i : Int) + 1 = ((i + 1 : Nat) : Int) by omega]
    exact l298n (nb := nb) (by omega) (by rw [a3 _ _ (by omega) (by omega) (by omega)]; exact c1) h3 (by omega) (by omega) z
/-- the end of it -/
theorem l298z {σ0 : Sg} {s nb na h o n aa p q : Nat} {F O N : Nat → Int} (C : CX9 σ0 s nb na h o n aa F O N) {M f g : List Int} {σ : Sg} (hM : M.length ≤ 97) (hf : f.length = nb) (hg : g.length = M.length) (R : RS9 σ O nb M f g) (fr : FR9 σ σ0) : ∃ s2, (∀ d10 : Option AV, C298_105 s h p q 39 40 (M.length : Nat) o nb d10 σ (rV s2)) ∧ Slot s2 39 nb M.length O (gv M) (gv f) ∧ Slot s2 40 M.length na (gv M) N (gv g) ∧ ∀ c x, ¬ (685 ≤ c ∧ c ≤ 687 ∧ 3900 ≤ x ∧ x < 4100) → ¬ ((c = 688 ∨ c = 689) ∧ (x = 39 ∨ x = 40)) → s2 c x = σ0 c x := by
  obtain ⟨h1, h2, h3, h4, h5, h6, c1, c2, c3, c4, c5, c6, c7⟩ := C
  obtain ⟨⟨R1, R2, R3⟩, R4⟩ := R
  obtain ⟨σ1, hσ1⟩ : ∃ σ1, σ1 = upS (upS (upS (upS σ 688 39 (nb : Nat)) 689 39 (M.length : Nat)) 688 40 (M.length : Nat)) 689 40 (na : Nat) := ⟨_, rfl⟩
  have k1 : ∀ c x, ¬ ((c = 688 ∨ c = 689) ∧ (x = 39 ∨ x = 40)) → σ1 c x = σ c x := fun c x h => by
    rw [hσ1]
    unfold upS
    rw [if_neg (by omega), if_neg (by omega), if_neg (by omega), if_neg (by omega)]
  have z1 : σ1 688 39 = (nb : Nat) := by rw [hσ1, up_a (by decide), up_k (by decide), up_a (by decide), up_s]
  have z2 : σ1 689 39 = (M.length : Nat) := by rw [hσ1, up_k (by decide), up_a (by decide), up_s]
  have z3 : σ1 688 40 = (M.length : Nat) := by rw [hσ1, up_a (by decide), up_s]
  have z4 : σ1 689 40 = (na : Nat) := by rw [hσ1, up_s]
  have z5 : σ1 689 s = (na : Nat) := by rw [k1 _ _ (by omega), fr _ _ (by omega) (by omega) (by omega)]; exact c2
  have L3 : ∀ (d x : Nat) (σ2 : Sg), x + d = na → (∀ y, y < x → σ2 686 (4000 + y) = N y) → (∀ c y, ¬ (c = 685 ∧ 4000 ≤ y ∧ y < 4100) → ¬ (c = 686 ∧ 4000 ≤ y ∧ y < 4100) → σ2 c y = σ1 c y) → ∃ s2, (∀ (d2 d3 d4 d5 d7 d8 d10 : Option AV), C298_341 s d2 d3 d4 d5 40 d7 d8 x d10 σ2 (rV s2)) ∧ (∀ y, y < na → s2 686 (4000 + y) = N y) ∧ ∀ c y, ¬ (c = 686 ∧ 4000 ≤ y ∧ y < 4100) → s2 c y = σ2 c y := by
    intro d
    induction d with
    | zero =>
      intro x σ2 hx hv k2
      refine ⟨σ2, fun _ _ _ _ _ _ _ => b298_341 ⟨by omega, ?_⟩, fun y hy => hv y (by omega), fun _ _ _ => rfl⟩
      rw [tn, k2 689 s (by omega) (by omega), z5, if_neg (by omega)]
    | succ d ih =>
      intro x σ2 hx hv k2
      have e : σ2 686 (100 * s + x) = N x := by
        rw [k2 _ _ (by omega) (by omega), k1 _ _ (by omega), fr _ _ (by omega) (by omega) (by omega)]
        exact c4 x (by omega)
      obtain ⟨s2, a1, a2, a3⟩ := ih (x + 1) (upS σ2 686 (4000 + x) (N x)) (by omega) (fun y hy => by
        by_cases q : y = x
        · rw [q, up_s]
        · rw [up_k (by omega)]
          exact hv y (by omega)) (fun c y y1 y2 => by
        have : upS σ2 686 (4000 + x) (N x) c y = σ2 c y := by
          unfold upS
          rw [if_neg (by omega)]
        rw [this]
        exact k2 c y y1 y2)
      refine ⟨s2, fun _ _ _ _ _ _ _ => b298_341 ⟨by omega, ?_⟩, a2, fun c y y1 => by
        rw [a3 c y y1]
        unfold upS
        rw [if_neg (by omega)]⟩
      rw [tn, k2 689 s (by omega) (by omega), z5, if_pos (by omega), show (100 * (40 : Int) + (x : Int)).toNat = 4000 + x by omega, show (100 * (s : Int) + (x : Int)).toNat = 100 * s + x by omega, e, show (x : Int) + 1 = ((x + 1 : Nat) : Int) by omega]
      exact ⟨by omega, by omega, by omega, by omega, by omega, by omega, by omega, a1 _ _ _ _ _ _ _⟩
  have L2 : ∀ (d x : Nat) (σ2 : Sg), x + d = M.length → (∀ y, y < x → σ2 685 (4000 + y) = gv M y) → (∀ c y, ¬ (c = 685 ∧ 4000 ≤ y ∧ y < 4100) → σ2 c y = σ1 c y) → ∃ s2, (∀ (d2 d3 d4 d8 d10 : Option AV), C298_299 s d2 d3 d4 39 40 (M.length : Nat) d8 x d10 σ2 (rV s2)) ∧ (∀ y, y < na → s2 686 (4000 + y) = N y) ∧ (∀ y, y < M.length → s2 685 (4000 + y) = gv M y) ∧ ∀ c y, ¬ (c = 685 ∧ 4000 ≤ y ∧ y < 4100) → ¬ (c = 686 ∧ 4000 ≤ y ∧ y < 4100) → s2 c y = σ2 c y := by
    intro d
    induction d with
    | zero =>
      intro x σ2 hx hv k2
      obtain ⟨s2, a1, a2, a3⟩ := L3 na 0 σ2 (by omega) (fun y hy => absurd hy (Nat.not_lt_zero y)) (fun c y y1 y2 => k2 c y y1)
      refine ⟨s2, fun _ _ _ _ _ => b298_299 ?_, a2, fun y hy => by rw [a3 _ _ (by omega)]; exact hv y (by omega), fun c y y1 y2 => a3 c y y2⟩
      rw [if_neg (by omega)]
      exact a1 _ _ _ _ _ _ _
    | succ d ih =>
      intro x σ2 hx hv k2
      have e : σ2 686 (3900 + x) = gv M x := by
        rw [k2 _ _ (by omega), k1 _ _ (by omega)]
        exact R1 x _ (gv_at (by omega))
      obtain ⟨s2, a1, a2, a3, a4⟩ := ih (x + 1) (upS σ2 685 (4000 + x) (gv M x)) (by omega) (fun y hy => by
        by_cases q : y = x
        · rw [q, up_s]
        · rw [up_k (by omega)]
          exact hv y (by omega)) (fun c y y1 => by
        have : upS σ2 685 (4000 + x) (gv M x) c y = σ2 c y := by
          unfold upS
          rw [if_neg (by omega)]
        rw [this]
        exact k2 c y y1)
      refine ⟨s2, fun _ _ _ _ _ => b298_299 ?_, a2, a3, fun c y y1 y2 => by
        rw [a4 c y y1 y2]
        unfold upS
        rw [if_neg (by omega)]⟩
      rw [if_pos (by omega), show (100 * (40 : Int) + (x : Int)).toNat = 4000 + x by omega, show (100 * (39 : Int) + (x : Int)).toNat = 3900 + x by omega, e, show (x : Int) + 1 = ((x + 1 : Nat) : Int) by omega]
      exact ⟨by omega, by omega, by omega, by omega, by omega, by omega, by omega, a1 _ _ _ _ _⟩
  obtain ⟨s2, a1, a2, a3, a5⟩ := L2 M.length 0 σ1 (by omega) (fun y hy => absurd hy (Nat.not_lt_zero y)) (fun _ _ _ => rfl)
  refine ⟨s2, fun d10 => ?_, ⟨by rw [a5 _ _ (by omega) (by omega)]; exact z1, by rw [a5 _ _ (by omega) (by omega)]; exact z2, fun y hy => ?_, fun y hy => ?_, fun y hy => ?_⟩, ⟨by rw [a5 _ _ (by omega) (by omega)]; exact z3, by rw [a5 _ _ (by omega) (by omega)]; exact z4, a3, a2, fun y hy => ?_⟩, fun c y y1 y2 => by rw [a5 c y (by omega) (by omega), k1 c y y2]; exact fr c y (by omega) (by omega) (by omega)⟩
  · refine b298_105 ⟨by omega, ?_⟩
    rw [tn, fr 688 s (by omega) (by omega) (by omega), c1, if_neg (by omega)]
    refine b298_246 ⟨by omega, b298_14 ⟨by omega, ?_⟩⟩
    rw [tn, fr 688 s (by omega) (by omega) (by omega), c1, if_neg (by omega)]
    refine ⟨by omega, by omega, by omega, by omega, by omega, by omega, ?_⟩
    have e : upS (upS (upS (upS σ 688 ((39 : Int)).toNat (nb : Nat)) 689 ((39 : Int)).toNat (M.length : Nat)) 688 ((40 : Int)).toNat (M.length : Nat)) 689 ((40 : Int)).toNat (upS (upS (upS σ 688 ((39 : Int)).toNat (nb : Nat)) 689 ((39 : Int)).toNat (M.length : Nat)) 688 ((40 : Int)).toNat (M.length : Nat) 689 s) = σ1 := by
      rw [hσ1, up_a (show ¬ (689 : Nat) = 688 by decide), up_k (show ¬ s = ((39 : Int)).toNat from by rw [show ((39 : Int)).toNat = 39 from rfl]; omega), up_a (show ¬ (689 : Nat) = 688 by decide), fr 689 s (by omega) (by omega) (by omega), c2]
      rfl
    rw [e]
    exact a1 _ _ _ _ _
  · show s2 685 (3900 + y) = O y
    rw [a5 _ _ (by omega) (by omega), k1 _ _ (by omega)]
    exact R4 y hy
  · show s2 686 (3900 + y) = gv M y
    rw [a5 _ _ (by omega) (by omega), k1 _ _ (by omega)]
    exact R1 y _ (gv_at hy)
  · show s2 687 (3900 + y) = gv f y
    rw [a5 _ _ (by omega) (by omega), k1 _ _ (by omega)]
    exact R2 y _ (gv_at (by omega))
  · show s2 687 (4000 + y) = gv g y
    rw [a5 _ _ (by omega) (by omega), k1 _ _ (by omega)]
    exact R3 y _ (gv_at (by omega))
end
