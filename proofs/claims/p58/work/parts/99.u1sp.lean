/-! split: the class's side. -/
noncomputable section
def FRc (s σ : Sg) : Prop := ∀ c x, ¬ (352 ≤ c ∧ c ≤ 361) → ¬ (365 ≤ c ∧ c ≤ 374) → s c x = σ c x
/-- two patches under way -/
def W2 (σ : Sg) (b M f a g : List Int) : Prop := ∃ k1 k2, BI σ 351 b M f k1 ∧ BI σ 364 M a g k2 ∧ okW b M f k1 ∧ okW M a g k2
theorem W2_kk {σ σ0 : Sg} {b M f a g : List Int} (x : Int) (W : W2 σ b M f a g) (h1 : b.length < 96) (h2 : M.length < 96) (h3 : a.length < 96) (fr : FRc σ σ0) : ∃ s1 s, Dd 91 [vA 351, vI x] σ (rV s1) ∧ Dd 91 [vA 364, vI x] s1 (rV s) ∧ W2 s (b ++ [x]) (M ++ [x]) (f ++ [(M.length : Int)]) (a ++ [x]) (g ++ [(a.length : Int)]) ∧ FRc s1 σ0 ∧ FRc s σ0 := by
  obtain ⟨k1, k2, B1, B2, O1, O2⟩ := W
  have l1 := O1.1
  have l2 := O1.2.1
  have l3 := O2.1
  have l4 := O2.2.1
  obtain ⟨s1, a1, a2, a3⟩ := d91 (x := x) WDp351 B1 h1 h2 (by omega) (by omega)
  obtain ⟨s2, c1, c2, c3⟩ := d91 (x := x) WDp364 (BI_fr (fun c y h => a3 c y (by omega)) B2) h2 h3 (by omega) (by omega)
  exact ⟨s1, s2, a1, c1, ⟨_, _, BI_fr (fun c y h => c3 c y (by omega)) a2, c2, okW_k x O1, okW_k x O2⟩, fun c y y1 y2 => by rw [a3 c y (by omega)]; exact fr c y y1 y2, fun c y y1 y2 => by rw [c3 c y (by omega), a3 c y (by omega)]; exact fr c y y1 y2⟩
theorem W2_gk {σ σ0 : Sg} {b M f a g : List Int} (x : Int) (W : W2 σ b M f a g) (h2 : M.length < 96) (h3 : a.length < 96) (fr : FRc σ σ0) : ∃ s1 s, Dd 93 [vA 351, vI x] σ (rV s1) ∧ Dd 91 [vA 364, vI x] s1 (rV s) ∧ W2 s b (M ++ [x]) f (a ++ [x]) (g ++ [(a.length : Int)]) ∧ FRc s1 σ0 ∧ FRc s σ0 := by
  obtain ⟨k1, k2, B1, B2, O1, O2⟩ := W
  have l1 := O1.1
  have l2 := O1.2.1
  have l3 := O2.1
  have l4 := O2.2.1
  obtain ⟨s1, a1, a2, a3⟩ := d93 (x := x) WDp351 B1 h2 (by omega)
  obtain ⟨s2, c1, c2, c3⟩ := d91 (x := x) WDp364 (BI_fr (fun c y h => a3 c y (by omega)) B2) h2 h3 (by omega) (by omega)
  exact ⟨s1, s2, a1, c1, ⟨_, _, BI_fr (fun c y h => c3 c y (by omega)) a2, c2, okW_g x O1, okW_k x O2⟩, fun c y y1 y2 => by rw [a3 c y (by omega)]; exact fr c y y1 y2, fun c y y1 y2 => by rw [c3 c y (by omega), a3 c y (by omega)]; exact fr c y y1 y2⟩
theorem W2_kd {σ σ0 : Sg} {b M f a g : List Int} (x : Int) (W : W2 σ b M f a g) (h1 : b.length < 96) (h2 : M.length < 96) (fr : FRc σ σ0) : ∃ s1 s, Dd 91 [vA 351, vI x] σ (rV s1) ∧ Dd 92 [vA 364, vI x] s1 (rV s) ∧ W2 s (b ++ [x]) (M ++ [x]) (f ++ [(M.length : Int)]) a (g ++ [-1]) ∧ FRc s1 σ0 ∧ FRc s σ0 := by
  obtain ⟨k1, k2, B1, B2, O1, O2⟩ := W
  have l1 := O1.1
  have l2 := O1.2.1
  have l3 := O2.1
  have l4 := O2.2.1
  obtain ⟨s1, a1, a2, a3⟩ := d91 (x := x) WDp351 B1 h1 h2 (by omega) (by omega)
  obtain ⟨s2, c1, c2, c3⟩ := d92 (x := x) WDp364 (BI_fr (fun c y h => a3 c y (by omega)) B2) h2 (by omega)
  exact ⟨s1, s2, a1, c1, ⟨_, _, BI_fr (fun c y h => c3 c y (by omega)) a2, c2, okW_k x O1, okW_d x O2⟩, fun c y y1 y2 => by rw [a3 c y (by omega)]; exact fr c y y1 y2, fun c y y1 y2 => by rw [c3 c y (by omega), a3 c y (by omega)]; exact fr c y y1 y2⟩
theorem W2_d {σ σ0 : Sg} {b M f a g : List Int} (x : Int) (W : W2 σ b M f a g) (h1 : b.length < 96) (fr : FRc σ σ0) : ∃ s, Dd 92 [vA 351, vI x] σ (rV s) ∧ W2 s (b ++ [x]) M (f ++ [-1]) a g ∧ FRc s σ0 := by
  obtain ⟨k1, k2, B1, B2, O1, O2⟩ := W
  have l1 := O1.1
  obtain ⟨s1, a1, a2, a3⟩ := d92 (x := x) WDp351 B1 h1 (by omega)
  exact ⟨s1, a1, ⟨_, _, a2, BI_fr (fun c y h => a3 c y (by omega)) B2, okW_d x O1, O2⟩, fun c y y1 y2 => by rw [a3 c y (by omega)]; exact fr c y y1 y2⟩
theorem W2_g {σ σ0 : Sg} {b M f a g : List Int} (x : Int) (W : W2 σ b M f a g) (h3 : a.length < 96) (fr : FRc σ σ0) : ∃ s, Dd 93 [vA 364, vI x] σ (rV s) ∧ W2 s b M f (a ++ [x]) g ∧ FRc s σ0 := by
  obtain ⟨k1, k2, B1, B2, O1, O2⟩ := W
  have l4 := O2.2.1
  obtain ⟨s1, a1, a2, a3⟩ := d93 (x := x) WDp364 B2 h3 (by omega)
  exact ⟨s1, a1, ⟨_, _, BI_fr (fun c y h => a3 c y (by omega)) B1, a2, O1, okW_g x O2⟩, fun c y y1 y2 => by rw [a3 c y (by omega)]; exact fr c y y1 y2⟩
theorem FRc_V {s σ : Sg} {R n : Nat} {h : Nat → Int} (fr : FRc s σ) (e : R < 351 ∨ 376 < R) (V : RV σ R n h) : RV s R n h := RV_fr (fun x => fr R x (by omega) (by omega)) (fun x => fr (R + 1) x (by omega) (by omega)) V
theorem FRc_0 {σ : Sg} : FRc σ σ := fun _ _ _ _ => rfl
theorem rlZ_app {h : Nat → Int} : ∀ (d p e : Nat), rlZ h p d ++ rlZ h (p + d) e = rlZ h p (d + e) := by
  intro d
  induction d with
  | zero => intro p e; rw [Nat.zero_add]; rfl
  | succ d ih =>
    intro p e
    rw [show d + 1 + e = (d + e) + 1 by omega]
    show h p :: (rlZ h (p + 1) d ++ rlZ h (p + (d + 1)) e) = h p :: rlZ h (p + 1) (d + e)
    rw [show p + (d + 1) = p + 1 + d by omega, ih]
theorem rl_app2 {h : Nat → Int} {M : List Int} {d p e : Nat} : M ++ rlZ h p d ++ rlZ h (p + d) e = M ++ rlZ h p (d + e) := by
  rw [List.append_assoc, rlZ_app]
theorem ap_len1 {M : List Int} {x : Int} : (M ++ [x]).length = M.length + 1 := by rw [List.length_append, List.length_singleton]
/-- keepLines -/
theorem l12 {σ0 : Sg} {P nb e : Nat} {O : Nat → Int} (hP : isPatch P = true) (eP : P + 12 < 351 ∨ 376 < P) (V1 : RV σ0 (P + 1) nb O) (he : e ≤ nb) (h100 : nb ≤ 99) {d2 : Option AV} : ∀ (d i : Nat) (b M f a g : List Int) (σ : Sg), i + d = e → W2 σ b M f a g → b.length + d ≤ 96 → M.length + d ≤ 96 → a.length + d ≤ 96 → FRc σ σ0 → ∃ s, C12_3 P d2 e i σ (rV s) ∧ W2 s (b ++ rlZ O i d) (M ++ rlZ O i d) (f ++ rlZ idZ M.length d) (a ++ rlZ O i d) (g ++ rlZ idZ a.length d) ∧ FRc s σ0 := by
  intro d
  induction d with
  | zero =>
    intro i b M f a g σ hi W h1 h2 h3 fr
    refine ⟨σ, b12_3 hP ?_, by rw [rl_0, rl_0, rl_0, rl_0, rl_0]; exact W, fr⟩
    rw [if_neg (by omega)]
  | succ d ih =>
    intro i b M f a g σ hi W h1 h2 h3 fr
    obtain ⟨s1, s2, a1, a2, a3, a4, a5⟩ := W2_kk (O i) W (by omega) (by omega) (by omega) fr
    obtain ⟨s, c1, c2, c3⟩ := ih (i + 1) _ _ _ _ _ s2 (by omega) a3 (by rw [ap_len1]; omega) (by rw [ap_len1]; omega) (by rw [ap_len1]; omega) a5
    rw [ap_len1, ap_len1, show ((M.length : Nat) : Int) = idZ M.length from rfl, show ((a.length : Nat) : Int) = idZ a.length from rfl, rl_c, rl_c, rl_c, rl_c, rl_c] at c2
    refine ⟨s, b12_3 hP ?_, c2, c3⟩
    rw [if_pos (by omega), show (i : Int) + 1 = ((i + 1 : Nat) : Int) by omega]
    exact ⟨_, _, RV_147 (FRc_V fr (by omega) V1) (by omega), s1, a1, _, _, RV_147 (FRc_V a4 (by omega) V1) (by omega), s2, a2, by omega, c1⟩
theorem d12 {σ0 σ : Sg} {P nb i d : Nat} {O : Nat → Int} {b M f a g : List Int} (hP : isPatch P = true) (eP : P + 12 < 351 ∨ 376 < P) (V1 : RV σ0 (P + 1) nb O) (he : i + d ≤ nb) (h100 : nb ≤ 99) (W : W2 σ b M f a g) (h1 : b.length + d ≤ 96) (h2 : M.length + d ≤ 96) (h3 : a.length + d ≤ 96) (fr : FRc σ σ0) : ∃ s, Dd 12 [vA 350, vA P, vI i, vI ((i + d : Nat) : Int)] σ (rV s) ∧ W2 s (b ++ rlZ O i d) (M ++ rlZ O i d) (f ++ rlZ idZ M.length d) (a ++ rlZ O i d) (g ++ rlZ idZ a.length d) ∧ FRc s σ0 := by
  obtain ⟨s, c1, c2, c3⟩ := l12 (d2 := some (vI i)) hP eP V1 he h100 d i b M f a g σ rfl W h1 h2 h3 fr
  exact ⟨s, b12 c1, c2, c3⟩
/-- cutOne -/
theorem d13 {σ0 σ : Sg} {P nb na h o d n aa p q : Nat} {O N : Nat → Int} {l : List St} {b M f a g : List Int} (hP : isPatch P = true) (eP : P + 12 < 351 ∨ 376 < P) (V1 : RV σ0 (P + 1) nb O) (V3 : RV σ0 (P + 3) na N) (w9 : wR σ0 (P + 9)) (C : PC σ0 P l) (hq : l[h]? = some (o, d, n, aa)) (hp : p ≤ d) (hqa : q ≤ aa) (h1 : o + d ≤ nb) (h2 : n + aa ≤ na) (h100 : nb ≤ 99) (h100' : na ≤ 99) (W : W2 σ b M f a g) (hb : b.length + d ≤ 96) (hM : M.length + q + (d - p) ≤ 96) (ha : a.length + aa ≤ 96) (fr : FRc σ σ0) : ∃ s, Dd 13 [vA 350, vA P, vI h, vI p, vI q] σ (rV s) ∧ W2 s (b ++ rlZ O o p ++ rlZ O (o + p) (d - p)) (M ++ rlZ N n q ++ rlZ O (o + p) (d - p)) (f ++ rlZ m1Z o p ++ rlZ idZ (M.length + q) (d - p)) (a ++ rlZ N n q ++ rlZ N (n + q) (aa - q)) (g ++ rlZ idZ a.length q ++ rlZ m1Z (o + p) (d - p)) ∧ FRc s σ0 := by
  have at' : ∀ {s : Sg}, FRc s σ0 → Dd 100 [vA P, vI h] s (rI (o : Nat) s) ∧ Dd 102 [vA P, vI h] s (rI ((o + d : Nat) : Int) s) ∧ Dd 103 [vA P, vI h] s (rI (n : Nat) s) ∧ Dd 105 [vA P, vI h] s (rI ((n + aa : Nat) : Int) s) := fun {s} fr => pc_at hP ⟨w9.1, by rw [fr _ _ (by omega) (by omega)]; exact w9.2⟩ (PC_fr (fun k => fr _ _ (by omega) (by omega)) (fun k => fr _ _ (by omega) (by omega)) C) hq
  -- the last lines
  have L4 : ∀ (e x : Nat) (b M f a g : List Int) (σ : Sg) (d3 d4 d5 d6 : Option AV), x + e = n + aa → W2 σ b M f a g → a.length + e ≤ 96 → FRc σ σ0 → ∃ s, C13_163 P h d3 d4 d5 d6 x σ (rV s) ∧ W2 s b M f (a ++ rlZ N x e) g ∧ FRc s σ0 := by
    intro e
    induction e with
    | zero =>
      intro x b M f a g σ d3 d4 d5 d6 hx W ha fr
      refine ⟨σ, b13_163 hP ⟨_, _, (at' fr).2.2.2, ?_⟩, by rw [rl_0]; exact W, fr⟩
      rw [if_neg (by omega)]
    | succ e ih =>
      intro x b M f a g σ d3 d4 d5 d6 hx W ha fr
      obtain ⟨s1, a1, a2, a3⟩ := W2_g (N x) W (by omega) fr
      obtain ⟨s, c1, c2, c3⟩ := ih (x + 1) _ _ _ _ _ s1 d3 d4 d5 d6 (by omega) a2 (by rw [ap_len1]; omega) a3
      rw [rl_c] at c2
      refine ⟨s, b13_163 hP ⟨_, _, (at' fr).2.2.2, ?_⟩, c2, c3⟩
      rw [if_pos (by omega), show (x : Int) + 1 = ((x + 1 : Nat) : Int) by omega]
      exact ⟨_, _, RV_147 (FRc_V fr (by omega) V3) (by omega), s1, a1, by omega, c1⟩
  have L3 : ∀ (e x : Nat) (b M f a g : List Int) (σ : Sg) (d3 d4 d5 : Option AV), x + e = o + d → W2 σ b M f a g → b.length + e ≤ 96 → M.length + e ≤ 96 → a.length + (aa - q) ≤ 96 → FRc σ σ0 → ∃ s, C13_111 P h d3 d4 d5 ((n + q : Nat) : Int) x σ (rV s) ∧ W2 s (b ++ rlZ O x e) (M ++ rlZ O x e) (f ++ rlZ idZ M.length e) (a ++ rlZ N (n + q) (aa - q)) (g ++ rlZ m1Z x e) ∧ FRc s σ0 := by
    intro e
    induction e with
    | zero =>
      intro x b M f a g σ d3 d4 d5 hx W hb hM ha fr
      obtain ⟨s, c1, c2, c3⟩ := L4 (aa - q) (n + q) b M f a g σ d3 d4 d5 (some (vI ((n + q : Nat) : Int))) (by omega) W ha fr
      refine ⟨s, b13_111 hP ⟨_, _, (at' fr).2.1, ?_⟩, by rw [rl_0, rl_0, rl_0, rl_0]; exact c2, c3⟩
      rw [if_neg (by omega)]
      exact c1
    | succ e ih =>
      intro x b M f a g σ d3 d4 d5 hx W hb hM ha fr
      obtain ⟨s1, s2, a1, a2, a3, a4, a5⟩ := W2_kd (O x) W (by omega) (by omega) fr
      obtain ⟨s, c1, c2, c3⟩ := ih (x + 1) _ _ _ _ _ s2 d3 d4 d5 (by omega) a3 (by rw [ap_len1]; omega) (by rw [ap_len1]; omega) ha a5
      rw [ap_len1, show ((M.length : Nat) : Int) = idZ M.length from rfl, show (-1 : Int) = m1Z x from rfl, rl_c, rl_c, rl_c, rl_c] at c2
      refine ⟨s, b13_111 hP ⟨_, _, (at' fr).2.1, ?_⟩, c2, c3⟩
      rw [if_pos (by omega), show (x : Int) + 1 = ((x + 1 : Nat) : Int) by omega]
      exact ⟨_, _, RV_147 (FRc_V fr (by omega) V1) (by omega), s1, a1, _, _, RV_147 (FRc_V a4 (by omega) V1) (by omega), s2, a2, by omega, c1⟩
  have L2 : ∀ (e x : Nat) (b M f a g : List Int) (σ : Sg) (d3 d4 : Option AV), x + e = o + p → W2 σ b M f a g → b.length + e + (d - p) ≤ 96 → M.length + (d - p) ≤ 96 → a.length + (aa - q) ≤ 96 → FRc σ σ0 → ∃ s, C13_78 P h d3 d4 ((o + p : Nat) : Int) ((n + q : Nat) : Int) x σ (rV s) ∧ W2 s (b ++ rlZ O x e ++ rlZ O (o + p) (d - p)) (M ++ rlZ O (o + p) (d - p)) (f ++ rlZ m1Z x e ++ rlZ idZ M.length (d - p)) (a ++ rlZ N (n + q) (aa - q)) (g ++ rlZ m1Z (o + p) (d - p)) ∧ FRc s σ0 := by
    intro e
    induction e with
    | zero =>
      intro x b M f a g σ d3 d4 hx W hb hM ha fr
      obtain ⟨s, c1, c2, c3⟩ := L3 (d - p) (o + p) b M f a g σ d3 d4 (some (vI ((o + p : Nat) : Int))) (by omega) W (by omega) hM ha fr
      refine ⟨s, b13_78 hP ?_, by rw [rl_0, rl_0]; exact c2, c3⟩
      rw [if_neg (by omega)]
      exact c1
    | succ e ih =>
      intro x b M f a g σ d3 d4 hx W hb hM ha fr
      obtain ⟨s1, a1, a2, a3⟩ := W2_d (O x) W (by omega) fr
      obtain ⟨s, c1, c2, c3⟩ := ih (x + 1) _ _ _ _ _ s1 d3 d4 (by omega) a2 (by rw [ap_len1]; omega) hM ha a3
      rw [show (-1 : Int) = m1Z x from rfl, rl_c, rl_c] at c2
      refine ⟨s, b13_78 hP ?_, c2, c3⟩
      rw [if_pos (by omega), show (x : Int) + 1 = ((x + 1 : Nat) : Int) by omega]
      exact ⟨_, _, RV_147 (FRc_V fr (by omega) V1) (by omega), s1, a1, by omega, c1⟩
  have L1 : ∀ (e x : Nat) (b M f a g : List Int) (σ : Sg) (d3 d4 : Option AV), x + e = n + q → W2 σ b M f a g → b.length + d ≤ 96 → M.length + e + (d - p) ≤ 96 → a.length + e + (aa - q) ≤ 96 → FRc σ σ0 → ∃ s, C13_26 P h d3 d4 ((o + p : Nat) : Int) ((n + q : Nat) : Int) x σ (rV s) ∧ W2 s (b ++ rlZ O o p ++ rlZ O (o + p) (d - p)) (M ++ rlZ N x e ++ rlZ O (o + p) (d - p)) (f ++ rlZ m1Z o p ++ rlZ idZ (M.length + e) (d - p)) (a ++ rlZ N x e ++ rlZ N (n + q) (aa - q)) (g ++ rlZ idZ a.length e ++ rlZ m1Z (o + p) (d - p)) ∧ FRc s σ0 := by
    intro e
    induction e with
    | zero =>
      intro x b M f a g σ d3 d4 hx W hb hM ha fr
      obtain ⟨s, c1, c2, c3⟩ := L2 p o b M f a g σ d3 d4 rfl W (by omega) (by omega) (by omega) fr
      refine ⟨s, b13_26 hP ?_, by rw [rl_0, rl_0, rl_0, Nat.add_zero]; exact c2, c3⟩
      rw [if_neg (by omega)]
      exact ⟨_, _, (at' fr).1, c1⟩
    | succ e ih =>
      intro x b M f a g σ d3 d4 hx W hb hM ha fr
      obtain ⟨s1, s2, a1, a2, a3, a4, a5⟩ := W2_gk (N x) W (by omega) (by omega) fr
      obtain ⟨s, c1, c2, c3⟩ := ih (x + 1) _ _ _ _ _ s2 d3 d4 (by omega) a3 hb (by rw [ap_len1]; omega) (by rw [ap_len1]; omega) a5
      rw [ap_len1, ap_len1, show ((a.length : Nat) : Int) = idZ a.length from rfl, rl_c, rl_c, rl_c, show M.length + 1 + e = M.length + (e + 1) by omega] at c2
      refine ⟨s, b13_26 hP ?_, c2, c3⟩
      rw [if_pos (by omega), show (x : Int) + 1 = ((x + 1 : Nat) : Int) by omega]
      exact ⟨_, _, RV_147 (FRc_V fr (by omega) V3) (by omega), s1, a1, _, _, RV_147 (FRc_V a4 (by omega) V3) (by omega), s2, a2, by omega, c1⟩
  obtain ⟨s, c1, c2, c3⟩ := L1 q n b M f a g σ (some (vI p)) (some (vI q)) rfl W hb (by omega) (by omega) fr
  refine ⟨s, b13 hP ⟨_, _, (at' fr).1, by omega, _, _, (at' fr).2.2.1, by omega, _, _, (at' fr).2.2.1, ?_⟩, c2, c3⟩
  rw [show ((o : Nat) : Int) + (p : Int) = ((o + p : Nat) : Int) by omega, show ((n : Nat) : Int) + (q : Int) = ((n + q : Nat) : Int) by omega]
  exact c1
end
