/-! A patch past its predecessor: stretches of the walk. -/
noncomputable section
def rlZ (h : Nat → Int) : Nat → Nat → List Int
  | _, 0 => []
  | p, d + 1 => h p :: rlZ h (p + 1) d
def idZ : Nat → Int := fun x => (x : Int)
def m1Z : Nat → Int := fun _ => -1
theorem rl_len {h : Nat → Int} : ∀ (d p : Nat), (rlZ h p d).length = d := by
  intro d
  induction d with
  | zero => intro p; rfl
  | succ d ih => intro p; show (rlZ h (p + 1) d).length + 1 = d + 1; rw [ih]
theorem rl_get {h : Nat → Int} : ∀ (d p x : Nat), x < d → (rlZ h p d)[x]? = some (h (p + x)) := by
  intro d
  induction d with
  | zero => intro p x hx; omega
  | succ d ih =>
    intro p x hx
    cases x with
    | zero => rfl
    | succ x =>
      show (rlZ h (p + 1) d)[x]? = _
      rw [ih (p + 1) x (by omega), show p + 1 + x = p + (x + 1) by omega]
theorem rl_c {h : Nat → Int} {M : List Int} {p d : Nat} : (M ++ [h p]) ++ rlZ h (p + 1) d = M ++ rlZ h p (d + 1) := by
  rw [List.append_assoc]
  rfl
theorem rl_0 {h : Nat → Int} {M : List Int} {p : Nat} : M ++ rlZ h p 0 = M := List.append_nil M
theorem rl_ext {h h' : Nat → Int} : ∀ (d p p' : Nat), (∀ x, x < d → h (p + x) = h' (p' + x)) → rlZ h p d = rlZ h' p' d := by
  intro d
  induction d with
  | zero => intro p p' _; rfl
  | succ d ih =>
    intro p p' hx
    have h0 := hx 0 (by omega)
    show h p :: rlZ h (p + 1) d = h' p' :: rlZ h' (p' + 1) d
    rw [ih (p + 1) (p' + 1) (fun x hh => by
      have z := hx (x + 1) (by omega)
      rw [show p + 1 + x = p + (x + 1) by omega, show p' + 1 + x = p' + (x + 1) by omega]
      exact z)]
    rw [show h p = h' p' from h0]
theorem ap_len {h : Nat → Int} {M : List Int} {p d : Nat} : (M ++ rlZ h p d).length = M.length + d := by
  rw [List.length_append, rl_len]
theorem ap_at {h : Nat → Int} {M : List Int} {p d x : Nat} {v : Int} (e : (M ++ rlZ h p d)[x]? = some v) : (x < M.length ∧ M[x]? = some v) ∨ (M.length ≤ x ∧ x < M.length + d ∧ v = h (p + (x - M.length))) := by
  by_cases y : x < M.length
  · rw [List.getElem?_append_left y] at e
    exact Or.inl ⟨y, e⟩
  · rw [List.getElem?_append_right (by omega)] at e
    have hl := (List.getElem?_eq_some_iff.mp e).1
    rw [rl_len] at hl
    rw [rl_get _ _ _ hl] at e
    cases e
    exact Or.inr ⟨by omega, by omega, rfl⟩
theorem ap_bv {h X : Nat → Int} {M : List Int} {p d : Nat} (hM : ∀ (x : Nat) (v : Int), M[x]? = some v → v = X x) (hd : ∀ x, x < d → h (p + x) = X (M.length + x)) : ∀ (x : Nat) (v : Int), (M ++ rlZ h p d)[x]? = some v → v = X x := by
  intro x v e
  rcases ap_at e with ⟨-, z⟩ | ⟨z1, z2, z3⟩
  · exact hM x v z
  · rw [z3, hd (x - M.length) (by omega), show M.length + (x - M.length) = x by omega]
theorem ap_ln {h : Nat → Int} {M : List Int} {p d : Nat} (hM : ∀ (x : Nat) (v : Int), M[x]? = some v → isLn v = true) (hd : ∀ x, x < d → isLn (h (p + x)) = true) : ∀ (x : Nat) (v : Int), (M ++ rlZ h p d)[x]? = some v → isLn v = true := by
  intro x v e
  rcases ap_at e with ⟨-, z⟩ | ⟨z1, z2, z3⟩
  · exact hM x v z
  · rw [z3]
    exact hd (x - M.length) (by omega)
theorem mvW_1 {F K G L X Y Z : Nat → Int} {nb na nc : Nat} : ∀ (d w i j k : Nat) (b M f a g : List Int), i + d ≤ nb → (∀ x, x < d → F (i + x) = -1) → mvW F K G L X Y Z nb na nc (w + d) i j k b M f a g = mvW F K G L X Y Z nb na nc w (i + d) j k (b ++ rlZ X i d) (M ++ rlZ X i d) (f ++ rlZ idZ M.length d) a (g ++ rlZ m1Z i d) := by
  intro d
  induction d with
  | zero => intro w i j k b M f a g _ _; simp only [rl_0, Nat.add_zero]
  | succ d ih =>
    intro w i j k b M f a g hi h
    have h0 : F i = -1 := h 0 (by omega)
    rw [show w + (d + 1) = (w + d) + 1 by omega, mvW_s, if_pos ⟨by omega, h0⟩, ih w (i + 1) j k _ _ _ _ _ (by omega) (fun x hx => by rw [show i + 1 + x = i + (x + 1) by omega]; exact h (x + 1) (by omega)), List.length_append, List.length_singleton, show ((M.length : Nat) : Int) = idZ M.length from rfl, show (-1 : Int) = m1Z i from rfl, rl_c, rl_c, rl_c, rl_c, show i + 1 + d = i + (d + 1) by omega]
theorem mvW_2 {F K G L X Y Z : Nat → Int} {nb na nc i : Nat} (c1 : ¬ (i < nb ∧ F i = -1)) : ∀ (d w j k : Nat) (b M f a g : List Int), j + d ≤ na → (∀ x, x < d → K (j + x) = -1) → mvW F K G L X Y Z nb na nc (w + d) i j k b M f a g = mvW F K G L X Y Z nb na nc w i (j + d) (k + d) b M f (a ++ rlZ Y j d) g := by
  intro d
  induction d with
  | zero => intro w j k b M f a g _ _; simp only [rl_0, Nat.add_zero]
  | succ d ih =>
    intro w j k b M f a g hj h
    have h0 : K j = -1 := h 0 (by omega)
    rw [show w + (d + 1) = (w + d) + 1 by omega, mvW_s, if_neg c1, if_pos ⟨by omega, h0⟩, ih w (j + 1) (k + 1) _ _ _ _ _ (by omega) (fun x hx => by rw [show j + 1 + x = j + (x + 1) by omega]; exact h (x + 1) (by omega)), rl_c, show j + 1 + d = j + (d + 1) by omega, show k + 1 + d = k + (d + 1) by omega]
theorem mvW_3 {F K G L X Y Z : Nat → Int} {nb na nc k : Nat} : ∀ (d w i j : Nat) (b M f a g : List Int), j + d ≤ na → (∀ x, x < d → ¬ F (i + x) = -1 ∧ ¬ K (j + x) = -1 ∧ G (j + x) = -1) → mvW F K G L X Y Z nb na nc (w + d) i j k b M f a g = mvW F K G L X Y Z nb na nc w (i + d) (j + d) k (b ++ rlZ Y j d) M (f ++ rlZ m1Z i d) a g := by
  intro d
  induction d with
  | zero => intro w i j b M f a g _ _; simp only [rl_0, Nat.add_zero]
  | succ d ih =>
    intro w i j b M f a g hj h
    obtain ⟨h1, h2, h3⟩ := h 0 (by omega)
    have h1 : ¬ F i = -1 := h1
    have h2 : ¬ K j = -1 := h2
    have h3 : G j = -1 := h3
    rw [show w + (d + 1) = (w + d) + 1 by omega, mvW_s, if_neg (fun e => h1 e.2), if_neg (fun e => h2 e.2), if_pos ⟨by omega, h3⟩, ih w (i + 1) (j + 1) _ _ _ _ _ (by omega) (fun x hx => by rw [show j + 1 + x = j + (x + 1) by omega, show i + 1 + x = i + (x + 1) by omega]; exact h (x + 1) (by omega)), show (-1 : Int) = m1Z i from rfl, rl_c, rl_c, show j + 1 + d = j + (d + 1) by omega, show i + 1 + d = i + (d + 1) by omega]
theorem mvW_4 {F K G L X Y Z : Nat → Int} {nb na nc i j : Nat} (c1 : ¬ (i < nb ∧ F i = -1)) (c2 : ¬ (j < na ∧ K j = -1)) (c3 : ¬ (j < na ∧ G j = -1)) : ∀ (d w k : Nat) (b M f a g : List Int), k + d ≤ nc → (∀ x, x < d → L (k + x) = -1) → mvW F K G L X Y Z nb na nc (w + d) i j k b M f a g = mvW F K G L X Y Z nb na nc w i j (k + d) b (M ++ rlZ Z k d) f (a ++ rlZ Z k d) (g ++ rlZ idZ a.length d) := by
  intro d
  induction d with
  | zero => intro w k b M f a g _ _; simp only [rl_0, Nat.add_zero]
  | succ d ih =>
    intro w k b M f a g hk h
    have h0 : L k = -1 := h 0 (by omega)
    rw [show w + (d + 1) = (w + d) + 1 by omega, mvW_s, if_neg c1, if_neg c2, if_neg c3, if_pos ⟨by omega, h0⟩, ih w (k + 1) _ _ _ _ _ (by omega) (fun x hx => by rw [show k + 1 + x = k + (x + 1) by omega]; exact h (x + 1) (by omega)), List.length_append, List.length_singleton, show ((a.length : Nat) : Int) = idZ a.length from rfl, rl_c, rl_c, rl_c, show k + 1 + d = k + (d + 1) by omega]
theorem mvW_5 {F K G L X Y Z : Nat → Int} {nb na nc : Nat} : ∀ (d w i j k : Nat) (b M f a g : List Int), j + d ≤ na → (∀ x, x < d → ¬ F (i + x) = -1 ∧ ¬ K (j + x) = -1 ∧ ¬ G (j + x) = -1 ∧ ¬ L (k + x) = -1) → mvW F K G L X Y Z nb na nc (w + d) i j k b M f a g = mvW F K G L X Y Z nb na nc w (i + d) (j + d) (k + d) (b ++ rlZ Y j d) (M ++ rlZ Y j d) (f ++ rlZ idZ M.length d) (a ++ rlZ Y j d) (g ++ rlZ idZ a.length d) := by
  intro d
  induction d with
  | zero => intro w i j k b M f a g _ _; simp only [rl_0, Nat.add_zero]
  | succ d ih =>
    intro w i j k b M f a g hj h
    obtain ⟨h1, h2, h3, h4⟩ := h 0 (by omega)
    have h1 : ¬ F i = -1 := h1
    have h2 : ¬ K j = -1 := h2
    have h3 : ¬ G j = -1 := h3
    have h4 : ¬ L k = -1 := h4
    rw [show w + (d + 1) = (w + d) + 1 by omega, mvW_s, if_neg (fun e => h1 e.2), if_neg (fun e => h2 e.2), if_neg (fun e => h3 e.2), if_neg (fun e => h4 e.2), if_pos (by omega), ih w (i + 1) (j + 1) (k + 1) _ _ _ _ _ (by omega) (fun x hx => by rw [show j + 1 + x = j + (x + 1) by omega, show i + 1 + x = i + (x + 1) by omega, show k + 1 + x = k + (x + 1) by omega]; exact h (x + 1) (by omega)), List.length_append, List.length_singleton, List.length_append, List.length_singleton, show ((M.length : Nat) : Int) = idZ M.length from rfl, show ((a.length : Nat) : Int) = idZ a.length from rfl, rl_c, rl_c, rl_c, rl_c, rl_c, show j + 1 + d = j + (d + 1) by omega, show i + 1 + d = i + (d + 1) by omega, show k + 1 + d = k + (d + 1) by omega]
theorem mvW_e {F K G L X Y Z : Nat → Int} {nb na nc i j k : Nat} {b M f a g : List Int} (hi : nb ≤ i) (hj : na ≤ j) (hk : nc ≤ k) : ∀ w, mvW F K G L X Y Z nb na nc w i j k b M f a g = (b, M, f, a, g) := by
  intro w
  induction w with
  | zero => rfl
  | succ w ih => rw [mvW_s, if_neg (by omega), if_neg (by omega), if_neg (by omega), if_neg (by omega), if_neg (by omega), ih]
/-- the hunks lie at or behind a place -/
theorem DS_e {F : Nat → Int} {nb na : Nat} {l : List St} {i j e : Nat} (h : DS F nb na l i j e) : ∀ q, q ∈ l → i + e ≤ q.1 ∧ j + e ≤ q.2.2.1 := by
  intro q hq
  cases l with
  | nil => cases hq
  | cons r t =>
    obtain ⟨h1, h2, h3, h4, h5, h6⟩ := h
    rcases List.mem_cons.mp hq with y | y
    · rw [y]; omega
    · have b := (DS_b _ _ _ _ h6).2.2 q y
      omega
/-- some way on, no hunk lying between -/
theorem DS_adv {F : Nat → Int} {nb na : Nat} {l : List St} {i j e j' e' : Nat} (h : DS F nb na l i j e) (h1 : j ≤ j') (h2 : j' ≤ na) (h3 : ∀ q, q ∈ l → j' + e' ≤ q.2.2.1) : DS F nb na l (i + (j' - j)) j' e' ∧ (∀ x, i ≤ x → x < i + (j' - j) → F x = ((j + (x - i) : Nat) : Int)) ∧ i + (j' - j) ≤ nb := by
  cases l with
  | nil =>
    obtain ⟨a1, a2, a3, a4⟩ := h
    refine ⟨⟨by omega, h2, by omega, fun x y1 y2 => ?_⟩, fun x y1 y2 => a4 x y1 (by omega), by omega⟩
    rw [a4 x (by omega) y2]
    congr 1
    omega
  | cons q t =>
    have bb := (DS_b _ _ _ _ h).2.2 q List.mem_cons_self
    obtain ⟨a1, a2, a3, a4, a5, a6⟩ := h
    have hq := h3 q List.mem_cons_self
    refine ⟨⟨by omega, by omega, fun x y1 y2 => ?_, a4, a5, a6⟩, fun x y1 y2 => a3 x y1 (by omega), by omega⟩
    rw [a3 x (by omega) y2]
    congr 1
    omega
/-- the same, by places of the first text -/
theorem DS_adv1 {F : Nat → Int} {nb na : Nat} {l : List St} {i j e i' e' : Nat} (h : DS F nb na l i j e) (h1 : i ≤ i') (h2 : i' ≤ nb) (h3 : ∀ q, q ∈ l → i' + e' ≤ q.1) : DS F nb na l i' (j + (i' - i)) e' ∧ (∀ x, i ≤ x → x < i' → F x = ((j + (x - i) : Nat) : Int)) ∧ j + (i' - i) ≤ na := by
  cases l with
  | nil =>
    obtain ⟨a1, a2, a3, a4⟩ := h
    refine ⟨⟨by omega, by omega, by omega, fun x y1 y2 => ?_⟩, fun x y1 y2 => a4 x y1 (by omega), by omega⟩
    rw [a4 x (by omega) y2]
    congr 1
    omega
  | cons q t =>
    have bb := (DS_b _ _ _ _ h).2.2 q List.mem_cons_self
    obtain ⟨a1, a2, a3, a4, a5, a6⟩ := h
    have hq := h3 q List.mem_cons_self
    refine ⟨⟨by omega, by omega, fun x y1 y2 => ?_, a4, a5, a6⟩, fun x y1 y2 => a3 x y1 (by omega), by omega⟩
    rw [a3 x (by omega) y2]
    congr 1
    omega
/-- a line of the second text that no hunk adds has its partner -/
theorem DS_on {F : Nat → Int} {nb na : Nat} : ∀ (l : List St) (i j e y : Nat), DS F nb na l i j e → j ≤ y → y < na → (∀ q, q ∈ l → y < q.2.2.1 ∨ q.2.2.1 + q.2.2.2 ≤ y) → ∃ x, i ≤ x ∧ x < nb ∧ F x = (y : Int) := by
  intro l
  induction l with
  | nil =>
    intro i j e y h h1 h2 _
    obtain ⟨a1, a2, a3, a4⟩ := h
    refine ⟨i + (y - j), by omega, by omega, ?_⟩
    rw [a4 _ (by omega) (by omega)]
    congr 1
    omega
  | cons q t ih =>
    intro i j e y h h1 h2 h3
    have bb := (DS_b _ _ _ _ h).2.2 q List.mem_cons_self
    obtain ⟨a1, a2, a3, a4, a5, a6⟩ := h
    rcases h3 q List.mem_cons_self with z | z
    · refine ⟨i + (y - j), by omega, by omega, ?_⟩
      rw [a3 _ (by omega) (by omega)]
      congr 1
      omega
    · obtain ⟨x, y1, y2, y3⟩ := ih _ _ _ y a6 z h2 (fun r hr => h3 r (List.mem_cons_of_mem _ hr))
      exact ⟨x, by omega, y2, y3⟩
/-- a line that a hunk adds has none -/
theorem DS_K {F K : Nat → Int} {nb na : Nat} {q : St} {t : List St} {i j e y : Nat} (h : DS F nb na (q :: t) i j e) (I : IV F K nb na) (P : ∀ x, x < i → F x = -1 ∨ F x < (j : Int)) (h1 : q.2.2.1 ≤ y) (h2 : y < q.2.2.1 + q.2.2.2) : K y = -1 := by
  have bb := (DS_b _ _ _ _ h).2.2 q List.mem_cons_self
  obtain ⟨a1, a2, a3, a4, a5, a6⟩ := h
  rcases I.1 y (by omega) with z | ⟨z1, z2, z3⟩
  · exact z
  · exfalso
    obtain ⟨x, hx⟩ := Int.eq_ofNat_of_zero_le z1
    rw [hx, tn] at z3
    by_cases y1 : x < i
    · rcases P x y1 with w | w <;> omega
    · by_cases y2 : x < q.1
      · have w := a3 x (by omega) y2
        omega
      · by_cases y3 : x < q.1 + q.2.1
        · have w := a4 x (by omega) y3
          omega
        · rcases (DS_v _ _ _ _ a6).1 x (by omega) (by omega) with w | w <;> omega
end
