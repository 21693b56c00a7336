/-! The most pairs that two rows can have, from either end and either side. -/
noncomputable section
/-- pairs that go on in both rows -/
def mch (f g : Nat → Int) : List (Nat × Nat) → Nat → Nat → Nat → Nat → Prop
  | [], _, _, _, _ => True
  | q :: t, i, j, ie, je => i ≤ q.1 ∧ q.1 < ie ∧ j ≤ q.2 ∧ q.2 < je ∧ f q.1 = g q.2 ∧ mch f g t (q.1 + 1) (q.2 + 1) ie je
theorem mch_mono {f g : Nat → Int} : ∀ (t : List (Nat × Nat)) {i j ie je i' j' ie' je' : Nat}, i' ≤ i → j' ≤ j → ie ≤ ie' → je ≤ je' → mch f g t i j ie je → mch f g t i' j' ie' je' := by
  intro t
  induction t with
  | nil => intros; trivial
  | cons q t ih =>
    intro i j ie je i' j' ie' je' h1 h2 h3 h4 h
    obtain ⟨a, b, c, d, e, r⟩ := h
    exact ⟨by omega, by omega, by omega, by omega, e, ih (Nat.le_refl _) (Nat.le_refl _) h3 h4 r⟩
theorem mch_snoc {f g : Nat → Int} : ∀ (t : List (Nat × Nat)) {q : Nat × Nat} {i j ie je : Nat}, mch f g (t ++ [q]) i j ie je → mch f g t i j q.1 q.2 ∧ i ≤ q.1 ∧ q.1 < ie ∧ j ≤ q.2 ∧ q.2 < je ∧ f q.1 = g q.2 := by
  intro t
  induction t with
  | nil =>
    intro q i j ie je h
    obtain ⟨a, b, c, d, e, -⟩ := h
    exact ⟨trivial, a, b, c, d, e⟩
  | cons r t ih =>
    intro q i j ie je h
    obtain ⟨a, b, c, d, e, h⟩ := h
    obtain ⟨k1, k2, k3, k4, k5, k6⟩ := ih h
    exact ⟨⟨a, by omega, c, by omega, e, k1⟩, by omega, k3, by omega, k5, k6⟩
theorem mch_add {f g : Nat → Int} : ∀ (t : List (Nat × Nat)) {q : Nat × Nat} {i j ie je : Nat}, mch f g t i j q.1 q.2 → i ≤ q.1 → q.1 < ie → j ≤ q.2 → q.2 < je → f q.1 = g q.2 → mch f g (t ++ [q]) i j ie je := by
  intro t
  induction t with
  | nil => intro q i j ie je _ a b c d e; exact ⟨a, b, c, d, e, trivial⟩
  | cons r t ih =>
    intro q i j ie je h a b c d e
    obtain ⟨k1, k2, k3, k4, k5, k6⟩ := h
    exact ⟨k1, by omega, k3, by omega, k5, ih k6 (by omega) b (by omega) d e⟩
theorem mch_swap {f g : Nat → Int} : ∀ (t : List (Nat × Nat)) {i j ie je : Nat}, mch f g t i j ie je → mch g f (t.map (fun q => (q.2, q.1))) j i je ie := by
  intro t
  induction t with
  | nil => intros; trivial
  | cons q t ih =>
    intro i j ie je h
    obtain ⟨a, b, c, d, e, r⟩ := h
    exact ⟨c, d, a, b, e.symm, ih r⟩
theorem mxI_l {x y : Int} : x ≤ mxI x y := by unfold mxI; split <;> omega
theorem mxI_r {x y : Int} : y ≤ mxI x y := by unfold mxI; split <;> omega
theorem mxI_or (x y : Int) : mxI x y = x ∨ mxI x y = y := by unfold mxI; split <;> simp
theorem lt_up {f g : Nat → Int} {ae be : Nat} : ∀ (n i j : Nat) (t : List (Nat × Nat)), (ae - i) + (be - j) = n → mch f g t i j ae be → (t.length : Int) ≤ lt f g ae be (ae - i) (be - j) := by
  intro n
  induction n using Nat.strongRecOn with
  | ind n ih =>
    intro i j t hn h
    cases t with
    | nil => exact (lt_b (ae - i) (be - j)).1
    | cons q t =>
      obtain ⟨a, b, c, d, e, r⟩ := h
      rw [lt_T (show i < ae by omega) (show j < be by omega)]
      by_cases y : f i = g j
      · rw [if_pos y]
        have z := ih ((ae - (i + 1)) + (be - (j + 1))) (by omega) (i + 1) (j + 1) t rfl (mch_mono t (by omega) (by omega) (Nat.le_refl _) (Nat.le_refl _) r)
        rw [List.length_cons]
        omega
      · rw [if_neg y]
        by_cases k : i < q.1
        · have z := ih ((ae - (i + 1)) + (be - j)) (by omega) (i + 1) j (q :: t) rfl ⟨by omega, b, c, d, e, r⟩
          exact Int.le_trans z mxI_l
        · have kj : j < q.2 := by
            by_cases k2 : j < q.2
            · exact k2
            · have e1 : q.1 = i := by omega
              have e2 : q.2 = j := by omega
              rw [e1, e2] at e
              exact absurd e y
          have z := ih ((ae - i) + (be - (j + 1))) (by omega) i (j + 1) (q :: t) rfl ⟨a, b, by omega, d, e, r⟩
          exact Int.le_trans z mxI_r
theorem lt_at {f g : Nat → Int} {ae be : Nat} : ∀ (n i j : Nat), (ae - i) + (be - j) = n → ∃ t : List (Nat × Nat), mch f g t i j ae be ∧ (t.length : Int) = lt f g ae be (ae - i) (be - j) := by
  intro n
  induction n using Nat.strongRecOn with
  | ind n ih =>
    intro i j hn
    by_cases hi : i < ae
    · by_cases hj : j < be
      · rw [lt_T hi hj]
        by_cases y : f i = g j
        · rw [if_pos y]
          obtain ⟨t, t1, t2⟩ := ih ((ae - (i + 1)) + (be - (j + 1))) (by omega) (i + 1) (j + 1) rfl
          exact ⟨(i, j) :: t, ⟨Nat.le_refl _, hi, Nat.le_refl _, hj, y, t1⟩, by rw [List.length_cons]; omega⟩
        · rw [if_neg y]
          rcases mxI_or (lt f g ae be (ae - (i + 1)) (be - j)) (lt f g ae be (ae - i) (be - (j + 1))) with e | e
          · rw [e]
            obtain ⟨t, t1, t2⟩ := ih ((ae - (i + 1)) + (be - j)) (by omega) (i + 1) j rfl
            exact ⟨t, mch_mono t (by omega) (Nat.le_refl _) (Nat.le_refl _) (Nat.le_refl _) t1, t2⟩
          · rw [e]
            obtain ⟨t, t1, t2⟩ := ih ((ae - i) + (be - (j + 1))) (by omega) i (j + 1) rfl
            exact ⟨t, mch_mono t (Nat.le_refl _) (by omega) (Nat.le_refl _) (Nat.le_refl _) t1, t2⟩
      · rw [show be - j = 0 by omega, ltq_0]
        exact ⟨[], trivial, rfl⟩
    · rw [show ae - i = 0 by omega]
      exact ⟨[], trivial, rfl⟩
/-- from the other end -/
def lpr (x : Int) (g : Nat → Int) (prev : Nat → Int) : Nat → Int
  | 0 => 0
  | j + 1 => if x = g j then prev j + 1 else mxI (prev (j + 1)) (lpr x g prev j)
def lp (f g : Nat → Int) : Nat → Nat → Int
  | 0 => fun _ => 0
  | i + 1 => lpr (f i) g (lp f g i)
theorem lp_0 {f g : Nat → Int} {i : Nat} : lp f g i 0 = 0 := by cases i <;> rfl
theorem lp_s {f g : Nat → Int} {i j : Nat} : lp f g (i + 1) (j + 1) = if f i = g j then lp f g i j + 1 else mxI (lp f g i (j + 1)) (lp f g (i + 1) j) := rfl
theorem lp_nn {f g : Nat → Int} : ∀ (i j : Nat), 0 ≤ lp f g i j := by
  intro i
  induction i with
  | zero => intro j; exact Int.le_refl 0
  | succ i ih =>
    intro j
    cases j with
    | zero => rw [lp_0]; exact Int.le_refl 0
    | succ j =>
      rw [lp_s]
      split
      · have := ih j; omega
      · exact Int.le_trans (ih (j + 1)) mxI_l
theorem lp_up {f g : Nat → Int} : ∀ (n ie je : Nat) (t : List (Nat × Nat)), ie + je = n → mch f g t 0 0 ie je → (t.length : Int) ≤ lp f g ie je := by
  intro n
  induction n using Nat.strongRecOn with
  | ind n ih =>
    intro ie je t hn h
    rcases List.eq_nil_or_concat t with e | ⟨u, q, e⟩
    · rw [e]; exact lp_nn ie je
    · rw [List.concat_eq_append] at e
      subst e
      obtain ⟨k1, k2, k3, k4, k5, k6⟩ := mch_snoc u h
      obtain ⟨i, hi⟩ : ∃ i, ie = i + 1 := ⟨ie - 1, by omega⟩
      obtain ⟨j, hj⟩ : ∃ j, je = j + 1 := ⟨je - 1, by omega⟩
      subst hi hj
      rw [lp_s]
      by_cases y : f i = g j
      · rw [if_pos y]
        have z := ih (i + j) (by omega) i j u rfl (mch_mono u (Nat.le_refl _) (Nat.le_refl _) (by omega) (by omega) k1)
        rw [List.length_append]
        show ((u.length + 1 : Nat) : Int) ≤ _
        omega
      · rw [if_neg y]
        by_cases k : q.1 < i
        · have z := ih (i + (j + 1)) (by omega) i (j + 1) (u ++ [q]) rfl (mch_add u k1 k2 k k4 k5 k6)
          exact Int.le_trans z mxI_l
        · have kj : q.2 < j := by
            by_cases k2 : q.2 < j
            · exact k2
            · have e1 : q.1 = i := by omega
              have e2 : q.2 = j := by omega
              rw [e1, e2] at k6
              exact absurd k6 y
          have z := ih (i + 1 + j) (by omega) (i + 1) j (u ++ [q]) rfl (mch_add u k1 k2 k3 k4 kj k6)
          exact Int.le_trans z mxI_r
theorem lp_at {f g : Nat → Int} : ∀ (n ie je : Nat), ie + je = n → ∃ t : List (Nat × Nat), mch f g t 0 0 ie je ∧ (t.length : Int) = lp f g ie je := by
  intro n
  induction n using Nat.strongRecOn with
  | ind n ih =>
    intro ie je hn
    cases ie with
    | zero => exact ⟨[], trivial, rfl⟩
    | succ i =>
      cases je with
      | zero => rw [lp_0]; exact ⟨[], trivial, rfl⟩
      | succ j =>
        rw [lp_s]
        by_cases y : f i = g j
        · rw [if_pos y]
          obtain ⟨t, t1, t2⟩ := ih (i + j) (by omega) i j rfl
          refine ⟨t ++ [(i, j)], mch_add t t1 (Nat.zero_le _) (Nat.lt_succ_self _) (Nat.zero_le _) (Nat.lt_succ_self _) y, ?_⟩
          rw [List.length_append]
          show ((t.length + 1 : Nat) : Int) = _
          omega
        · rw [if_neg y]
          rcases mxI_or (lp f g i (j + 1)) (lp f g (i + 1) j) with e | e
          · rw [e]
            obtain ⟨t, t1, t2⟩ := ih (i + (j + 1)) (by omega) i (j + 1) rfl
            exact ⟨t, mch_mono t (Nat.le_refl _) (Nat.le_refl _) (by omega) (Nat.le_refl _) t1, t2⟩
          · rw [e]
            obtain ⟨t, t1, t2⟩ := ih (i + 1 + j) (by omega) (i + 1) j rfl
            exact ⟨t, mch_mono t (Nat.le_refl _) (Nat.le_refl _) (Nat.le_refl _) (by omega) t1, t2⟩
/-- both ends give the same -/
theorem lt_lp {f g : Nat → Int} {ae be : Nat} : lt f g ae be ae be = lp f g ae be := by
  obtain ⟨t, t1, t2⟩ := lt_at (f := f) (g := g) (ae := ae) (be := be) _ 0 0 rfl
  obtain ⟨u, u1, u2⟩ := lp_at (f := f) (g := g) _ ae be rfl
  have a := lp_up _ ae be t rfl t1
  have b := lt_up _ 0 0 u rfl u1
  rw [Nat.sub_zero, Nat.sub_zero] at t2 b
  omega
/-- and both sides -/
theorem lt_swap {f g : Nat → Int} {ae be : Nat} : lt f g ae be ae be = lt g f be ae be ae := by
  obtain ⟨t, t1, t2⟩ := lt_at (f := f) (g := g) (ae := ae) (be := be) _ 0 0 rfl
  obtain ⟨u, u1, u2⟩ := lt_at (f := g) (g := f) (ae := be) (be := ae) _ 0 0 rfl
  have a := lt_up _ 0 0 _ rfl (mch_swap t t1)
  have b := lt_up _ 0 0 _ rfl (mch_swap u u1)
  rw [Nat.sub_zero, Nat.sub_zero] at t2 u2 a b
  rw [List.length_map] at a b
  omega
/-- no pairs that go on are more -/
theorem mch_most {f g : Nat → Int} {ae be : Nat} {t : List (Nat × Nat)} (h : mch f g t 0 0 ae be) : (t.length : Int) ≤ lp f g ae be := lp_up _ ae be t rfl h
end
