/-! Two patches exchanged: where hunks touch. -/
noncomputable section
theorem DS_hdo {F : Nat → Int} {nb na i j : Nat} {t : List St} (D : DS F nb na t i j 1) : (i < nb ∧ F i = (j : Nat)) ∨ (i = nb ∧ j = na) := by
  have b := DS_b t i j 1 D
  cases t with
  | nil =>
    obtain ⟨h1, h2, h3, h4⟩ := D
    by_cases y : i < nb
    · refine Or.inl ⟨y, ?_⟩
      rw [h4 i (Nat.le_refl _) y]
      congr 1
      omega
    · exact Or.inr (by omega)
  | cons q t =>
    obtain ⟨h1, h2, h3, h4, h5, h6⟩ := D
    have := b.2.2 q List.mem_cons_self
    refine Or.inl ⟨by omega, ?_⟩
    rw [h3 i (Nat.le_refl _) (by omega)]
    congr 1
    omega
/-- a dropped line, and where the new text stands there -/
theorem DS_inP {F : Nat → Int} {nb na : Nat} : ∀ (l : List St) (i0 j0 e : Nat), DS F nb na l i0 j0 e → ∀ x y : Nat, i0 ≤ x → x < nb → F x = -1 → j0 ≤ y → y ≤ na → (∀ x' : Nat, i0 ≤ x' → x' < x → F x' = -1 ∨ F x' < (y : Nat)) → (∀ x' : Nat, x ≤ x' → x' < nb → F x' = -1 ∨ ((y : Nat) : Int) ≤ F x') → ∃ q, q ∈ l ∧ q.2.2.1 ≤ y ∧ y ≤ q.2.2.1 + q.2.2.2 := by
  intro l
  induction l with
  | nil =>
    intro i0 j0 e D x y h1 h2 h3
    have := D.2.2.2 x h1 h2
    omega
  | cons q t ih =>
    intro i0 j0 e D x y h1 h2 h3 h4 h5 h6 h7
    obtain ⟨d1, d2, d3, d4, d5, d6⟩ := D
    have hd := DS_hdo d6
    by_cases y1 : x < q.1
    · have := d3 x h1 y1
      omega
    by_cases y2 : x < q.1 + q.2.1
    · refine ⟨q, List.mem_cons_self, ?_, ?_⟩
      · by_cases z : i0 < q.1
        · have a := d3 (q.1 - 1) (by omega) (by omega)
          have b := h6 (q.1 - 1) (by omega) (by omega)
          omega
        · omega
      · rcases hd with ⟨a, b⟩ | ⟨a, b⟩
        · have c := h7 (q.1 + q.2.1) (by omega) a
          omega
        · omega
    · rcases hd with ⟨a, b⟩ | ⟨a, b⟩
      · have ne : ¬ x = q.1 + q.2.1 := fun e => by rw [e] at h3; omega
        have c := h6 (q.1 + q.2.1) (by omega) (by omega)
        obtain ⟨r, r1, r2⟩ := ih _ _ _ d6 x y (by omega) h2 h3 (by omega) h5 (fun x' k1 k2 => h6 x' (by omega) k2) h7
        exact ⟨r, List.mem_cons_of_mem _ r1, r2⟩
      · omega
/-- an added line, and where the old text stands there -/
theorem DS_inQ {G : Nat → Int} {na nc : Nat} : ∀ (l : List St) (i0 j0 e : Nat), DS G na nc l i0 j0 e → ∀ x y : Nat, j0 ≤ y → y < nc → (∀ x' : Nat, i0 ≤ x' → x' < na → ¬ G x' = (y : Nat)) → i0 ≤ x → x ≤ na → (∀ x' : Nat, i0 ≤ x' → x' < x → G x' = -1 ∨ G x' < (y : Nat)) → (∀ x' : Nat, x ≤ x' → x' < na → G x' = -1 ∨ ((y : Nat) : Int) ≤ G x') → ∃ r, r ∈ l ∧ r.1 ≤ x ∧ x ≤ r.1 + r.2.1 := by
  intro l
  induction l with
  | nil =>
    intro i0 j0 e D x y h1 h2 h3
    obtain ⟨d1, d2, d3, d4⟩ := D
    have a := d4 (i0 + (y - j0)) (by omega) (by omega)
    exact absurd (by rw [a]; congr 1; omega) (h3 (i0 + (y - j0)) (by omega) (by omega))
  | cons q t ih =>
    intro i0 j0 e D x y h1 h2 h3 h4 h5 h6 h7
    have bq := (DS_b _ _ _ _ D).2.2 q List.mem_cons_self
    obtain ⟨d1, d2, d3, d4, d5, d6⟩ := D
    have hd := DS_hdo d6
    by_cases y1 : y < q.2.2.1
    · have a := d3 (i0 + (y - j0)) (by omega) (by omega)
      exact absurd (by rw [a]; congr 1; omega) (h3 (i0 + (y - j0)) (by omega) (by omega))
    by_cases y2 : y < q.2.2.1 + q.2.2.2
    · refine ⟨q, List.mem_cons_self, ?_, ?_⟩
      · by_cases z : q.1 ≤ x
        · exact z
        · have a := d3 (q.1 - 1) (by omega) (by omega)
          have b := h7 (q.1 - 1) (by omega) (by omega)
          omega
      · by_cases z : x ≤ q.1 + q.2.1
        · exact z
        · rcases hd with ⟨a, b⟩ | ⟨a, b⟩
          · have c := h6 (q.1 + q.2.1) (by omega) (by omega)
            omega
          · omega
    · rcases hd with ⟨a, b⟩ | ⟨a, b⟩
      · have ne : ¬ y = q.2.2.1 + q.2.2.2 := fun e => h3 (q.1 + q.2.1) (by omega) a (by rw [b, e])
        have hx : q.1 + q.2.1 ≤ x := by
          by_cases z : q.1 + q.2.1 ≤ x
          · exact z
          · have c := h7 (q.1 + q.2.1) (by omega) a
            omega
        obtain ⟨r, r1, r2⟩ := ih _ _ _ d6 x y (by omega) h2 (fun x' k1 k2 => h3 x' (by omega) k2) hx h5 (fun x' k1 k2 => h6 x' (by omega) k2) h7
        exact ⟨r, List.mem_cons_of_mem _ r1, r2⟩
      · omega
/-- a dropped line lies in a hunk -/
theorem DS_drop {G : Nat → Int} {na nc : Nat} : ∀ (l : List St) (i0 j0 e : Nat), DS G na nc l i0 j0 e → ∀ x : Nat, i0 ≤ x → x < na → G x = -1 → ∃ r, r ∈ l ∧ r.1 ≤ x ∧ x < r.1 + r.2.1 := by
  intro l
  induction l with
  | nil =>
    intro i0 j0 e D x h1 h2 h3
    have := D.2.2.2 x h1 h2
    omega
  | cons q t ih =>
    intro i0 j0 e D x h1 h2 h3
    obtain ⟨d1, d2, d3, d4, d5, d6⟩ := D
    by_cases y1 : x < q.1
    · have := d3 x h1 y1
      omega
    by_cases y2 : x < q.1 + q.2.1
    · exact ⟨q, List.mem_cons_self, by omega, y2⟩
    · obtain ⟨r, r1, r2⟩ := ih _ _ _ d6 x (by omega) h2 h3
      exact ⟨r, List.mem_cons_of_mem _ r1, r2⟩
/-- an added line lies in a hunk -/
theorem DS_add {F K : Nat → Int} {nb na : Nat} {l : List St} (D : DS F nb na l 0 0 0) (I : IV F K nb na) {y : Nat} (hy : y < na) (hK : K y = -1) : ∃ q, q ∈ l ∧ q.2.2.1 ≤ y ∧ y < q.2.2.1 + q.2.2.2 := by
  by_cases z : ∃ q, q ∈ l ∧ q.2.2.1 ≤ y ∧ y < q.2.2.1 + q.2.2.2
  · exact z
  · obtain ⟨x, x1, x2, x3⟩ := DS_on l 0 0 0 y D (Nat.zero_le _) hy (fun q hq => by
      by_cases a : y < q.2.2.1
      · exact Or.inl a
      · refine Or.inr ?_
        by_cases b : q.2.2.1 + q.2.2.2 ≤ y
        · exact b
        · exact absurd ⟨q, hq, by omega, by omega⟩ z)
    have w := I.2 x x2 (by rw [x3]; omega)
    rw [x3, show (((y : Nat) : Int)).toNat = y by omega, hK] at w
    omega
/-- what stands ahead of a place is paired ahead of the other -/
def FRT (F : Nat → Int) (nb i j : Nat) : Prop := (∀ x : Nat, x < i → F x = -1 ∨ F x < (j : Nat)) ∧ ∀ x : Nat, i ≤ x → x < nb → F x = -1 ∨ ((j : Nat) : Int) ≤ F x
theorem FRT_1 {F : Nat → Int} {nb i j : Nat} (h : FRT F nb i j) (e : F i = -1) : FRT F nb (i + 1) j := by
  refine ⟨fun x hx => ?_, fun x h1 h2 => h.2 x (by omega) h2⟩
  by_cases y : x = i
  · rw [y]; exact Or.inl e
  · exact h.1 x (by omega)
theorem FRT_2 {F : Nat → Int} {nb i j : Nat} (h : FRT F nb i j) (e : ∀ x : Nat, x < nb → ¬ F x = (j : Nat)) : FRT F nb i (j + 1) := by
  refine ⟨fun x hx => ?_, fun x h1 h2 => ?_⟩
  · have := h.1 x hx
    omega
  · have a := h.2 x h1 h2
    have b := e x h2
    omega
theorem FRT_5 {F : Nat → Int} {nb na i j : Nat} (V : VF F nb na) (h : FRT F nb i j) (hi : i < nb) (e : F i = (j : Nat)) : FRT F nb (i + 1) (j + 1) := by
  refine ⟨fun x hx => ?_, fun x h1 h2 => ?_⟩
  · by_cases y : x = i
    · rw [y]; omega
    · have := h.1 x (by omega)
      omega
  · by_cases z : F x = -1
    · exact Or.inl z
    · have := V.2 i x (by omega) h2 (by omega) z
      omega
/-- the next line is paired with the other next one -/
theorem FRT_eq {F K : Nat → Int} {nb na i j : Nat} (V : VF F nb na) (I : IV F K nb na) (h : FRT F nb i j) (hj : j < na) (hK : ¬ K j = -1) (h1 : ¬ (i < nb ∧ F i = -1)) : i < nb ∧ F i = (j : Nat) ∧ K j = (i : Nat) := by
  rcases I.1 j hj with e | ⟨e1, e2, e3⟩
  · exact absurd e hK
  · obtain ⟨x, hx⟩ := Int.eq_ofNat_of_zero_le e1
    rw [hx] at e2 e3
    rw [show (((x : Nat) : Int)).toNat = x by omega] at e3
    have ge : i ≤ x := by
      by_cases y : i ≤ x
      · exact y
      · have := h.1 x (by omega)
        omega
    have hi : i < nb := by omega
    have hF : ¬ F i = -1 := fun e => h1 ⟨hi, e⟩
    have a := h.2 i (Nat.le_refl _) hi
    by_cases y : i = x
    · rw [y]
      exact ⟨by omega, e3, hx⟩
    · have b := V.2 i x (by omega) (by omega) hF (by omega)
      omega
end
