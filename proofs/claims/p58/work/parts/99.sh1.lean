/-! Hunks and the pairs around them. -/
noncomputable section
/-- pairs that leave these hunks, from a place on; the first hunk begins e lines behind it, or more -/
def DS (F : Nat → Int) (nb na : Nat) : List St → Nat → Nat → Nat → Prop
  | [], i, j, _ => i ≤ nb ∧ j ≤ na ∧ nb - i = na - j ∧ ∀ x, i ≤ x → x < nb → F x = ((j + (x - i) : Nat) : Int)
  | q :: t, i, j, e => i + e ≤ q.1 ∧ q.2.2.1 = j + (q.1 - i) ∧ (∀ x, i ≤ x → x < q.1 → F x = ((j + (x - i) : Nat) : Int)) ∧ (∀ x, q.1 ≤ x → x < q.1 + q.2.1 → F x = -1) ∧ 0 < q.2.1 + q.2.2.2 ∧ DS F nb na t (q.1 + q.2.1) (q.2.2.1 + q.2.2.2) 1
theorem DS_b {F : Nat → Int} {nb na : Nat} : ∀ (l : List St) (i j e : Nat), DS F nb na l i j e → i ≤ nb ∧ j ≤ na ∧ ∀ q, q ∈ l → i ≤ q.1 ∧ q.1 + q.2.1 ≤ nb ∧ j ≤ q.2.2.1 ∧ q.2.2.1 + q.2.2.2 ≤ na := by
  intro l
  induction l with
  | nil =>
    intro i j e h
    exact ⟨h.1, h.2.1, fun q hq => by cases hq⟩
  | cons q t ih =>
    intro i j e h
    obtain ⟨h1, h2, h3, h4, h5, h6⟩ := h
    obtain ⟨i1, i2, i3⟩ := ih _ _ _ h6
    refine ⟨by omega, by omega, fun r hr => ?_⟩
    rcases List.mem_cons.mp hr with e' | e'
    · rw [e']
      omega
    · have := i3 r e'
      omega
theorem DS_cg {F F' : Nat → Int} {nb na : Nat} : ∀ (l : List St) (i j e : Nat), (∀ x, i ≤ x → x < nb → F' x = F x) → DS F nb na l i j e → DS F' nb na l i j e := by
  intro l
  induction l with
  | nil =>
    intro i j e hF h
    exact ⟨h.1, h.2.1, h.2.2.1, fun x h1 h2 => by rw [hF x h1 h2]; exact h.2.2.2 x h1 h2⟩
  | cons q t ih =>
    intro i j e hF h
    have b := (DS_b _ _ _ _ h).2.2 q List.mem_cons_self
    obtain ⟨h1, h2, h3, h4, h5, h6⟩ := h
    exact ⟨h1, h2, fun x y1 y2 => by rw [hF x y1 (by omega)]; exact h3 x y1 y2, fun x y1 y2 => by rw [hF x (by omega) (by omega)]; exact h4 x y1 y2, h5, ih _ _ _ (fun x y1 y2 => hF x (by omega) y2) h6⟩
theorem DS_w {F : Nat → Int} {nb na : Nat} {l : List St} {i j e e' : Nat} (he : e' ≤ e) (h : DS F nb na l i j e) : DS F nb na l i j e' := by
  cases l with
  | nil => exact h
  | cons q t =>
    obtain ⟨h1, h2, h3, h4, h5, h6⟩ := h
    exact ⟨by omega, h2, h3, h4, h5, h6⟩
theorem DS_hd {F : Nat → Int} {nb na : Nat} {l : List St} {i j : Nat} (h : DS F nb na l i j 1) : (i < nb → F i = (j : Int)) ∧ (¬ i < nb → j = na) := by
  cases l with
  | nil =>
    obtain ⟨h1, h2, h3, h4⟩ := h
    refine ⟨fun y => ?_, fun y => by omega⟩
    have z := h4 i (Nat.le_refl i) y
    rw [Nat.sub_self, Nat.add_zero] at z
    exact z
  | cons q t =>
    have b := (DS_b _ _ _ _ h).2.2 q List.mem_cons_self
    obtain ⟨h1, h2, h3, h4, h5, h6⟩ := h
    refine ⟨fun y => ?_, fun y => by omega⟩
    have z := h3 i (Nat.le_refl i) (by omega)
    rw [Nat.sub_self, Nat.add_zero] at z
    exact z
theorem hkF_run {F : Nat → Int} {nb na : Nat} : ∀ (d i j w : Nat), d ≤ w → i + d ≤ nb → (∀ x, i ≤ x → x < i + d → F x = ((j + (x - i) : Nat) : Int)) → hkF F nb na w i j = hkF F nb na (w - d) (i + d) (j + d) := by
  intro d
  induction d with
  | zero => intro i j w _ _ _; rfl
  | succ d ih =>
    intro i j w hw hb h
    obtain ⟨w, rfl⟩ : ∃ w', w = w' + 1 := ⟨w - 1, by omega⟩
    have z := h i (Nat.le_refl i) (by omega)
    rw [Nat.sub_self, Nat.add_zero] at z
    rw [hkF_s, if_pos (Or.inl (by omega)), if_pos ⟨by omega, z⟩, ih (i + 1) (j + 1) w (by omega) (by omega) (fun x h1 h2 => by
      rw [h x (by omega) (by omega)]
      congr 1
      omega)]
    rw [show w + 1 - (d + 1) = w - d by omega, show i + 1 + d = i + (d + 1) by omega, show j + 1 + d = j + (d + 1) by omega]
theorem DS_hk {F : Nat → Int} {nb na : Nat} : ∀ (l : List St) (i j e w : Nat), DS F nb na l i j e → (nb - i) + (na - j) ≤ w → hkF F nb na w i j = l := by
  intro l
  induction l with
  | nil =>
    intro i j e w h hw
    obtain ⟨h1, h2, h3, h4⟩ := h
    rw [hkF_run (nb - i) i j w (by omega) (by omega) (fun x y1 y2 => h4 x y1 (by omega))]
    exact hkF_e (by omega) _
  | cons q t ih =>
    intro i j e w h hw
    have b := (DS_b _ _ _ _ h).2.2 q List.mem_cons_self
    obtain ⟨o, d, n, a⟩ := q
    obtain ⟨h1, h2, h3, h4, h5, h6⟩ := h
    have h1 : i + e ≤ o := h1
    have h2 : n = j + (o - i) := h2
    have h3 : ∀ x, i ≤ x → x < o → F x = ((j + (x - i) : Nat) : Int) := h3
    have h4 : ∀ x, o ≤ x → x < o + d → F x = -1 := h4
    have h5 : 0 < d + a := h5
    have h6 : DS F nb na t (o + d) (n + a) 1 := h6
    have b1 : o + d ≤ nb := b.2.1
    have b2 : n + a ≤ na := b.2.2.2
    obtain ⟨g1, g2⟩ := DS_hd h6
    rw [hkF_run (o - i) i j w (by omega) (by omega) (fun x y1 y2 => h3 x y1 (by omega)), show i + (o - i) = o by omega, ← h2]
    obtain ⟨w', hw'⟩ : ∃ w', w - (o - i) = w' + 1 := ⟨w - (o - i) - 1, by omega⟩
    have enx : nx F nb o = o + d := nx_u (by omega) b1 h4 (fun y z => by
      rw [g1 y] at z
      omega)
    have ej : j2F F nb na o = n + a := by
      unfold j2F
      rw [enx]
      by_cases y : o + d < nb
      · rw [if_pos y, g1 y]
        exact Int.toNat_natCast _
      · rw [if_neg y, g2 y]
    rw [hw', hkF_s, if_pos (show o < nb ∨ n < na by omega), if_neg (show ¬ (o < nb ∧ F o = (n : Int)) from fun z => by
      by_cases y : d = 0
      · have := g1 (by omega)
        rw [show o + d = o by omega] at this
        omega
      · have := h4 o (Nat.le_refl o) (by omega)
        omega), enx, ej, ih (o + d) (n + a) 1 w' h6 (by omega), Nat.add_sub_cancel_left, Nat.add_sub_cancel_left]
theorem DS_hks {F : Nat → Int} {nb na : Nat} {l : List St} (h : DS F nb na l 0 0 0) : hks F nb na = l := DS_hk l 0 0 0 _ h (by omega)
theorem DS_ext {F : Nat → Int} {nb na : Nat} {l : List St} {i j : Nat} (h : DS F nb na l (i + 1) (j + 1) 0) (hf : F i = (j : Int)) : DS F nb na l i j 1 := by
  cases l with
  | nil =>
    obtain ⟨h1, h2, h3, h4⟩ := h
    refine ⟨by omega, by omega, by omega, fun x y1 y2 => ?_⟩
    by_cases e : x = i
    · rw [e, hf, Nat.sub_self, Nat.add_zero]
    · rw [h4 x (by omega) y2]
      congr 1
      omega
  | cons q t =>
    obtain ⟨h1, h2, h3, h4, h5, h6⟩ := h
    refine ⟨by omega, by omega, fun x y1 y2 => ?_, h4, h5, h6⟩
    by_cases e : x = i
    · rw [e, hf, Nat.sub_self, Nat.add_zero]
    · rw [h3 x (by omega) y2]
      congr 1
      omega
theorem DS_of {F : Nat → Int} {nb na : Nat} (V : VF F nb na) : ∀ (w i j : Nat), VI F nb na i j → (nb - i) + (na - j) ≤ w → DS F nb na (hkF F nb na w i j) i j 0 ∧ (((i < nb ∧ F i = (j : Int)) ∨ (i = nb ∧ j = na)) → DS F nb na (hkF F nb na w i j) i j 1) := by
  have fin : ∀ (w i j : Nat), VI F nb na i j → ¬ (i < nb ∨ j < na) → ∀ e, DS F nb na (hkF F nb na w i j) i j e := by
    intro w i j hi h1 e
    rw [hkF_e h1]
    exact ⟨hi.1, hi.2.1, by have := hi.1; have := hi.2.1; omega, fun x y1 y2 => by omega⟩
  intro w
  induction w with
  | zero =>
    intro i j hi hw
    exact ⟨fin 0 i j hi (by omega) 0, fun _ => fin 0 i j hi (by omega) 1⟩
  | succ w ih =>
    intro i j hi hw
    by_cases h1 : i < nb ∨ j < na
    · by_cases h2 : i < nb ∧ F i = (j : Int)
      · have e0 : hkF F nb na (w + 1) i j = hkF F nb na w (i + 1) (j + 1) := by
          rw [hkF_s, if_pos h1, if_pos h2]
        rw [e0]
        have z := DS_ext (ih (i + 1) (j + 1) (VI_s V hi h2.1 h2.2) (by omega)).1 h2.2
        exact ⟨DS_w (Nat.zero_le _) z, fun _ => z⟩
      · obtain ⟨v1, v2, v3, v4⟩ := VI_h V hi h1 h2
        have e0 : hkF F nb na (w + 1) i j = (i, nx F nb i - i, j, j2F F nb na i - j) :: hkF F nb na w (nx F nb i) (j2F F nb na i) := by
          rw [hkF_s, if_pos h1, if_neg h2]
        rw [e0]
        have ge := nx_ge (f := F) (nb := nb) (i := i)
        have z := (ih (nx F nb i) (j2F F nb na i) v1 (by omega)).2 v4
        have b1 := v1.1
        have b2 := v1.2.1
        refine ⟨⟨by show i + 0 ≤ i; omega, by show j = j + (i - i); omega, fun x y1 y2 => ?_, fun x y1 y2 => ?_, ?_, ?_⟩, fun h => ?_⟩
        · have y2 : x < i := y2
          omega
        · have y2 : x < i + (nx F nb i - i) := y2
          exact nx_m (f := F) (nb := nb) (i := i) (k := x) y1 (by omega)
        · show 0 < (nx F nb i - i) + (j2F F nb na i - j)
          omega
        · show DS F nb na _ (i + (nx F nb i - i)) (j + (j2F F nb na i - j)) 1
          rw [show i + (nx F nb i - i) = nx F nb i by omega, show j + (j2F F nb na i - j) = j2F F nb na i by omega]
          exact z
        · rcases h with h | h
          · exact absurd h h2
          · omega
    · exact ⟨fin _ i j hi h1 0, fun _ => fin _ i j hi h1 1⟩
theorem DS_0 {F : Nat → Int} {nb na : Nat} (V : VF F nb na) : DS F nb na (hks F nb na) 0 0 0 := (DS_of V (nb + na) 0 0 (VI_0 V) (by omega)).1
theorem DS_v {F : Nat → Int} {nb na : Nat} : ∀ (l : List St) (i j e : Nat), DS F nb na l i j e → (∀ x, i ≤ x → x < nb → F x = -1 ∨ ((j : Int) ≤ F x ∧ F x < (na : Int))) ∧ ∀ x x', i ≤ x → x < x' → x' < nb → ¬ F x = -1 → ¬ F x' = -1 → F x < F x' := by
  intro l
  induction l with
  | nil =>
    intro i j e h
    obtain ⟨h1, h2, h3, h4⟩ := h
    refine ⟨fun x y1 y2 => Or.inr ?_, fun x x' y1 y2 y3 _ _ => ?_⟩
    · rw [h4 x y1 y2]
      omega
    · rw [h4 x y1 (by omega), h4 x' (by omega) y3]
      omega
  | cons q t ih =>
    intro i j e h
    have b := DS_b _ _ _ _ h
    have bq := b.2.2 q List.mem_cons_self
    obtain ⟨h1, h2, h3, h4, h5, h6⟩ := h
    obtain ⟨i1, i2⟩ := ih _ _ _ h6
    refine ⟨fun x y1 y2 => ?_, fun x x' y1 y2 y3 n1 n2 => ?_⟩
    · by_cases z1 : x < q.1
      · rw [h3 x y1 z1]
        exact Or.inr (by omega)
      · by_cases z2 : x < q.1 + q.2.1
        · exact Or.inl (h4 x (by omega) z2)
        · rcases i1 x (by omega) y2 with z | z
          · exact Or.inl z
          · exact Or.inr (by omega)
    · by_cases z1 : x < q.1
      · by_cases z1' : x' < q.1
        · rw [h3 x y1 z1, h3 x' (by omega) z1']
          omega
        · by_cases z2' : x' < q.1 + q.2.1
          · exact absurd (h4 x' (by omega) z2') n2
          · rcases i1 x' (by omega) y3 with z | z
            · exact absurd z n2
            · rw [h3 x y1 z1]
              omega
      · by_cases z2 : x < q.1 + q.2.1
        · exact absurd (h4 x (by omega) z2) n1
        · exact i2 x x' (by omega) y2 y3 n1 n2
theorem DS_VF {F : Nat → Int} {nb na : Nat} {l : List St} (h : DS F nb na l 0 0 0) : VF F nb na := by
  obtain ⟨h1, h2⟩ := DS_v _ _ _ _ h
  refine ⟨fun i hi => ?_, fun i i' y1 y2 n1 n2 => h2 i i' (Nat.zero_le _) y1 y2 n1 n2⟩
  rcases h1 i (Nat.zero_le _) hi with z | z
  · exact Or.inl z
  · exact Or.inr (by omega)
theorem DS_u {F F' : Nat → Int} {nb na : Nat} : ∀ (l : List St) (i j e : Nat), DS F nb na l i j e → DS F' nb na l i j e → ∀ x, i ≤ x → x < nb → F x = F' x := by
  intro l
  induction l with
  | nil =>
    intro i j e h h' x y1 y2
    rw [h.2.2.2 x y1 y2, h'.2.2.2 x y1 y2]
  | cons q t ih =>
    intro i j e h h' x y1 y2
    obtain ⟨h1, h2, h3, h4, h5, h6⟩ := h
    obtain ⟨k1, k2, k3, k4, k5, k6⟩ := h'
    by_cases z1 : x < q.1
    · rw [h3 x y1 z1, k3 x y1 z1]
    · by_cases z2 : x < q.1 + q.2.1
      · rw [h4 x (by omega) z2, k4 x (by omega) z2]
      · exact ih _ _ _ h6 k6 x (by omega) y2
/-- where the hunk ahead ends, and where the next one begins -/
def peo : List St → Nat → Nat → Nat
  | [], _, i => i
  | _ :: _, 0, i => i
  | q :: t, h + 1, _ => peo t h (q.1 + q.2.1)
def nso (nb : Nat) (l : List St) (h : Nat) : Nat := match l[h + 1]? with
  | some r => r.1
  | none => nb
theorem peo_ge {F : Nat → Int} {nb na : Nat} : ∀ (l : List St) (h i j e : Nat), DS F nb na l i j e → h < l.length → i ≤ peo l h i ∧ ∀ q, l[h]? = some q → peo l h i ≤ q.1 := by
  intro l
  induction l with
  | nil => intro h i j e _ hl; exact absurd hl (Nat.not_lt_zero _)
  | cons q t ih =>
    intro h i j e H hl
    obtain ⟨h1, h2, h3, h4, h5, h6⟩ := H
    cases h with
    | zero =>
      refine ⟨Nat.le_refl _, fun r hr => ?_⟩
      have hr : q = r := by simpa using hr
      show i ≤ r.1
      rw [← hr]
      omega
    | succ h =>
      obtain ⟨i1, i2⟩ := ih h (q.1 + q.2.1) (q.2.2.1 + q.2.2.2) 1 h6 (by rw [List.length_cons] at hl; omega)
      refine ⟨?_, fun r hr => ?_⟩
      · show i ≤ peo t h (q.1 + q.2.1)
        omega
      · rw [List.getElem?_cons_succ] at hr
        exact i2 r hr
/-- a hunk that goes elsewhere between its neighbours -/
theorem DS_mv {F F' : Nat → Int} {nb na o d n a o' n' : Nat} : ∀ (l : List St) (h i j e : Nat), e ≤ 1 → DS F nb na l i j e → l[h]? = some (o, d, n, a) → o' + n = n' + o → (peo l h i + 1 ≤ o' ∨ (h = 0 ∧ i + e ≤ o')) → (o' + d + 1 ≤ nso nb l h ∨ (h + 1 = l.length ∧ o' + d ≤ nb)) → (∀ x, x < peo l h i ∨ nso nb l h ≤ x → F' x = F x) → (∀ x, peo l h i ≤ x → x < o' → F' x = ((n' - (o' - x) : Nat) : Int)) → (∀ x, o' ≤ x → x < o' + d → F' x = -1) → (∀ x, o' + d ≤ x → x < nso nb l h → F' x = ((n' + a + (x - (o' + d)) : Nat) : Int)) → DS F' nb na (l.set h (o', d, n', a)) i j e := by
  intro l
  induction l with
  | nil => intro h i j e _ _ hl; simp at hl
  | cons q t ih =>
    intro h i j e he H hl hon hlo hhi hF g1 g2 g3
    cases h with
    | zero =>
      have hq : q = (o, d, n, a) := by simpa using hl
      subst hq
      obtain ⟨h1, h2, h3, h4, h5, h6⟩ := H
      have h1 : i + e ≤ o := h1
      have h2 : n = j + (o - i) := h2
      have h5 : 0 < d + a := h5
      have h6 : DS F nb na t (o + d) (n + a) 1 := h6
      have hlo : i + 1 ≤ o' ∨ (0 = 0 ∧ i + e ≤ o') := hlo
      have hF : ∀ x, x < i ∨ nso nb ((o, d, n, a) :: t) 0 ≤ x → F' x = F x := hF
      have g1 : ∀ x, i ≤ x → x < o' → F' x = ((n' - (o' - x) : Nat) : Int) := g1
      show DS F' nb na ((o', d, n', a) :: t) i j e
      refine ⟨by show i + e ≤ o'; omega, by show n' = j + (o' - i); omega, fun x y1 y2 => ?_, g2, h5, ?_⟩
      · have y2 : x < o' := y2
        rw [g1 x y1 y2]
        congr 1
        omega
      · show DS F' nb na t (o' + d) (n' + a) 1
        cases t with
        | nil =>
          obtain ⟨k1, k2, k3, k4⟩ := h6
          have hns : nso nb [(o, d, n, a)] 0 = nb := rfl
          rw [hns] at hhi g3
          exact ⟨by omega, by omega, by omega, fun x y1 y2 => g3 x y1 y2⟩
        | cons r t =>
          have b := (DS_b _ _ _ _ h6).2.2 r List.mem_cons_self
          obtain ⟨k1, k2, k3, k4, k5, k6⟩ := h6
          have hns : nso nb ((o, d, n, a) :: r :: t) 0 = r.1 := rfl
          rw [hns] at hhi g3 hF
          have hhi : o' + d + 1 ≤ r.1 := by
            rcases hhi with z | z
            · exact z
            · rw [List.length_cons, List.length_cons] at z
              omega
          exact ⟨by omega, by omega, fun x y1 y2 => g3 x y1 y2, fun x y1 y2 => by rw [hF x (Or.inr y1)]; exact k4 x y1 y2, k5, DS_cg _ _ _ _ (fun x y1 _ => hF x (Or.inr (by omega))) k6⟩
    | succ h =>
      have hl' : t[h]? = some (o, d, n, a) := by rw [List.getElem?_cons_succ] at hl; exact hl
      have hlt := (List.getElem?_eq_some_iff.mp hl').1
      obtain ⟨h1, h2, h3, h4, h5, h6⟩ := H
      have hp : peo (q :: t) (h + 1) i = peo t h (q.1 + q.2.1) := rfl
      have hn : nso nb (q :: t) (h + 1) = nso nb t h := by
        unfold nso
        rw [List.getElem?_cons_succ]
      rw [hp] at hlo hF g1
      rw [hn] at hhi hF g3
      have ge := (peo_ge _ _ _ _ _ h6 hlt).1
      show DS F' nb na (q :: t.set h (o', d, n', a)) i j e
      refine ⟨h1, h2, fun x y1 y2 => by rw [hF x (Or.inl (by omega))]; exact h3 x y1 y2, fun x y1 y2 => by rw [hF x (Or.inl (by omega))]; exact h4 x y1 y2, h5, ih h (q.1 + q.2.1) (q.2.2.1 + q.2.2.2) 1 (Nat.le_refl 1) h6 hl' hon ?_ ?_ hF g1 g2 g3⟩
      · rcases hlo with z | z
        · exact Or.inl z
        · omega
      · rcases hhi with z | z
        · exact Or.inl z
        · rw [List.length_cons] at z
          exact Or.inr ⟨by omega, z.2⟩
end
