/-! LEAST pairs as many as can be; every way pairs as many or fewer. -/
noncomputable section
theorem wk_lo {f g : Nat → Int} {ae be : Nat} : ∀ (w i j : Nat) (G : Nat → Int) (x : Nat), x < i → wk f g ae be w i j G x = G x := by
  intro w
  induction w with
  | zero => intro i j G x _; rfl
  | succ w ih =>
    intro i j G x hx
    rw [wk_s]
    split
    · split
      · rw [ih _ _ _ _ (by omega)]
        exact if_neg (by omega)
      · split
        · exact ih _ _ _ _ (by omega)
        · exact ih _ _ _ _ hx
    · rfl
theorem cnt_all {F : Nat → Int} : ∀ (d k : Nat), (∀ x, k ≤ x → x < k + d → F x = -1) → cnt F (-1) k d = (d : Int) := by
  intro d
  induction d with
  | zero => intro k _; rfl
  | succ d ih =>
    intro k h
    have e : cnt F (-1) k (d + 1) = (if F k = -1 then 1 else 0) + cnt F (-1) (k + 1) d := rfl
    rw [e, if_pos (h k (Nat.le_refl _) (by omega)), ih (k + 1) (fun x h1 h2 => h x (by omega) (by omega))]
    omega
theorem wk_cnt {f g : Nat → Int} {ae be : Nat} : ∀ (w i j : Nat) (G : Nat → Int), (ae - i) + (be - j) ≤ w → (∀ x, i ≤ x → x < ae → G x = -1) → ((ae - i : Nat) : Int) - cnt (wk f g ae be w i j G) (-1) i (ae - i) = lt f g ae be (ae - i) (be - j) := by
  intro w
  induction w with
  | zero =>
    intro i j G hw hG
    rw [show ae - i = 0 by omega]
    rfl
  | succ w ih =>
    intro i j G hw hG
    rw [wk_s]
    by_cases y : i < ae ∧ j < be
    · rw [if_pos y]
      have es : ae - i = (ae - (i + 1)) + 1 := by omega
      have ec : ∀ F : Nat → Int, cnt F (-1) i ((ae - (i + 1)) + 1) = (if F i = -1 then 1 else 0) + cnt F (-1) (i + 1) (ae - (i + 1)) := fun F => rfl
      by_cases q : f i = g j
      · rw [if_pos q, lt_T y.1 y.2, if_pos q, ← ih (i + 1) (j + 1) (updG G i j) (by omega) (fun x h1 h2 => (if_neg (show ¬ x = i by omega)).trans (hG x (by omega) h2))]
        rw [es, ec, wk_lo _ _ _ _ _ (by omega), show updG G i (j : Int) i = (j : Int) from if_pos rfl, if_neg (by omega)]
        omega
      · rw [if_neg q]
        by_cases r : lt f g ae be (ae - (i + 1)) (be - j) = lt f g ae be (ae - i) (be - j)
        · rw [if_pos r, ← r, ← ih (i + 1) j G (by omega) (fun x h1 h2 => hG x (by omega) h2)]
          rw [es, ec, wk_lo _ _ _ _ _ (by omega), hG i (Nat.le_refl _) y.1, if_pos rfl]
          omega
        · rw [if_neg r, ih i (j + 1) G (by omega) hG]
          have t := lt_T (f := f) (g := g) y.1 y.2
          rw [if_neg q] at t
          rcases mxI_or (lt f g ae be (ae - (i + 1)) (be - j)) (lt f g ae be (ae - i) (be - (j + 1))) with e | e
          · rw [e] at t
            exact absurd t.symm r
          · rw [e] at t
            exact t.symm
    · rw [if_neg y, cnt_all _ _ (fun x h1 h2 => hG x h1 (by omega))]
      by_cases hi : i < ae
      · rw [show be - j = 0 by omega, ltq_0]
        omega
      · rw [show ae - i = 0 by omega]
        rfl
theorem least_n {f g : Nat → Int} {n1 n2 : Nat} : (n1 : Int) - cnt (mtc 0 f g n1 n2) (-1) 0 n1 = lp f g n1 n2 := by
  rw [← lt_lp]
  have e : mtc 0 f g n1 n2 = wk f g n1 n2 ((n1 - 0) + (n2 - 0)) 0 0 (fun _ => -1) ∨ ¬ (0 < n1 ∧ 0 < n2) := by
    by_cases y : 0 < n1 ∧ 0 < n2
    · refine Or.inl ?_
      unfold mtc
      rw [fnl_s, if_pos y]
      unfold stK stG
      rw [if_pos rfl, if_pos rfl]
      rfl
    · exact Or.inr y
  rcases e with e | e
  · have z := wk_cnt (f := f) (g := g) (ae := n1) (be := n2) ((n1 - 0) + (n2 - 0)) 0 0 (fun _ => -1) (Nat.le_refl _) (fun _ _ _ => rfl)
    rw [e]
    exact z
  · have em : mtc 0 f g n1 n2 = fun _ => -1 := by
      unfold mtc
      rw [fnl_s, if_neg e]
    rw [em, cnt_all _ _ (fun _ _ _ => rfl)]
    by_cases h : n1 = 0
    · subst h
      rfl
    · rw [show n2 = 0 by omega, ltq_0]
      omega
/-- pairs as a list -/
def prs (F : Nat → Int) : Nat → Nat → List (Nat × Nat)
  | 0, _ => []
  | d + 1, k => if F k = -1 then prs F d (k + 1) else (k, (F k).toNat) :: prs F d (k + 1)
theorem prs_len {F : Nat → Int} : ∀ (d k : Nat), ((prs F d k).length : Int) = (d : Int) - cnt F (-1) k d := by
  intro d
  induction d with
  | zero => intro k; rfl
  | succ d ih =>
    intro k
    have e : cnt F (-1) k (d + 1) = (if F k = -1 then 1 else 0) + cnt F (-1) (k + 1) d := rfl
    have ep : prs F (d + 1) k = if F k = -1 then prs F d (k + 1) else (k, (F k).toNat) :: prs F d (k + 1) := rfl
    have z := ih (k + 1)
    rw [e, ep]
    by_cases y : F k = -1
    · rw [if_pos y, if_pos y, z]
      omega
    · rw [if_neg y, if_neg y, List.length_cons]
      omega
theorem prs_mch {f g F : Nat → Int} {nb na : Nat} (D : GD f g nb na F) : ∀ (d k j : Nat), k + d = nb → (∀ x, k ≤ x → x < nb → ¬ F x = -1 → (j : Int) ≤ F x) → mch f g (prs F d k) k j nb na := by
  intro d
  induction d with
  | zero => intro k j _ _; trivial
  | succ d ih =>
    intro k j hd hj
    have ep : prs F (d + 1) k = if F k = -1 then prs F d (k + 1) else (k, (F k).toNat) :: prs F d (k + 1) := rfl
    rw [ep]
    by_cases y : F k = -1
    · rw [if_pos y]
      exact mch_mono _ (by omega) (Nat.le_refl _) (Nat.le_refl _) (Nat.le_refl _) (ih (k + 1) j (by omega) (fun x h1 h2 h3 => hj x (by omega) h2 h3))
    · rw [if_neg y]
      have hk := hj k (Nat.le_refl _) (by omega) y
      have v := D.1.1 k (by omega)
      have z := D.2 k (by omega) y
      refine ⟨Nat.le_refl _, by show k < nb; omega, by show j ≤ (F k).toNat; omega, by show (F k).toNat < na; omega, z, ?_⟩
      refine ih (k + 1) ((F k).toNat + 1) (by omega) (fun x h1 h2 h3 => ?_)
      have m := D.1.2 k x (by omega) h2 y h3
      omega
/-- every way pairs as many as can be, or fewer -/
theorem way_n {f g F : Nat → Int} {nb na : Nat} (D : GD f g nb na F) : (nb : Int) - cnt F (-1) 0 nb ≤ lp f g nb na := by
  rw [← prs_len]
  refine mch_most (prs_mch D nb 0 0 (by omega) (fun x _ hx hn => ?_))
  have := D.1.1 x hx
  omega
end
