/-! The hunks of a patch, on both sides. -/
noncomputable section
/-- the cells that the relation speaks of -/
abbrev KP (c k : Nat) : Prop := (2 ≤ c ∧ c ≤ 9) ∨ (11 ≤ c ∧ c ≤ 18) ∨ (20 ≤ c ∧ c ≤ 331) ∨ (c = 0 ∧ k = 3) ∨ c = 393 ∨ c = 394 ∨ (402 ≤ c ∧ c ≤ 472) ∨ (616 ≤ c ∧ c ≤ 654) ∨ (c = 658 ∧ k = 1) ∨ (660 ≤ c ∧ c ≤ 679) ∨ (683 ≤ c ∧ c ≤ 689) ∨ c = 695 ∨ c = 706 ∨ c = 707 ∨ c = 710 ∨ c = 711 ∨ (717 ≤ c ∧ c ≤ 720) ∨ (722 ≤ c ∧ c ≤ 725) ∨ (c = 682 ∧ (k = 3 ∨ k = 33 ∨ (39 ≤ k ∧ k ≤ 41) ∨ k = 53 ∨ k = 58))
theorem kp_1 {c k : Nat} (h : 2 ≤ c ∧ c ≤ 9) : KP c k := (Or.inl h)
theorem kp_2 {c k : Nat} (h : 11 ≤ c ∧ c ≤ 18) : KP c k := (Or.inr (Or.inl h))
theorem kp_3 {c k : Nat} (h : 20 ≤ c ∧ c ≤ 331) : KP c k := (Or.inr (Or.inr (Or.inl h)))
theorem kp_4 {c k : Nat} (h : c = 0 ∧ k = 3) : KP c k := (Or.inr (Or.inr (Or.inr (Or.inl h))))
theorem kp_5 {c k : Nat} (h : c = 393) : KP c k := (Or.inr (Or.inr (Or.inr (Or.inr (Or.inl h)))))
theorem kp_6 {c k : Nat} (h : c = 394) : KP c k := (Or.inr (Or.inr (Or.inr (Or.inr (Or.inr (Or.inl h))))))
theorem kp_7 {c k : Nat} (h : 402 ≤ c ∧ c ≤ 472) : KP c k := (Or.inr (Or.inr (Or.inr (Or.inr (Or.inr (Or.inr (Or.inl h)))))))
theorem kp_8 {c k : Nat} (h : 616 ≤ c ∧ c ≤ 654) : KP c k := (Or.inr (Or.inr (Or.inr (Or.inr (Or.inr (Or.inr (Or.inr (Or.inl h))))))))
theorem kp_9 {c k : Nat} (h : c = 658 ∧ k = 1) : KP c k := (Or.inr (Or.inr (Or.inr (Or.inr (Or.inr (Or.inr (Or.inr (Or.inr (Or.inl h)))))))))
theorem kp_10 {c k : Nat} (h : 660 ≤ c ∧ c ≤ 679) : KP c k := (Or.inr (Or.inr (Or.inr (Or.inr (Or.inr (Or.inr (Or.inr (Or.inr (Or.inr (Or.inl h))))))))))
theorem kp_11 {c k : Nat} (h : 683 ≤ c ∧ c ≤ 689) : KP c k := (Or.inr (Or.inr (Or.inr (Or.inr (Or.inr (Or.inr (Or.inr (Or.inr (Or.inr (Or.inr (Or.inl h)))))))))))
theorem kp_12 {c k : Nat} (h : c = 695) : KP c k := (Or.inr (Or.inr (Or.inr (Or.inr (Or.inr (Or.inr (Or.inr (Or.inr (Or.inr (Or.inr (Or.inr (Or.inl h))))))))))))
theorem kp_13 {c k : Nat} (h : c = 706) : KP c k := (Or.inr (Or.inr (Or.inr (Or.inr (Or.inr (Or.inr (Or.inr (Or.inr (Or.inr (Or.inr (Or.inr (Or.inr (Or.inl h)))))))))))))
theorem kp_14 {c k : Nat} (h : c = 707) : KP c k := (Or.inr (Or.inr (Or.inr (Or.inr (Or.inr (Or.inr (Or.inr (Or.inr (Or.inr (Or.inr (Or.inr (Or.inr (Or.inr (Or.inl h))))))))))))))
theorem kp_15 {c k : Nat} (h : c = 710) : KP c k := (Or.inr (Or.inr (Or.inr (Or.inr (Or.inr (Or.inr (Or.inr (Or.inr (Or.inr (Or.inr (Or.inr (Or.inr (Or.inr (Or.inr (Or.inl h)))))))))))))))
theorem kp_16 {c k : Nat} (h : c = 711) : KP c k := (Or.inr (Or.inr (Or.inr (Or.inr (Or.inr (Or.inr (Or.inr (Or.inr (Or.inr (Or.inr (Or.inr (Or.inr (Or.inr (Or.inr (Or.inr (Or.inl h))))))))))))))))
theorem kp_17 {c k : Nat} (h : 717 ≤ c ∧ c ≤ 720) : KP c k := (Or.inr (Or.inr (Or.inr (Or.inr (Or.inr (Or.inr (Or.inr (Or.inr (Or.inr (Or.inr (Or.inr (Or.inr (Or.inr (Or.inr (Or.inr (Or.inr (Or.inl h)))))))))))))))))
theorem kp_18 {c k : Nat} (h : 722 ≤ c ∧ c ≤ 725) : KP c k := (Or.inr (Or.inr (Or.inr (Or.inr (Or.inr (Or.inr (Or.inr (Or.inr (Or.inr (Or.inr (Or.inr (Or.inr (Or.inr (Or.inr (Or.inr (Or.inr (Or.inr (Or.inl h))))))))))))))))))
theorem kp_19 {c k : Nat} (h : c = 682 ∧ (k = 3 ∨ k = 33 ∨ (39 ≤ k ∧ k ≤ 41) ∨ k = 53 ∨ k = 58)) : KP c k := (Or.inr (Or.inr (Or.inr (Or.inr (Or.inr (Or.inr (Or.inr (Or.inr (Or.inr (Or.inr (Or.inr (Or.inr (Or.inr (Or.inr (Or.inr (Or.inr (Or.inr (Or.inr h))))))))))))))))))
theorem kq_T {c k : Nat} (hc : (2 ≤ c ∧ c ≤ 9) ∨ c = 683 ∨ c = 684) : KP c k := by
  rcases hc with e | e | e
  · exact kp_1 e
  · exact kp_11 (by omega)
  · exact kp_11 (by omega)
theorem kq_B {c k : Nat} (hc : (11 ≤ c ∧ c ≤ 18) ∨ c = 722 ∨ c = 723) : KP c k := by
  rcases hc with e | e | e
  · exact kp_2 e
  · exact kp_18 (by omega)
  · exact kp_18 (by omega)
theorem kq_P {c k : Nat} (hc : (20 ≤ c ∧ c ≤ 331) ∨ (685 ≤ c ∧ c ≤ 689) ∨ (c = 0 ∧ k = 3) ∨ (c = 682 ∧ k = 3)) : KP c k := by
  rcases hc with e | e | e | e
  · exact kp_3 e
  · exact kp_11 (by omega)
  · exact kp_4 e
  · exact kp_19 ⟨e.1, Or.inl e.2⟩
theorem kq_S {c k : Nat} (hc : (402 ≤ c ∧ c ≤ 472) ∨ (685 ≤ c ∧ c ≤ 689) ∨ c = 710 ∨ c = 711 ∨ (c = 682 ∧ 39 ≤ k ∧ k ≤ 41)) : KP c k := by
  rcases hc with e | e | e | e | e
  · exact kp_7 e
  · exact kp_11 (by omega)
  · exact kp_15 e
  · exact kp_16 e
  · exact kp_19 ⟨e.1, Or.inr (Or.inr (Or.inl e.2))⟩
theorem kq_S2 {c k : Nat} (hc : (402 ≤ c ∧ c ≤ 472) ∨ (685 ≤ c ∧ c ≤ 687 ∧ 2400 ≤ k ∧ k < 2900) ∨ ((c = 688 ∨ c = 689) ∧ 24 ≤ k ∧ k < 29) ∨ c = 710 ∨ c = 711 ∨ (c = 682 ∧ 39 ≤ k ∧ k ≤ 41)) : KP c k := by
  rcases hc with e | e | e | e | e | e
  · exact kp_7 e
  · exact kp_11 (by omega)
  · exact kp_11 (by omega)
  · exact kp_15 e
  · exact kp_16 e
  · exact kp_19 ⟨e.1, Or.inr (Or.inr (Or.inl e.2))⟩
theorem kq_P2 {c k p : Nat} (h24 : p < 24) (hc : (20 ≤ c ∧ c < 20 + 13 * p) ∨ (685 ≤ c ∧ c ≤ 687 ∧ k < 100 * p) ∨ ((c = 688 ∨ c = 689) ∧ k < p)) : KP c k := by
  rcases hc with e | e | e
  · exact kp_3 (by omega)
  · exact kp_11 (by omega)
  · exact kp_11 (by omega)
theorem kq_P3 {c k : Nat} (hc : (20 ≤ c ∧ c ≤ 331) ∨ (685 ≤ c ∧ c ≤ 687 ∧ k < 2400) ∨ ((c = 688 ∨ c = 689) ∧ k < 24) ∨ (c = 0 ∧ k = 3) ∨ (c = 682 ∧ k = 3)) : KP c k := by
  rcases hc with e | e | e | e | e
  · exact kp_3 e
  · exact kp_11 (by omega)
  · exact kp_11 (by omega)
  · exact kp_4 e
  · exact kp_19 ⟨e.1, Or.inl e.2⟩
theorem kq_U {c k : Nat} (hc : c = 393 ∨ c = 394 ∨ c = 706 ∨ c = 707 ∨ (c = 682 ∧ k = 33)) : KP c k := by
  rcases hc with e | e | e | e | e
  · exact kp_5 e
  · exact kp_6 e
  · exact kp_13 e
  · exact kp_14 e
  · exact kp_19 ⟨e.1, Or.inr (Or.inl e.2)⟩
theorem kq_F {c k : Nat} (hc : (616 ≤ c ∧ c ≤ 654) ∨ (717 ≤ c ∧ c ≤ 720) ∨ (c = 682 ∧ k = 53)) : KP c k := by
  rcases hc with e | e | e
  · exact kp_8 e
  · exact kp_17 e
  · exact kp_19 ⟨e.1, Or.inr (Or.inr (Or.inr (Or.inl e.2)))⟩
theorem kq_D {c k : Nat} (hc : (660 ≤ c ∧ c ≤ 679) ∨ c = 724 ∨ c = 725 ∨ (c = 658 ∧ k = 1) ∨ (c = 682 ∧ k = 58)) : KP c k := by
  rcases hc with e | e | e | e | e
  · exact kp_10 e
  · exact kp_18 (by omega)
  · exact kp_18 (by omega)
  · exact kp_9 e
  · exact kp_19 ⟨e.1, Or.inr (Or.inr (Or.inr (Or.inr e.2)))⟩
/-- only what the relation doesn't speak of was written -/
theorem Rel_sc {σ σ' : Sg} {c0 c1 : Int} (hc : c0 ≤ c1) (hw : WF σ') (h : ∀ c k, KP c k → σ' c k = σ c k) (H : Rel c0 σ) : Rel c1 σ' := by
  obtain ⟨h1, h2, h3, h4, h5, h6, h7, h8, h9⟩ := H
  exact ⟨hw, Zl_fr (fun k => h _ _ (kp_12 rfl)) h2, RT_fr (fun c k hc => h _ _ (kq_T hc)) h3, RB_fr (fun c k hc => h _ _ (kq_B hc)) h4, RP_fr (fun c k hc => h _ _ (kq_P hc)) h5, RSt_fr hc (fun c k hc => h _ _ (kq_S hc)) h6, RU_fr (fun c k hc => h _ _ (kq_U hc)) h7, RF_fr (fun c k hc => h _ _ (kq_F hc)) h8, RD_fr (fun c k hc => h _ _ (kq_D hc)) h9⟩
theorem tw_len {l : List Nat} {p : Nat → Bool} : (l.takeWhile p).length ≤ l.length := by
  induction l with
  | nil => exact Nat.le_refl _
  | cons a t ih =>
    rw [List.takeWhile_cons]
    split
    · rw [List.length_cons, List.length_cons]; omega
    · rw [List.length_nil]; omega
theorem tw_a {p : Nat → Bool} : ∀ {l : List Nat} (d : Nat), d < (l.takeWhile p).length → ∃ x, l[d]? = some x ∧ p x = true := by
  intro l
  induction l with
  | nil => intro d h; exact absurd h (Nat.not_lt_zero d)
  | cons a t ih =>
    intro d h
    rw [List.takeWhile_cons] at h
    by_cases hp : p a = true
    · rw [if_pos hp] at h
      cases d with
      | zero => exact ⟨a, rfl, hp⟩
      | succ d =>
        rw [List.length_cons] at h
        obtain ⟨x, h1, h2⟩ := ih d (by omega)
        exact ⟨x, by rw [List.getElem?_cons_succ]; exact h1, h2⟩
    · rw [if_neg hp] at h
      exact absurd h (Nat.not_lt_zero d)
theorem tw_b {p : Nat → Bool} : ∀ {l : List Nat}, (l.takeWhile p).length < l.length → ∃ x, l[(l.takeWhile p).length]? = some x ∧ p x = false := by
  intro l
  induction l with
  | nil => intro h; exact absurd h (Nat.not_lt_zero _)
  | cons a t ih =>
    intro h
    rw [List.takeWhile_cons] at h ⊢
    by_cases hp : p a = true
    · rw [if_pos hp] at h ⊢
      rw [List.length_cons, List.length_cons] at h
      obtain ⟨x, h1, h2⟩ := ih (by omega)
      exact ⟨x, by rw [List.length_cons, List.getElem?_cons_succ]; exact h1, h2⟩
    · rw [if_neg hp]
      exact ⟨a, rfl, by simpa using hp⟩
def nx (f : Nat → Int) (nb i : Nat) : Nat := i + ((List.range (nb - i)).takeWhile (fun d => decide (f (i + d) = -1))).length
theorem nx_ge {f : Nat → Int} {nb i : Nat} : i ≤ nx f nb i := Nat.le_add_right _ _
theorem nx_le {f : Nat → Int} {nb i : Nat} (h : i ≤ nb) : nx f nb i ≤ nb := by
  have := tw_len (l := List.range (nb - i)) (p := fun d => decide (f (i + d) = -1))
  rw [List.length_range] at this
  unfold nx
  omega
theorem nx_m {f : Nat → Int} {nb i k : Nat} (h1 : i ≤ k) (h2 : k < nx f nb i) : f k = -1 := by
  have hl := tw_len (l := List.range (nb - i)) (p := fun d => decide (f (i + d) = -1))
  rw [List.length_range] at hl
  unfold nx at h2
  obtain ⟨x, g1, g2⟩ := tw_a (p := fun d => decide (f (i + d) = -1)) (l := List.range (nb - i)) (k - i) (by omega)
  rw [List.getElem?_range (by omega)] at g1
  have e : k - i = x := by simpa using g1
  rw [← e, show i + (k - i) = k by omega] at g2
  exact of_decide_eq_true g2
theorem nx_n {f : Nat → Int} {nb i : Nat} (h : nx f nb i < nb) : ¬ f (nx f nb i) = -1 := by
  have hl := tw_len (l := List.range (nb - i)) (p := fun d => decide (f (i + d) = -1))
  rw [List.length_range] at hl
  have h2 : ((List.range (nb - i)).takeWhile (fun d => decide (f (i + d) = -1))).length < (List.range (nb - i)).length := by
    rw [List.length_range]
    unfold nx at h
    omega
  obtain ⟨x, g1, g2⟩ := tw_b (p := fun d => decide (f (i + d) = -1)) h2
  rw [List.getElem?_range (by rw [List.length_range] at h2; exact h2)] at g1
  have e : ((List.range (nb - i)).takeWhile (fun d => decide (f (i + d) = -1))).length = x := by simpa using g1
  rw [← e] at g2
  exact of_decide_eq_false g2
def j2F (f : Nat → Int) (nb na i : Nat) : Nat := if nx f nb i < nb then (f (nx f nb i)).toNat else na
theorem hkF_s {f : Nat → Int} {nb na w i j : Nat} : hkF f nb na (w + 1) i j = if i < nb ∨ j < na then (if i < nb ∧ f i = (j : Int) then hkF f nb na w (i + 1) (j + 1) else (i, nx f nb i - i, j, j2F f nb na i - j) :: hkF f nb na w (nx f nb i) (j2F f nb na i)) else [] := rfl
/-- pairs in order -/
def VF (f : Nat → Int) (nb na : Nat) : Prop := (∀ i, i < nb → f i = -1 ∨ (0 ≤ f i ∧ f i < na)) ∧ ∀ i i', i < i' → i' < nb → ¬ f i = -1 → ¬ f i' = -1 → f i < f i'
def VI (f : Nat → Int) (nb na i j : Nat) : Prop := i ≤ nb ∧ j ≤ na ∧ ∀ k, i ≤ k → k < nb → ¬ f k = -1 → (j : Int) ≤ f k
theorem VI_0 {f : Nat → Int} {nb na : Nat} (h : VF f nb na) : VI f nb na 0 0 := ⟨Nat.zero_le _, Nat.zero_le _, fun k _ h2 h3 => by
  rcases h.1 k h2 with e | e
  · exact absurd e h3
  · exact e.1⟩
theorem VI_s {f : Nat → Int} {nb na i j : Nat} (h : VF f nb na) (hi : VI f nb na i j) (h1 : i < nb) (h2 : f i = (j : Int)) : VI f nb na (i + 1) (j + 1) := by
  obtain ⟨g1, g2, g3⟩ := hi
  have := h.1 i h1
  refine ⟨by omega, by omega, fun k k1 k2 k3 => ?_⟩
  have := h.2 i k (by omega) k2 (by omega) k3
  omega
theorem VI_h {f : Nat → Int} {nb na i j : Nat} (h : VF f nb na) (hi : VI f nb na i j) (h1 : i < nb ∨ j < na) (h2 : ¬ (i < nb ∧ f i = (j : Int))) : VI f nb na (nx f nb i) (j2F f nb na i) ∧ (nb - nx f nb i) + (na - j2F f nb na i) < (nb - i) + (na - j) ∧ j ≤ j2F f nb na i ∧ ((nx f nb i < nb ∧ f (nx f nb i) = (j2F f nb na i : Nat)) ∨ (nx f nb i = nb ∧ j2F f nb na i = na)) := by
  obtain ⟨g1, g2, g3⟩ := hi
  have a1 := nx_ge (f := f) (nb := nb) (i := i)
  have a2 := nx_le (f := f) g1
  unfold j2F
  by_cases hx : nx f nb i < nb
  · have a3 := nx_n hx
    rw [if_pos hx]
    have a4 := h.1 _ hx
    have a5 := g3 _ a1 hx a3
    refine ⟨⟨a2, by omega, fun k k1 k2 k3 => ?_⟩, ?_, by omega, Or.inl ⟨hx, by omega⟩⟩
    · by_cases e : k = nx f nb i
      · rw [e]; omega
      · have := h.2 _ k (by omega) k2 a3 k3
        omega
    · by_cases e : nx f nb i = i
      · rw [e] at a3 a4 a5 hx ⊢
        have : ¬ f i = (j : Int) := fun z => h2 ⟨hx, z⟩
        omega
      · omega
  · rw [if_neg hx]
    refine ⟨⟨a2, Nat.le_refl _, fun k k1 k2 _ => by omega⟩, by omega, g2, Or.inr ⟨by omega, rfl⟩⟩
def HK (σ : Sg) (wh nn : Nat) (l : List (Nat × Nat × Nat × Nat)) : Prop := ∀ h q, l[h]? = some q → σ 700 (128 * wh + (nn + h)) = (q.1 : Nat) ∧ σ 701 (128 * wh + (nn + h)) = (q.2.1 : Nat) ∧ σ 702 (128 * wh + (nn + h)) = (q.2.2.1 : Nat) ∧ σ 703 (128 * wh + (nn + h)) = (q.2.2.2 : Nat)
theorem l280i {s wh nb : Nat} {f : Nat → Int} (hs : s < 44) (h100 : nb ≤ 100) {nn : Int} {d5 : Option AV} {x6 : Int} {o : Rs} {σ : Sg} (hn : σ 688 s = (nb : Nat)) (hf : ∀ i, i < nb → σ 687 (100 * s + i) = f i) {i : Nat} (hi : i ≤ nb) : ∀ (d i' : Nat), i ≤ i' → i' + d = nx f nb i → C280_127 s wh nn (nx f nb i : Nat) d5 x6 σ o → C280_94 s wh nn i' d5 x6 σ o := by
  have a2 := nx_le (f := f) hi
  intro d
  induction d with
  | zero =>
    intro i' h1 h2 hh
    have e : i' = nx f nb i := by omega
    rw [e]
    refine b280_94 ⟨by omega, ?_⟩
    rw [show ((s : Int)).toNat = s by omega]
    by_cases hx : nx f nb i < nb
    · rw [if_pos (by omega), show (100 * (s : Int) + ((nx f nb i : Nat) : Int)).toNat = 100 * s + nx f nb i by omega, hf _ hx, if_neg (nx_n hx)]
      exact ⟨by omega, by omega, by omega, hh⟩
    · rw [if_neg (by omega)]
      exact hh
  | succ d ih =>
    intro i' h1 h2 hh
    refine b280_94 ⟨by omega, ?_⟩
    rw [show ((s : Int)).toNat = s by omega, if_pos (by omega), show (100 * (s : Int) + (i' : Int)).toNat = 100 * s + i' by omega, hf i' (by omega), if_pos (nx_m (nb := nb) h1 (by omega)), show (i' : Int) + 1 = ((i' + 1 : Nat) : Int) by omega]
    exact ⟨by omega, by omega, by omega, by omega, ih (i' + 1) (by omega) (by omega) hh⟩
theorem l280 {s wh nb na : Nat} {f : Nat → Int} (hs : s < 44) (hwh : wh < 2) (h100 : nb ≤ 100) (h100' : na ≤ 100) (V : VF f nb na) : ∀ (w nn i j : Nat) (d6 : Option AV) (σ : Sg), σ 688 s = (nb : Nat) → σ 689 s = (na : Nat) → (∀ i, i < nb → σ 687 (100 * s + i) = f i) → (nb - i) + (na - j) ≤ w → VI f nb na i j → (nn ≤ i ∨ (nn ≤ i + 1 ∧ ((i < nb ∧ f i = (j : Int)) ∨ (i = nb ∧ j = na)))) → ∃ σ', C280_8 s wh nn i j d6 σ (rI ((nn + (hkF f nb na w i j).length : Nat) : Int) σ') ∧ HK σ' wh nn (hkF f nb na w i j) ∧ σ' 704 wh = ((nn + (hkF f nb na w i j).length : Nat) : Int) ∧ (nn + (hkF f nb na w i j).length ≤ nb + 1) ∧ ∀ c k, ¬ (700 ≤ c ∧ c ≤ 703 ∧ 128 * wh + nn ≤ k ∧ k < 128 * wh + 128) → ¬ (c = 704 ∧ k = wh) → σ' c k = σ c k := by
  have fin : ∀ (nn i j : Nat) (d6 : Option AV) (σ : Sg), σ 688 s = (nb : Nat) → σ 689 s = (na : Nat) → VI f nb na i j → ¬ (i < nb ∨ j < na) → (nn ≤ i ∨ (nn ≤ i + 1 ∧ ((i < nb ∧ f i = (j : Int)) ∨ (i = nb ∧ j = na)))) → ∃ σ', C280_8 s wh nn i j d6 σ (rI ((nn + 0 : Nat) : Int) σ') ∧ HK σ' wh nn [] ∧ σ' 704 wh = ((nn + 0 : Nat) : Int) ∧ (nn + 0 ≤ nb + 1) ∧ ∀ c k, ¬ (700 ≤ c ∧ c ≤ 703 ∧ 128 * wh + nn ≤ k ∧ k < 128 * wh + 128) → ¬ (c = 704 ∧ k = wh) → σ' c k = σ c k := by
    intro nn i j d6 σ hn hm hi he hb
    obtain ⟨g1, g2, g3⟩ := hi
    refine ⟨upS σ 704 wh nn, b280_8 ⟨by omega, ?_⟩, fun h q hq => by simp at hq, up_s, by omega, fun c k q1 q2 => by unfold upS; rw [if_neg q2]⟩
    rw [show ((s : Int)).toNat = s by omega, show ((wh : Int)).toNat = wh by omega, if_pos (by omega)]
    refine ⟨by omega, ?_⟩
    rw [if_neg (by omega)]
    exact ⟨by omega, rfl⟩
  intro w
  induction w with
  | zero =>
    intro nn i j d6 σ hn hm hf hw hi hb
    exact fin nn i j d6 σ hn hm hi (by omega) hb
  | succ w ih =>
    intro nn i j d6 σ hn hm hf hw hi hb
    rw [hkF_s]
    by_cases h1 : i < nb ∨ j < na
    · rw [if_pos h1]
      have hi' := hi
      obtain ⟨g1, g2, g3⟩ := hi'
      have to30 : ∀ {o : Rs}, C280_30 s wh nn i j d6 σ o → C280_8 s wh nn i j d6 σ o := by
        intro o hh
        refine b280_8 ⟨by omega, ?_⟩
        rw [show ((s : Int)).toNat = s by omega]
        by_cases y : i < nb
        · rw [if_neg (by omega)]; exact hh
        · rw [if_pos (by omega), if_pos (by omega)]
          exact ⟨by omega, hh⟩
      by_cases h2 : i < nb ∧ f i = (j : Int)
      · rw [if_pos h2]
        have hv := V.1 i h2.1
        obtain ⟨σ', a1, a2, a3, a4, a5⟩ := ih nn (i + 1) (j + 1) d6 σ hn hm hf (by omega) (VI_s V hi h2.1 h2.2) (Or.inl (by omega))
        refine ⟨σ', to30 (b280_30 ⟨by omega, ?_⟩), a2, a3, a4, a5⟩
        rw [show ((s : Int)).toNat = s by omega, if_pos (by omega), show (100 * (s : Int) + (i : Int)).toNat = 100 * s + i by omega, hf _ h2.1, if_pos h2.2, show (i : Int) + 1 = ((i + 1 : Nat) : Int) by omega, show (j : Int) + 1 = ((j + 1 : Nat) : Int) by omega]
        exact ⟨by omega, by omega, by omega, by omega, by omega, a1⟩
      · rw [if_neg h2]
        obtain ⟨u1, u2, u3, u4⟩ := VI_h V hi h1 h2
        have n1 := nx_ge (f := f) (nb := nb) (i := i)
        have n2 := nx_le (f := f) g1
        have hnn : nn ≤ i := by omega
        have hix : (128 * (wh : Int) + (nn : Int)).toNat = 128 * wh + nn := by omega
        have m1 : ∀ c k, ¬ (700 ≤ c ∧ c ≤ 703) → (upS (upS (upS (upS σ 700 (128 * wh + nn) i) 702 (128 * wh + nn) j) 701 (128 * wh + nn) ((nx f nb i : Nat) - (i : Int))) 703 (128 * wh + nn) ((j2F f nb na i : Nat) - (j : Int))) c k = σ c k := fun c k h => by rw [up_a (by omega), up_a (by omega), up_a (by omega), up_a (by omega)]
        have m2 : ∀ c k, ¬ k = 128 * wh + nn → (upS (upS (upS (upS σ 700 (128 * wh + nn) i) 702 (128 * wh + nn) j) 701 (128 * wh + nn) ((nx f nb i : Nat) - (i : Int))) 703 (128 * wh + nn) ((j2F f nb na i : Nat) - (j : Int))) c k = σ c k := fun c k h => by rw [up_k h, up_k h, up_k h, up_k h]
        have v0 : (upS (upS (upS (upS σ 700 (128 * wh + nn) i) 702 (128 * wh + nn) j) 701 (128 * wh + nn) ((nx f nb i : Nat) - (i : Int))) 703 (128 * wh + nn) ((j2F f nb na i : Nat) - (j : Int))) 700 (128 * wh + nn) = i := by rw [up_a (by decide), up_a (by decide), up_a (by decide), up_s]
        have v1 : (upS (upS (upS (upS σ 700 (128 * wh + nn) i) 702 (128 * wh + nn) j) 701 (128 * wh + nn) ((nx f nb i : Nat) - (i : Int))) 703 (128 * wh + nn) ((j2F f nb na i : Nat) - (j : Int))) 701 (128 * wh + nn) = (nx f nb i : Nat) - (i : Int) := by rw [up_a (by decide), up_s]
        have v2 : (upS (upS (upS (upS σ 700 (128 * wh + nn) i) 702 (128 * wh + nn) j) 701 (128 * wh + nn) ((nx f nb i : Nat) - (i : Int))) 703 (128 * wh + nn) ((j2F f nb na i : Nat) - (j : Int))) 702 (128 * wh + nn) = j := by rw [up_a (by decide), up_a (by decide), up_s]
        have v3 : (upS (upS (upS (upS σ 700 (128 * wh + nn) i) 702 (128 * wh + nn) j) 701 (128 * wh + nn) ((nx f nb i : Nat) - (i : Int))) 703 (128 * wh + nn) ((j2F f nb na i : Nat) - (j : Int))) 703 (128 * wh + nn) = (j2F f nb na i : Nat) - (j : Int) := up_s
        have body : ∀ {o : Rs}, C280_8 s wh ((nn + 1 : Nat) : Int) (nx f nb i : Nat) (j2F f nb na i : Nat) (some (vI (128 * (wh : Int) + (nn : Int)))) (upS (upS (upS (upS σ 700 (128 * wh + nn) i) 702 (128 * wh + nn) j) 701 (128 * wh + nn) ((nx f nb i : Nat) - (i : Int))) 703 (128 * wh + nn) ((j2F f nb na i : Nat) - (j : Int))) o → C280_8 s wh nn i j d6 σ o := by
          intro o hh
          have t67 : C280_67 s wh nn i j d6 σ o := by
            refine b280_67 ⟨by omega, by omega, by omega, by omega, ?_⟩
            rw [hix]
            have e0 : (upS (upS σ 700 (128 * wh + nn) i) 702 (128 * wh + nn) j) 688 s = (nb : Nat) := by rw [up_a (by decide), up_a (by decide)]; exact hn
            have e9 : (upS (upS σ 700 (128 * wh + nn) i) 702 (128 * wh + nn) j) 689 s = (na : Nat) := by rw [up_a (by decide), up_a (by decide)]; exact hm
            have e7 : ∀ k, (upS (upS σ 700 (128 * wh + nn) i) 702 (128 * wh + nn) j) 687 k = σ 687 k := fun k => by rw [up_a (by decide), up_a (by decide)]
            refine l280i (s := s) (wh := wh) (nb := nb) (f := f) hs h100 e0 (fun k hk => by rw [e7]; exact hf k hk) g1 (nx f nb i - i) i (Nat.le_refl _) (by omega) ?_
            have ej : (if ((nx f nb i : Nat) : Int) < (upS (upS σ 700 (128 * wh + nn) i) 702 (128 * wh + nn) j) 688 ((s : Int)).toNat then (upS (upS σ 700 (128 * wh + nn) i) 702 (128 * wh + nn) j) 687 (100 * (s : Int) + ((nx f nb i : Nat) : Int)).toNat else (upS (upS σ 700 (128 * wh + nn) i) 702 (128 * wh + nn) j) 689 ((s : Int)).toNat) = (j2F f nb na i : Nat) := by
              rw [show ((s : Int)).toNat = s by omega, e0, e9, e7]
              unfold j2F
              by_cases hx : nx f nb i < nb
              · have a4 := V.1 _ hx
                have a3 := nx_n hx
                rw [if_pos (by omega), if_pos hx, show (100 * (s : Int) + ((nx f nb i : Nat) : Int)).toNat = 100 * s + nx f nb i by omega, hf _ hx]
                omega
              · rw [if_neg (by omega), if_neg hx]
            have e0t : (upS (upS σ 700 (128 * wh + nn) i) 702 (128 * wh + nn) j) 688 ((s : Int)).toNat = ((nb : Nat) : Int) := by
              rw [show ((s : Int)).toNat = s by omega]
              exact e0
            refine b280_127 ⟨by omega, fun _ => by omega, fun _ => by omega, fun _ => by omega, fun _ => by omega, ?_⟩
            rw [ej]
            have p0 : (upS (upS σ 700 (128 * wh + nn) i) 702 (128 * wh + nn) j) 700 (128 * wh + nn) = i := by rw [up_a (by decide), up_s]
            have p2 : (upS (upS (upS σ 700 (128 * wh + nn) i) 702 (128 * wh + nn) j) 701 (128 * wh + nn) ((nx f nb i : Nat) - (i : Int))) 702 (128 * wh + nn) = j := by rw [up_a (by decide), up_s]
            refine b280_159 ?_
            rw [hix, p0, p2, show (nn : Int) + 1 = ((nn + 1 : Nat) : Int) by omega]
            have := u1.2.1
            exact ⟨by omega, by omega, by omega, by omega, by omega, by omega, by omega, hh⟩
          refine to30 (b280_30 ⟨by omega, ?_⟩)
          rw [show ((s : Int)).toNat = s by omega]
          by_cases y : i < nb
          · rw [if_pos (by omega), show (100 * (s : Int) + (i : Int)).toNat = 100 * s + i by omega, hf _ y, if_neg (fun e => h2 ⟨y, e⟩)]
            exact ⟨by omega, by omega, by omega, t67⟩
          · rw [if_neg (by omega)]
            exact t67
        generalize (upS (upS (upS (upS σ 700 (128 * wh + nn) i) 702 (128 * wh + nn) j) 701 (128 * wh + nn) ((nx f nb i : Nat) - (i : Int))) 703 (128 * wh + nn) ((j2F f nb na i : Nat) - (j : Int))) = σ1 at m1 m2 v0 v1 v2 v3 body
        obtain ⟨σ', a1, a2, a3, a4, a5⟩ := ih (nn + 1) (nx f nb i) (j2F f nb na i) (some (vI (128 * (wh : Int) + (nn : Int)))) σ1 (by rw [m1 _ _ (by decide)]; exact hn) (by rw [m1 _ _ (by decide)]; exact hm) (fun k hk => by rw [m1 _ _ (by decide)]; exact hf k hk) (by omega) u1 (Or.inr ⟨by omega, u4⟩)
        rw [List.length_cons, show nn + ((hkF f nb na w (nx f nb i) (j2F f nb na i)).length + 1) = nn + 1 + (hkF f nb na w (nx f nb i) (j2F f nb na i)).length by omega]
        refine ⟨σ', body a1, fun h q hq => ?_, a3, a4, fun c k q1 q2 => ?_⟩
        · cases h with
          | zero =>
            have hq : (i, nx f nb i - i, j, j2F f nb na i - j) = q := by simpa using hq
            rw [← hq, Nat.add_zero]
            have fr : ∀ c, 700 ≤ c → c ≤ 703 → σ' c (128 * wh + nn) = σ1 c (128 * wh + nn) := fun c _ _ => a5 _ _ (by omega) (by omega)
            rw [fr 700 (by decide) (by decide), fr 701 (by decide) (by decide), fr 702 (by decide) (by decide), fr 703 (by decide) (by decide), v0, v1, v2, v3]
            refine ⟨rfl, ?_, rfl, ?_⟩
            · show ((nx f nb i : Nat) : Int) - i = ((nx f nb i - i : Nat) : Int)
              omega
            · show ((j2F f nb na i : Nat) : Int) - j = ((j2F f nb na i - j : Nat) : Int)
              omega
          | succ h =>
            rw [List.getElem?_cons_succ] at hq
            have := a2 h q hq
            rw [show nn + (h + 1) = nn + 1 + h by omega]
            exact this
        · rw [a5 c k (by omega) q2]
          by_cases e : k = 128 * wh + nn
          · exact m1 c k (by omega)
          · exact m2 c k e
    · rw [if_neg h1]
      exact fin nn i j d6 σ hn hm hi h1 hb
/-- laysHunks -/
theorem d280 {s wh nb na : Nat} {f : Nat → Int} {σ : Sg} (hs : s < 44) (hwh : wh < 2) (h100 : nb ≤ 100) (h100' : na ≤ 100) (V : VF f nb na) (hn : σ 688 s = (nb : Nat)) (hm : σ 689 s = (na : Nat)) (hf : ∀ i, i < nb → σ 687 (100 * s + i) = f i) : ∃ σ', Dd 280 [vA 682, vI s, vI wh] σ (rI ((hks f nb na).length : Nat) σ') ∧ HK σ' wh 0 (hks f nb na) ∧ σ' 704 wh = ((hks f nb na).length : Nat) ∧ (hks f nb na).length ≤ nb + 1 ∧ ∀ c k, ¬ (700 ≤ c ∧ c ≤ 703 ∧ 128 * wh ≤ k ∧ k < 128 * wh + 128) → ¬ (c = 704 ∧ k = wh) → σ' c k = σ c k := by
  obtain ⟨σ', a1, a2, a3, a4, a5⟩ := l280 hs hwh h100 h100' V (nb + na) 0 0 0 none σ hn hm hf (by omega) (VI_0 V) (Or.inl (Nat.le_refl _))
  rw [Nat.zero_add] at a1 a3 a4
  exact ⟨σ', b280 a1, a2, a3, a4, a5⟩
/-- what the relation says of a patch, both sides together -/
theorem po_two {σ : Sg} {P s : Nat} (H : PR σ P s) (H2 : PO σ P 16) (w1 : 0 ≤ σ (P + 1) 1) (w3 : 0 ≤ σ (P + 3) 1) : ∃ nb na : Nat, nb ≤ 16 ∧ na ≤ 16 ∧ σ (P + 1) 1 = (nb : Nat) ∧ σ (P + 3) 1 = (na : Nat) ∧ σ 688 s = (nb : Nat) ∧ σ 689 s = (na : Nat) ∧ VF (σ (P + 6)) nb na ∧ (∀ i, i < nb → σ 687 (100 * s + i) = σ (P + 6) i) ∧ (∀ i, i < nb → σ 685 (100 * s + i) = σ (P + 2) i) ∧ ∀ i, i < na → σ 686 (100 * s + i) = σ (P + 4) i := by
  obtain ⟨nb, hb⟩ := Int.eq_ofNat_of_zero_le w1
  obtain ⟨na, ha⟩ := Int.eq_ofNat_of_zero_le w3
  obtain ⟨⟨r1, q1⟩, ⟨r2, q2⟩, ⟨r3, q3⟩⟩ := H
  obtain ⟨o1, o2, o3, o4, o5, o6, o7, -⟩ := H2
  refine ⟨nb, na, by omega, by omega, hb, ha, by omega, by omega, ⟨fun i hi => ?_, fun i i' h1 h2 h3 h4 => o7 i i' h1 (by omega) h3 h4⟩, fun i hi => (q3 i (by omega)).symm, fun i hi => (q1 i (by omega)).symm, fun i hi => (q2 i (by omega)).symm⟩
  rcases o5 i (by omega) with e | e
  · exact Or.inl e
  · exact Or.inr ⟨e.1, by omega⟩
theorem po_pat {σ : Sg} {c : Int} {p : Nat} (H : Rel c σ) (hp : (p : Int) < σ 0 3) : isPatch (20 + 13 * p) = true ∧ PR σ (20 + 13 * p) p ∧ PO σ (20 + 13 * p) 16 ∧ 0 ≤ σ (20 + 13 * p + 1) 1 ∧ 0 ≤ σ (20 + 13 * p + 3) 1 := by
  have hn := (rel_n H).1
  have hP := (cpP (p := p) (by omega)).2.2.2.2.2.2.1
  obtain ⟨g1, g2⟩ := H.2.2.2.2.1.2.2.2 p hp
  exact ⟨hP, g1, g2, (H.1 _ (pat_1 hP)).1, (H.1 _ (pat_3 hP)).1⟩
theorem d98 {σ : Sg} {P n : Nat} (hP : isPatch P = true) (h : σ (P + 9) 1 = 4 * (n : Nat)) : Dd 98 [vA P] σ (rI (n : Nat) σ) := by
  refine b98 hP ⟨_, _, d146 (pat_9 hP), ?_⟩
  rw [h, td (by omega), show (4 * ((n : Nat) : Int)) / 4 = (n : Nat) by omega]
theorem WF_hi {σ s : Sg} (h : ∀ a k, a < 682 → s a k = σ a k) (H : WF σ) : WF s := WF_fr h H
theorem o18 {σ : Sg} {c a1 : Int} (H : Rel c σ) : OpR 407 310 [vA 0, vI a1, vA 726] [vA 682, vI a1] σ (c + 1) := by
  by_cases g1 : a1 < 0
  · exact x18_0 H g1
  by_cases g2 : σ 0 3 ≤ a1
  · exact x18_1 H g2
  have k1 : 0 ≤ a1 ∧ a1 < σ 0 3 := by omega
  obtain ⟨p, rfl⟩ := Int.eq_ofNat_of_zero_le k1.1
  have hn := (rel_n H).1
  obtain ⟨hP, q1, q2, w1, w3⟩ := po_pat H k1.2
  obtain ⟨nb, na, b1, b2, b3, b4, b5, b6, V, f1, f2, f3⟩ := po_two q1 q2 w1 w3
  have hpc := q2.2.2.2.2.2.2.2.2.2.1
  rw [b3, b4, show ((nb : Nat) : Int).toNat = nb by omega, show ((na : Nat) : Int).toNat = na by omega] at hpc
  have e230 := d230_ok (σ := σ) k1 hn.2.2
  rw [show ((p : Int)).toNat = p by omega] at e230
  have hA := b407 (Or.inl ⟨_, _, b190 (Or.inl ⟨_, _, e230, hP, _, _, d98 hP hpc, rfl⟩), rfl⟩)
  have u1 : ∀ v : Int, ∀ c k, ¬ c = 726 → ¬ c = 682 → upS (upS σ 726 ((0 : Int).toNat) v) 682 0 0 c k = σ c k := fun v c k h1 h2 => by rw [up_a h2, up_a h1]
  obtain ⟨s2, c1, c2, c3, c4, c5⟩ := d280 (s := p) (wh := 0) (f := σ (20 + 13 * p + 6)) (σ := upS (upS σ 726 ((0 : Int).toNat) (((hks (σ (20 + 13 * p + 6)) nb na).length : Nat) : Int)) 682 0 0) (by omega) (by decide) (by omega) (by omega) V (by rw [u1 _ _ _ (by decide) (by decide)]; exact b5) (by rw [u1 _ _ _ (by decide) (by decide)]; exact b6) (fun i hi => by rw [u1 _ _ _ (by decide) (by decide)]; exact f1 i hi)
  have hoff : ∀ c k, ¬ c = 726 → ¬ (c = 682 ∧ k = 0) → ¬ (700 ≤ c ∧ c ≤ 704) → s2 c k = σ c k := by
    intro c k h1 h2 h3
    rw [c5 c k (by omega) (by omega)]
    unfold upS
    rw [if_neg (by omega), if_neg (by omega)]
  refine op_fin hA (b := ((hks (σ (20 + 13 * p + 6)) nb na).length : Nat)) (s2 := s2) ?_ ?_ (fun _ => ?_) (fun a k ha => up_a (by omega)) (fun a k ha => hoff _ _ (by omega) (by omega) (by omega)) (Rel_sc (by omega) (WF_fr (fun a k ha => hoff _ _ (by omega) (by omega) (by omega)) H.1) (fun c k hk => hoff _ _ (by omega) (by omega) (by omega)) H)
  · refine b310 ⟨_, _, d248_ok (by rw [up_a (by decide)]; omega), ?_⟩
    rw [if_neg (show ¬ (1 : Int) = 0 by decide)]
    refine b310_14 ⟨_, _, d245, ?_⟩
    rw [if_pos rfl, if_neg (show ¬ (1 : Int) = 0 by decide)]
    exact ⟨_, _, c1, rfl⟩
  · rw [c5 _ _ (by omega) (by omega), up_s]
  · rw [c5 _ _ (by omega) (by omega), up_a (by decide)]
    exact up_s
theorem o19 {σ : Sg} {c a1 a2 a3 : Int} (H : Rel c σ) : OpR 408 311 [vA 0, vI a1, vI a2, vI a3, vA 726] [vA 682, vI a1, vI a2, vI a3] σ (c + 1) := by
  by_cases g1 : a1 < 0
  · exact x19_0 H g1
  by_cases g2 : σ 0 3 ≤ a1
  · exact x19_1 H g2
  have k1 : 0 ≤ a1 ∧ a1 < σ 0 3 := by omega
  obtain ⟨p, rfl⟩ := Int.eq_ofNat_of_zero_le k1.1
  have hn := (rel_n H).1
  obtain ⟨hP, q1, q2, w1, w3⟩ := po_pat H k1.2
  obtain ⟨nb, na, b1, b2, b3, b4, b5, b6, V, f1, f2, f3⟩ := po_two q1 q2 w1 w3
  obtain ⟨hpc, hpv⟩ := q2.2.2.2.2.2.2.2.2.2
  rw [b3, b4, show ((nb : Nat) : Int).toNat = nb by omega, show ((na : Nat) : Int).toNat = na by omega] at hpc hpv
  have e230 := d230_ok (σ := σ) k1 hn.2.2
  rw [show ((p : Int)).toNat = p by omega] at e230
  have e98 := d98 hP hpc
  have hlen : (hks (σ (20 + 13 * p + 6)) nb na).length ≤ nb + 1 := by
    obtain ⟨_, _, _, _, c4, _⟩ := d280 (s := p) (wh := 0) (f := σ (20 + 13 * p + 6)) (σ := σ) (by omega) (by decide) (by omega) (by omega) V b5 b6 f1
    exact c4
  -- the reference lays the hunks in any state that agrees
  have M : ∀ s1 : Sg, (∀ c k, 683 ≤ c → ¬ c = 726 → s1 c k = σ c k) → s1 682 3 = σ 682 3 → 0 ≤ a2 → ∃ s2, Dd 304 [vA 682, vI p, vI a2] s1 (rI (if a2 < ((hks (σ (20 + 13 * p + 6)) nb na).length : Nat) then 1 else 0) s2) ∧ HK s2 0 0 (hks (σ (20 + 13 * p + 6)) nb na) ∧ ∀ c k, ¬ (700 ≤ c ∧ c ≤ 704) → s2 c k = s1 c k := by
    intro s1 h1 h3 h2
    obtain ⟨s2, c1, c2, c3, c4, c5⟩ := d280 (s := p) (wh := 0) (f := σ (20 + 13 * p + 6)) (σ := s1) (by omega) (by decide) (by omega) (by omega) V (by rw [h1 _ _ (by decide) (by decide)]; exact b5) (by rw [h1 _ _ (by decide) (by decide)]; exact b6) (fun i hi => by rw [h1 _ _ (by decide) (by decide)]; exact f1 i hi)
    refine ⟨s2, b304 ⟨_, _, d248_ok (by omega), ?_⟩, c2, fun c k h => c5 c k (by omega) (by omega)⟩
    rw [if_neg (show ¬ (1 : Int) = 0 by decide), if_pos h2]
    exact ⟨_, _, c1, rfl⟩
  have Mn : a2 < 0 → ∀ s1 : Sg, s1 682 3 = σ 682 3 → Dd 304 [vA 682, vI p, vI a2] s1 (rI 0 s1) := by
    intro h2 s1 h3
    refine b304 ⟨_, _, d248_ok (by omega), ?_⟩
    rw [if_neg (show ¬ (1 : Int) = 0 by decide), if_neg (by omega)]
  by_cases g3 : 0 ≤ a2 ∧ a2 < ((hks (σ (20 + 13 * p + 6)) nb na).length : Nat)
  · have e232 := d232_ok (σ := σ) g3
    obtain ⟨h, rfl⟩ := Int.eq_ofNat_of_zero_le g3.1
    by_cases g4 : 0 ≤ a3 ∧ a3 ≤ 3
    · have e234 := d234_ok (σ := σ) g4
      have hl : h < (hks (σ (20 + 13 * p + 6)) nb na).length := by omega
      obtain ⟨q, hq⟩ : ∃ q, (hks (σ (20 + 13 * p + 6)) nb na)[h]? = some q := ⟨_, List.getElem?_eq_getElem hl⟩
      obtain ⟨y0, y1, y2, y3⟩ := hpv h q hq
      have ev : atS σ (20 + 13 * p + 9) (4 * (h : Int) + a3) = σ (20 + 13 * p + 10) (4 * h + a3.toNat) := by
        unfold atS
        rw [if_pos (by omega), show (4 * (h : Int) + a3).toNat = 4 * h + a3.toNat by omega]
      have d147' := d147 (i := 4 * (h : Int) + a3) (WF_w H.1 (pat_9 hP))
      rw [ev] at d147'
      have hA := b408 (Or.inl ⟨_, _, b191 (Or.inl ⟨_, _, e230, hP, _, _, e98, Or.inl ⟨_, e232, Or.inl ⟨_, e234, _, _, b99 hP ⟨by omega, by omega, _, _, d147', rfl⟩, rfl⟩⟩⟩), rfl⟩)
      obtain ⟨s2, c1, c2, c3⟩ := M (upS σ 726 ((0 : Int).toNat) (σ (20 + 13 * p + 10) (4 * h + a3.toNat))) (fun c k h1 h2 => up_a h2) (up_a (by decide)) g3.1
      rw [if_pos g3.2] at c1
      obtain ⟨z0, z1, z2, z3⟩ := c2 h q hq
      rw [show 128 * 0 + (0 + h) = h by omega] at z0 z1 z2 z3
      have hoff : ∀ c k, ¬ c = 726 → ¬ (c = 682 ∧ k = 0) → ¬ (700 ≤ c ∧ c ≤ 704) → upS s2 682 0 0 c k = σ c k := by
        intro c k h1 h2 h3
        have : upS s2 682 0 0 c k = s2 c k := by unfold upS; rw [if_neg (by omega)]
        rw [this, c3 c k (by omega), up_a h1]
      refine op_fin hA (b := σ (20 + 13 * p + 10) (4 * h + a3.toNat)) (s2 := upS s2 682 0 0) ?_ up_s (fun _ => by rw [up_a (by decide), c3 _ _ (by decide)]; exact up_s) (fun a k ha => up_a (by omega)) (fun a k ha => hoff _ _ (by omega) (by omega) (by omega)) (Rel_sc (by omega) (WF_fr (fun a k ha => hoff _ _ (by omega) (by omega) (by omega)) H.1) (fun c k hk => hoff _ _ (by omega) (by omega) (by omega)) H)
      refine b311 ⟨_, _, c1, ?_⟩
      rw [if_neg (show ¬ (1 : Int) = 0 by decide)]
      refine ⟨_, _, d246, ?_⟩
      rw [if_pos (show 0 ≤ a3 ∧ a3 < 4 by omega), if_neg (show ¬ (1 : Int) = 0 by decide)]
      refine b311_31 ⟨_, _, d245, ?_⟩
      rw [if_pos rfl]
      refine ⟨fun _ _ => by omega, fun _ _ _ => by omega, fun _ _ _ _ => by omega, fun _ _ _ _ => by omega, ?_⟩
      rw [if_neg (show ¬ (1 : Int) = 0 by decide), show ((h : Int)).toNat = h by omega, up_a (by decide), up_a (by decide), up_a (by decide), up_a (by decide), z0, z1, z2, z3]
      by_cases t0 : a3 = 0
      · rw [if_pos t0, t0, show 4 * h + ((0 : Int)).toNat = 4 * h by omega, y0]
      · by_cases t1 : a3 = 1
        · rw [if_neg t0, if_pos t1, t1, show 4 * h + ((1 : Int)).toNat = 4 * h + 1 by omega, y1]
        · by_cases t2 : a3 = 2
          · rw [if_neg t0, if_neg t1, if_pos t2, t2, show 4 * h + ((2 : Int)).toNat = 4 * h + 2 by omega, y2]
          · have t3 : a3 = 3 := by omega
            rw [if_neg t0, if_neg t1, if_neg t2, t3, show 4 * h + ((3 : Int)).toNat = 4 * h + 3 by omega, y3]
    · have hA : Dd 191 [vA 0, vI p, vI h, vI a3] σ (rX 1 σ) := by
        refine b191 (Or.inl ⟨_, _, e230, hP, _, _, e98, Or.inl ⟨_, e232, Or.inr ⟨_, _, b234 ?_, rfl⟩⟩⟩)
        by_cases y : 0 ≤ a3
        · rw [if_pos y, if_pos (by omega)]; exact b234_10 rfl
        · rw [if_neg y]; exact b234_10 rfl
      obtain ⟨s2, c1, c2, c3⟩ := M σ (fun c k h1 h2 => rfl) rfl g3.1
      rw [if_pos g3.2] at c1
      have hoff : ∀ c k, ¬ (c = 682 ∧ k = 0) → ¬ (700 ≤ c ∧ c ≤ 704) → upS s2 682 0 2 c k = σ c k := by
        intro c k h2 h3
        have : upS s2 682 0 2 c k = s2 c k := by unfold upS; rw [if_neg (by omega)]
        rw [this, c3 c k (by omega)]
      refine op_fin (b408 (Or.inr (Or.inr ⟨_, hA, rfl⟩))) (b := 0) (s2 := upS s2 682 0 2) ?_ up_s (fun h => absurd h (by decide)) (fun a k ha => rfl) (fun a k ha => hoff _ _ (by omega) (by omega)) (Rel_sc (by omega) (WF_fr (fun a k ha => hoff _ _ (by omega) (by omega)) H.1) (fun c k hk => hoff _ _ (by omega) (by omega)) H)
      refine b311 ⟨_, _, c1, ?_⟩
      rw [if_neg (show ¬ (1 : Int) = 0 by decide)]
      refine ⟨_, _, d246, ?_⟩
      rw [if_neg (show ¬ (0 ≤ a3 ∧ a3 < 4) by omega), if_pos rfl]
      refine b311_31 ⟨_, _, d245, ?_⟩
      rw [if_neg (show ¬ (2 : Int) = 0 by decide)]
      refine ⟨fun h => absurd rfl h, fun h => absurd rfl h, fun h => absurd rfl h, fun h => absurd rfl h, ?_⟩
      rw [if_pos rfl]
  · have hA : Dd 191 [vA 0, vI p, vI a2, vI a3] σ (rX 0 σ) := by
      refine b191 (Or.inl ⟨_, _, e230, hP, _, _, e98, Or.inr ⟨_, _, b232 ?_, rfl⟩⟩)
      by_cases y : 0 ≤ a2
      · rw [if_pos y, if_pos (by omega)]; exact b232_9 rfl
      · rw [if_neg y]; exact b232_9 rfl
    have M2 : ∃ s2, Dd 304 [vA 682, vI p, vI a2] σ (rI 0 s2) ∧ ∀ c k, ¬ (700 ≤ c ∧ c ≤ 704) → s2 c k = σ c k := by
      by_cases y : 0 ≤ a2
      · obtain ⟨s2, c1, c2, c3⟩ := M σ (fun c k h1 h2 => rfl) rfl y
        rw [if_neg (fun e => g3 ⟨y, e⟩)] at c1
        exact ⟨s2, c1, c3⟩
      · exact ⟨σ, Mn (by omega) σ rfl, fun _ _ _ => rfl⟩
    obtain ⟨s2, c1, c3⟩ := M2
    have hoff : ∀ c k, ¬ (c = 682 ∧ k = 0) → ¬ (700 ≤ c ∧ c ≤ 704) → upS s2 682 0 1 c k = σ c k := by
      intro c k h2 h3
      have : upS s2 682 0 1 c k = s2 c k := by unfold upS; rw [if_neg (by omega)]
      rw [this, c3 c k (by omega)]
    refine op_fin (b408 (Or.inr (Or.inl ⟨_, hA, rfl⟩))) (b := 0) (s2 := upS s2 682 0 1) ?_ up_s (fun h => absurd h (by decide)) (fun a k ha => rfl) (fun a k ha => hoff _ _ (by omega) (by omega)) (Rel_sc (by omega) (WF_fr (fun a k ha => hoff _ _ (by omega) (by omega)) H.1) (fun c k hk => hoff _ _ (by omega) (by omega)) H)
    refine b311 ⟨_, _, c1, ?_⟩
    rw [if_pos rfl]
    refine b311_31 ⟨_, _, d245, ?_⟩
    rw [if_neg (show ¬ (1 : Int) = 0 by decide)]
    refine ⟨fun h => absurd rfl h, fun h => absurd rfl h, fun h => absurd rfl h, fun h => absurd rfl h, ?_⟩
    rw [if_pos rfl]
end
