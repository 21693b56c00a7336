/-! How the class's numbers and the reference's hang together between two calls. -/
noncomputable section
/-- a row of the class holds what a stretch of an array of the reference holds -/
def rowEq (σ : Sg) (a A off : Nat) (n : Int) : Prop := σ a 1 = n ∧ ∀ i : Nat, (i : Int) < n → σ (a + 1) i = σ A (off + i)
/-- no row has more than its room -/
def WF (σ : Sg) : Prop := ∀ a, isRow a = true → 0 ≤ σ a 1 ∧ σ a 1 ≤ (cap a : Int)
theorem WF_w {σ : Sg} (h : WF σ) {a : Nat} (ha : isRow a = true) : wR σ a := ⟨ha, h a ha⟩
def RT (σ : Sg) : Prop := ∀ t : Nat, t < 4 → rowEq σ (2 + 2 * t) 683 (16 * t) (σ 684 t) ∧ ∀ i : Nat, (i : Int) < σ (2 + 2 * t) 1 → isLn (σ (2 + 2 * t + 1) i) = true
def RB (σ : Sg) : Prop := ∀ r : Nat, r < 4 → rowEq σ (11 + 2 * r) 722 (40 * r) (σ 723 r) ∧ ∀ i : Nat, (i : Int) < σ (11 + 2 * r) 1 → 0 ≤ σ (11 + 2 * r + 1) i ∧ σ (11 + 2 * r + 1) i ≤ 255
/-- the hunks of pairs: where each begins and how long it is, in both texts -/
def hkF (f : Nat → Int) (nb na : Nat) : Nat → Nat → Nat → List (Nat × Nat × Nat × Nat)
  | 0, _, _ => []
  | w + 1, i, j =>
    if i < nb ∨ j < na then
      if i < nb ∧ f i = (j : Int) then hkF f nb na w (i + 1) (j + 1)
      else
        let i2 := i + ((List.range (nb - i)).takeWhile (fun d => decide (f (i + d) = -1))).length
        let j2 := if i2 < nb then (f i2).toNat else na
        (i, i2 - i, j, j2 - j) :: hkF f nb na w i2 j2
    else []
def hks (f : Nat → Int) (nb na : Nat) : List (Nat × Nat × Nat × Nat) := hkF f nb na (nb + na) 0 0
/-- a patch of the class is in order; its texts have at most m lines -/
def PO (σ : Sg) (P : Nat) (m : Int) : Prop :=
  σ (P + 1) 1 ≤ m ∧ σ (P + 3) 1 ≤ m ∧ σ (P + 5) 1 = σ (P + 1) 1 ∧ σ (P + 7) 1 = σ (P + 3) 1 ∧
  (∀ i : Nat, (i : Int) < σ (P + 1) 1 → σ (P + 6) i = -1 ∨ (0 ≤ σ (P + 6) i ∧ σ (P + 6) i < σ (P + 3) 1 ∧ σ (P + 8) (σ (P + 6) i).toNat = i ∧ σ (P + 2) i = σ (P + 4) (σ (P + 6) i).toNat)) ∧
  (∀ j : Nat, (j : Int) < σ (P + 3) 1 → σ (P + 8) j = -1 ∨ (0 ≤ σ (P + 8) j ∧ σ (P + 8) j < σ (P + 1) 1 ∧ σ (P + 6) (σ (P + 8) j).toNat = j)) ∧
  (∀ i i' : Nat, i < i' → (i' : Int) < σ (P + 1) 1 → ¬ σ (P + 6) i = -1 → ¬ σ (P + 6) i' = -1 → σ (P + 6) i < σ (P + 6) i') ∧
  (∀ i : Nat, (i : Int) < σ (P + 1) 1 → isLn (σ (P + 2) i) = true) ∧ (∀ j : Nat, (j : Int) < σ (P + 3) 1 → isLn (σ (P + 4) j) = true) ∧
  (σ (P + 9) 1 = 4 * ((hks (σ (P + 6)) (σ (P + 1) 1).toNat (σ (P + 3) 1).toNat).length : Nat) ∧
    ∀ h : Nat, ∀ q, (hks (σ (P + 6)) (σ (P + 1) 1).toNat (σ (P + 3) 1).toNat)[h]? = some q → σ (P + 10) (4 * h) = (q.1 : Nat) ∧ σ (P + 10) (4 * h + 1) = (q.2.1 : Nat) ∧ σ (P + 10) (4 * h + 2) = (q.2.2.1 : Nat) ∧ σ (P + 10) (4 * h + 3) = (q.2.2.2 : Nat))
/-- a patch of the class is what a slot of the reference holds -/
def PR (σ : Sg) (P s : Nat) : Prop := rowEq σ (P + 1) 685 (100 * s) (σ 688 s) ∧ rowEq σ (P + 3) 686 (100 * s) (σ 689 s) ∧ rowEq σ (P + 5) 687 (100 * s) (σ 688 s)
def RP (σ : Sg) : Prop := 0 ≤ σ 0 3 ∧ σ 0 3 ≤ 24 ∧ σ 682 3 = σ 0 3 ∧ ∀ p : Nat, (p : Int) < σ 0 3 → PR σ (20 + 13 * p) p ∧ PO σ (20 + 13 * p) 16
/-- the text below a patch of the stack -/
def blw (k : Nat) : Nat := if k = 0 then 403 else 406 + 13 * (k - 1) + 3
def RSt (c : Int) (σ : Sg) : Prop := 0 ≤ σ 402 3 ∧ σ 402 3 ≤ 5 ∧ σ 682 40 = σ 402 3 ∧ 0 ≤ σ 402 4 ∧ σ 402 4 ≤ c ∧ σ 682 41 = σ 402 4 ∧
  rowEq σ 471 711 0 (σ 402 3) ∧ (∀ k : Nat, (k : Int) < σ 402 3 → 0 ≤ σ 472 k ∧ σ 472 k < σ 402 4) ∧
  rowEq σ 403 710 0 (σ 682 39) ∧ (∀ i : Nat, (i : Int) < σ 403 1 → isLn (σ 404 i) = true) ∧
  ∀ k : Nat, (k : Int) < σ 402 3 → PR σ (406 + 13 * k) (24 + k) ∧ PO σ (406 + 13 * k) 16 ∧ smP σ (406 + 13 * k + 1) (blw k)
def RU (σ : Sg) : Prop := σ 682 33 = σ 393 1 ∧ ∀ h : Nat, (h : Int) < σ 393 1 → (σ 706 h = -1 ∧ σ 394 h = -1) ∨ (0 ≤ σ 706 h ∧ σ 706 h ≤ 16 ∧ 0 ≤ σ 707 h ∧ σ 707 h ≤ 3 ∧ σ 394 h = 10 * σ 706 h + σ 707 h)
def RF (σ : Sg) : Prop := (∀ f : Nat, f < 18 → σ 717 f = σ 652 f ∧ (σ 652 f = 0 ∨ σ 652 f = 1) ∧ (σ 652 f = 1 → rowEq σ (616 + 2 * f) 719 (16 * f) (σ 718 f))) ∧
  0 ≤ σ 682 53 ∧ σ 682 53 ≤ 10 ∧ rowEq σ 653 720 0 (6 * σ 682 53) ∧ ∀ i : Nat, (i : Int) < σ 653 1 → -1 ≤ σ 654 i ∧ σ 654 i ≤ 5
def RD (σ : Sg) : Prop := 0 ≤ σ 658 1 ∧ σ 658 1 ≤ 10 ∧ σ 682 58 = σ 658 1 ∧ ∀ d : Nat, (d : Int) < σ 658 1 → σ (660 + 2 * d) 1 = σ 724 d ∧
  ∀ i : Nat, (i : Int) < σ (660 + 2 * d) 1 → (0 ≤ σ (660 + 2 * d + 1) i ∧ σ (660 + 2 * d + 1) i < 40 ∧ σ 725 (40 * d + i) = σ (660 + 2 * d + 1) i) ∨ (500 ≤ σ (660 + 2 * d + 1) i ∧ σ (660 + 2 * d + 1) i ≤ 755 ∧ σ 725 (40 * d + i) = σ (660 + 2 * d + 1) i + 500)
/-- after c calls -/
def Rel (c : Int) (σ : Sg) : Prop := WF σ ∧ Zl σ ∧ RT σ ∧ RB σ ∧ RP σ ∧ RSt c σ ∧ RU σ ∧ RF σ ∧ RD σ
theorem takeWhile_congr9 {α : Type} {p q : α → Bool} : ∀ {l : List α}, (∀ x ∈ l, p x = q x) → l.takeWhile p = l.takeWhile q := by
  intro l
  induction l with
  | nil => intro _; rfl
  | cons a t ih =>
    intro h
    rw [List.takeWhile_cons, List.takeWhile_cons, h a List.mem_cons_self, ih (fun x hx => h x (List.mem_cons_of_mem _ hx))]
theorem hkF_congr {f f' : Nat → Int} {nb na : Nat} (h : ∀ i, i < nb → f i = f' i) : ∀ (w i j : Nat), hkF f nb na w i j = hkF f' nb na w i j := by
  intro w
  induction w with
  | zero => intro i j; rfl
  | succ w ih =>
    intro i j
    have htw : (List.range (nb - i)).takeWhile (fun d => decide (f (i + d) = -1)) = (List.range (nb - i)).takeWhile (fun d => decide (f' (i + d) = -1)) := by
      apply takeWhile_congr9
      intro d hd
      rw [h (i + d) (by have := List.mem_range.mp hd; omega)]
    unfold hkF
    by_cases h1 : i < nb ∨ j < na
    · rw [if_pos h1, if_pos h1]
      by_cases h2 : i < nb
      · rw [h i h2]
        by_cases h3 : f' i = (j : Int)
        · rw [if_pos ⟨h2, h3⟩, if_pos ⟨h2, h3⟩]; exact ih _ _
        · rw [if_neg (fun e => h3 e.2), if_neg (fun e => h3 e.2)]
          dsimp only
          rw [htw]
          by_cases h4 : i + ((List.range (nb - i)).takeWhile (fun d => decide (f' (i + d) = -1))).length < nb
          · rw [if_pos h4, if_pos h4, h _ h4, ih]
          · rw [if_neg h4, if_neg h4, ih]
      · rw [if_neg (fun e => h2 e.1), if_neg (fun e => h2 e.1)]
        dsimp only
        rw [htw]
        by_cases h4 : i + ((List.range (nb - i)).takeWhile (fun d => decide (f' (i + d) = -1))).length < nb
        · rw [if_pos h4, if_pos h4, h _ h4, ih]
        · rw [if_neg h4, if_neg h4, ih]
    · rw [if_neg h1, if_neg h1]
/-! What a change elsewhere leaves as it is. -/
theorem rowEq_fr {σ σ' : Sg} {a A off : Nat} {n n' : Int} (ha : σ' a 1 = σ a 1) (hb : ∀ i, σ' (a + 1) i = σ (a + 1) i) (hA : ∀ i, σ' A i = σ A i) (hn : n' = n) (H : rowEq σ a A off n) : rowEq σ' a A off n' := by
  subst hn
  refine ⟨by rw [ha]; exact H.1, fun i hi => ?_⟩
  rw [hb, hA]
  exact H.2 i hi
theorem RT_fr {σ σ' : Sg} (h : ∀ c k, (2 ≤ c ∧ c ≤ 9) ∨ c = 683 ∨ c = 684 → σ' c k = σ c k) (H : RT σ) : RT σ' := by
  intro t ht
  obtain ⟨h1, h2⟩ := H t ht
  refine ⟨rowEq_fr (h _ _ (by omega)) (fun i => h _ _ (by omega)) (fun i => h _ _ (by omega)) (h _ _ (by omega)) h1, fun i hi => ?_⟩
  rw [h _ _ (by omega)] at hi ⊢
  exact h2 i hi
theorem RB_fr {σ σ' : Sg} (h : ∀ c k, (11 ≤ c ∧ c ≤ 18) ∨ c = 722 ∨ c = 723 → σ' c k = σ c k) (H : RB σ) : RB σ' := by
  intro t ht
  obtain ⟨h1, h2⟩ := H t ht
  refine ⟨rowEq_fr (h _ _ (by omega)) (fun i => h _ _ (by omega)) (fun i => h _ _ (by omega)) (h _ _ (by omega)) h1, fun i hi => ?_⟩
  rw [h _ _ (by omega)] at hi ⊢
  exact h2 i hi
theorem PO_fr {σ σ' : Sg} {P : Nat} {m : Int} (h : ∀ c k, P + 1 ≤ c ∧ c ≤ P + 10 → σ' c k = σ c k) (H : PO σ P m) : PO σ' P m := by
  have e : ∀ j, 1 ≤ j → j ≤ 10 → σ' (P + j) = σ (P + j) := fun j h1 h2 => funext (fun k => h _ _ (by omega))
  unfold PO
  rw [e 1 (by decide) (by decide), e 2 (by decide) (by decide), e 3 (by decide) (by decide), e 4 (by decide) (by decide), e 5 (by decide) (by decide), e 6 (by decide) (by decide), e 7 (by decide) (by decide), e 8 (by decide) (by decide), e 9 (by decide) (by decide), e 10 (by decide) (by decide)]
  exact H
theorem PR_fr {σ σ' : Sg} {P s : Nat} (h : ∀ c k, P + 1 ≤ c ∧ c ≤ P + 6 → σ' c k = σ c k) (h2 : ∀ c k, 685 ≤ c ∧ c ≤ 689 → σ' c k = σ c k) (H : PR σ P s) : PR σ' P s :=
  ⟨rowEq_fr (h _ _ (by omega)) (fun i => h _ _ (by omega)) (fun i => h2 _ _ (by omega)) (h2 _ _ (by omega)) H.1, rowEq_fr (h _ _ (by omega)) (fun i => h _ _ (by omega)) (fun i => h2 _ _ (by omega)) (h2 _ _ (by omega)) H.2.1, rowEq_fr (h _ _ (by omega)) (fun i => h _ _ (by omega)) (fun i => h2 _ _ (by omega)) (h2 _ _ (by omega)) H.2.2⟩
theorem RP_fr {σ σ' : Sg} (h : ∀ c k, (20 ≤ c ∧ c ≤ 331) ∨ (685 ≤ c ∧ c ≤ 689) ∨ (c = 0 ∧ k = 3) ∨ (c = 682 ∧ k = 3) → σ' c k = σ c k) (H : RP σ) : RP σ' := by
  obtain ⟨h1, h2, h3, h4⟩ := H
  have e0 := h 0 3 (by omega)
  have e1 := h 682 3 (by omega)
  refine ⟨by omega, by omega, by omega, fun p hp => ?_⟩
  rw [e0] at hp
  obtain ⟨g1, g2⟩ := h4 p hp
  exact ⟨PR_fr (fun c k hc => h _ _ (by omega)) (fun c k hc => h _ _ (by omega)) g1, PO_fr (fun c k hc => h _ _ (by omega)) g2⟩
theorem smP_fr {σ σ' : Sg} {a b : Nat} (h1 : σ' a = σ a) (h2 : σ' (a + 1) = σ (a + 1)) (h3 : σ' b = σ b) (h4 : σ' (b + 1) = σ (b + 1)) (H : smP σ a b) : smP σ' a b := by
  unfold smP
  rw [h1, h2, h3, h4]
  exact H
theorem RSt_fr {σ σ' : Sg} {c0 c1 : Int} (hc : c0 ≤ c1) (h : ∀ c k, (402 ≤ c ∧ c ≤ 472) ∨ (685 ≤ c ∧ c ≤ 689) ∨ c = 710 ∨ c = 711 ∨ (c = 682 ∧ 39 ≤ k ∧ k ≤ 41) → σ' c k = σ c k) (H : RSt c0 σ) : RSt c1 σ' := by
  obtain ⟨h1, h2, h3, h4, h5, h6, h7, h8, h9, h10, h11⟩ := H
  have e0 := h 402 3 (by omega)
  have e1 := h 402 4 (by omega)
  have e2 := h 682 39 (by omega)
  have e3 := h 682 40 (by omega)
  have e4 := h 682 41 (by omega)
  refine ⟨by omega, by omega, by omega, by omega, by omega, by omega, rowEq_fr (h _ _ (by omega)) (fun i => h _ _ (by omega)) (fun i => h _ _ (by omega)) e0 h7, fun k hk => ?_, rowEq_fr (h _ _ (by omega)) (fun i => h _ _ (by omega)) (fun i => h _ _ (by omega)) e2 h9, fun i hi => ?_, fun k hk => ?_⟩
  · rw [e0] at hk
    rw [h 472 k (by omega), e1]
    exact h8 k hk
  · rw [h 403 1 (by omega)] at hi
    rw [h 404 i (by omega)]
    exact h10 i hi
  · rw [e0] at hk
    obtain ⟨g1, g2, g3⟩ := h11 k hk
    have hb : blw k = 403 ∨ (409 ≤ blw k ∧ blw k ≤ 470) := by
      unfold blw
      split
      · exact Or.inl rfl
      · right; omega
    refine ⟨PR_fr (fun c k hc => h _ _ (by omega)) (fun c k hc => h _ _ (by omega)) g1, PO_fr (fun c k hc => h _ _ (by omega)) g2, smP_fr (funext fun k => h _ _ (by omega)) (funext fun k => h _ _ (by omega)) (funext fun k => h _ _ (by omega)) (funext fun k => h _ _ (by omega)) g3⟩
theorem RU_fr {σ σ' : Sg} (h : ∀ c k, c = 393 ∨ c = 394 ∨ c = 706 ∨ c = 707 ∨ (c = 682 ∧ k = 33) → σ' c k = σ c k) (H : RU σ) : RU σ' := by
  obtain ⟨h1, h2⟩ := H
  refine ⟨by rw [h _ _ (by omega), h _ _ (by omega)]; exact h1, fun q hq => ?_⟩
  rw [h 393 1 (by omega)] at hq
  rw [h 706 q (by omega), h 707 q (by omega), h 394 q (by omega)]
  exact h2 q hq
theorem RF_fr {σ σ' : Sg} (h : ∀ c k, (616 ≤ c ∧ c ≤ 654) ∨ (717 ≤ c ∧ c ≤ 720) ∨ (c = 682 ∧ k = 53) → σ' c k = σ c k) (H : RF σ) : RF σ' := by
  obtain ⟨h1, h2, h3, h4, h5⟩ := H
  have e := h 682 53 (by omega)
  refine ⟨fun f hf => ?_, by omega, by omega, rowEq_fr (h _ _ (by omega)) (fun i => h _ _ (by omega)) (fun i => h _ _ (by omega)) (by rw [e]) h4, fun i hi => ?_⟩
  · obtain ⟨g1, g2, g3⟩ := h1 f hf
    rw [h 717 f (by omega), h 652 f (by omega)]
    refine ⟨g1, g2, fun hh => rowEq_fr (h _ _ (by omega)) (fun i => h _ _ (by omega)) (fun i => h _ _ (by omega)) (h _ _ (by omega)) (g3 hh)⟩
  · rw [h 653 1 (by omega)] at hi
    rw [h 654 i (by omega)]
    exact h5 i hi
theorem RD_fr {σ σ' : Sg} (h : ∀ c k, (660 ≤ c ∧ c ≤ 679) ∨ c = 724 ∨ c = 725 ∨ (c = 658 ∧ k = 1) ∨ (c = 682 ∧ k = 58) → σ' c k = σ c k) (H : RD σ) : RD σ' := by
  obtain ⟨h1, h2, h3, h4⟩ := H
  have e0 := h 658 1 (by omega)
  have e1 := h 682 58 (by omega)
  refine ⟨by omega, by omega, by omega, fun d hd => ?_⟩
  rw [e0] at hd
  obtain ⟨g1, g2⟩ := h4 d hd
  refine ⟨by rw [h _ _ (by omega), h _ _ (by omega)]; exact g1, fun i hi => ?_⟩
  rw [h _ _ (by omega)] at hi
  rw [h (660 + 2 * d + 1) i (by omega), h 725 _ (by omega)]
  exact g2 i hi
theorem Zl_fr {σ σ' : Sg} (h : ∀ k, σ' 695 k = σ 695 k) (H : Zl σ) : Zl σ' := by
  intro q hq
  rw [h, h]
  exact H q hq
/-- nothing but the answers was written -/
theorem Rel_0 {σ σ' : Sg} {c0 c1 : Int} (hc : c0 ≤ c1) (h : ∀ c k, ¬ (c = 726 ∨ (c = 682 ∧ k = 0)) → σ' c k = σ c k) (H : Rel c0 σ) : Rel c1 σ' := by
  obtain ⟨h1, h2, h3, h4, h5, h6, h7, h8, h9⟩ := H
  refine ⟨fun a ha => ?_, Zl_fr (fun k => h _ _ (by omega)) h2, RT_fr (fun c k hc => h _ _ (by omega)) h3, RB_fr (fun c k hc => h _ _ (by omega)) h4, RP_fr (fun c k hc => h _ _ (by omega)) h5, RSt_fr hc (fun c k hc => h _ _ (by omega)) h6, RU_fr (fun c k hc => h _ _ (by omega)) h7, RF_fr (fun c k hc => h _ _ (by omega)) h8, RD_fr (fun c k hc => h _ _ (by omega)) h9⟩
  have hne : ¬ a = 726 := by
    intro e
    subst e
    exact absurd ha (by decide +kernel)
  rw [h _ _ (by omega)]
  exact h1 a ha
/-- nothing but texts was written, besides -/
theorem Rel_T {σ σ' : Sg} {c0 c1 : Int} (hc : c0 ≤ c1) (h : ∀ c k, ¬ (c = 726 ∨ (c = 682 ∧ k = 0) ∨ (2 ≤ c ∧ c ≤ 9) ∨ c = 683 ∨ c = 684) → σ' c k = σ c k) (hT : RT σ') (hw : ∀ t : Nat, t < 4 → 0 ≤ σ' (2 + 2 * t) 1 ∧ σ' (2 + 2 * t) 1 ≤ 16) (H : Rel c0 σ) : Rel c1 σ' := by
  obtain ⟨h1, h2, h3, h4, h5, h6, h7, h8, h9⟩ := H
  refine ⟨fun a ha => ?_, Zl_fr (fun k => h _ _ (by omega)) h2, hT, RB_fr (fun c k hc => h _ _ (by omega)) h4, RP_fr (fun c k hc => h _ _ (by omega)) h5, RSt_fr hc (fun c k hc => h _ _ (by omega)) h6, RU_fr (fun c k hc => h _ _ (by omega)) h7, RF_fr (fun c k hc => h _ _ (by omega)) h8, RD_fr (fun c k hc => h _ _ (by omega)) h9⟩
  have hne : ¬ a = 726 ∧ ¬ a = 683 ∧ ¬ a = 684 := by
    refine ⟨?_, ?_, ?_⟩ <;> (intro e; subst e; exact absurd ha (by decide +kernel))
  by_cases h2 : 2 ≤ a ∧ a ≤ 9
  · have ho : ∀ b, b < 10 → isRow b = true → 2 ≤ b → b % 2 = 0 ∧ cap b = 16 := by decide +kernel
    obtain ⟨p1, p2⟩ := ho a (by omega) ha h2.1
    have e := hw ((a - 2) / 2) (by omega)
    rw [show 2 + 2 * ((a - 2) / 2) = a by omega] at e
    rw [p2]
    exact e
  · rw [h _ _ (by omega)]
    exact h1 a ha
theorem Rel_B {σ σ' : Sg} {c0 c1 : Int} (hc : c0 ≤ c1) (h : ∀ c k, ¬ (c = 726 ∨ (c = 682 ∧ k = 0) ∨ (11 ≤ c ∧ c ≤ 18) ∨ c = 722 ∨ c = 723) → σ' c k = σ c k) (hT : RB σ') (hw : ∀ t : Nat, t < 4 → 0 ≤ σ' (11 + 2 * t) 1 ∧ σ' (11 + 2 * t) 1 ≤ 40) (H : Rel c0 σ) : Rel c1 σ' := by
  obtain ⟨h1, h2, h3, h4, h5, h6, h7, h8, h9⟩ := H
  refine ⟨fun a ha => ?_, Zl_fr (fun k => h _ _ (by omega)) h2, RT_fr (fun c k hc => h _ _ (by omega)) h3, hT, RP_fr (fun c k hc => h _ _ (by omega)) h5, RSt_fr hc (fun c k hc => h _ _ (by omega)) h6, RU_fr (fun c k hc => h _ _ (by omega)) h7, RF_fr (fun c k hc => h _ _ (by omega)) h8, RD_fr (fun c k hc => h _ _ (by omega)) h9⟩
  have hne : ¬ a = 726 ∧ ¬ a = 722 ∧ ¬ a = 723 := by
    refine ⟨?_, ?_, ?_⟩ <;> (intro e; subst e; exact absurd ha (by decide +kernel))
  by_cases h2 : 11 ≤ a ∧ a ≤ 18
  · have ho : ∀ b, b < 19 → isRow b = true → 11 ≤ b → b % 2 = 1 ∧ cap b = 40 := by decide +kernel
    obtain ⟨p1, p2⟩ := ho a (by omega) ha h2.1
    have e := hw ((a - 11) / 2) (by omega)
    rw [show 11 + 2 * ((a - 11) / 2) = a by omega] at e
    rw [p2]
    exact e
  · rw [h _ _ (by omega)]
    exact h1 a ha
end
