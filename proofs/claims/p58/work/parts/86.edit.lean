/-! edit: a line of the stack, as far up as it is kept. -/
noncomputable section
def gp (F : Nat → Nat → Int) (k : Nat) (v : Int) : Nat → Int
  | 0 => v
  | d + 1 => if gp F k v d = -1 then -1 else F (k + d + 1) (gp F k v d).toNat
theorem gp_stay {F : Nat → Nat → Int} {k : Nat} {v : Int} {d : Nat} (h : gp F k v d = -1) : ∀ e, gp F k v (d + e) = -1 := by
  intro e
  induction e with
  | zero => exact h
  | succ e ih =>
    rw [show d + (e + 1) = (d + e) + 1 by omega]
    show (if gp F k v (d + e) = -1 then (-1 : Int) else F (k + (d + e) + 1) (gp F k v (d + e)).toNat) = -1
    rw [if_pos ih]
theorem gp_s {F : Nat → Nat → Int} {k : Nat} {v : Int} {d : Nat} (h : ¬ gp F k v d = -1) : gp F k v (d + 1) = F (k + d + 1) (gp F k v d).toNat := by
  show (if gp F k v d = -1 then (-1 : Int) else F (k + d + 1) (gp F k v d).toNat) = _
  rw [if_neg h]
def edB (g : Nat → Int) (k : Nat) (l : Int) (j x : Nat) (v : Int) : Int := if k < j ∧ g (j - k - 1) = (x : Int) then l else v
def edA (g : Nat → Int) (k : Nat) (l : Int) (j x : Nat) (v : Int) : Int := if k ≤ j ∧ g (j - k) = (x : Int) then l else v
/-- the stack after an edit -/
theorem RSt_ed {σ s : Sg} {c : Int} {k h place : Nat} {l : Int} {g : Nat → Int} (H : RSt c σ) (hh : σ 402 3 = (h : Nat)) (hk : k < h) (hg0 : g 0 = (place : Nat)) (hgs : ∀ d, g (d + 1) = if g d = -1 then -1 else σ (406 + 13 * (k + d + 1) + 6) (g d).toNat) (hgv : ∀ d, k + d < h → g d = -1 ∨ (0 ≤ g d ∧ g d < σ (406 + 13 * (k + d) + 3) 1)) (hb : σ (406 + 13 * k + 8) place = -1) (hl : isLn l = true) (fr : ∀ a x, (a = 402 ∧ (x = 3 ∨ x = 4)) ∨ a = 403 ∨ a = 404 ∨ a = 471 ∨ a = 472 ∨ (687 ≤ a ∧ a ≤ 689) ∨ a = 710 ∨ a = 711 ∨ (a = 682 ∧ 39 ≤ x ∧ x ≤ 41) ∨ (∃ j, j < h ∧ (a = 406 + 13 * j + 1 ∨ a = 406 + 13 * j + 3 ∨ (406 + 13 * j + 5 ≤ a ∧ a ≤ 406 + 13 * j + 10))) → s a x = σ a x) (b2 : ∀ j x : Nat, j < h → s (406 + 13 * j + 2) x = edB g k l j x (σ (406 + 13 * j + 2) x)) (b4 : ∀ j x : Nat, j < h → s (406 + 13 * j + 4) x = edA g k l j x (σ (406 + 13 * j + 4) x)) (m2 : ∀ j x : Nat, j < h → x < 100 → s 685 (100 * (24 + j) + x) = edB g k l j x (σ 685 (100 * (24 + j) + x))) (m4 : ∀ j x : Nat, j < h → x < 100 → s 686 (100 * (24 + j) + x) = edA g k l j x (σ 686 (100 * (24 + j) + x))) : RSt (c + 1) s := by
  obtain ⟨h1, h2, h3, h4, h5, h6, h7, h8, h9, h10, h11⟩ := H
  have e0 := fr 402 3 (by omega)
  have e1 := fr 402 4 (by omega)
  have e2 := fr 682 39 (by omega)
  have e3 := fr 682 40 (by omega)
  have e4 := fr 682 41 (by omega)
  refine ⟨by omega, by omega, by omega, by omega, by omega, by omega, rowEq_fr (fr _ _ (by omega)) (fun i => fr _ _ (by omega)) (fun i => fr _ _ (by omega)) e0 h7, fun q hq => ?_, rowEq_fr (fr _ _ (by omega)) (fun i => fr _ _ (by omega)) (fun i => fr _ _ (by omega)) e2 h9, fun i hi => ?_, fun j hj => ?_⟩
  · rw [e0] at hq
    rw [fr 472 q (by omega), e1]
    exact h8 q hq
  · rw [fr 403 1 (by omega)] at hi
    rw [fr 404 i (by omega)]
    exact h10 i hi
  · rw [e0] at hj
    have hj' : j < h := by omega
    obtain ⟨g1, g2, g3⟩ := h11 j hj
    have b := PR_16 g1 g2
    have f1 : ∀ x, s (406 + 13 * j + 1) x = σ (406 + 13 * j + 1) x := fun x => fr _ _ (by right; right; right; right; right; right; right; right; right; exact ⟨j, hj', by omega⟩)
    have f3 : ∀ x, s (406 + 13 * j + 3) x = σ (406 + 13 * j + 3) x := fun x => fr _ _ (by right; right; right; right; right; right; right; right; right; exact ⟨j, hj', by omega⟩)
    have f5 : ∀ n x, 5 ≤ n → n ≤ 10 → s (406 + 13 * j + n) x = σ (406 + 13 * j + n) x := fun n x y1 y2 => fr _ _ (by right; right; right; right; right; right; right; right; right; exact ⟨j, hj', by omega⟩)
    have s8 := fr 688 (24 + j) (by omega)
    have s9 := fr 689 (24 + j) (by omega)
    obtain ⟨o1, o2, o3, o4, o5, o6, o7, o8, o9, o10, o11⟩ := g2
    refine ⟨⟨⟨by rw [f1, s8]; exact g1.1.1, fun i hi => ?_⟩, ⟨by rw [f3, s9]; exact g1.2.1.1, fun i hi => ?_⟩, ⟨by rw [f5 5 1 (by omega) (by omega), s8]; exact g1.2.2.1, fun i hi => ?_⟩⟩, ⟨by rw [f1]; exact o1, by rw [f3]; exact o2, by rw [f5 5 1 (by omega) (by omega), f1]; exact o3, by rw [f5 7 1 (by omega) (by omega), f3]; exact o4, fun i hi => ?_, fun i hi => ?_, fun i i' y1 y2 y3 y4 => ?_, fun i hi => ?_, fun i hi => ?_, ?_⟩, ?_⟩
    · rw [s8] at hi
      show s (406 + 13 * j + 2) i = _
      rw [b2 j i hj', m2 j i hj' (by omega)]
      have e : σ (406 + 13 * j + 2) i = σ 685 (100 * (24 + j) + i) := g1.1.2 i hi
      rw [e]
    · rw [s9] at hi
      show s (406 + 13 * j + 4) i = _
      rw [b4 j i hj', m4 j i hj' (by omega)]
      have e : σ (406 + 13 * j + 4) i = σ 686 (100 * (24 + j) + i) := g1.2.1.2 i hi
      rw [e]
    · rw [s8] at hi
      show s (406 + 13 * j + 6) i = _
      rw [f5 6 i (by omega) (by omega), fr 687 _ (by omega)]
      exact g1.2.2.2 i hi
    · rw [f1] at hi
      rw [f5 6 i (by omega) (by omega), f3]
      rcases o5 i hi with z | z
      · exact Or.inl z
      · refine Or.inr ⟨z.1, z.2.1, by rw [f5 8 _ (by omega) (by omega)]; exact z.2.2.1, ?_⟩
        rw [b2 j i hj', b4 j _ hj', ← z.2.2.2]
        unfold edB edA
        by_cases hkj : k < j
        · have key : g (j - k - 1) = (i : Int) ↔ g (j - k) = (((σ (406 + 13 * j + 6) i).toNat : Nat) : Int) := by
            have es := hgs (j - k - 1)
            rw [show j - k - 1 + 1 = j - k by omega, show k + (j - k - 1) + 1 = j by omega] at es
            refine ⟨fun y => ?_, fun y => ?_⟩
            · rw [es, if_neg (by omega), y, show ((i : Nat) : Int).toNat = i by omega]
              omega
            · by_cases y2 : g (j - k - 1) = -1
              · rw [es, if_pos y2] at y
                omega
              · rw [es, if_neg y2] at y
                have gv := hgv (j - k - 1) (by omega)
                have hsm : σ (406 + 13 * j + 1) 1 = σ (406 + 13 * (k + (j - k - 1)) + 3) 1 := by
                  have := g3.1
                  unfold blw at this
                  rw [if_neg (by omega)] at this
                  rw [show k + (j - k - 1) = j - 1 by omega]
                  exact this
                have z2 := o5 (g (j - k - 1)).toNat (by omega)
                rcases z2 with z2 | z2
                · omega
                · have a := z2.2.2.1
                  have a' := z.2.2.1
                  rw [show (σ (406 + 13 * j + 6) (g (j - k - 1)).toNat).toNat = (σ (406 + 13 * j + 6) i).toNat by omega] at a
                  omega
          by_cases y : g (j - k - 1) = (i : Int)
          · rw [if_pos ⟨hkj, y⟩, if_pos ⟨by omega, key.mp y⟩]
          · rw [if_neg (fun e => y e.2), if_neg (fun e => y (key.mpr e.2))]
        · rw [if_neg (fun e => hkj e.1)]
          by_cases hkj2 : k = j
          · rw [if_neg]
            rintro ⟨-, y⟩
            rw [hkj2, Nat.sub_self, hg0] at y
            have := z.2.2.1
            rw [hkj2] at hb
            rw [show (σ (406 + 13 * j + 6) i).toNat = place by omega, hb] at this
            omega
          · rw [if_neg (fun e => by omega)]
    · rw [f3] at hi
      rw [f5 8 i (by omega) (by omega), f1]
      rcases o6 i hi with z | z
      · exact Or.inl z
      · exact Or.inr ⟨z.1, z.2.1, by rw [f5 6 _ (by omega) (by omega)]; exact z.2.2⟩
    · rw [f1] at y2
      rw [f5 6 i (by omega) (by omega)] at y3 ⊢
      rw [f5 6 i' (by omega) (by omega)] at y4 ⊢
      exact o7 i i' y1 y2 y3 y4
    · rw [f1] at hi
      rw [b2 j i hj']
      unfold edB
      split
      · exact hl
      · exact o8 i hi
    · rw [f3] at hi
      rw [b4 j i hj']
      unfold edA
      split
      · exact hl
      · exact o9 i hi
    · have e6 : s (406 + 13 * j + 6) = σ (406 + 13 * j + 6) := funext fun x => f5 6 x (by omega) (by omega)
      rw [e6, f1, f3, f5 9 1 (by omega) (by omega)]
      refine ⟨o10, fun q r hr => ?_⟩
      rw [f5 10 _ (by omega) (by omega), f5 10 _ (by omega) (by omega), f5 10 _ (by omega) (by omega), f5 10 _ (by omega) (by omega)]
      exact o11 q r hr
    · obtain ⟨t1, t2⟩ := g3
      by_cases y0 : j = 0
      · have hbl : blw j = 403 := by unfold blw; rw [if_pos y0]
        rw [hbl] at t1 t2 ⊢
        refine ⟨by rw [f1, fr 403 1 (by omega)]; exact t1, fun x hx => ?_⟩
        rw [f1] at hx
        show s (406 + 13 * j + 2) x = s 404 x
        rw [b2 j x hj', fr 404 x (by omega)]
        unfold edB
        rw [if_neg (fun e => by omega)]
        exact t2 x hx
      · have hbl : blw j = 406 + 13 * (j - 1) + 3 := by unfold blw; rw [if_neg y0]
        rw [hbl] at t1 t2 ⊢
        refine ⟨by rw [f1, fr _ 1 (by right; right; right; right; right; right; right; right; right; exact ⟨j - 1, by omega, by omega⟩)]; exact t1, fun x hx => ?_⟩
        rw [f1] at hx
        show s (406 + 13 * j + 2) x = s (406 + 13 * (j - 1) + 4) x
        have e : σ (406 + 13 * j + 2) x = σ (406 + 13 * (j - 1) + 4) x := t2 x hx
        rw [b2 j x hj', b4 (j - 1) x (by omega), e]
        unfold edB edA
        by_cases y : k < j ∧ g (j - k - 1) = (x : Int)
        · rw [if_pos y, if_pos ⟨by omega, by rw [show j - 1 - k = j - k - 1 by omega]; exact y.2⟩]
        · rw [if_neg y, if_neg (fun e => y ⟨by omega, by rw [show j - k - 1 = j - 1 - k by omega]; exact e.2⟩)]
/-- Pile.rewrite -/
theorem l131 {σ0 : Sg} {k h place : Nat} {l : Int} {g : Nat → Int} {d2 : Option AV} (h5 : h ≤ 5) (hh : σ0 402 3 = (h : Nat)) (hw : ∀ j, j < h → wR σ0 (406 + 13 * j + 1) ∧ wR σ0 (406 + 13 * j + 3) ∧ wR σ0 (406 + 13 * j + 5)) (hgs : ∀ d, g (d + 1) = if g d = -1 then -1 else σ0 (406 + 13 * (k + d + 1) + 6) (g d).toNat) (hgv : ∀ d, k + d < h → g d = -1 ∨ (0 ≤ g d ∧ g d < σ0 (406 + 13 * (k + d) + 3) 1)) (hsz : ∀ j, j + 1 < h → σ0 (406 + 13 * (j + 1) + 1) 1 = σ0 (406 + 13 * j + 3) 1 ∧ σ0 (406 + 13 * (j + 1) + 5) 1 = σ0 (406 + 13 * (j + 1) + 1) 1) : ∀ (w j : Nat) (σ : Sg), j + w = h → k < j → (∀ a x, ¬ (∃ j', j' < h ∧ (a = 406 + 13 * j' + 2 ∨ a = 406 + 13 * j' + 4)) → σ a x = σ0 a x) → (∀ j' x : Nat, j' < h → σ (406 + 13 * j' + 2) x = (if j' < j then edB g k l j' x (σ0 (406 + 13 * j' + 2) x) else σ0 (406 + 13 * j' + 2) x) ∧ σ (406 + 13 * j' + 4) x = (if j' < j then edA g k l j' x (σ0 (406 + 13 * j' + 4) x) else σ0 (406 + 13 * j' + 4) x)) → ∃ s, C131_10 k d2 l (g (j - k - 1)) j σ (rV s) ∧ (∀ a x, ¬ (∃ j', j' < h ∧ (a = 406 + 13 * j' + 2 ∨ a = 406 + 13 * j' + 4)) → s a x = σ0 a x) ∧ ∀ j' x : Nat, j' < h → s (406 + 13 * j' + 2) x = edB g k l j' x (σ0 (406 + 13 * j' + 2) x) ∧ s (406 + 13 * j' + 4) x = edA g k l j' x (σ0 (406 + 13 * j' + 4) x) := by
  have stay : ∀ d, g d = -1 → ∀ e, g (d + e) = -1 := by
    intro d hd e
    induction e with
    | zero => exact hd
    | succ e ih =>
      rw [show d + (e + 1) = (d + e) + 1 by omega, hgs, if_pos ih]
  intro w
  induction w with
  | zero =>
    intro j σ hj hkj hf hv
    refine ⟨σ, b131_10 ?_, hf, fun j' x hj' => ?_⟩
    · rw [hf 402 3 (by rintro ⟨j', y1, y2⟩; omega), hh, if_neg (by omega)]
    · have := hv j' x hj'
      rw [if_pos (by omega), if_pos (by omega)] at this
      exact this
  | succ w ih =>
    intro j σ hj hkj hf hv
    have e40 : σ 402 3 = (h : Nat) := by rw [hf 402 3 (by rintro ⟨j', y1, y2⟩; omega), hh]
    by_cases hn : g (j - k - 1) = -1
    · refine ⟨σ, b131_10 ?_, hf, fun j' x hj' => ?_⟩
      · rw [e40, if_pos (by omega), if_pos (by omega), if_pos hn]
      · have z := hv j' x hj'
        by_cases y : j' < j
        · rw [if_pos y, if_pos y] at z
          exact z
        · rw [if_neg y, if_neg y] at z
          have s1 := stay _ hn (j' - j)
          have s2 := stay _ hn (j' - j + 1)
          rw [show j - k - 1 + (j' - j) = j' - k - 1 by omega] at s1
          rw [show j - k - 1 + (j' - j + 1) = j' - k by omega] at s2
          rw [z.1, z.2]
          unfold edB edA
          rw [s1, s2, if_neg (fun e => by omega), if_neg (fun e => by omega)]
          exact ⟨rfl, rfl⟩
    · have gv := hgv (j - k - 1) (by omega)
      rw [show k + (j - k - 1) = j - 1 by omega] at gv
      have sz := hsz (j - 1) (by omega)
      rw [show j - 1 + 1 = j by omega] at sz
      have es := hgs (j - k - 1)
      rw [show j - k - 1 + 1 = j - k by omega, show k + (j - k - 1) + 1 = j by omega, if_neg hn] at es
      have gv2 := hgv (j - k) (by omega)
      rw [show k + (j - k) = j by omega] at gv2
      obtain ⟨w1, w3, w5⟩ := hw j (by omega)
      have hq := cpL (p := j) (by omega)
      have nf : ∀ a, (a = 406 + 13 * j + 1 ∨ a = 406 + 13 * j + 3 ∨ a = 406 + 13 * j + 5 ∨ a = 406 + 13 * j + 6) → ¬ (∃ j', j' < h ∧ (a = 406 + 13 * j' + 2 ∨ a = 406 + 13 * j' + 4)) := by
        rintro a ha ⟨j', y1, y2⟩
        omega
      have e148 := d148 (σ := σ) (a := 406 + 13 * j + 1) (i := g (j - k - 1)) (v := l) ⟨w1.1, by rw [hf _ _ (nf _ (by omega))]; exact w1.2⟩
      have est : stS σ (406 + 13 * j + 1) (g (j - k - 1)) l = upS σ (406 + 13 * j + 2) (g (j - k - 1)).toNat l := by
        unfold stS
        rw [if_pos]
        rw [hf _ _ (nf _ (by omega))]
        omega
      rw [est] at e148
      have e147 := d147 (σ := upS σ (406 + 13 * j + 2) (g (j - k - 1)).toNat l) (a := 406 + 13 * j + 5) (i := g (j - k - 1)) ⟨w5.1, by rw [up_a (by omega), hf _ _ (nf _ (by omega))]; exact w5.2⟩
      have eat : atS (upS σ (406 + 13 * j + 2) (g (j - k - 1)).toNat l) (406 + 13 * j + 5) (g (j - k - 1)) = g (j - k) := by
        unfold atS
        rw [up_a (by omega), hf _ _ (nf _ (by omega)), if_pos (by omega), up_a (by omega)]
        show σ (406 + 13 * j + 6) _ = _
        rw [hf _ _ (nf _ (by omega)), es]
      rw [eat] at e147
      obtain ⟨σ2, h2⟩ : ∃ σ2, σ2 = stS (upS σ (406 + 13 * j + 2) (g (j - k - 1)).toNat l) (406 + 13 * j + 3) (g (j - k)) l := ⟨_, rfl⟩
      have e148b := d148 (σ := upS σ (406 + 13 * j + 2) (g (j - k - 1)).toNat l) (a := 406 + 13 * j + 3) (i := g (j - k)) (v := l) ⟨w3.1, by rw [up_a (by omega), hf _ _ (nf _ (by omega))]; exact w3.2⟩
      rw [← h2] at e148b
      have v2 : ∀ a x, σ2 a x = if a = 406 + 13 * j + 4 ∧ g (j - k) = (x : Int) then l else if a = 406 + 13 * j + 2 ∧ g (j - k - 1) = (x : Int) then l else σ a x := by
        intro a x
        rw [h2]
        unfold stS
        rw [up_a (show ¬ 406 + 13 * j + 3 = 406 + 13 * j + 2 by omega), hf _ _ (nf (406 + 13 * j + 3) (by omega))]
        by_cases y : 0 ≤ g (j - k) ∧ g (j - k) < σ0 (406 + 13 * j + 3) 1
        · rw [if_pos y]
          by_cases y2 : a = 406 + 13 * j + 4 ∧ g (j - k) = (x : Int)
          · rw [if_pos y2]
            unfold upS
            rw [if_pos ⟨by omega, by omega⟩]
          · rw [if_neg y2]
            by_cases y3 : a = 406 + 13 * j + 2 ∧ g (j - k - 1) = (x : Int)
            · rw [if_pos y3]
              unfold upS
              rw [if_neg (by omega), if_pos ⟨by omega, by omega⟩]
            · rw [if_neg y3]
              unfold upS
              rw [if_neg (fun e => y2 ⟨by omega, by omega⟩), if_neg (fun e => y3 ⟨by omega, by omega⟩)]
        · rw [if_neg y, if_neg (fun e => y (by omega))]
          by_cases y3 : a = 406 + 13 * j + 2 ∧ g (j - k - 1) = (x : Int)
          · rw [if_pos y3]
            unfold upS
            rw [if_pos ⟨by omega, by omega⟩]
          · rw [if_neg y3]
            unfold upS
            rw [if_neg (fun e => y3 ⟨by omega, by omega⟩)]
      obtain ⟨s, a1, a2, a3⟩ := ih (j + 1) σ2 (by omega) (by omega) (fun a x hn => by
        rw [v2, if_neg (fun e => hn ⟨j, by omega, by omega⟩), if_neg (fun e => hn ⟨j, by omega, by omega⟩)]
        exact hf a x hn) (fun j' x hj' => by
        have z := hv j' x hj'
        have u2 : σ2 (406 + 13 * j' + 2) x = if j' = j ∧ g (j - k - 1) = (x : Int) then l else σ (406 + 13 * j' + 2) x := by
          rw [v2, if_neg (fun e => by omega)]
          by_cases y : j' = j ∧ g (j - k - 1) = (x : Int)
          · rw [if_pos y, if_pos ⟨by omega, y.2⟩]
          · rw [if_neg y, if_neg (fun e => y ⟨by omega, e.2⟩)]
        have u4 : σ2 (406 + 13 * j' + 4) x = if j' = j ∧ g (j - k) = (x : Int) then l else σ (406 + 13 * j' + 4) x := by
          rw [v2]
          by_cases y : j' = j ∧ g (j - k) = (x : Int)
          · rw [if_pos y, if_pos ⟨by omega, y.2⟩]
          · rw [if_neg y, if_neg (fun e => y ⟨by omega, e.2⟩), if_neg (fun e => by omega)]
        rw [u2, u4]
        by_cases y : j' = j
        · subst y
          rw [if_neg (Nat.lt_irrefl j'), if_neg (Nat.lt_irrefl j')] at z
          rw [if_pos (show j' < j' + 1 by omega), if_pos (show j' < j' + 1 by omega), z.1, z.2]
          unfold edB edA
          refine ⟨?_, ?_⟩
          · by_cases y2 : g (j' - k - 1) = (x : Int)
            · rw [if_pos ⟨rfl, y2⟩, if_pos ⟨hkj, y2⟩]
            · rw [if_neg (fun e => y2 e.2), if_neg (fun e => y2 e.2)]
          · by_cases y2 : g (j' - k) = (x : Int)
            · rw [if_pos ⟨rfl, y2⟩, if_pos ⟨by omega, y2⟩]
            · rw [if_neg (fun e => y2 e.2), if_neg (fun e => y2 e.2)]
        · rw [if_neg (show ¬ (j' = j ∧ g (j - k - 1) = (x : Int)) from fun e => y e.1), if_neg (show ¬ (j' = j ∧ g (j - k) = (x : Int)) from fun e => y e.1), z.1, z.2]
          by_cases y2 : j' < j
          · rw [if_pos y2, if_pos y2, if_pos (show j' < j + 1 by omega), if_pos (show j' < j + 1 by omega)]
            exact ⟨rfl, rfl⟩
          · rw [if_neg y2, if_neg y2, if_neg (show ¬ j' < j + 1 by omega), if_neg (show ¬ j' < j + 1 by omega)]
            exact ⟨rfl, rfl⟩)
      rw [show j + 1 - k - 1 = j - k by omega] at a1
      refine ⟨s, b131_10 ?_, a2, a3⟩
      rw [e40, if_pos (by omega), if_pos (by omega), if_neg hn, if_pos (by omega)]
      have hqE : qE 405 ((j : Nat) : Int).toNat (406 + 13 * j) = true := by
        rw [show ((j : Nat) : Int).toNat = j by omega]
        exact hq.2.2.2.2.2.2.2
      refine ⟨by omega, _, hqE, hq.2.2.2.2.2.2.1, _, e148, by omega, _, hqE, hq.2.2.2.2.2.2.1, _, _, e147, b131_74 ⟨by omega, _, hqE, hq.2.2.2.2.2.2.1, _, e148b, by omega, ?_⟩⟩
      rw [show (j : Int) + 1 = ((j + 1 : Nat) : Int) by omega]
      exact a1
end
