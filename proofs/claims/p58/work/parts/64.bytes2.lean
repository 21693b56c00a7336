/-! step: on both sides. -/
noncomputable section
/-- the model, inside one step that was asked for or not -/
theorem l388_run {σ : Sg} {a d n : Nat} (h : Dl σ a d n) {o : Rs} {x2 x3 x5 : Int} {e : Nat} (he : e ≤ n) : ∀ (w k : Nat) (x4 : Int), k + w = e → 0 < k → (∀ q, k ≤ q → q < e → gT (σ (a + 1)) q = true) → -1 ≤ x3 ∧ x3 ≤ 100 → 0 ≤ x4 ∧ x4 ≤ k → C388_37 d x2 x3 (x4 + (if x3 = x2 then (w : Int) else 0)) x5 e σ o → C388_37 d x2 x3 x4 x5 k σ o := by
  have h4 := h.2.2.2.1
  have h5 := h.2.2.2.2.1
  have h6 := h.2.2.2.2.2.1
  intro w
  induction w with
  | zero =>
    intro k x4 q1 q2 q3 q4 q5 H
    rw [show k = e by omega]
    have : x4 + (if x3 = x2 then ((0 : Nat) : Int) else 0) = x4 := by split <;> omega
    rw [this] at H
    exact H
  | succ w ih =>
    intro k x4 q1 q2 q3 q4 q5 H
    have hd := d386 h (k := k) (by omega)
    rw [if_pos (q3 k (Nat.le_refl _) (by omega))] at hd
    refine b388_37 ⟨by omega, ?_⟩
    rw [show ((d : Int)).toNat = d by omega, if_pos (by omega)]
    refine ⟨_, _, hd, ?_⟩
    rw [if_neg (show ¬ (1 : Int) = 0 by decide)]
    refine b388_64 ⟨by omega, ?_⟩
    rw [show x3 + 0 = x3 by omega]
    have fin : C388_96 d x2 x3 x4 x5 k σ o := by
      refine b388_96 (b388_98 (b388_112 ⟨?_, by omega, ?_⟩))
      · split <;> omega
      · rw [show (k : Int) + 1 = ((k + 1 : Nat) : Int) by omega]
        refine ih (k + 1) _ (by omega) (by omega) (fun q z1 z2 => q3 q (by omega) z2) q4 (by split <;> omega) ?_
        have : x4 + (if x3 = x2 then (1 : Int) else 0) + (if x3 = x2 then ((w : Nat) : Int) else 0) = x4 + (if x3 = x2 then ((w + 1 : Nat) : Int) else 0) := by
          split <;> omega
        rw [this]
        exact H
    by_cases z : x3 = x2
    · rw [if_pos z]
      refine ⟨_, _, hd, ?_⟩
      rw [if_neg (show ¬ (1 : Int) = 0 by decide)]
      exact fin
    · rw [if_neg z]; exact fin
/-- the model, at the first byte of a step -/
theorem l388_first {σ : Sg} {a d n : Nat} (h : Dl σ a d n) {o : Rs} {x2 x3 x4 x5 : Int} {k : Nat} (hk : k < n) (h0 : gT (σ (a + 1)) k = false) (q4 : -1 ≤ x3 ∧ x3 ≤ 100) (q5 : 0 ≤ x4 ∧ x4 ≤ k) (H : C388_37 d x2 (x3 + 1) (x4 + (if x3 + 1 = x2 then 1 else 0)) (if x3 + 1 = x2 then σ 725 (40 * d + k) else x5) ((k + 1 : Nat) : Int) σ o) : C388_37 d x2 x3 x4 x5 k σ o := by
  have h4 := h.2.2.2.1
  have h5 := h.2.2.2.2.1
  have h6 := h.2.2.2.2.2.1
  have hd := d386 h (k := k) hk
  rw [h0, if_neg (show ¬ false = true by decide)] at hd
  refine b388_37 ⟨by omega, ?_⟩
  rw [show ((d : Int)).toNat = d by omega, if_pos (by omega)]
  refine ⟨_, _, hd, ?_⟩
  rw [if_pos rfl]
  refine b388_64 ⟨by omega, ?_⟩
  by_cases z : x3 + 1 = x2
  · rw [if_pos z] at H ⊢
    rw [if_pos z] at H
    refine ⟨_, _, hd, ?_⟩
    rw [if_pos rfl, show ((40 * (d : Int)) + (k : Int)).toNat = 40 * d + k by omega]
    refine ⟨by omega, by omega, by omega, b388_98 (b388_112 ⟨?_, by omega, ?_⟩)⟩
    · rw [if_pos z]; omega
    · rw [if_pos z, show (k : Int) + 1 = ((k + 1 : Nat) : Int) by omega]
      exact H
  · rw [if_neg z] at H ⊢
    rw [if_neg z] at H
    refine b388_96 (b388_98 (b388_112 ⟨?_, by omega, ?_⟩))
    · rw [if_neg z]; omega
    · rw [if_neg z, show (k : Int) + 1 = ((k + 1 : Nat) : Int) by omega]
      exact H
/-- behind the step that was asked for nothing is changed -/
theorem l388_past {σ : Sg} {a d n : Nat} (h : Dl σ a d n) {o : Rs} {x2 x4 x5 : Int} : ∀ (w k : Nat) (x3 : Int), k + w = n → x2 < x3 → -1 ≤ x3 ∧ x3 ≤ k → 0 ≤ x4 ∧ x4 ≤ k → (∀ y : Int, C388_37 d x2 y x4 x5 n σ o) → C388_37 d x2 x3 x4 x5 k σ o := by
  have h4 := h.2.2.2.1
  have h5 := h.2.2.2.2.1
  have h6 := h.2.2.2.2.2.1
  intro w
  induction w with
  | zero =>
    intro k x3 q1 q2 q4 q5 H
    rw [show k = n by omega]
    exact H _
  | succ w ih =>
    intro k x3 q1 q2 q4 q5 H
    have hd := d386 h (k := k) (by omega)
    refine b388_37 ⟨by omega, ?_⟩
    rw [show ((d : Int)).toNat = d by omega, if_pos (by omega)]
    refine ⟨_, _, hd, ?_⟩
    have fin : ∀ y : Int, x2 < y → -1 ≤ y ∧ y ≤ k + 1 → C388_96 d x2 y x4 x5 k σ o := by
      intro y hy hy2
      refine b388_96 (b388_98 (b388_112 ⟨?_, by omega, ?_⟩))
      · rw [if_neg (by omega)]; omega
      · rw [if_neg (by omega), show (k : Int) + 1 = ((k + 1 : Nat) : Int) by omega, Int.add_zero]
        exact ih (k + 1) y (by omega) hy (by omega) (by omega) H
    by_cases z : gT (σ (a + 1)) k = true
    · rw [if_pos z, if_neg (show ¬ (1 : Int) = 0 by decide)]
      refine b388_64 ⟨by omega, ?_⟩
      rw [if_neg (by omega)]
      exact fin _ (by omega) (by omega)
    · rw [if_neg z, if_pos rfl]
      refine b388_64 ⟨by omega, ?_⟩
      rw [if_neg (by omega)]
      exact fin _ (by omega) (by omega)
theorem l388_end {σ : Sg} {a d n : Nat} (h : Dl σ a d n) {x2 x3 x4 x5 : Int} (hx : 0 ≤ x4 ∧ x4 ≤ 40) (h5' : 0 ≤ x5 ∧ x5 ≤ 2000) : C388_37 d x2 x3 x4 x5 n σ (rI (if x4 = 0 then -1 else 1000 * x4 + (if 1000 ≤ x5 then x5 - 500 else x5)) σ) := by
  have h4 := h.2.2.2.1
  have h5 := h.2.2.2.2.1
  have h6 := h.2.2.2.2.2.1
  refine b388_37 ⟨by omega, ?_⟩
  rw [show ((d : Int)).toNat = d by omega, if_neg (by omega)]
  by_cases z : x4 = 0
  · rw [if_pos z, if_pos z]
  · rw [if_neg z, if_neg z]
    refine ⟨by omega, fun _ => by omega, b388_155 ⟨?_, rfl⟩⟩
    split <;> omega
/-- what the step of a number answers: both sides at once -/
theorem l53 {σ : Sg} {a d n : Nat} (h : Dl σ a d n) {d0 d2 : Option AV} {x2 : Int} (hx2 : 0 ≤ x2 ∧ x2 ≤ 2147483647) : ∀ (w s : Nat) (left : Int) (d5 : Option AV), n - s ≤ w → s ≤ n → (s = n ∨ gT (σ (a + 1)) s = false) → 0 ≤ left ∧ left ≤ x2 → x2 - left ≤ s → ∃ v, C48_5 d0 a d2 s left d5 σ (rI v σ) ∧ ∀ σ', Dl σ' a d n → σ' (a + 1) = σ (a + 1) → C388_37 d x2 (x2 - left - 1) 0 0 s σ' (rI v σ') := by
  have h3 := h.2.2.1
  have h4 := h.2.2.2.1
  have stop : ∀ (left : Int) (d5 : Option AV), ∃ v, C48_5 d0 a d2 n left d5 σ (rI v σ) ∧ ∀ σ', Dl σ' a d n → σ' (a + 1) = σ (a + 1) → C388_37 d x2 (x2 - left - 1) 0 0 n σ' (rI v σ') := by
    intro left d5
    refine ⟨-1, b48_5 h.1 ⟨_, _, d146 h.1, ?_⟩, fun σ' h' hf => ?_⟩
    · rw [if_neg (by omega)]
    · have e := l388_end h' (x2 := x2) (x3 := x2 - left - 1) (x4 := 0) (x5 := 0) (by omega) (by omega)
      rw [if_pos rfl] at e
      exact e
  intro w
  induction w with
  | zero =>
    intro s left d5 q1 q2 q3 q4 q5
    rw [show s = n by omega]
    exact stop left d5
  | succ w ih =>
    intro s left d5 q1 q2 q3 q4 q5
    by_cases hs : s < n
    · rcases q3 with q3 | q3
      · omega
      obtain ⟨e, r1, r2, r3, r4, r5⟩ := d45 h hs
      have hd := d147 (i := (s : Int)) (Dl_w h)
      rw [at_in h3 hs] at hd
      have cs0 := h.2.2.2.2.2.2 s hs
      by_cases z : left = 0
      · have hv : -1 ≤ σ (a + 1) s ∧ σ (a + 1) s ≤ 1000 := by
          rcases cs0 with ⟨z1, z2, z3⟩ | ⟨z1, z2, z3⟩ <;> omega
        refine ⟨1000 * ((e : Int) - s) + σ (a + 1) s, b48_5 h.1 ⟨_, _, d146 h.1, ?_⟩, fun σ' h' hf => ?_⟩
        · rw [if_pos (by omega)]
          refine ⟨_, _, r5, ?_⟩
          rw [if_pos z]
          exact ⟨by omega, by omega, _, _, hd, by omega, rfl⟩
        · have r3' : ∀ k, s + 1 ≤ k → k < e → gT (σ' (a + 1)) k = true := fun k z1 z2 => by rw [hf]; exact r3 k (by omega) z2
          have q3' : gT (σ' (a + 1)) s = false := by rw [hf]; exact q3
          have cs := h'.2.2.2.2.2.2 s hs
          rw [hf] at cs
          refine l388_first h' hs q3' (by omega) (by omega) ?_
          rw [if_pos (by omega), if_pos (by omega)]
          have key := l388_run h' (x2 := x2) (x3 := x2 - left - 1 + 1) (x5 := σ' 725 (40 * d + s)) (o := rI (1000 * ((e : Int) - s) + σ (a + 1) s) σ') r2 (e - (s + 1)) (s + 1) (0 + 1) (by omega) (by omega) r3' (by omega) (by omega)
          apply key
          rw [if_pos (by omega), show (0 : Int) + 1 + ((e - (s + 1) : Nat) : Int) = (e : Int) - s by omega]
          have fin : ∀ y : Int, C388_37 d x2 y ((e : Int) - s) (σ' 725 (40 * d + s)) n σ' (rI (1000 * ((e : Int) - s) + σ (a + 1) s) σ') := by
            intro y
            have e9 := l388_end h' (x2 := x2) (x3 := y) (x4 := (e : Int) - s) (x5 := σ' 725 (40 * d + s)) (by omega) (by
              rcases cs with ⟨z1, z2, z3⟩ | ⟨z1, z2, z3⟩ <;> omega)
            rw [if_neg (by omega)] at e9
            have : (if 1000 ≤ σ' 725 (40 * d + s) then σ' 725 (40 * d + s) - 500 else σ' 725 (40 * d + s)) = σ (a + 1) s := by
              rcases cs with ⟨z1, z2, z3⟩ | ⟨z1, z2, z3⟩
              · rw [if_neg (by omega)]; omega
              · rw [if_pos (by omega)]; omega
            rw [this] at e9
            exact e9
          rcases r4 with r4 | r4
          · rw [r4] at fin ⊢
            exact fin _
          · by_cases hen : e < n
            · refine l388_first h' hen (by rw [hf]; exact r4) (by omega) (by omega) ?_
              rw [if_neg (by omega), if_neg (by omega), Int.add_zero]
              exact l388_past h' (n - (e + 1)) (e + 1) _ (by omega) (by omega) (by omega) (by omega) fin
            · have hen2 : e = n := by omega
              rw [hen2] at fin ⊢
              exact fin _
      · obtain ⟨v, v1, v2⟩ := ih e (left - 1) (some (vI e)) (by omega) r2 r4 (by omega) (by omega)
        refine ⟨v, b48_5 h.1 ⟨_, _, d146 h.1, ?_⟩, fun σ' h' hf => ?_⟩
        · rw [if_pos (by omega)]
          refine ⟨_, _, r5, ?_⟩
          rw [if_neg z]
          refine ⟨by omega, ?_⟩
          rw [show left + (-1) = left - 1 by omega]
          exact v1
        · have r3' : ∀ k, s + 1 ≤ k → k < e → gT (σ' (a + 1)) k = true := fun k z1 z2 => by rw [hf]; exact r3 k (by omega) z2
          have q3' : gT (σ' (a + 1)) s = false := by rw [hf]; exact q3
          have v2 := v2 σ' h' hf
          refine l388_first h' hs q3' (by omega) (by omega) ?_
          rw [if_neg (by omega), if_neg (by omega)]
          refine l388_run h' r2 (e - (s + 1)) (s + 1) (0 + 0) (by omega) (by omega) r3' (by omega) (by omega) ?_
          rw [if_neg (by omega)]
          rw [show x2 - (left - 1) - 1 = x2 - left - 1 + 1 by omega] at v2
          exact v2
    · rw [show s = n by omega]
      exact stop left d5
theorem o53 {σ : Sg} {c a1 a2 : Int} (H : Rel c σ) (hi : a2 ≤ 2147483647) : OpR 441 388 [vA 0, vI a1, vI a2, vA 726] [vA 682, vI a1, vI a2] σ (c + 1) := by
  by_cases g1 : a1 < 0
  · exact x53_0 H g1
  by_cases g2 : σ 658 1 ≤ a1
  · exact x53_1 H g2
  have k1 : 0 ≤ a1 ∧ a1 < σ 658 1 := by omega
  by_cases g3 : a2 < 0
  · exact x53_2 H k1 g3
  have hn := (rel_n H).2.2.2.2
  have hD := rel_d H k1
  generalize hnn : (σ (660 + 2 * a1.toNat) 1).toNat = n at hD
  have f : ∀ v a k, ¬ a = 726 → ¬ a = 682 → upS (upS σ 726 0 v) 682 0 0 a k = σ a k := fun v a k h1 h2 => by rw [up_a h2, up_a h1]
  have hD2 : ∀ v, Dl (upS (upS σ 726 0 v) 682 0 0) (660 + 2 * a1.toNat) a1.toNat n := by
    intro v
    obtain ⟨h1, h2, h3, h4, h5, h6, h7⟩ := hD
    refine ⟨h1, h2, by rw [f _ _ _ (by omega) (by omega)]; exact h3, h4, h5, by rw [f _ _ _ (by omega) (by omega)]; exact h6, fun k hk => ?_⟩
    rw [f _ _ _ (by omega) (by omega), f _ _ _ (by omega) (by omega)]
    exact h7 k hk
  have ef : ∀ v, (upS (upS σ 726 0 v) 682 0 0) (660 + 2 * a1.toNat + 1) = σ (660 + 2 * a1.toNat + 1) := fun v => funext (fun k => f _ _ _ (by omega) (by omega))
  have hg : (0 : Nat) = n ∨ gT (σ (660 + 2 * a1.toNat + 1)) 0 = false := by
    right
    unfold gT
    rfl
  obtain ⟨v, v1, v2⟩ := l53 hD (d0 := some (vA 658)) (d2 := some (vI a2)) (x2 := a2) ⟨by omega, hi⟩ n 0 a2 none (by omega) (by omega) hg (by omega) (by omega)
  have hF : Dd 225 [vA 0, vI a1, vI a2] σ (rI v σ) := b225 (Or.inl ⟨_, _, d229_ok H k1, hD.1, Or.inl ⟨_, b233 (by rw [if_neg (by omega)]), _, _, b48 v1, rfl⟩⟩)
  have hA := b441 (Or.inl ⟨_, _, hF, rfl⟩)
  refine op_q2 H hA (v2 := v) (b388 ⟨_, _, d383_ok (by rw [up_a (by decide)]; omega), ?_⟩) rfl
  rw [if_neg (show ¬ (1 : Int) = 0 by decide), if_pos (show 0 ≤ a2 by omega)]
  refine b388_18 ⟨_, _, d245, ?_⟩
  rw [if_pos rfl, if_neg (show ¬ (1 : Int) = 0 by decide)]
  have e := v2 _ (hD2 v) (ef v)
  rw [show a2 - a2 - 1 = -1 by omega, show ((a1.toNat : Nat) : Int) = a1 by omega] at e
  exact e
end
