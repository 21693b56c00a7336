/-! blame, began: the calls. -/
noncomputable section
theorem e365b {σ s1 : Sg} {c a1 v : Int} (H : Rel c σ) (fr : FK s1 σ) (h : 0 ≤ a1 ∧ a1 < σ (blw (σ 402 3).toNat) 1) : Dd 365 [vA 682, vI a1] (upS s1 726 ((0 : Int).toNat) v) (rI 1 (upS (upS s1 726 ((0 : Int).toNat) v) 682 0 0)) := by
  have e341 := d341m H (σ' := upS s1 726 ((0 : Int).toNat) v) (fun a k h1 h2 => by rw [up_a h2]; exact fr a k (by omega))
  refine b365 ⟨_, _, e341, _, _, d246, ?_⟩
  rw [if_pos h, if_neg (show ¬ (1 : Int) = 0 by decide)]
  refine b365_17 ⟨_, _, d245, ?_, ?_⟩
  · rw [if_pos rfl]
    exact Or.inr rfl
  · rw [if_pos rfl]
theorem fmb2 {σ s1 : Sg} {v : Int} (fr : FK s1 σ) : FM (upS (upS s1 726 ((0 : Int).toNat) v) 682 0 0) σ := fun c x h1 h2 _ _ _ h6 => by
  have : upS (upS s1 726 ((0 : Int).toNat) v) 682 0 0 c x = upS s1 726 ((0 : Int).toNat) v c x := by
    unfold upS
    rw [if_neg (by omega)]
  rw [this, up_a h2]
  exact fr c x (by omega)
theorem zl2 {σ s1 : Sg} {v : Int} (Z : Zl σ) (fr : FK s1 σ) : Zl (upS (upS s1 726 ((0 : Int).toNat) v) 682 0 0) := Zl_fr (fun k => by
  rw [up_a (by decide), up_a (by decide)]
  exact fr 695 k (by omega)) Z
/-- blame -/
theorem o41 {σ : Sg} {c a1 : Int} (H : Rel c σ) : OpR 429 366 [vA 0, vI a1, vA 726] [vA 682, vI a1] σ (c + 1) := by
  by_cases h : 0 ≤ a1 ∧ a1 < σ (blw (σ 402 3).toNat) 1
  · obtain ⟨L, q, s1, b1, b2, b3, b4, W, fr, b5⟩ := both_org H h
    have hS : RSt c σ := H.2.2.2.2.2.1
    have h7 := hS.2.2.2.2.2.2.1
    have e127 := d127 H
    have e146 := d146 (σ := σ) (blw_row H)
    have e133 : Dd 133 [vA 402, vI (100 * (L + 1) + (q : Nat))] s1 (rI L s1) := by
      refine b133 ?_
      rw [td (by omega), show (100 * (L + 1) + ((q : Nat) : Int)) / 100 - 1 = L by omega]
      have := hS.2.1
      exact ⟨by omega, rfl⟩
    have e147 := d147 (σ := s1) (a := 471) (i := L) (WF_w W (by decide +kernel))
    have hA := b429 (x1 := a1) (Or.inl ⟨_, _, b213 ⟨_, _, e127, blw_row H, _, _, e146, Or.inl ⟨_, d232_ok h, _, _, b4, _, _, e133, _, _, e147, rfl⟩⟩, rfl⟩)
    obtain ⟨v, hv⟩ : ∃ v, v = atS s1 471 L := ⟨_, rfl⟩
    rw [← hv] at hA
    obtain ⟨s', c1, c2, c3, c4, c5⟩ := b5 (upS (upS s1 726 ((0 : Int).toNat) v) 682 0 0) (zl2 H.2.1 fr) (fmb2 fr)
    have ev : v = if L < 0 then -1 else s' 711 L.toNat := by
      rw [hv]
      unfold atS
      rw [fr 471 1 (by omega), h7.1]
      by_cases y : L < 0
      · rw [if_pos y, if_neg (by omega)]
      · rw [if_neg y, if_pos (by omega), c5 _ _ (by decide) (by decide) (by decide) (by omega), up_a (by decide), up_a (by decide), fr 711 _ (by omega)]
        have z := h7.2 L.toNat (by omega)
        rw [Nat.zero_add] at z
        have e : s1 (471 + 1) L.toNat = σ 472 L.toNat := fr 472 _ (by omega)
        rw [e]
        exact z
    refine org_fin H W fr hA rfl (b366 ⟨1, _, e365b H fr h, ?_⟩) c2 c5
    rw [if_neg (show ¬ (1 : Int) = 0 by decide)]
    refine ⟨s', c1, ?_, ?_⟩
    · rw [c3]
      have := hS.2.1
      exact fun _ => by omega
    · rw [c3, ev]
  · exact (o41f H h).1
/-- began -/
theorem o42 {σ : Sg} {c a1 : Int} (H : Rel c σ) : OpR 430 367 [vA 0, vI a1, vA 726] [vA 682, vI a1] σ (c + 1) := by
  by_cases h : 0 ≤ a1 ∧ a1 < σ (blw (σ 402 3).toNat) 1
  · obtain ⟨L, q, s1, b1, b2, b3, b4, W, fr, b5⟩ := both_org H h
    have e127 := d127 H
    have e146 := d146 (σ := σ) (blw_row H)
    have e134 : Dd 134 [vA 402, vI (100 * (L + 1) + (q : Nat))] s1 (rI (q : Nat) s1) := by
      refine b134 ?_
      rw [tm (by omega), show (100 * (L + 1) + ((q : Nat) : Int)) % 100 = ((q : Nat) : Int) by omega]
    have hA := b430 (x1 := a1) (Or.inl ⟨_, _, b214 ⟨_, _, e127, blw_row H, _, _, e146, Or.inl ⟨_, d232_ok h, _, _, b4, _, _, e134, rfl⟩⟩, rfl⟩)
    obtain ⟨s', c1, c2, c3, c4, c5⟩ := b5 (upS (upS s1 726 ((0 : Int).toNat) (q : Nat)) 682 0 0) (zl2 H.2.1 fr) (fmb2 fr)
    refine org_fin H W fr hA rfl (b367 ⟨1, _, e365b H fr h, ?_⟩) c2 c5
    rw [if_neg (show ¬ (1 : Int) = 0 by decide)]
    refine ⟨s', c1, ?_⟩
    rw [c4]
  · exact (o41f H h).2
end
