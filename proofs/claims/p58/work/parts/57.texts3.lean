/-! addByte, clear, copy, likeness. -/
noncomputable section
theorem ad_sz {σ : Sg} {a : Nat} {v : Int} (h : σ a 1 < (cap a : Int)) : adS σ a v a 1 = σ a 1 + 1 := by
  unfold adS
  rw [if_pos h, up_s]
theorem ad_off {σ : Sg} {a c k : Nat} {v : Int} (h : ¬ c = a) (h2 : ¬ c = a + 1) : adS σ a v c k = σ c k := by
  unfold adS
  split
  · rw [up_a h, up_a h2]
  · rfl
theorem ad_val {σ : Sg} {a k : Nat} {v : Int} (h : σ a 1 < (cap a : Int)) (h0 : 0 ≤ σ a 1) : adS σ a v (a + 1) k = if (k : Int) = σ a 1 then v else σ (a + 1) k := by
  unfold adS
  rw [if_pos h, up_a (by omega)]
  by_cases hk : (k : Int) = σ a 1
  · rw [if_pos hk, show (σ a 1).toNat = k by omega, up_s]
  · rw [if_neg hk, up_k (by omega)]
theorem o47 {σ : Sg} {c a1 a2 : Int} (H : Rel c σ) : OpR 435 378 [vA 0, vI a1, vI a2, vA 726] [vA 682, vI a1, vI a2] σ (c + 1) := by
  by_cases g1 : a1 < 0
  · exact x47_0 H g1
  by_cases g2 : 4 ≤ a1
  · exact x47_1 H g2
  have k1 : 0 ≤ a1 ∧ a1 < 4 := by omega
  by_cases g3 : a2 < 0
  · exact x47_2 H k1 g3
  by_cases g4 : 255 < a2
  · exact x47_3 H k1 g4
  have k2 : 0 ≤ a2 ∧ a2 ≤ 255 := by omega
  obtain ⟨r1, r2, r3⟩ := rel_b H k1
  have hr := (el_10 k1).2
  have w := WF_w H.1 hr
  have cc := cp_10 k1
  by_cases g5 : σ (11 + 2 * a1.toNat) 1 < 40
  · have hsz : σ (11 + 2 * a1.toNat) 1 < (cap (11 + 2 * a1.toNat) : Int) := by omega
    have d1 := d146 (σ := adS σ (11 + 2 * a1.toNat) a2) hr
    rw [ad_sz hsz] at d1
    have hF : Dd 219 [vA 0, vI a1, vI a2] σ (rI (σ (11 + 2 * a1.toNat) 1 + 1) (adS σ (11 + 2 * a1.toNat) a2)) := by
      refine b219 (Or.inl ⟨_, _, d228_ok k1, hr, Or.inl ⟨_, d234_ok k2, _, _, d146 hr, ?_⟩⟩)
      rw [if_neg (by omega)]
      exact ⟨_, d149 w, _, _, d1, rfl⟩
    have hA := b435 (Or.inl ⟨_, _, hF, rfl⟩)
    have q0 : ∀ (v : Int) c k, ¬ c = 726 → ¬ (11 ≤ c ∧ c ≤ 18) → upS (adS σ (11 + 2 * a1.toNat) a2) 726 0 v c k = σ c k := fun v c k h1 h2 => by rw [up_a h1, ad_off (by omega) (by omega)]
    have hB : ∀ s1 : Sg, s1 723 a1.toNat = σ (11 + 2 * a1.toNat) 1 → Dd 378 [vA 682, vI a1, vI a2] s1 (rI (σ (11 + 2 * a1.toNat) 1 + 1) (upS (upS (upS s1 682 0 0) 722 (40 * a1.toNat + (σ (11 + 2 * a1.toNat) 1).toNat) a2) 723 a1.toNat (σ (11 + 2 * a1.toNat) 1 + 1))) := by
      intro s1 hs1
      refine b378 ⟨_, _, d377_ok k1, ?_⟩
      rw [if_neg (show ¬ (1 : Int) = 0 by decide)]
      refine ⟨_, _, d246, fun _ => k1, ?_⟩
      rw [if_pos (show 0 ≤ a2 ∧ a2 < 256 by omega), if_neg (show ¬ (1 : Int) = 0 by decide), hs1, if_neg (show ¬ σ (11 + 2 * a1.toNat) 1 = 40 by omega)]
      refine b378_44 ⟨_, _, d245, ?_⟩
      rw [if_pos rfl, if_neg (show ¬ (1 : Int) = 0 by decide), up_a (show ¬ 723 = 682 by decide), hs1, show ((40 * a1) + σ (11 + 2 * a1.toNat) 1).toNat = 40 * a1.toNat + (σ (11 + 2 * a1.toNat) 1).toNat by omega, up_a (show ¬ 723 = 722 by decide), up_a (show ¬ 723 = 682 by decide), hs1, up_s]
      exact ⟨by omega, k1, by omega, by omega, k1, by omega, k1, k1, rfl⟩
    have hB2 := hB (upS (adS σ (11 + 2 * a1.toNat) a2) 726 0 (σ (11 + 2 * a1.toNat) 1 + 1)) (by rw [q0 _ _ _ (by decide) (by omega), r1])
    have hoff : ∀ c k, ¬ (c = 726 ∨ (c = 682 ∧ k = 0) ∨ (11 ≤ c ∧ c ≤ 18) ∨ c = 722 ∨ c = 723) → (upS (upS (upS (upS (adS σ (11 + 2 * a1.toNat) a2) 726 0 (σ (11 + 2 * a1.toNat) 1 + 1)) 682 0 0) 722 (40 * a1.toNat + (σ (11 + 2 * a1.toNat) 1).toNat) a2) 723 a1.toNat (σ (11 + 2 * a1.toNat) 1 + 1)) c k = σ c k := by
      intro c k hc
      rw [up_a (by omega), up_a (by omega)]
      by_cases h9 : c = 682
      · rw [up_k (by omega), q0 _ _ _ (by omega) (by omega)]
      · rw [up_a h9, q0 _ _ _ (by omega) (by omega)]
    have hcl : ∀ c k, 11 ≤ c ∧ c ≤ 18 → (upS (upS (upS (upS (adS σ (11 + 2 * a1.toNat) a2) 726 0 (σ (11 + 2 * a1.toNat) 1 + 1)) 682 0 0) 722 (40 * a1.toNat + (σ (11 + 2 * a1.toNat) 1).toNat) a2) 723 a1.toNat (σ (11 + 2 * a1.toNat) 1 + 1)) c k = adS σ (11 + 2 * a1.toNat) a2 c k := by
      intro c k hc
      rw [up_a (by omega), up_a (by omega), up_a (by omega), up_a (by omega)]
    refine ⟨_, _, _, _, hA, hB2, ?_, fun _ => ?_, fun i => ?_, ?_, fun i => hoff _ _ (by unfold SCR; omega), hoff _ _ (by unfold SCR; omega), Rel_B (by omega) hoff ?_ (fun t ht => ?_) H⟩
    · rw [up_a (by decide), up_a (by decide), up_s]
    · rw [up_a (by decide), up_a (by decide), up_a (by decide), up_s]
    · rw [scr_a (by decide), ad_off (SCR_ne (by omega)) (SCR_ne (by omega))]
    · rw [scr_b (by decide), ad_off (SCR1_ne (by omega)) (SCR1_ne (by omega))]
    · intro t ht
      obtain ⟨u1, u2⟩ := H.2.2.2.1 t ht
      have b9 := (rel_b H (t := (t : Int)) (by omega)).2
      rw [show ((t : Int)).toNat = t by omega] at b9
      have u11 := u1.1
      by_cases h9 : t = a1.toNat
      · rw [← h9] at r1 r2 r3 hcl hsz g5 ⊢
        refine ⟨⟨?_, ?_⟩, ?_⟩
        · rw [hcl _ _ (by omega), ad_sz hsz, up_s]
        · intro i hi
          rw [up_s] at hi
          rw [hcl _ _ (by omega), ad_val hsz r2, up_a (show ¬ 722 = 723 by decide)]
          by_cases h8 : (i : Int) = σ (11 + 2 * t) 1
          · rw [if_pos h8, show 40 * t + i = 40 * t + (σ (11 + 2 * t) 1).toNat by omega, up_s]
          · rw [if_neg h8, up_k (by omega), up_a (show ¬ 722 = 682 by decide), up_a (show ¬ 722 = 726 by decide), ad_off (by omega) (by omega), u1.2 i (by omega)]
        · intro i hi
          rw [hcl _ _ (by omega), ad_sz hsz] at hi
          rw [hcl _ _ (by omega), ad_val hsz r2]
          by_cases h8 : (i : Int) = σ (11 + 2 * t) 1
          · rw [if_pos h8]; exact k2
          · rw [if_neg h8]; exact u2 i (by omega)
      · refine ⟨⟨?_, ?_⟩, ?_⟩
        · rw [hcl _ _ (by omega), ad_off (by omega) (by omega), up_k h9, up_a (by decide), up_a (by decide), q0 _ _ _ (by decide) (by omega)]; exact u1.1
        · intro i hi
          rw [up_k h9, up_a (show ¬ 723 = 722 by decide), up_a (show ¬ 723 = 682 by decide), q0 _ _ _ (by decide) (by omega)] at hi
          rw [hcl _ _ (by omega), ad_off (by omega) (by omega), u1.2 i hi, up_a (show ¬ 722 = 723 by decide), up_k (by omega), up_a (show ¬ 722 = 682 by decide), q0 _ _ _ (by decide) (by omega)]
        · intro i hi
          rw [hcl _ _ (by omega), ad_off (by omega) (by omega)] at hi ⊢
          exact u2 i hi
    · rw [hcl _ _ (by omega)]
      have := (rel_b H (t := (t : Int)) (by omega)).2
      rw [show ((t : Int)).toNat = t by omega] at this
      by_cases h9 : t = a1.toNat
      · rw [h9, ad_sz hsz]; rw [h9] at this; omega
      · rw [ad_off (by omega) (by omega)]; exact this
  · have hF : Dd 219 [vA 0, vI a1, vI a2] σ (rX 2 σ) := by
      refine b219 (Or.inl ⟨_, _, d228_ok k1, hr, Or.inl ⟨_, d234_ok k2, _, _, d146 hr, ?_⟩⟩)
      rw [if_pos (by omega)]
    have hB : Dd 378 [vA 682, vI a1, vI a2] σ (rI 0 (upS σ 682 0 3)) := by
      refine b378 ⟨_, _, d377_ok k1, ?_⟩
      rw [if_neg (show ¬ (1 : Int) = 0 by decide)]
      refine ⟨_, _, d246, fun _ => k1, ?_⟩
      rw [if_pos (show 0 ≤ a2 ∧ a2 < 256 by omega), if_neg (show ¬ (1 : Int) = 0 by decide), ← r1, if_pos (show σ (11 + 2 * a1.toNat) 1 = 40 by omega)]
      refine b378_44 ⟨_, _, d245, ?_⟩
      rw [if_neg (show ¬ (3 : Int) = 0 by decide), if_pos rfl]
    exact op_x H (by decide) (b435 (Or.inr (Or.inr (Or.inr ⟨_, hF, rfl⟩)))) hB
theorem o48 {σ : Sg} {c a1 : Int} (H : Rel c σ) : OpR 436 379 [vA 0, vI a1, vA 726] [vA 682, vI a1] σ (c + 1) := by
  by_cases g1 : a1 < 0
  · exact x48_0 H g1
  by_cases g2 : 4 ≤ a1
  · exact x48_1 H g2
  have k1 : 0 ≤ a1 ∧ a1 < 4 := by omega
  obtain ⟨r1, r2, r3⟩ := rel_b H k1
  have hr := (el_10 k1).2
  have hF : Dd 220 [vA 0, vI a1] σ (rI (σ (11 + 2 * a1.toNat) 1) (upS σ (11 + 2 * a1.toNat) 1 0)) := b220 (Or.inl ⟨_, _, d228_ok k1, hr, _, _, d146 hr, _, b152 hr rfl, rfl⟩)
  have hA := b436 (Or.inl ⟨_, _, hF, rfl⟩)
  have q0 : ∀ (v : Int) c k, ¬ c = 726 → ¬ (11 ≤ c ∧ c ≤ 18) → upS (upS σ (11 + 2 * a1.toNat) 1 0) 726 0 v c k = σ c k := fun v c k h1 h2 => by rw [up_a h1, up_a (by omega)]
  have hB : Dd 379 [vA 682, vI a1] (upS (upS σ (11 + 2 * a1.toNat) 1 0) 726 0 (σ (11 + 2 * a1.toNat) 1)) (rI (σ (11 + 2 * a1.toNat) 1) (upS (upS (upS (upS σ (11 + 2 * a1.toNat) 1 0) 726 0 (σ (11 + 2 * a1.toNat) 1)) 682 0 0) 723 a1.toNat 0)) := by
    refine b379 ⟨_, _, d377_ok k1, ?_⟩
    rw [if_neg (show ¬ (1 : Int) = 0 by decide)]
    refine b379_13 ⟨_, _, d245, ?_⟩
    rw [if_pos rfl, if_neg (show ¬ (1 : Int) = 0 by decide), up_a (show ¬ 723 = 682 by decide), q0 _ _ _ (by decide) (by omega), r1]
    exact ⟨k1, k1, rfl⟩
  have hoff : ∀ c k, ¬ (c = 726 ∨ (c = 682 ∧ k = 0) ∨ (11 ≤ c ∧ c ≤ 18) ∨ c = 722 ∨ c = 723) → (upS (upS (upS (upS σ (11 + 2 * a1.toNat) 1 0) 726 0 (σ (11 + 2 * a1.toNat) 1)) 682 0 0) 723 a1.toNat 0) c k = σ c k := by
    intro c k hc
    rw [up_a (by omega)]
    by_cases h9 : c = 682
    · rw [up_k (by omega), q0 _ _ _ (by omega) (by omega)]
    · rw [up_a h9, q0 _ _ _ (by omega) (by omega)]
  have hcl : ∀ c k, 11 ≤ c ∧ c ≤ 18 → (upS (upS (upS (upS σ (11 + 2 * a1.toNat) 1 0) 726 0 (σ (11 + 2 * a1.toNat) 1)) 682 0 0) 723 a1.toNat 0) c k = upS σ (11 + 2 * a1.toNat) 1 0 c k := by
    intro c k hc
    rw [up_a (by omega), up_a (by omega), up_a (by omega)]
  refine ⟨_, _, _, _, hA, hB, ?_, fun _ => ?_, fun i => ?_, ?_, fun i => hoff _ _ (by unfold SCR; omega), hoff _ _ (by unfold SCR; omega), Rel_B (by omega) hoff ?_ (fun t ht => ?_) H⟩
  · rw [up_a (by decide), up_s]
  · rw [up_a (by decide), up_a (by decide), up_s]
  · rw [scr_a (by decide), up_a (SCR_ne (by omega))]
  · rw [scr_b (by decide), up_a (SCR1_ne (by omega))]
  · intro t ht
    obtain ⟨u1, u2⟩ := H.2.2.2.1 t ht
    by_cases h9 : t = a1.toNat
    · rw [← h9] at hcl ⊢
      refine ⟨⟨?_, fun i hi => ?_⟩, fun i hi => ?_⟩
      · rw [hcl _ _ (by omega), up_s, up_s]
      · rw [up_s] at hi; omega
      · rw [hcl _ _ (by omega), up_s] at hi; omega
    · refine ⟨⟨?_, ?_⟩, ?_⟩
      · rw [hcl _ _ (by omega), up_a (by omega), up_k h9, up_a (by decide), q0 _ _ _ (by decide) (by omega)]; exact u1.1
      · intro i hi
        rw [up_k h9, up_a (show ¬ 723 = 682 by decide), q0 _ _ _ (by decide) (by omega)] at hi
        rw [hcl _ _ (by omega), up_a (by omega), u1.2 i hi, up_a (show ¬ 722 = 723 by decide), up_a (show ¬ 722 = 682 by decide), q0 _ _ _ (by decide) (by omega)]
      · intro i hi
        rw [hcl _ _ (by omega), up_a (by omega)] at hi
        rw [hcl _ _ (by omega), up_a (by omega)]
        exact u2 i hi
  · rw [hcl _ _ (by omega)]
    have := (rel_b H (t := (t : Int)) (by omega)).2
    rw [show ((t : Int)).toNat = t by omega] at this
    by_cases h9 : t = a1.toNat
    · rw [h9, up_s]; omega
    · rw [up_a (by omega)]; exact this
end
