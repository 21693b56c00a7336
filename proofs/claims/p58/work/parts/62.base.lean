/-! setBase. -/
noncomputable section
theorem p200 {σ : Sg} {c t : Int} (H : Rel c σ) (ht : 0 ≤ t ∧ t < 4) (h0 : σ 402 3 = 0) : Dd 200 [vA 0, vI t] σ (rI (σ (2 + 2 * t.toNat) 1) (bcS σ 403 (2 + 2 * t.toNat))) := by
  have hr := (el_1 ht).2
  refine b200 (Or.inl ⟨_, _, d227_ok ht, hr, ?_⟩)
  rw [if_neg (by omega)]
  have d1 := d146 (σ := bcS σ 403 (2 + 2 * t.toNat)) hr
  rw [bc_off (by omega) (by omega)] at d1
  exact ⟨_, d155 (by decide +kernel) (WF_w H.1 hr), _, _, d1, rfl⟩
theorem l343 {t : Nat} (ht : t < 4) {n : Nat} (hn : n ≤ 16) : ∀ (d i : Nat) (σ : Sg), σ 682 39 = ((n : Nat) : Int) → i + d = n → C343_44 t i σ (rI (n : Nat) (acS σ 710 0 683 (16 * t) i n)) := by
  intro d
  induction d with
  | zero =>
    intro i σ h1 h2
    refine b343_44 ?_
    rw [if_neg (by omega), show i = n by omega, acS_end, h1]
  | succ d ih =>
    intro i σ h1 h2
    refine b343_44 ?_
    rw [if_pos (by omega)]
    refine ⟨by omega, by omega, by omega, by omega, by omega, ?_⟩
    have e := ih (i + 1) (upS σ 710 (0 + i) (σ 683 (16 * t + i))) (by rw [up_a (by decide)]; exact h1) (by omega)
    rw [acS_step (by omega) (by decide)] at e
    rw [show ((i : Int)).toNat = 0 + i by omega, show ((16 * (t : Int)) + (i : Int)).toNat = 16 * t + i by omega, show (i : Int) + 1 = ((i + 1 : Nat) : Int) by omega]
    exact e
theorem p343 {σ : Sg} {t : Int} (ht : 0 ≤ t ∧ t < 4) (h0 : σ 682 40 = 0) {n : Nat} (hn : σ 684 t.toNat = (n : Nat)) (h16 : n ≤ 16) : Dd 343 [vA 682, vI t] σ (rI (n : Nat) (acS (upS (upS σ 682 0 0) 682 39 (n : Nat)) 710 0 683 (16 * t.toNat) 0 n)) := by
  refine b343 ⟨_, _, d247_ok ht, ?_⟩
  rw [if_neg (show ¬ (1 : Int) = 0 by decide), if_neg (show ¬ 0 < σ 682 40 by omega)]
  refine b343_24 ⟨_, _, d245, ?_⟩
  rw [if_pos rfl, if_neg (show ¬ (1 : Int) = 0 by decide), up_a (show ¬ 684 = 682 by decide), hn]
  have e := l343 (t := t.toNat) (by omega) h16 n 0 (upS (upS σ 682 0 0) 682 39 (n : Nat)) up_s (by omega)
  rw [show ((t.toNat : Nat) : Int) = t by omega] at e
  exact ⟨by omega, e⟩
theorem o28 {σ : Sg} {c a1 : Int} (H : Rel c σ) : OpR 417 343 [vA 0, vI a1, vA 726] [vA 682, vI a1] σ (c + 1) := by
  by_cases g1 : a1 < 0
  · exact x28_0 H g1
  by_cases g2 : 4 ≤ a1
  · exact x28_1 H g2
  have k1 : 0 ≤ a1 ∧ a1 < 4 := by omega
  have hn := (rel_n H).2.1
  have hr1 := (el_1 k1).2
  by_cases g3 : 0 < σ 402 3
  · have hA : Dd 200 [vA 0, vI a1] σ (rX 2 σ) := by
      refine b200 (Or.inl ⟨_, _, d227_ok k1, hr1, ?_⟩)
      rw [if_pos g3]
    have hB : Dd 343 [vA 682, vI a1] σ (rI 0 (upS σ 682 0 2)) := by
      refine b343 ⟨_, _, d247_ok k1, ?_⟩
      rw [if_neg (show ¬ (1 : Int) = 0 by decide), if_pos (show 0 < σ 682 40 by omega)]
      refine b343_24 ⟨_, _, d245, ?_⟩
      rw [if_neg (show ¬ (2 : Int) = 0 by decide), if_pos rfl]
    exact op_x H (by decide) (b417 (Or.inr (Or.inr ⟨_, hA, rfl⟩))) hB
  have g0 : σ 402 3 = 0 := by omega
  obtain ⟨r1, r2, r3⟩ := rel_t H k1
  obtain ⟨n, hn1⟩ := Int.eq_ofNat_of_zero_le r2
  have hA := b417 (Or.inl ⟨_, _, p200 H k1 g0, rfl⟩)
  have hcp : σ (2 + 2 * a1.toNat) 1 ≤ (cap 403 : Int) := by
    have : cap 403 = 16 := by decide +kernel
    omega
  have q0 : ∀ c k, ¬ c = 403 → ¬ c = 404 → ¬ c = 726 → upS (bcS σ 403 (2 + 2 * a1.toNat)) 726 0 (σ (2 + 2 * a1.toNat) 1) c k = σ c k := fun c k h1 h2 h3 => by rw [up_a h3, bc_off h1 h2]
  have hB := p343 (σ := upS (bcS σ 403 (2 + 2 * a1.toNat)) 726 0 (σ (2 + 2 * a1.toNat) 1)) k1 (by rw [q0 _ _ (by decide) (by decide) (by decide)]; omega) (n := n) (by rw [q0 _ _ (by decide) (by decide) (by decide)]; omega) (by omega)
  have hoff : ∀ c k, ¬ (c = 403 ∨ c = 404 ∨ c = 710 ∨ c = 726 ∨ (c = 682 ∧ (k = 0 ∨ k = 39))) → (acS (upS (upS (upS (bcS σ 403 (2 + 2 * a1.toNat)) 726 0 (σ (2 + 2 * a1.toNat) 1)) 682 0 0) 682 39 (n : Nat)) 710 0 683 (16 * a1.toNat) 0 n) c k = σ c k := by
    intro c k h
    rw [acS_off (by omega)]
    by_cases h9 : c = 682
    · rw [up_k (by omega), up_k (by omega), q0 _ _ (by omega) (by omega) (by omega)]
    · rw [up_a h9, up_a h9, q0 _ _ (by omega) (by omega) (by omega)]
  have hcl : ∀ c k, c < 682 → (acS (upS (upS (upS (bcS σ 403 (2 + 2 * a1.toNat)) 726 0 (σ (2 + 2 * a1.toNat) 1)) 682 0 0) 682 39 (n : Nat)) 710 0 683 (16 * a1.toNat) 0 n) c k = bcS σ 403 (2 + 2 * a1.toNat) c k := by
    intro c k h
    rw [acS_off (by omega), up_a (by omega), up_a (by omega), up_a (by omega)]
  have e39 : (acS (upS (upS (upS (bcS σ 403 (2 + 2 * a1.toNat)) 726 0 (σ (2 + 2 * a1.toNat) 1)) 682 0 0) 682 39 (n : Nat)) 710 0 683 (16 * a1.toNat) 0 n) 682 39 = (n : Nat) := by rw [acS_off (by decide), up_s]
  have e0 : (acS (upS (upS (upS (bcS σ 403 (2 + 2 * a1.toNat)) 726 0 (σ (2 + 2 * a1.toNat) 1)) 682 0 0) 682 39 (n : Nat)) 710 0 683 (16 * a1.toNat) 0 n) 682 0 = 0 := by rw [acS_off (by decide), up_k (by decide), up_s]
  have e726 : (acS (upS (upS (upS (bcS σ 403 (2 + 2 * a1.toNat)) 726 0 (σ (2 + 2 * a1.toNat) 1)) 682 0 0) 682 39 (n : Nat)) 710 0 683 (16 * a1.toNat) 0 n) 726 0 = (n : Nat) := by
    rw [acS_off (by decide), up_a (by decide), up_a (by decide), up_s, hn1]
  have e710 : ∀ i : Nat, i < n → (acS (upS (upS (upS (bcS σ 403 (2 + 2 * a1.toNat)) 726 0 (σ (2 + 2 * a1.toNat) 1)) 682 0 0) 682 39 (n : Nat)) 710 0 683 (16 * a1.toNat) 0 n) 710 (0 + i) = σ 683 (16 * a1.toNat + i) := by
    intro i hi
    rw [acS_val hi, up_a (by decide), up_a (by decide), q0 _ _ (by decide) (by decide) (by decide)]
  generalize (acS (upS (upS (upS (bcS σ 403 (2 + 2 * a1.toNat)) 726 0 (σ (2 + 2 * a1.toNat) 1)) 682 0 0) 682 39 (n : Nat)) 710 0 683 (16 * a1.toNat) 0 n) = s at hB hoff hcl e39 e0 e726 e710
  refine op_fin hA hB e0 (fun _ => e726) (fun a k ha => q0 _ _ (by omega) (by omega) (by omega)) (fun a k ha => hoff _ _ (by omega)) ?_
  obtain ⟨h1, h2, h3, h4, h5, h6, h7, h8, h9⟩ := H
  have w1 := (h3 a1.toNat (by omega)).1
  have w2 := (h3 a1.toNat (by omega)).2
  obtain ⟨u1, u2, u3, u4, u5, u6, u7, u8, u9, u10, u11⟩ := h6
  refine ⟨?_, Zl_fr (fun k => hoff _ _ (by omega)) h2, RT_fr (fun c k hc => hoff _ _ (by omega)) h3, RB_fr (fun c k hc => hoff _ _ (by omega)) h4, RP_fr (fun c k hc => hoff _ _ (by omega)) h5, ?_, RU_fr (fun c k hc => hoff _ _ (by omega)) h7, RF_fr (fun c k hc => hoff _ _ (by omega)) h8, RD_fr (fun c k hc => hoff _ _ (by omega)) h9⟩
  · refine WF_row (r := 403) (fun a ha hne => ?_) ?_ h1
    · have hl := row_lt ha
      have hnx : ¬ a = 404 := by intro e; subst e; exact absurd ha (by decide +kernel)
      rw [hoff _ _ (by omega)]
    · rw [hcl _ _ (by decide), bc_sz hcp]
      have : cap 403 = 16 := by decide +kernel
      omega
  · have f3 : s 402 3 = σ 402 3 := hoff _ _ (by decide)
    have f4 : s 402 4 = σ 402 4 := hoff _ _ (by decide)
    have f40 : s 682 40 = σ 682 40 := hoff _ _ (by decide)
    have f41 : s 682 41 = σ 682 41 := hoff _ _ (by decide)
    refine ⟨by omega, by omega, by omega, by omega, by omega, by omega, rowEq_fr (hoff _ _ (by decide)) (fun i => hoff _ _ (by omega)) (fun i => hoff _ _ (by omega)) f3 u7, fun k hk => ?_, ⟨?_, fun i hi => ?_⟩, fun i hi => ?_, fun k hk => ?_⟩
    · rw [f3] at hk; omega
    · rw [hcl _ _ (by decide), bc_sz hcp, e39, hn1]
    · rw [e39] at hi
      rw [e710 i (by omega), hcl _ _ (by decide), bc_val hcp (by omega) (by omega)]
      exact w1.2 i (by omega)
    · rw [hcl _ _ (by decide), bc_sz hcp] at hi
      rw [hcl _ _ (by decide), bc_val hcp (by omega) hi]
      exact w2 i hi
    · rw [f3] at hk; omega
end
