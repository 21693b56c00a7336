/-! copy, top, setBase. -/
noncomputable section
theorem bc_sz {σ : Sg} {a b : Nat} (h : σ b 1 ≤ (cap a : Int)) : bcS σ a b a 1 = σ b 1 := by
  unfold bcS cpS
  rw [if_neg (by omega), up_s, if_neg (by omega)]
theorem bc_off {σ : Sg} {a b c k : Nat} (h : ¬ c = a) (h2 : ¬ c = a + 1) : bcS σ a b c k = σ c k := by
  unfold bcS cpS
  rw [if_neg (fun e => h2 e.1), up_a h]
theorem bc_val {σ : Sg} {a b k : Nat} (h : σ b 1 ≤ (cap a : Int)) (hne : ¬ b + 1 = a) (hk : (k : Int) < σ b 1) : bcS σ a b (a + 1) k = σ (b + 1) k := by
  unfold bcS cpS
  rw [if_neg (show ¬ (cap a : Int) < σ b 1 by omega), up_s, if_pos ⟨rfl, by omega, hk⟩, up_a hne]
def ccS (σ : Sg) (t u i : Nat) : Sg := fun c k => if c = 683 ∧ 16 * u + i ≤ k ∧ (k : Int) < 16 * u + σ 684 t then σ 683 (16 * t + (k - 16 * u)) else σ c k
theorem l259 {t u : Nat} (ht : t < 4) (hu : u < 4) : ∀ (d i : Nat) (σ : Sg), σ 684 t = ((i + d : Nat) : Int) → i + d ≤ 16 → C259_30 t u i σ (rI (σ 684 t) (upS (ccS σ t u i) 684 u (σ 684 t))) := by
  intro d
  induction d with
  | zero =>
    intro i σ h1 h2
    have t1 : ((t : Int)).toNat = t := by omega
    have t2 : ((u : Int)).toNat = u := by omega
    refine b259_30 ⟨by omega, ?_⟩
    rw [t1, t2, if_neg (by omega)]
    refine ⟨by omega, by omega, by omega, ?_⟩
    have e : ccS σ t u i = σ := by
      funext c k
      unfold ccS
      rw [if_neg (by omega)]
    rw [e]
    by_cases htu : t = u
    · rw [htu, up_s]
    · rw [up_k htu]
  | succ d ih =>
    intro i σ h1 h2
    have t1 : ((t : Int)).toNat = t := by omega
    have t3 : ((16 * (t : Int)) + (i : Int)).toNat = 16 * t + i := by omega
    have t4 : ((16 * (u : Int)) + (i : Int)).toNat = 16 * u + i := by omega
    refine b259_30 ⟨by omega, ?_⟩
    rw [t1, if_pos (by omega), t3, t4]
    refine ⟨by omega, by omega, by omega, by omega, by omega, by omega, by omega, ?_⟩
    have e := ih (i + 1) (upS σ 683 (16 * u + i) (σ 683 (16 * t + i))) (by rw [up_a (by decide)]; omega) (by omega)
    rw [up_a (show ¬ 684 = 683 by decide)] at e
    have e2 : ccS (upS σ 683 (16 * u + i) (σ 683 (16 * t + i))) t u (i + 1) = ccS σ t u i := by
      funext c k
      unfold ccS
      rw [up_a (show ¬ 684 = 683 by decide)]
      by_cases hc1 : c = 683
      · subst hc1
        by_cases hk : k = 16 * u + i
        · rw [if_neg (by omega), if_pos (by omega), hk, up_s]
          congr 1
          omega
        · by_cases hk2 : 16 * u + i ≤ k ∧ (k : Int) < 16 * u + σ 684 t
          · rw [if_pos (by omega), if_pos ⟨rfl, hk2⟩, up_k (by omega)]
          · rw [if_neg (by omega), if_neg (fun e => hk2 e.2), up_k hk]
      · rw [if_neg (fun e => hc1 e.1), if_neg (fun e => hc1 e.1), up_a hc1]
    rw [e2, show (((i + 1 : Nat)) : Int) = (i : Int) + 1 by omega] at e
    exact e
theorem o2 {σ : Sg} {c a1 a2 : Int} (H : Rel c σ) : OpR 392 259 [vA 0, vI a1, vI a2, vA 726] [vA 682, vI a1, vI a2] σ (c + 1) := by
  by_cases g1 : a1 < 0
  · exact x2_0 H g1
  by_cases g2 : 4 ≤ a1
  · exact x2_1 H g2
  have k1 : 0 ≤ a1 ∧ a1 < 4 := by omega
  by_cases g3 : a2 < 0
  · exact x2_2 H k1 g3
  by_cases g4 : 4 ≤ a2
  · exact x2_3 H k1 g4
  have k2 : 0 ≤ a2 ∧ a2 < 4 := by omega
  obtain ⟨r1, r2, r3⟩ := rel_t H k1
  have hr1 := (el_1 k1).2
  have hr2 := (el_1 k2).2
  have cc := cp_1 k2
  have hcp : σ (2 + 2 * a1.toNat) 1 ≤ (cap (2 + 2 * a2.toNat) : Int) := by omega
  have d1 := d146 (σ := bcS σ (2 + 2 * a2.toNat) (2 + 2 * a1.toNat)) hr2
  rw [bc_sz hcp] at d1
  have hF : Dd 174 [vA 0, vI a1, vI a2] σ (rI (σ (2 + 2 * a1.toNat) 1) (bcS σ (2 + 2 * a2.toNat) (2 + 2 * a1.toNat))) := b174 (Or.inl ⟨_, _, d227_ok k1, hr1, Or.inl ⟨_, _, d227_ok k2, hr2, _, d155 hr2 (WF_w H.1 hr1), _, _, d1, rfl⟩⟩)
  have hA := b392 (Or.inl ⟨_, _, hF, rfl⟩)
  have q0 : ∀ (v : Int) c k, ¬ c = 726 → ¬ (2 ≤ c ∧ c ≤ 9) → upS (bcS σ (2 + 2 * a2.toNat) (2 + 2 * a1.toNat)) 726 0 v c k = σ c k := fun v c k h1 h2 => by rw [up_a h1, bc_off (by omega) (by omega)]
  have hB : Dd 259 [vA 682, vI a1, vI a2] (upS (bcS σ (2 + 2 * a2.toNat) (2 + 2 * a1.toNat)) 726 0 (σ (2 + 2 * a1.toNat) 1)) (rI (σ (2 + 2 * a1.toNat) 1) (upS (ccS (upS (upS (bcS σ (2 + 2 * a2.toNat) (2 + 2 * a1.toNat)) 726 0 (σ (2 + 2 * a1.toNat) 1)) 682 0 0) a1.toNat a2.toNat 0) 684 a2.toNat (σ (2 + 2 * a1.toNat) 1))) := by
    refine b259 ⟨_, _, d247_ok k1, ?_⟩
    rw [if_neg (show ¬ (1 : Int) = 0 by decide)]
    refine ⟨_, _, d247_ok k2, ?_⟩
    rw [if_neg (show ¬ (1 : Int) = 0 by decide)]
    refine b259_20 ⟨_, _, d245, ?_⟩
    rw [if_pos rfl, if_neg (show ¬ (1 : Int) = 0 by decide)]
    obtain ⟨sn, hsn⟩ := Int.eq_ofNat_of_zero_le r2
    have e := l259 (t := a1.toNat) (u := a2.toNat) (by omega) (by omega) sn 0 (upS (upS (bcS σ (2 + 2 * a2.toNat) (2 + 2 * a1.toNat)) 726 0 (σ (2 + 2 * a1.toNat) 1)) 682 0 0) (by rw [up_a (by decide), q0 _ _ _ (by decide) (by omega)]; omega) (by omega)
    rw [up_a (show ¬ 684 = 682 by decide), q0 _ _ _ (by decide) (by omega), ← r1, show ((a1.toNat : Nat) : Int) = a1 by omega, show ((a2.toNat : Nat) : Int) = a2 by omega] at e
    exact e
  have hm : ∀ c k, c = 683 ∨ c = 684 → upS (upS (bcS σ (2 + 2 * a2.toNat) (2 + 2 * a1.toNat)) 726 0 (σ (2 + 2 * a1.toNat) 1)) 682 0 0 c k = σ c k := fun c k hc => by rw [up_a (by omega), q0 _ _ _ (by omega) (by omega)]
  have hoff : ∀ c k, ¬ (c = 726 ∨ (c = 682 ∧ k = 0) ∨ (2 ≤ c ∧ c ≤ 9) ∨ c = 683 ∨ c = 684) → (upS (ccS (upS (upS (bcS σ (2 + 2 * a2.toNat) (2 + 2 * a1.toNat)) 726 0 (σ (2 + 2 * a1.toNat) 1)) 682 0 0) a1.toNat a2.toNat 0) 684 a2.toNat (σ (2 + 2 * a1.toNat) 1)) c k = σ c k := by
    intro c k hc
    rw [up_a (by omega)]
    unfold ccS
    rw [if_neg (by omega)]
    by_cases h9 : c = 682
    · rw [up_k (by omega), q0 _ _ _ (by omega) (by omega)]
    · rw [up_a h9, q0 _ _ _ (by omega) (by omega)]
  have hcl : ∀ c k, 2 ≤ c ∧ c ≤ 9 → (upS (ccS (upS (upS (bcS σ (2 + 2 * a2.toNat) (2 + 2 * a1.toNat)) 726 0 (σ (2 + 2 * a1.toNat) 1)) 682 0 0) a1.toNat a2.toNat 0) 684 a2.toNat (σ (2 + 2 * a1.toNat) 1)) c k = bcS σ (2 + 2 * a2.toNat) (2 + 2 * a1.toNat) c k := by
    intro c k hc
    rw [up_a (by omega)]
    unfold ccS
    rw [if_neg (by omega), up_a (by omega), up_a (by omega)]
  obtain ⟨w1, w2⟩ := H.2.2.1 a1.toNat (by omega)
  refine ⟨_, _, _, _, hA, hB, ?_, fun _ => ?_, fun i => ?_, ?_, fun i => hoff _ _ (by unfold SCR; omega), hoff _ _ (by unfold SCR; omega), Rel_T (by omega) hoff ?_ (fun t ht => ?_) H⟩
  · rw [up_a (by decide)]
    unfold ccS
    rw [if_neg (by omega), up_s]
  · rw [up_a (by decide)]
    unfold ccS
    rw [if_neg (by omega), up_a (by decide), up_s]
  · rw [scr_a (by decide), bc_off (SCR_ne (by omega)) (SCR_ne (by omega))]
  · rw [scr_b (by decide), bc_off (SCR1_ne (by omega)) (SCR1_ne (by omega))]
  · intro t ht
    obtain ⟨u1, u2⟩ := H.2.2.1 t ht
    have b9 := (rel_t H (t := (t : Int)) (by omega)).2
    rw [show ((t : Int)).toNat = t by omega] at b9
    have u11 := u1.1
    by_cases h9 : t = a2.toNat
    · rw [← h9] at hcl hcp hm ⊢
      refine ⟨⟨?_, ?_⟩, ?_⟩
      · rw [hcl _ _ (by omega), bc_sz hcp, up_s]
      · intro i hi
        rw [up_s] at hi
        rw [hcl _ _ (by omega), bc_val hcp (by omega) hi, up_a (show ¬ 683 = 684 by decide)]
        unfold ccS
        rw [hm 684 _ (Or.inr rfl), ← r1, if_pos (by omega), hm 683 _ (Or.inl rfl), w1.2 i (by omega)]
        congr 1
        omega
      · intro i hi
        rw [hcl _ _ (by omega), bc_sz hcp] at hi
        rw [hcl _ _ (by omega), bc_val hcp (by omega) hi]
        exact w2 i hi
    · have m4 : (upS (ccS (upS (upS (bcS σ (2 + 2 * a2.toNat) (2 + 2 * a1.toNat)) 726 0 (σ (2 + 2 * a1.toNat) 1)) 682 0 0) a1.toNat a2.toNat 0) 684 a2.toNat (σ (2 + 2 * a1.toNat) 1)) 684 t = σ 684 t := by
        rw [up_k h9]
        unfold ccS
        rw [if_neg (by omega), hm _ _ (Or.inr rfl)]
      refine ⟨⟨?_, ?_⟩, ?_⟩
      · rw [hcl _ _ (by omega), bc_off (by omega) (by omega), m4]; exact u1.1
      · intro i hi
        rw [m4] at hi
        rw [hcl _ _ (by omega), bc_off (by omega) (by omega), u1.2 i hi, up_a (show ¬ 683 = 684 by decide)]
        unfold ccS
        rw [hm 684 _ (Or.inr rfl), ← r1, if_neg (by omega), hm 683 _ (Or.inl rfl)]
      · intro i hi
        rw [hcl _ _ (by omega), bc_off (by omega) (by omega)] at hi ⊢
        exact u2 i hi
  · rw [hcl _ _ (by omega)]
    have := (rel_t H (t := (t : Int)) (by omega)).2
    rw [show ((t : Int)).toNat = t by omega] at this
    by_cases h9 : t = a2.toNat
    · rw [h9, bc_sz hcp]; exact ⟨r2, r3⟩
    · rw [bc_off (by omega) (by omega)]; exact this
theorem o38 {σ : Sg} {c a1 : Int} (H : Rel c σ) : OpR 426 355 [vA 0, vI a1, vA 726] [vA 682, vI a1] σ (c + 1) := by
  by_cases g1 : a1 < 0
  · exact x38_0 H g1
  have hF : Dd 210 [vA 0, vI a1] σ (rI (atS σ (blw (σ 402 3).toNat) a1) σ) := b210 (Or.inl ⟨_, b233 (by rw [if_neg (by omega)]), _, _, d127 H, blw_row H, _, _, d147 (WF_w H.1 (blw_row H)), rfl⟩)
  have hA := b426 (Or.inl ⟨_, _, hF, rfl⟩)
  generalize hv : atS σ (blw (σ 402 3).toNat) a1 = v at hA
  have H2 : Rel c (upS (upS σ 726 0 v) 682 0 0) := Rel_0 (Int.le_refl c) (fun c k hc => by unfold upS; rw [if_neg (by omega), if_neg (by omega)]) H
  have hb : blw (σ 402 3).toNat = 403 ∨ (409 ≤ blw (σ 402 3).toNat ∧ blw (σ 402 3).toNat ≤ 461) := by
    have := (rel_n H).2.1
    unfold blw
    split
    · exact Or.inl rfl
    · right; omega
  have e402 : upS (upS σ 726 0 v) 682 0 0 402 3 = σ 402 3 := by rw [up_a (by decide), up_a (by decide)]
  refine op_q2 H hA (v2 := v) (b355 ?_) rfl
  rw [if_pos (show 0 ≤ a1 by omega)]
  have dT := d341 H2
  rw [e402, up_a (show ¬ blw (σ 402 3).toNat = 682 by omega), up_a (show ¬ blw (σ 402 3).toNat = 726 by omega)] at dT
  refine b355_10 ⟨_, _, d245, ?_⟩
  rw [if_pos rfl, if_neg (show ¬ (1 : Int) = 0 by decide)]
  refine ⟨_, _, dT, ?_⟩
  by_cases h9 : a1 < σ (blw (σ 402 3).toNat) 1
  · rw [if_pos h9]
    have dL := d342 H2 (i := a1) (by rw [e402, up_a (show ¬ blw (σ 402 3).toNat = 682 by omega), up_a (show ¬ blw (σ 402 3).toNat = 726 by omega)]; exact ⟨by omega, h9⟩)
    rw [e402, up_a (show ¬ blw (σ 402 3).toNat + 1 = 682 by omega), up_a (show ¬ blw (σ 402 3).toNat + 1 = 726 by omega)] at dL
    refine ⟨_, _, dL, ?_⟩
    rw [← hv]
    unfold atS
    rw [if_pos ⟨by omega, h9⟩]
  · rw [if_neg h9, ← hv]
    unfold atS
    rw [if_neg (fun e => h9 e.2)]
end
