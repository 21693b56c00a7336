/-! cut, copy, addByte, clear. -/
noncomputable section
theorem l151 {a : Nat} (ha : isRow a = true) {d1 : Option AV} : ∀ (d i : Nat) (σ : Sg), σ a 1 = ((i + 1 + d : Nat) : Int) → σ a 1 ≤ (cap a : Int) → C151_15 a d1 i σ (rV (rmS1 σ a i)) := by
  have hc := cap_le ha
  intro d
  induction d with
  | zero =>
    intro i σ h1 h2
    refine b151_15 ha ⟨by omega, ?_⟩
    rw [if_neg (by omega)]
    refine ⟨by omega, ?_⟩
    congr 1
    funext c k
    unfold rmS1 upS
    by_cases hc1 : c = a + 1
    · subst hc1
      rw [if_pos rfl, if_neg (show ¬ ((i : Int) ≤ (k : Int) ∧ (k : Int) + 1 < σ a 1) by omega), if_neg (by omega)]
    · rw [if_neg hc1]
  | succ d ih =>
    intro i σ h1 h2
    refine b151_15 ha ⟨by omega, ?_⟩
    rw [if_pos (by omega)]
    have t1 : ((i : Int)).toNat = i := by omega
    have t2 : ((i : Int) + 1).toNat = i + 1 := by omega
    rw [t1, t2]
    refine ⟨by omega, by omega, by omega, by omega, ?_⟩
    have e0 : (upS σ (a + 1) i (σ (a + 1) (i + 1))) a 1 = σ a 1 := up_a (by omega)
    have e := ih (i + 1) (upS σ (a + 1) i (σ (a + 1) (i + 1))) (by rw [e0]; omega) (by rw [e0]; exact h2)
    have e2 : rmS1 (upS σ (a + 1) i (σ (a + 1) (i + 1))) a ((i + 1 : Nat) : Int) = rmS1 σ a i := by
      funext c k
      unfold rmS1
      rw [e0]
      by_cases hc1 : c = a + 1
      · subst hc1
        rw [if_pos rfl, if_pos rfl]
        by_cases hk : k = i
        · subst hk
          rw [if_neg (by omega), if_pos (by omega), up_s]
        · by_cases hk2 : (i : Int) ≤ (k : Int) ∧ (k : Int) + 1 < σ a 1
          · rw [if_pos (by omega), if_pos hk2, up_k (by omega)]
          · rw [if_neg (by omega), if_neg hk2, up_k hk]
      · rw [if_neg hc1, if_neg hc1]
        by_cases hc2 : c = a ∧ k = 1
        · rw [if_pos hc2, if_pos hc2]
        · rw [if_neg hc2, if_neg hc2, up_a hc1]
    rw [e2, show (((i + 1 : Nat)) : Int) = (i : Int) + 1 by omega] at e
    exact e
theorem d151 {σ : Sg} {a : Nat} {p : Int} (h : wR σ a) (hp : 0 ≤ p ∧ p < σ a 1) : Dd 151 [vA a, vI p] σ (rV (rmS1 σ a p)) := by
  refine b151 h.1 ?_
  rw [if_pos hp.1, if_neg (by omega)]
  obtain ⟨pn, rfl⟩ := Int.eq_ofNat_of_zero_le hp.1
  obtain ⟨sn, hs⟩ := Int.eq_ofNat_of_zero_le h.2.1
  exact l151 h.1 (sn - 1 - pn) pn σ (by omega) h.2.2
theorem rm_sz {σ : Sg} {a : Nat} {p : Int} : rmS1 σ a p a 1 = σ a 1 - 1 := by
  unfold rmS1
  rw [if_neg (by omega), if_pos ⟨rfl, rfl⟩]
theorem rm_off {σ : Sg} {a c k : Nat} {p : Int} (h : ¬ c = a) (h2 : ¬ c = a + 1) : rmS1 σ a p c k = σ c k := by
  unfold rmS1
  rw [if_neg h2, if_neg (fun e => h e.1)]
theorem rm_val {σ : Sg} {a k : Nat} {p : Int} : rmS1 σ a p (a + 1) k = if p ≤ (k : Int) ∧ (k : Int) + 1 < σ a 1 then σ (a + 1) (k + 1) else σ (a + 1) k := by
  unfold rmS1
  rw [if_pos rfl]
theorem p173 {σ : Sg} {c t p : Int} (H : Rel c σ) (ht : 0 ≤ t ∧ t < 4) (hp : 0 ≤ p ∧ p < σ (2 + 2 * t.toNat) 1) : Dd 173 [vA 0, vI t, vI p] σ (rI (σ (2 + 2 * t.toNat + 1) p.toNat) (rmS1 σ (2 + 2 * t.toNat) p)) := by
  have hr := (el_1 ht).2
  have w := WF_w H.1 hr
  have d := d147 (i := p) w
  have ha : atS σ (2 + 2 * t.toNat) p = σ (2 + 2 * t.toNat + 1) p.toNat := by
    unfold atS
    rw [if_pos hp]
  rw [ha] at d
  exact b173 (Or.inl ⟨_, _, d227_ok ht, hr, _, _, d146 hr, Or.inl ⟨_, d232_ok hp, _, _, d, _, d151 w hp, rfl⟩⟩)
def cmS (σ : Sg) (t i : Nat) : Sg := fun c k => if c = 683 ∧ 16 * t + i ≤ k ∧ (k : Int) < 16 * t + σ 684 t then σ c (k + 1) else σ c k
theorem l258 {t : Nat} {d2 : Option AV} {v : Int} (ht : t < 4) : ∀ (d i : Nat) (σ : Sg), σ 684 t = ((i + d : Nat) : Int) → i + d < 16 → C258_36 t d2 v i σ (rI v (cmS σ t i)) := by
  intro d
  induction d with
  | zero =>
    intro i σ h1 h2
    have t2 : ((t : Int)).toNat = t := by omega
    refine b258_36 ⟨by omega, ?_⟩
    rw [t2, if_neg (by omega)]
    congr 1
    funext c k
    unfold cmS
    rw [if_neg (by omega)]
  | succ d ih =>
    intro i σ h1 h2
    have t2 : ((t : Int)).toNat = t := by omega
    have t1 : ((16 * (t : Int)) + (i : Int)).toNat = 16 * t + i := by omega
    have t3 : (((16 * (t : Int)) + (i : Int)) + 1).toNat = 16 * t + (i + 1) := by omega
    refine b258_36 ⟨by omega, ?_⟩
    rw [t2, if_pos (by omega), t1, t3]
    refine ⟨by omega, by omega, by omega, by omega, by omega, by omega, by omega, by omega, ?_⟩
    have e := ih (i + 1) (upS σ 683 (16 * t + i) (σ 683 (16 * t + (i + 1)))) (by rw [up_a (by decide)]; omega) (by omega)
    have e2 : cmS (upS σ 683 (16 * t + i) (σ 683 (16 * t + (i + 1)))) t (i + 1) = cmS σ t i := by
      funext c k
      unfold cmS
      rw [up_a (show ¬ 684 = 683 by decide)]
      by_cases hc1 : c = 683
      · subst hc1
        by_cases hk : k = 16 * t + i
        · rw [if_neg (by omega), if_pos (by omega), hk, up_s]
          congr 1
        · by_cases hk2 : 16 * t + i ≤ k ∧ (k : Int) < 16 * t + σ 684 t
          · rw [if_pos (by omega), if_pos ⟨rfl, hk2⟩, up_k (by omega)]
          · rw [if_neg (by omega), if_neg (fun e => hk2 e.2), up_k hk]
      · rw [if_neg (fun e => hc1 e.1), if_neg (fun e => hc1 e.1), up_a hc1]
    rw [e2, show (((i + 1 : Nat)) : Int) = (i : Int) + 1 by omega] at e
    exact e
theorem d257_ok {σ : Sg} {t p : Int} (ht : 0 ≤ t ∧ t < 4) (hp : 0 ≤ p ∧ p < σ 684 t.toNat) : Dd 257 [vA 682, vI t, vI p] σ (rI 1 (upS σ 682 0 0)) := by
  refine b257 ⟨_, _, d247_ok ht, ?_⟩
  rw [if_neg (by decide)]
  refine ⟨ht, _, _, d246, ?_⟩
  rw [if_pos hp, if_neg (show ¬ (1 : Int) = 0 by decide)]
  refine b257_26 ⟨_, _, d245, ?_, ?_⟩
  · rw [if_pos rfl]; exact Or.inr rfl
  · rw [if_pos rfl]
theorem p258 {σ : Sg} {t p : Int} (ht : 0 ≤ t ∧ t < 4) (hp : 0 ≤ p ∧ p < σ 684 t.toNat) (hs : σ 684 t.toNat ≤ 16) : Dd 258 [vA 682, vI t, vI p] σ (rI (σ 683 (16 * t.toNat + p.toNat)) (cmS (upS (upS σ 682 0 0) 684 t.toNat (σ 684 t.toNat - 1)) t.toNat p.toNat)) := by
  refine b258 ⟨_, _, d257_ok ht hp, ?_⟩
  rw [if_neg (by decide)]
  obtain ⟨tn, rfl⟩ := Int.eq_ofNat_of_zero_le ht.1
  obtain ⟨pn, rfl⟩ := Int.eq_ofNat_of_zero_le hp.1
  have t1 : ((16 * (tn : Int)) + (pn : Int)).toNat = 16 * tn + pn := by omega
  have t2 : ((tn : Int)).toNat = tn := by omega
  have t3 : ((pn : Int)).toNat = pn := by omega
  rw [t2] at hp hs
  rw [t1, t2, t3, up_a (show ¬ 684 = 682 by decide), up_a (show ¬ 683 = 682 by decide)]
  obtain ⟨sn, hsn⟩ := Int.eq_ofNat_of_zero_le (show 0 ≤ σ 684 tn by omega)
  refine ⟨by omega, by omega, by omega, by omega, by omega, by omega, ?_⟩
  exact l258 (by omega) (sn - 1 - pn) pn _ (by rw [up_s]; omega) (by omega)
theorem o1 {σ : Sg} {c a1 a2 : Int} (H : Rel c σ) : OpR 391 258 [vA 0, vI a1, vI a2, vA 726] [vA 682, vI a1, vI a2] σ (c + 1) := by
  by_cases g1 : a1 < 0
  · exact x1_0 H g1
  by_cases g2 : 4 ≤ a1
  · exact x1_1 H g2
  have k1 : 0 ≤ a1 ∧ a1 < 4 := by omega
  by_cases g3 : a2 < 0
  · exact x1_2 H k1 g3
  by_cases g4 : σ (2 + 2 * a1.toNat) 1 ≤ a2
  · exact x1_3 H k1 g4
  have k2 : 0 ≤ a2 ∧ a2 < σ (2 + 2 * a1.toNat) 1 := by omega
  obtain ⟨r1, r2, r3⟩ := rel_t H k1
  have hA := b391 (Or.inl ⟨_, _, p173 H k1 k2, rfl⟩)
  generalize hv : σ (2 + 2 * a1.toNat + 1) a2.toNat = v at hA
  have q0 : ∀ c k, ¬ c = 726 → ¬ (2 ≤ c ∧ c ≤ 9) → upS (rmS1 σ (2 + 2 * a1.toNat) a2) 726 0 v c k = σ c k := fun c k h1 h2 => by rw [up_a h1, rm_off (by omega) (by omega)]
  have hB := p258 (σ := upS (rmS1 σ (2 + 2 * a1.toNat) a2) 726 0 v) k1 (p := a2) (by rw [q0 _ _ (by decide) (by omega), ← r1]; exact k2) (by rw [q0 _ _ (by decide) (by omega), ← r1]; exact r3)
  rw [q0 684 _ (by decide) (by omega), q0 683 _ (by decide) (by omega), ← r1] at hB
  have hoff : ∀ c k, ¬ (c = 726 ∨ (c = 682 ∧ k = 0) ∨ (2 ≤ c ∧ c ≤ 9) ∨ c = 683 ∨ c = 684) → cmS (upS (upS (upS (rmS1 σ (2 + 2 * a1.toNat) a2) 726 0 v) 682 0 0) 684 a1.toNat (σ (2 + 2 * a1.toNat) 1 - 1)) a1.toNat a2.toNat c k = σ c k := by
    intro c k hc
    unfold cmS
    rw [if_neg (by omega), up_a (by omega)]
    by_cases h9 : c = 682
    · rw [up_k (by omega), q0 _ _ (by omega) (by omega)]
    · rw [up_a h9, q0 _ _ (by omega) (by omega)]
  have hcl : ∀ c k, 2 ≤ c ∧ c ≤ 9 → cmS (upS (upS (upS (rmS1 σ (2 + 2 * a1.toNat) a2) 726 0 v) 682 0 0) 684 a1.toNat (σ (2 + 2 * a1.toNat) 1 - 1)) a1.toNat a2.toNat c k = rmS1 σ (2 + 2 * a1.toNat) a2 c k := by
    intro c k hc
    unfold cmS
    rw [if_neg (by omega), up_a (by omega), up_a (by omega), up_a (by omega)]
  have hR : RT (cmS (upS (upS (upS (rmS1 σ (2 + 2 * a1.toNat) a2) 726 0 v) 682 0 0) 684 a1.toNat (σ (2 + 2 * a1.toNat) 1 - 1)) a1.toNat a2.toNat) := by
    intro t ht
    obtain ⟨u1, u2⟩ := H.2.2.1 t ht
    have b9 := (rel_t H (t := (t : Int)) (by omega)).2
    rw [show ((t : Int)).toNat = t by omega] at b9
    have u11 := u1.1
    by_cases h9 : t = a1.toNat
    · rw [← h9] at r1 r2 r3 k2 hcl ⊢
      have m4 : cmS (upS (upS (upS (rmS1 σ (2 + 2 * t) a2) 726 0 v) 682 0 0) 684 t (σ (2 + 2 * t) 1 - 1)) t a2.toNat 684 t = σ (2 + 2 * t) 1 - 1 := by
        unfold cmS
        rw [if_neg (by omega), up_s]
      refine ⟨⟨?_, ?_⟩, ?_⟩
      · rw [hcl _ _ (by omega), rm_sz, m4]
      · intro i hi
        rw [m4] at hi
        rw [hcl _ _ (by omega), rm_val]
        unfold cmS
        rw [up_s, up_a (show ¬ 683 = 684 by decide), up_a (show ¬ 683 = 682 by decide), up_a (show ¬ 683 = 684 by decide), up_a (show ¬ 683 = 682 by decide), up_a (show ¬ 683 = 726 by decide), up_a (show ¬ 683 = 726 by decide), rm_off (by omega) (by omega), rm_off (by omega) (by omega)]
        by_cases h7 : a2 ≤ (i : Int) ∧ (i : Int) + 1 < σ (2 + 2 * t) 1
        · rw [if_pos h7, if_pos (show 683 = 683 ∧ 16 * t + a2.toNat ≤ 16 * t + i ∧ ((16 * t + i : Nat) : Int) < 16 * (t : Int) + (σ (2 + 2 * t) 1 - 1) by omega), u1.2 (i + 1) (by omega)]
          congr 1
        · rw [if_neg h7, if_neg (show ¬ (683 = 683 ∧ 16 * t + a2.toNat ≤ 16 * t + i ∧ ((16 * t + i : Nat) : Int) < 16 * (t : Int) + (σ (2 + 2 * t) 1 - 1)) by omega), u1.2 i (by omega)]
      · intro i hi
        rw [hcl _ _ (by omega), rm_sz] at hi
        rw [hcl _ _ (by omega), rm_val]
        by_cases h7 : a2 ≤ (i : Int) ∧ (i : Int) + 1 < σ (2 + 2 * t) 1
        · rw [if_pos h7]; exact u2 (i + 1) (by omega)
        · rw [if_neg h7]; exact u2 i (by omega)
    · have m4 : cmS (upS (upS (upS (rmS1 σ (2 + 2 * a1.toNat) a2) 726 0 v) 682 0 0) 684 a1.toNat (σ (2 + 2 * a1.toNat) 1 - 1)) a1.toNat a2.toNat 684 t = σ 684 t := by
        unfold cmS
        rw [if_neg (by omega), up_k h9, up_a (by decide), q0 _ _ (by decide) (by omega)]
      refine ⟨⟨?_, ?_⟩, ?_⟩
      · rw [hcl _ _ (by omega), rm_off (by omega) (by omega), m4]; exact u1.1
      · intro i hi
        rw [m4] at hi
        rw [hcl _ _ (by omega), rm_off (by omega) (by omega), u1.2 i hi]
        unfold cmS
        rw [up_s, if_neg (show ¬ (683 = 683 ∧ 16 * a1.toNat + a2.toNat ≤ 16 * t + i ∧ ((16 * t + i : Nat) : Int) < 16 * (a1.toNat : Int) + (σ (2 + 2 * a1.toNat) 1 - 1)) by omega), up_a (show ¬ 683 = 684 by decide), up_a (show ¬ 683 = 682 by decide), q0 _ _ (by decide) (by omega)]
      · intro i hi
        rw [hcl _ _ (by omega), rm_off (by omega) (by omega)] at hi ⊢
        exact u2 i hi
  refine ⟨_, _, _, _, hA, hB, ?_, fun _ => ?_, fun i => ?_, ?_, fun i => ?_, ?_, Rel_T (by omega) hoff hR (fun t ht => ?_) H⟩
  · unfold cmS
    rw [if_neg (by omega), up_a (by decide), up_s]
  · unfold cmS
    rw [if_neg (by omega), up_a (by decide), up_a (by decide), up_s, ← hv, (H.2.2.1 a1.toNat (by omega)).1.2 a2.toNat (by omega)]
  · rw [scr_a (by decide), rm_off (SCR_ne (by omega)) (SCR_ne (by omega))]
  · rw [scr_b (by decide), rm_off (SCR1_ne (by omega)) (SCR1_ne (by omega))]
  · exact hoff _ _ (by unfold SCR; omega)
  · exact hoff _ _ (by unfold SCR; omega)
  · rw [hcl _ _ (by omega)]
    have := (rel_t H (t := (t : Int)) (by omega)).2
    rw [show ((t : Int)).toNat = t by omega] at this
    by_cases h9 : t = a1.toNat
    · rw [h9, rm_sz]; omega
    · rw [rm_off (by omega) (by omega)]; exact this
end
