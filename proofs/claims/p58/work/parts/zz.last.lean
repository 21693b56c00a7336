-- DRAFT d1st.lean
/-! One step of the law. -/
noncomputable section
theorem m245 {n x a b : Nat} {w : WS} (L : LI n w) (hn : n ≤ 100) : ∃ w', LI (n + 1) w' ∧ Sc w w' ∧ Lx 245 [vA 0, vA 682, vI x, vI a, vI b] w (rO 1 w') := by
  have h24 : x % 24 < 24 := Nat.mod_lt _ (by decide)
  have em24 : Int.tmod (x : Int) 24 = ((x % 24 : Nat) : Int) := rfl
  obtain ⟨t, ht0⟩ : ∃ t, t = a % 4 := ⟨_, rfl⟩
  have ht : t < 4 := by rw [ht0]; exact Nat.mod_lt _ (by decide)
  obtain ⟨u, hu0⟩ : ∃ u, u = b % 4 := ⟨_, rfl⟩
  have hu : u < 4 := by rw [hu0]; exact Nat.mod_lt _ (by decide)
  have ema : Int.tmod (a : Int) 4 = (t : Int) := by rw [ht0]; rfl
  have emb : Int.tmod (b : Int) 4 = (u : Int) := by rw [hu0]; rfl
  have ema3 : Int.tmod (Int.tdiv (a : Int) 4) 3 = ((a / 4 % 3 : Nat) : Int) := rfl
  have emb3 : Int.tmod (Int.tdiv (b : Int) 4) 3 = ((b / 4 % 3 : Nat) : Int) := rfl
  have ba3 : a / 4 % 3 < 3 := Nat.mod_lt _ (by decide)
  have bb3 : b / 4 % 3 < 3 := Nat.mod_lt _ (by decide)
  have hb := LI_b L
  obtain ⟨c0, hc0⟩ := Int.eq_ofNat_of_zero_le hb.2.2.1
  have e0 : w.2.1 682 ((0 : Int)).toNat = (c0 : Int) := by
    have : w.2.1 682 0 = w.2.2 0 3 := L.2.2.1
    exact this.trans hc0
  obtain ⟨m, hm⟩ := Int.eq_ofNat_of_zero_le (txl_ok L.2.1 ht).1
  have m16 : m ≤ 16 := by have := (txl_ok L.2.1 ht).2.1; omega
  obtain ⟨pa, hpa⟩ : ∃ pa, pa = if c0 = 0 then 0 else a % c0 := ⟨_, rfl⟩
  obtain ⟨ob, hob⟩ : ∃ ob, ob = if c0 = 0 then 0 else b % c0 := ⟨_, rfl⟩
  have epa : (if (c0 : Int) = 0 then (0 : Int) else Int.tmod (a : Int) (c0 : Int)) = (pa : Int) := by
    rw [hpa]
    by_cases z : c0 = 0
    · rw [if_pos z, if_pos (by omega)]; rfl
    · rw [if_neg z, if_neg (by omega)]; rfl
  have eob : (if (c0 : Int) = 0 then (0 : Int) else Int.tmod (b : Int) (c0 : Int)) = (ob : Int) := by
    rw [hob]
    by_cases z : c0 = 0
    · rw [if_pos z, if_pos (by omega)]; rfl
    · rw [if_neg z, if_neg (by omega)]; rfl
  have bpa : ¬ c0 = 0 → pa < c0 := fun z => by rw [hpa, if_neg z]; exact Nat.mod_lt _ (by omega)
  have bob : ¬ c0 = 0 → ob < c0 := fun z => by rw [hob, if_neg z]; exact Nat.mod_lt _ (by omega)
  have d175 : Dc 175 [vA 0, vI t] w.2.2 (.inl (some (.inl (m : Int)))) w.2.2 := by
    have := Dc_of (q175 (σ := w.2.2) ht)
    rw [hm] at this
    exact this
  have top : ∀ {o : Ro}, (x % 24 ≤ 5 → K245_156 (some (.inl (x : Int))) a b t m (some (.inl (pa : Int))) (some (.inl (ob : Int))) none w 3099 o) → (x % 24 = 6 → K245_248 (some (.inl (x : Int))) (some (.inl (a : Int))) b t m (some (.inl (pa : Int))) (some (.inl (ob : Int))) none w 3099 o) → (x % 24 = 7 → K245_274 (some (.inl (x : Int))) (some (.inl (a : Int))) b t m (some (.inl (pa : Int))) (some (.inl (ob : Int))) none w 3099 o) → ((8 ≤ x % 24 ∧ x % 24 ≤ 9) → K245_343 (some (vA 682)) (some (.inl (x : Int))) a b t (some (.inl (m : Int))) (some (.inl (pa : Int))) (some (.inl (ob : Int))) none w 3099 o) → ((10 ≤ x % 24 ∧ x % 24 ≤ 12) → K245_359 (some (.inl (x : Int))) a b t (some (.inl (m : Int))) (some (.inl (pa : Int))) (some (.inl (ob : Int))) none w 3099 o) → (x % 24 = 13 → K245_398 (some (.inl (x : Int))) (some (.inl (a : Int))) (some (.inl (b : Int))) (some (.inl (t : Int))) (some (.inl (m : Int))) pa ob none w 3099 o) → (x % 24 = 14 → K245_421 (some (.inl (x : Int))) a b (some (.inl (t : Int))) (some (.inl (m : Int))) pa ob none w 3099 o) → (x % 24 = 15 → K245_462 (some (.inl (x : Int))) a b (some (.inl (t : Int))) (some (.inl (m : Int))) pa ob none w 3099 o) → ((16 ≤ x % 24 ∧ x % 24 ≤ 19) → K245_497 (some (.inl (x : Int))) a b (some (.inl (t : Int))) (some (.inl (m : Int))) (some (.inl (pa : Int))) (some (.inl (ob : Int))) none w 3099 o) → ((20 ≤ x % 24 ∧ x % 24 ≤ 21) → K245_526 (some (.inl (x : Int))) a b (some (.inl (t : Int))) (some (.inl (m : Int))) (some (.inl (pa : Int))) (some (.inl (ob : Int))) none w 3099 o) → (22 ≤ x % 24 → K245_535 (some (.inl (x : Int))) a b (some (.inl (t : Int))) (some (.inl (m : Int))) (some (.inl (pa : Int))) (some (.inl (ob : Int))) none w 3099 o) → Lx 245 [vA 0, vA 682, vI x, vI a, vI b] w o := fun {o} k1 k2 k3 k4 k5 k6 k7 k8 k9 k10 k11 => by
    refine lb245 ⟨by decide, _, w.2.2, by rw [ema]; exact d175, ?_⟩
    rw [ema, wSs, e0, epa]
    refine ⟨L.1, ⟨by decide, by decide⟩, fun _ => L.1, fun _ => ⟨by decide, by decide⟩, fun _ => by omega, bK245_28 ?_⟩
    rw [e0, eob]
    refine ⟨L.1, ⟨by decide, by decide⟩, fun _ => L.1, fun _ => ⟨by decide, by decide⟩, fun _ => by omega, bK245_46 ?_⟩
    rw [em24]
    exact ⟨fun e => k1 (by omega), fun e => k1 (by omega), fun e => k1 (by omega), fun e => k1 (by omega), fun e => k1 (by omega), fun e => k1 (by omega), fun e => k2 (by omega), fun e => k3 (by omega), fun e => k4 (by omega), fun e => k4 (by omega), fun e => k5 (by omega), fun e => k5 (by omega), fun e => k5 (by omega), fun e => k6 (by omega), fun e => k7 (by omega), fun e => k8 (by omega), fun e => k9 (by omega), fun e => k9 (by omega), fun e => k9 (by omega), fun e => k9 (by omega), fun e => k10 (by omega), fun e => k10 (by omega), fun e => k11 (by omega)⟩
  have L' : LI (n + 1) w := LI_mono L (Nat.le_succ n)
  by_cases y1 : x % 24 ≤ 5
  · by_cases g : 14 ≤ m
    · have em : Int.tmod (b : Int) (m : Int) = ((b % m : Nat) : Int) := rfl
      have bm : b % m < m := Nat.mod_lt _ (by omega)
      obtain ⟨w', L1, S1, K1⟩ := m246 (t := t) (k := b % m) L ht (by omega)
      refine ⟨w', LI_mono L1 (Nat.le_succ n), S1, top (fun _ => bK245_156 ?_) (fun e => absurd e (by omega)) (fun e => absurd e (by omega)) (fun e => absurd e (by omega)) (fun e => absurd e (by omega)) (fun e => absurd e (by omega)) (fun e => absurd e (by omega)) (fun e => absurd e (by omega)) (fun e => absurd e (by omega)) (fun e => absurd e (by omega)) (fun e => absurd e (by omega))⟩
      rw [if_pos (by omega), em]
      exact ⟨by omega, by decide, 1, w', K1, Or.inr rfl, rfl⟩
    · have em : Int.tmod (Int.tdiv (a : Int) 4) ((m : Int) + 1) = ((a / 4 % (m + 1) : Nat) : Int) := rfl
      obtain ⟨p, hp⟩ : ∃ p, p = a / 4 % (m + 1) := ⟨_, rfl⟩
      have bp : p < m + 1 := by rw [hp]; exact Nat.mod_lt _ (by omega)
      rw [← hp] at em
      obtain ⟨s2, d2, R2, f2, z2, v2⟩ := c172 (l := lnF b) L.2.1 ht (p := p) (by omega) (lnF_ok b).1 (by omega)
      rw [hm] at d2 z2
      have L1 := LI_txt L R2 (fun x k h1 h2 h3 _ => f2 x k h1 h2 h3) ht
      have d176 := q176 (σ := s2) (t := t) (k := p) R2 ht (by omega)
      rw [v2] at d176
      refine ⟨_, LI_mono L1 (Nat.le_succ n), Sc_u (by decide) rfl, top (fun _ => bK245_156 ?_) (fun e => absurd e (by omega)) (fun e => absurd e (by omega)) (fun e => absurd e (by omega)) (fun e => absurd e (by omega)) (fun e => absurd e (by omega)) (fun e => absurd e (by omega)) (fun e => absurd e (by omega)) (fun e => absurd e (by omega)) (fun e => absurd e (by omega)) (fun e => absurd e (by omega))⟩
      rw [if_neg (by omega)]
      refine ⟨L.1, ⟨by decide, by decide⟩, by omega, fun _ => L.1, fun _ => ⟨by decide, by decide⟩, bK245_195 ?_⟩
      rw [em]
      refine ⟨L.1, ⟨by decide, by decide⟩, by omega, by omega, by decide, _, _, m244, by decide, _, s2, d2, by omega, ?_⟩
      rw [if_pos rfl]
      refine ⟨by decide, _, s2, Dc_of d176, by decide, _, _, m244, ?_⟩
      rw [if_pos rfl]
      exact bK245_247 ⟨Or.inr rfl, rfl⟩
  by_cases y2 : x % 24 = 6
  · by_cases g : m = 0
    · refine ⟨w, L', Sc_r _, top (fun e => absurd e (by omega)) (fun _ => bK245_248 ?_) (fun e => absurd e (by omega)) (fun e => absurd e (by omega)) (fun e => absurd e (by omega)) (fun e => absurd e (by omega)) (fun e => absurd e (by omega)) (fun e => absurd e (by omega)) (fun e => absurd e (by omega)) (fun e => absurd e (by omega)) (fun e => absurd e (by omega))⟩
      rw [if_pos (by omega)]
      exact bK245_268 (bK245_273 ⟨Or.inr rfl, rfl⟩)
    · have em : Int.tmod (b : Int) (m : Int) = ((b % m : Nat) : Int) := rfl
      have bm : b % m < m := Nat.mod_lt _ (by omega)
      obtain ⟨w', L1, S1, K1⟩ := m246 (t := t) (k := b % m) L ht (by omega)
      refine ⟨w', LI_mono L1 (Nat.le_succ n), S1, top (fun e => absurd e (by omega)) (fun _ => bK245_248 ?_) (fun e => absurd e (by omega)) (fun e => absurd e (by omega)) (fun e => absurd e (by omega)) (fun e => absurd e (by omega)) (fun e => absurd e (by omega)) (fun e => absurd e (by omega)) (fun e => absurd e (by omega)) (fun e => absurd e (by omega)) (fun e => absurd e (by omega))⟩
      rw [if_neg (by omega), em]
      refine ⟨by omega, by decide, 1, w', K1, ?_⟩
      rw [if_neg (show ¬ (1 : Int) = 0 by decide)]
      exact bK245_268 (bK245_273 ⟨Or.inr rfl, rfl⟩)
  by_cases y3 : x % 24 = 7
  · obtain ⟨m', s2, hm', b16, d2, R2, T2⟩ := c174 L.2.1 ht hu
    have emm : m' = m := by omega
    subst emm
    have L1 := LI_txt L R2 (fun x k h1 h2 h3 _ => T2.1 x k h1 h2 h3) hu
    have sm : smP s2 (2 + 2 * t) (2 + 2 * u) := by
      by_cases tu : t = u
      · subst tu
        exact ⟨rfl, fun _ _ => rfl⟩
      · have f1 : ∀ k, s2 (2 + 2 * t) k = w.2.2 (2 + 2 * t) k := fun k => T2.1 _ k (by omega) (by unfold KP; omega) (by omega)
        have f2 : ∀ k, s2 (2 + 2 * t + 1) k = w.2.2 (2 + 2 * t + 1) k := fun k => T2.1 _ k (by omega) (by unfold KP; omega) (by omega)
        refine ⟨by rw [f1, T2.2.1]; exact hm, fun k hk => ?_⟩
        rw [f1, hm] at hk
        rw [f2]
        exact (T2.2.2 k (by omega)).symm
    have dn : Dc 175 [vA 0, vI u] s2 (.inl (some (.inl (m' : Int)))) s2 := by
      have := Dc_of (q175 (σ := s2) hu)
      rw [T2.2.1] at this
      exact this
    refine ⟨_, LI_mono L1 (Nat.le_succ n), Sc_u (by decide) rfl, top (fun e => absurd e (by omega)) (fun e => absurd e (by omega)) (fun _ => bK245_274 ?_) (fun e => absurd e (by omega)) (fun e => absurd e (by omega)) (fun e => absurd e (by omega)) (fun e => absurd e (by omega)) (fun e => absurd e (by omega)) (fun e => absurd e (by omega)) (fun e => absurd e (by omega)) (fun e => absurd e (by omega))⟩
    rw [emb]
    refine ⟨L.1, ⟨by decide, by decide⟩, by omega, fun _ => L.1, fun _ => ⟨by decide, by decide⟩, bK245_295 ?_⟩
    rw [emb]
    refine ⟨L.1, ⟨by decide, by decide⟩, by decide, _, s2, d2, ?_⟩
    rw [if_pos rfl]
    refine ⟨by decide, _, s2, dn, ?_⟩
    rw [if_pos rfl]
    refine ⟨by decide, 1, _, m247 (c := 1000) L1.2.1 ht hu sm, ?_⟩
    rw [if_neg (show ¬ (1 : Int) = 0 by decide)]
    exact bK245_342 ⟨Or.inr rfl, rfl⟩
  by_cases y4 : 8 ≤ x % 24 ∧ x % 24 ≤ 9
  · obtain ⟨w', L1, S1, -, K1⟩ := m249 (t := t) (u := u) (a3 := ((a / 4 % 3 : Nat) : Int)) L hn ht hu (by omega)
    refine ⟨w', L1, S1, top (fun e => absurd e (by omega)) (fun e => absurd e (by omega)) (fun e => absurd e (by omega)) (fun _ => bK245_343 ?_) (fun e => absurd e (by omega)) (fun e => absurd e (by omega)) (fun e => absurd e (by omega)) (fun e => absurd e (by omega)) (fun e => absurd e (by omega)) (fun e => absurd e (by omega)) (fun e => absurd e (by omega))⟩
    rw [emb, ema3]
    exact ⟨by decide, 1, w', K1, Or.inr rfl, rfl⟩
  by_cases y5 : 10 ≤ x % 24 ∧ x % 24 ≤ 12
  · by_cases g : c0 ≤ 19
    · obtain ⟨w', L1, S1, K1⟩ := m254 (t := t) (u := u) (a3 := ((a / 4 % 3 : Nat) : Int)) (fz := b / 4 % 3) L ht hu (by omega) (by omega) (by omega)
      refine ⟨w', LI_mono L1 (Nat.le_succ n), S1, top (fun e => absurd e (by omega)) (fun e => absurd e (by omega)) (fun e => absurd e (by omega)) (fun e => absurd e (by omega)) (fun _ => bK245_359 ?_) (fun e => absurd e (by omega)) (fun e => absurd e (by omega)) (fun e => absurd e (by omega)) (fun e => absurd e (by omega)) (fun e => absurd e (by omega)) (fun e => absurd e (by omega))⟩
      rw [e0, if_pos (by omega), emb, ema3, emb3]
      refine ⟨L.1, ⟨by decide, by decide⟩, by decide, 1, w', K1, ?_⟩
      rw [if_neg (show ¬ (1 : Int) = 0 by decide)]
      exact bK245_392 (bK245_397 ⟨Or.inr rfl, rfl⟩)
    · refine ⟨w, L', Sc_r _, top (fun e => absurd e (by omega)) (fun e => absurd e (by omega)) (fun e => absurd e (by omega)) (fun e => absurd e (by omega)) (fun _ => bK245_359 ?_) (fun e => absurd e (by omega)) (fun e => absurd e (by omega)) (fun e => absurd e (by omega)) (fun e => absurd e (by omega)) (fun e => absurd e (by omega)) (fun e => absurd e (by omega))⟩
      rw [e0, if_neg (by omega)]
      exact ⟨L.1, ⟨by decide, by decide⟩, bK245_392 (bK245_397 ⟨Or.inr rfl, rfl⟩)⟩
  by_cases y6 : x % 24 = 13
  · by_cases g : c0 = 0
    · refine ⟨w, L', Sc_r _, top (fun e => absurd e (by omega)) (fun e => absurd e (by omega)) (fun e => absurd e (by omega)) (fun e => absurd e (by omega)) (fun e => absurd e (by omega)) (fun _ => bK245_398 ?_) (fun e => absurd e (by omega)) (fun e => absurd e (by omega)) (fun e => absurd e (by omega)) (fun e => absurd e (by omega)) (fun e => absurd e (by omega))⟩
      rw [e0, if_pos (by omega)]
      exact ⟨L.1, ⟨by decide, by decide⟩, bK245_415 (bK245_420 ⟨Or.inr rfl, rfl⟩)⟩
    · obtain ⟨w', W1, K1⟩ := m255 (p := pa) (q := ob) L.2.1 (by have := bpa g; omega) (by have := bob g; omega)
      refine ⟨w', LI_mono (LI_W L W1) (Nat.le_succ n), Sc_e W1.2.2.1, top (fun e => absurd e (by omega)) (fun e => absurd e (by omega)) (fun e => absurd e (by omega)) (fun e => absurd e (by omega)) (fun e => absurd e (by omega)) (fun _ => bK245_398 ?_) (fun e => absurd e (by omega)) (fun e => absurd e (by omega)) (fun e => absurd e (by omega)) (fun e => absurd e (by omega)) (fun e => absurd e (by omega))⟩
      rw [e0, if_neg (by omega)]
      refine ⟨L.1, ⟨by decide, by decide⟩, by decide, 1, w', K1, ?_⟩
      rw [if_neg (show ¬ (1 : Int) = 0 by decide)]
      exact bK245_415 (bK245_420 ⟨Or.inr rfl, rfl⟩)
  by_cases y7 : x % 24 = 14
  · by_cases g : c0 = 0
    · refine ⟨w, L', Sc_r _, top (fun e => absurd e (by omega)) (fun e => absurd e (by omega)) (fun e => absurd e (by omega)) (fun e => absurd e (by omega)) (fun e => absurd e (by omega)) (fun e => absurd e (by omega)) (fun _ => bK245_421 ?_) (fun e => absurd e (by omega)) (fun e => absurd e (by omega)) (fun e => absurd e (by omega)) (fun e => absurd e (by omega))⟩
      rw [e0, if_pos (by omega)]
      exact ⟨L.1, ⟨by decide, by decide⟩, bK245_456 (bK245_461 ⟨Or.inr rfl, rfl⟩)⟩
    by_cases g2 : c0 ≤ 20
    · obtain ⟨w', L1, S1, K1⟩ := m263 (p := pa) (q := ob) (a := a / 24) (b := b / 24) L (by have := bpa g; omega) (by have := bob g; omega) (by omega)
      have q1 : Int.tdiv (a : Int) 24 = ((a / 24 : Nat) : Int) := rfl
      have q2 : Int.tdiv (b : Int) 24 = ((b / 24 : Nat) : Int) := rfl
      refine ⟨w', LI_mono L1 (Nat.le_succ n), S1, top (fun e => absurd e (by omega)) (fun e => absurd e (by omega)) (fun e => absurd e (by omega)) (fun e => absurd e (by omega)) (fun e => absurd e (by omega)) (fun e => absurd e (by omega)) (fun _ => bK245_421 ?_) (fun e => absurd e (by omega)) (fun e => absurd e (by omega)) (fun e => absurd e (by omega)) (fun e => absurd e (by omega))⟩
      rw [e0, if_neg (by omega), if_pos (by omega), q1, q2]
      refine ⟨L.1, ⟨by decide, by decide⟩, L.1, ⟨by decide, by decide⟩, by decide, 1, w', K1, ?_⟩
      rw [if_neg (show ¬ (1 : Int) = 0 by decide)]
      exact bK245_456 (bK245_461 ⟨Or.inr rfl, rfl⟩)
    · refine ⟨w, L', Sc_r _, top (fun e => absurd e (by omega)) (fun e => absurd e (by omega)) (fun e => absurd e (by omega)) (fun e => absurd e (by omega)) (fun e => absurd e (by omega)) (fun e => absurd e (by omega)) (fun _ => bK245_421 ?_) (fun e => absurd e (by omega)) (fun e => absurd e (by omega)) (fun e => absurd e (by omega)) (fun e => absurd e (by omega))⟩
      rw [e0, if_neg (by omega), if_neg (by omega)]
      exact ⟨L.1, ⟨by decide, by decide⟩, L.1, ⟨by decide, by decide⟩, bK245_456 (bK245_461 ⟨Or.inr rfl, rfl⟩)⟩
  by_cases y8 : x % 24 = 15
  · by_cases g : c0 = 0
    · refine ⟨w, L', Sc_r _, top (fun e => absurd e (by omega)) (fun e => absurd e (by omega)) (fun e => absurd e (by omega)) (fun e => absurd e (by omega)) (fun e => absurd e (by omega)) (fun e => absurd e (by omega)) (fun e => absurd e (by omega)) (fun _ => bK245_462 ?_) (fun e => absurd e (by omega)) (fun e => absurd e (by omega)) (fun e => absurd e (by omega))⟩
      rw [e0, if_pos (by omega)]
      exact ⟨L.1, ⟨by decide, by decide⟩, bK245_491 (bK245_496 ⟨Or.inr rfl, rfl⟩)⟩
    · have q1 : Int.tmod (Int.tdiv (a : Int) 24) 4 = ((a / 24 % 4 : Nat) : Int) := rfl
      have q2 : Int.tdiv (b : Int) 24 = ((b / 24 : Nat) : Int) := rfl
      obtain ⟨w', L1, S1, K1⟩ := m266 (p := pa) (q := ob) (t := a / 24 % 4) (side := b / 24) L (by have := bpa g; omega) (by have := bob g; omega) (Nat.mod_lt _ (by decide))
      refine ⟨w', LI_mono L1 (Nat.le_succ n), S1, top (fun e => absurd e (by omega)) (fun e => absurd e (by omega)) (fun e => absurd e (by omega)) (fun e => absurd e (by omega)) (fun e => absurd e (by omega)) (fun e => absurd e (by omega)) (fun e => absurd e (by omega)) (fun _ => bK245_462 ?_) (fun e => absurd e (by omega)) (fun e => absurd e (by omega)) (fun e => absurd e (by omega))⟩
      rw [e0, if_neg (by omega), q1, q2]
      refine ⟨L.1, ⟨by decide, by decide⟩, by decide, 1, w', K1, ?_⟩
      rw [if_neg (show ¬ (1 : Int) = 0 by decide)]
      exact bK245_491 (bK245_496 ⟨Or.inr rfl, rfl⟩)
  by_cases y9 : 16 ≤ x % 24 ∧ x % 24 ≤ 19
  · have q1 : Int.tdiv (a : Int) 7 = ((a / 7 : Nat) : Int) := rfl
    obtain ⟨w1, L1, S1, K1⟩ := m267 (a := a) (b := b) L (by omega)
    obtain ⟨w2, L2, S2, K2⟩ := m272 (a := a / 7) L1 (by omega)
    refine ⟨w2, L2, Sc_t S1 S2, top (fun e => absurd e (by omega)) (fun e => absurd e (by omega)) (fun e => absurd e (by omega)) (fun e => absurd e (by omega)) (fun e => absurd e (by omega)) (fun e => absurd e (by omega)) (fun e => absurd e (by omega)) (fun e => absurd e (by omega)) (fun _ => bK245_497 ?_) (fun e => absurd e (by omega)) (fun e => absurd e (by omega))⟩
    rw [q1]
    refine ⟨by decide, 1, w1, K1, ?_⟩
    rw [if_neg (show ¬ (1 : Int) = 0 by decide)]
    refine ⟨by decide, 1, w2, K2, ?_⟩
    rw [if_neg (show ¬ (1 : Int) = 0 by decide)]
    exact bK245_525 ⟨Or.inr rfl, rfl⟩
  by_cases y10 : 20 ≤ x % 24 ∧ x % 24 ≤ 21
  · obtain ⟨w1, L1, S1, K1⟩ := m273 (a := a) (b := b) L (by omega)
    exact ⟨w1, LI_mono L1 (Nat.le_succ n), S1, top (fun e => absurd e (by omega)) (fun e => absurd e (by omega)) (fun e => absurd e (by omega)) (fun e => absurd e (by omega)) (fun e => absurd e (by omega)) (fun e => absurd e (by omega)) (fun e => absurd e (by omega)) (fun e => absurd e (by omega)) (fun e => absurd e (by omega)) (fun _ => bK245_526 ⟨by decide, 1, w1, K1, Or.inr rfl, rfl⟩) (fun e => absurd e (by omega))⟩
  · obtain ⟨w1, L1, S1, K1⟩ := m275 (a := a) (b := b) L (by omega)
    exact ⟨w1, LI_mono L1 (Nat.le_succ n), S1, top (fun e => absurd e (by omega)) (fun e => absurd e (by omega)) (fun e => absurd e (by omega)) (fun e => absurd e (by omega)) (fun e => absurd e (by omega)) (fun e => absurd e (by omega)) (fun e => absurd e (by omega)) (fun e => absurd e (by omega)) (fun e => absurd e (by omega)) (fun e => absurd e (by omega)) (fun _ => bK245_535 ⟨by decide, 1, w1, K1, Or.inr rfl, rfl⟩)⟩
end
