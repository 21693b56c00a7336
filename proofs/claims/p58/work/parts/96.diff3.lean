/-! difference: the reference's loops. -/
noncomputable section
theorem l374a {σc σ0 : Sg} {D t u : Nat} {d5 : Option AV} (F : FL σc σ0) (hD : σ0 682 53 = (D : Nat)) (hD10 : D < 10) (ht : t < 3) (hu : u < 3) : ∀ (d k : Nat) (σ : Sg), k + d = 6 → (∀ c x, ¬ (691 ≤ c ∧ c ≤ 694) → ¬ c = 721 → ¬ (c = 720 ∧ 6 * D ≤ x ∧ x < 6 * D + 6) → ¬ (c = 682 ∧ (x = 12 ∨ x = 13)) → σ c x = σ0 c x) → (∀ n, n < k → σ 720 (6 * D + n) = (ts0 (hv σc t) (hv σc u)).1 n ∧ σ 721 n = 0) → ∃ σ', (∀ {o : Rs}, (∀ d4, C374_125 t u 0 d4 d5 σ' o) → ∀ d4, C374_45 t u k d4 d5 σ o) ∧ MT (hv σc t) (hv σc u) σ0 σ' D (ts0 (hv σc t) (hv σc u)) := by
  intro d
  induction d with
  | zero =>
    intro k σ hk hF hv'
    refine ⟨σ, fun {o} hh d4 => b374_45 ?_, hF, fun n hn => ⟨(hv' n (by omega)).1, fun h => ?_⟩⟩
    · rw [if_neg (by omega)]
      exact hh _
    · rw [(hv' n (by omega)).2]
      show (0 : Int) = if ¬ hv σc t n = 0 ∧ ¬ hv σc u n = 0 then 1 else 0
      rw [if_neg (fun g => by
        rcases h with h | h
        · exact g.1 h
        · exact g.2 h)]
  | succ d ih =>
    intro k σ hk hF hv'
    obtain ⟨v, hvv⟩ : ∃ v, v = (ts0 (hv σc t) (hv σc u)).1 k := ⟨_, rfl⟩
    have e53 : σ 682 53 = (D : Nat) := by rw [hF _ _ (by decide) (by decide) (by omega) (by omega)]; exact hD
    have g1 : σ 717 (6 * t + k) = hv σc t k := by
      rw [hF _ _ (by decide) (by decide) (by omega) (by omega)]
      exact (F _ (by omega)).1
    have g2 : σ 717 (6 * u + k) = hv σc u k := by
      rw [hF _ _ (by decide) (by decide) (by omega) (by omega)]
      exact (F _ (by omega)).1
    obtain ⟨σ', a1, a2⟩ := ih (k + 1) (upS (upS σ 720 (6 * D + k) v) 721 k 0) (by omega) (fun c x y1 y2 y3 y4 => by
      rw [up_a y2]
      unfold upS
      rw [if_neg (by omega)]
      exact hF c x y1 y2 y3 y4) (fun n hn => by
      by_cases q : n = k
      · rw [q, up_a (by decide), up_s, up_s]
        exact ⟨hvv, rfl⟩
      · rw [up_a (by decide), up_k (by omega), up_k q, up_a (by decide)]
        exact hv' n (by omega))
    refine ⟨σ', fun {o} hh d4 => b374_45 ?_, a2⟩
    have z : ∀ y0 : Int, (if y0 = 0 then (-1 : Int) else (k : Int)) = v → C374_84 t u k d4 d5 y0 σ o := by
      intro y0 hy
      refine b374_84 ⟨by omega, by omega, b374_109 ?_⟩
      rw [hy, e53, show ((6 * ((D : Nat) : Int)) + (k : Int)).toNat = 6 * D + k by omega, show ((k : Nat) : Int).toNat = k by omega, show (k : Int) + 1 = ((k + 1 : Nat) : Int) by omega]
      exact ⟨by omega, by omega, by omega, a1 hh _⟩
    rw [if_pos (by omega), show ((6 * (t : Int)) + (k : Int)).toNat = 6 * t + k by omega, show ((6 * (u : Int)) + (k : Int)).toNat = 6 * u + k by omega, g1, g2]
    refine ⟨by omega, by omega, by omega, ?_⟩
    have ev : v = if ¬ hv σc t k = 0 ∧ ¬ hv σc u k = 0 then (k : Int) else -1 := hvv
    by_cases y1 : hv σc t k = 0
    · rw [if_pos y1]
      refine b374_83 (z 0 ?_)
      rw [if_pos rfl, ev, if_neg (fun g => g.1 y1)]
    · rw [if_neg y1]
      refine ⟨by omega, by omega, by omega, ?_⟩
      by_cases y2 : hv σc u k = 0
      · rw [if_pos y2]
        refine b374_83 (z 0 ?_)
        rw [if_pos rfl, ev, if_neg (fun g => g.2 y2)]
      · rw [if_neg y2]
        refine z 1 ?_
        rw [if_neg (show ¬ (1 : Int) = 0 by decide), ev, if_pos ⟨y1, y2⟩]
theorem l374b {σc σ0 : Sg} {D t u n : Nat} {sm : Nat → Nat → Bool} (F : FL σc σ0) (hD : σ0 682 53 = (D : Nat)) (hD10 : D < 10) (ht : t < 3) (hu : u < 3) (hn : n < 6) (hsm : ∀ n e, n < 6 → e < 6 → (sm n e = true ↔ smP σc (616 + 2 * (6 * t + n)) (616 + 2 * (6 * u + e)))) : ∀ (d : Nat) (σ : Sg) (s : TS), d ≤ 6 → INV (hv σc t) (hv σc u) s → MT (hv σc t) (hv σc u) σ0 σ D s → ∃ σ', (∀ {o : Rs}, (∀ d4 d5, C374_125 t u ((n + 1 : Nat) : Int) d4 d5 σ' o) → ∀ d5, C374_134 t u n ((6 - d : Nat) : Int) d5 σ o) ∧ MT (hv σc t) (hv σc u) σ0 σ' D (pI (hv σc t) (hv σc u) sm n d s) := by
  intro d
  induction d with
  | zero =>
    intro σ s hd I M
    refine ⟨σ, fun {o} hh d5 => b374_134 ?_, M⟩
    rw [if_neg (by omega), show (n : Int) + 1 = ((n + 1 : Nat) : Int) by omega]
    exact ⟨by omega, hh _ _⟩
  | succ d ih =>
    intro σ s hd I M
    rw [show 6 - (d + 1) = 5 - d by omega]
    have e53 : σ 682 53 = (D : Nat) := by rw [M.1 _ _ (by decide) (by decide) (by omega) (by omega)]; exact hD
    have q1 := d371 (n := n) F M ht hu hn
    have q2 := d371 (n := 5 - d) F M hu ht (by omega)
    have m1 := (M.2 n hn).1
    have m2 := (M.2 (5 - d) (by omega)).2
    have iff := fr1_iff (n := n) (e := 5 - d) I hn (by omega)
    have cnd : ∀ {o : Rs} {d5 : Option AV}, (fr1 (hv σc t) (hv σc u) s n (5 - d) → C374_195 t u n ((5 - d : Nat) : Int) d5 1 σ o) → (¬ fr1 (hv σc t) (hv σc u) s n (5 - d) → C374_194 t u n ((5 - d : Nat) : Int) d5 σ o) → C374_134 t u n ((5 - d : Nat) : Int) d5 σ o := by
      intro o d5 hy hx
      refine b374_134 ?_
      rw [if_pos (by omega)]
      refine ⟨_, _, q1, ?_⟩
      by_cases y1 : hv σc t n = 0
      · rw [if_pos y1, if_pos rfl]
        exact hx (fun h => (iff.mp h).1 y1)
      · rw [if_neg y1]
        by_cases y2 : hv σc u n = 0
        · rw [if_pos y2, if_neg (show ¬ (1 : Int) = 0 by decide), e53, show ((6 * ((D : Nat) : Int)) + (n : Int)).toNat = 6 * D + n by omega, m1]
          refine ⟨by omega, by omega, by omega, ?_⟩
          by_cases y3 : s.1 n = -1
          · rw [if_pos y3]
            refine ⟨_, _, q2, ?_⟩
            by_cases y4 : hv σc u (5 - d) = 0
            · rw [if_pos y4, if_pos rfl]
              exact hx (fun h => (iff.mp h).2.2.2.1 y4)
            · rw [if_neg y4]
              by_cases y5 : hv σc t (5 - d) = 0
              · rw [if_pos y5, if_neg (show ¬ (1 : Int) = 0 by decide), show ((5 - d : Nat) : Int).toNat = 5 - d by omega, m2 (Or.inl y5)]
                refine ⟨by omega, ?_⟩
                by_cases y6 : s.2 (5 - d) = 0
                · rw [if_pos y6]
                  exact hy (iff.mpr ⟨y1, y2, y3, y4, y5, y6⟩)
                · rw [if_neg y6]
                  exact hx (fun h => y6 h.2.1)
              · rw [if_neg y5, if_pos rfl]
                exact hx (fun h => y5 (iff.mp h).2.2.2.2.1)
          · rw [if_neg y3]
            exact hx (fun h => y3 h.1)
        · rw [if_neg y2, if_pos rfl]
          exact hx (fun h => y2 (iff.mp h).2.1)
    have to : ∀ {σ1 : Sg} {o : Rs}, (∀ d5, C374_134 t u n ((6 - d : Nat) : Int) d5 σ1 o) → ∀ d5, C374_231 t u n ((5 - d : Nat) : Int) d5 σ1 o := by
      intro σ1 o hh d5
      refine b374_231 ⟨by omega, ?_⟩
      rw [show ((5 - d : Nat) : Int) + 1 = ((6 - d : Nat) : Int) by omega]
      exact hh d5
    have un : pI (hv σc t) (hv σc u) sm n (d + 1) s = pI (hv σc t) (hv σc u) sm n d (if fr1 (hv σc t) (hv σc u) s n (5 - d) ∧ sm n (5 - d) = true then prS s n (5 - d) else s) := rfl
    rw [un]
    by_cases y : fr1 (hv σc t) (hv σc u) s n (5 - d)
    · have q3 := d369 (f := 6 * t + n) (f' := 6 * u + (5 - d)) (b := sm n (5 - d)) F M (by omega) (by omega) y.2.2.1 y.2.2.2 (hsm n (5 - d) hn (by omega))
      rw [show ((6 * t + n : Nat) : Int) = (6 * (t : Int)) + (n : Int) by omega, show ((6 * u + (5 - d) : Nat) : Int) = (6 * (u : Int)) + ((5 - d : Nat) : Int) by omega] at q3
      by_cases y2 : sm n (5 - d) = true
      · rw [if_pos y2] at q3
        obtain ⟨σ1, a1, a2⟩ := d372 (a := (t : Int)) (b := (u : Int)) (n := n) (e := 5 - d) M hD hD10 hn (by omega)
        obtain ⟨σ', c1, c2⟩ := ih σ1 _ (by omega) (INV_p I (by omega)) a2
        rw [if_pos ⟨y, y2⟩]
        refine ⟨σ', fun {o} hh d5 => cnd (fun _ => b374_195 ?_) (fun h => absurd y h), c2⟩
        rw [if_neg (show ¬ (1 : Int) = 0 by decide)]
        refine ⟨by omega, by omega, by omega, by omega, _, _, q3, ?_⟩
        rw [if_neg (show ¬ (1 : Int) = 0 by decide)]
        exact ⟨_, a1, to (c1 hh) _⟩
      · rw [if_neg y2] at q3
        obtain ⟨σ', c1, c2⟩ := ih σ s (by omega) I M
        rw [if_neg (fun h => y2 h.2)]
        refine ⟨σ', fun {o} hh d5 => cnd (fun _ => b374_195 ?_) (fun h => absurd y h), c2⟩
        rw [if_neg (show ¬ (1 : Int) = 0 by decide)]
        refine ⟨by omega, by omega, by omega, by omega, _, _, q3, ?_⟩
        rw [if_pos rfl]
        exact to (c1 hh) _
    · obtain ⟨σ', c1, c2⟩ := ih σ s (by omega) I M
      rw [if_neg (fun h => y h.1)]
      refine ⟨σ', fun {o} hh d5 => cnd (fun h => absurd h y) (fun _ => b374_194 (b374_195 ?_)), c2⟩
      rw [if_pos rfl]
      exact to (c1 hh) _
theorem l374c {σc σ0 : Sg} {D t u : Nat} {sm : Nat → Nat → Bool} (F : FL σc σ0) (hD : σ0 682 53 = (D : Nat)) (hD10 : D < 10) (ht : t < 3) (hu : u < 3) (hsm : ∀ n e, n < 6 → e < 6 → (sm n e = true ↔ smP σc (616 + 2 * (6 * t + n)) (616 + 2 * (6 * u + e)))) : ∀ (d : Nat) (σ : Sg) (s : TS), d ≤ 6 → INV (hv σc t) (hv σc u) s → MT (hv σc t) (hv σc u) σ0 σ D s → ∃ σ', (∀ {o : Rs}, (∀ d4 d5, C374_245 t u 1 d4 d5 σ' o) → ∀ d4 d5, C374_125 t u ((6 - d : Nat) : Int) d4 d5 σ o) ∧ MT (hv σc t) (hv σc u) σ0 σ' D (pO (hv σc t) (hv σc u) sm d s) := by
  intro d
  induction d with
  | zero =>
    intro σ s hd I M
    refine ⟨σ, fun {o} hh d4 d5 => b374_125 ?_, M⟩
    rw [if_neg (by omega)]
    exact hh _ _
  | succ d ih =>
    intro σ s hd I M
    obtain ⟨σ1, a1, a2⟩ := l374b (n := 5 - d) F hD hD10 ht hu (by omega) hsm 6 σ s (by omega) I M
    obtain ⟨σ', c1, c2⟩ := ih σ1 _ (by omega) (INV_pI 6 s (by omega) I) a2
    refine ⟨σ', fun {o} hh d4 d5 => b374_125 ?_, c2⟩
    rw [if_pos (by omega), show 6 - (d + 1) = 5 - d by omega]
    rw [show 5 - d + 1 = 6 - d by omega] at a1
    exact a1 (c1 hh) _
/-- pairsLikest -/
theorem l373b {σc σ0 : Sg} {D t u n : Nat} {s : TS} (F : FL σc σ0) (hD : σ0 682 53 = (D : Nat)) (hD10 : D < 10) (ht : t < 3) (hu : u < 3) (hn : n < 6) (I : INV (hv σc t) (hv σc u) s) : ∀ (d : Nat) (σ : Sg) (b : BT), d ≤ 6 → 59 ≤ b.1 → MT (hv σc t) (hv σc u) σ0 σ D s → ∃ σ' b', b' = mI (hv σc t) (hv σc u) (fun n e => lkF σc (6 * t + n) (6 * u + e)) s n d b ∧ 59 ≤ b'.1 ∧ (∀ {o : Rs}, (∀ d7 d8 d9, C373_12 t u b'.1 b'.2.1 b'.2.2 ((n + 1 : Nat) : Int) d7 d8 d9 σ' o) → ∀ d8 d9, C373_22 t u b.1 b.2.1 b.2.2 n ((6 - d : Nat) : Int) d8 d9 σ o) ∧ MT (hv σc t) (hv σc u) σ0 σ' D s := by
  intro d
  induction d with
  | zero =>
    intro σ b hd hb M
    refine ⟨σ, b, rfl, hb, fun {o} hh d8 d9 => b373_22 ?_, M⟩
    rw [if_neg (by omega), show (n : Int) + 1 = ((n + 1 : Nat) : Int) by omega]
    exact ⟨by omega, hh _ _ _⟩
  | succ d ih =>
    intro σ b hd hb M
    rw [show 6 - (d + 1) = 5 - d by omega]
    have e53 : σ 682 53 = (D : Nat) := by rw [M.1 _ _ (by decide) (by decide) (by omega) (by omega)]; exact hD
    have q1 := d371 (n := n) F M ht hu hn
    have q2 := d371 (n := 5 - d) F M hu ht (by omega)
    have m1 := (M.2 n hn).1
    have m2 := (M.2 (5 - d) (by omega)).2
    have iff := fr1_iff (n := n) (e := 5 - d) I hn (by omega)
    have cnd : ∀ {o : Rs} {d8 d9 : Option AV}, (fr1 (hv σc t) (hv σc u) s n (5 - d) → C373_85 t u b.1 b.2.1 b.2.2 n ((5 - d : Nat) : Int) d8 d9 1 σ o) → (¬ fr1 (hv σc t) (hv σc u) s n (5 - d) → C373_84 t u b.1 b.2.1 b.2.2 n ((5 - d : Nat) : Int) d8 d9 σ o) → C373_22 t u b.1 b.2.1 b.2.2 n ((5 - d : Nat) : Int) d8 d9 σ o := by
      intro o d8 d9 hy hx
      refine b373_22 ?_
      rw [if_pos (by omega)]
      refine ⟨_, _, q1, ?_⟩
      by_cases y1 : hv σc t n = 0
      · rw [if_pos y1, if_pos rfl]
        exact hx (fun h => (iff.mp h).1 y1)
      · rw [if_neg y1]
        by_cases y2 : hv σc u n = 0
        · rw [if_pos y2, if_neg (show ¬ (1 : Int) = 0 by decide), e53, show ((6 * ((D : Nat) : Int)) + (n : Int)).toNat = 6 * D + n by omega, m1]
          refine ⟨by omega, by omega, by omega, ?_⟩
          by_cases y3 : s.1 n = -1
          · rw [if_pos y3]
            refine ⟨_, _, q2, ?_⟩
            by_cases y4 : hv σc u (5 - d) = 0
            · rw [if_pos y4, if_pos rfl]
              exact hx (fun h => (iff.mp h).2.2.2.1 y4)
            · rw [if_neg y4]
              by_cases y5 : hv σc t (5 - d) = 0
              · rw [if_pos y5, if_neg (show ¬ (1 : Int) = 0 by decide), show ((5 - d : Nat) : Int).toNat = 5 - d by omega, m2 (Or.inl y5)]
                refine ⟨by omega, ?_⟩
                by_cases y6 : s.2 (5 - d) = 0
                · rw [if_pos y6]
                  exact hy (iff.mpr ⟨y1, y2, y3, y4, y5, y6⟩)
                · rw [if_neg y6]
                  exact hx (fun h => y6 h.2.1)
              · rw [if_neg y5, if_pos rfl]
                exact hx (fun h => y5 (iff.mp h).2.2.2.2.1)
          · rw [if_neg y3]
            exact hx (fun h => y3 h.1)
        · rw [if_neg y2, if_pos rfl]
          exact hx (fun h => y2 (iff.mp h).2.1)
    have to : ∀ {σ1 : Sg} {b1 : BT} {v : Int} {o : Rs}, b1 = (if b.1 < v then (v, (n : Int), ((5 - d : Nat) : Int)) else b) → (∀ d8 d9, C373_22 t u b1.1 b1.2.1 b1.2.2 n ((6 - d : Nat) : Int) d8 d9 σ1 o) → ∀ d8 d9, C373_114 t u b.1 b.2.1 b.2.2 n ((5 - d : Nat) : Int) d8 d9 v σ1 o := by
      intro σ1 b1 v o hb1 hh d8 d9
      refine b373_114 (b373_129 (b373_144 (b373_158 ⟨by omega, ?_⟩)))
      rw [show ((5 - d : Nat) : Int) + 1 = ((6 - d : Nat) : Int) by omega]
      by_cases y : b.1 < v
      · rw [if_pos y] at hb1
        rw [if_pos y, if_pos y, if_pos y]
        rw [hb1] at hh
        exact hh _ _
      · rw [if_neg y] at hb1
        rw [if_neg y, if_neg y, if_neg y]
        rw [hb1] at hh
        exact hh _ _
    have un : mI (hv σc t) (hv σc u) (fun n e => lkF σc (6 * t + n) (6 * u + e)) s n (d + 1) b = mI (hv σc t) (hv σc u) (fun n e => lkF σc (6 * t + n) (6 * u + e)) s n d (if fr1 (hv σc t) (hv σc u) s n (5 - d) ∧ b.1 < lkF σc (6 * t + n) (6 * u + (5 - d)) then (lkF σc (6 * t + n) (6 * u + (5 - d)), (n : Int), ((5 - d : Nat) : Int)) else b) := rfl
    rw [un]
    by_cases y : fr1 (hv σc t) (hv σc u) s n (5 - d)
    · obtain ⟨σ1, a1, a2⟩ := d370 (f := 6 * t + n) (f' := 6 * u + (5 - d)) F M (by omega) (by omega) y.2.2.1 y.2.2.2
      rw [show ((6 * t + n : Nat) : Int) = (6 * (t : Int)) + (n : Int) by omega, show ((6 * u + (5 - d) : Nat) : Int) = (6 * (u : Int)) + ((5 - d : Nat) : Int) by omega] at a1
      obtain ⟨b1, hb1⟩ : ∃ b1 : BT, b1 = if b.1 < lkF σc (6 * t + n) (6 * u + (5 - d)) then (lkF σc (6 * t + n) (6 * u + (5 - d)), (n : Int), ((5 - d : Nat) : Int)) else b := ⟨_, rfl⟩
      have e1 : (if fr1 (hv σc t) (hv σc u) s n (5 - d) ∧ b.1 < lkF σc (6 * t + n) (6 * u + (5 - d)) then (lkF σc (6 * t + n) (6 * u + (5 - d)), (n : Int), ((5 - d : Nat) : Int)) else b) = b1 := by
        rw [hb1]
        by_cases y2 : b.1 < lkF σc (6 * t + n) (6 * u + (5 - d))
        · rw [if_pos ⟨y, y2⟩, if_pos y2]
        · rw [if_neg (fun h => y2 h.2), if_neg y2]
      rw [e1]
      have h59 : 59 ≤ b1.1 := by
        rw [hb1]
        by_cases y2 : b.1 < lkF σc (6 * t + n) (6 * u + (5 - d))
        · rw [if_pos y2]
          dsimp only
          omega
        · rw [if_neg y2]; exact hb
      obtain ⟨σ', b', c0, c1, c2, c3⟩ := ih σ1 b1 (by omega) h59 a2
      refine ⟨σ', b', c0, c1, fun {o} hh d8 d9 => cnd (fun _ => b373_85 ?_) (fun h => absurd y h), c3⟩
      rw [if_neg (show ¬ (1 : Int) = 0 by decide)]
      exact ⟨by omega, by omega, by omega, by omega, _, _, a1, to hb1 (c2 hh) _ _⟩
    · obtain ⟨σ', b', c0, c1, c2, c3⟩ := ih σ b (by omega) hb M
      rw [if_neg (fun h => y h.1)]
      refine ⟨σ', b', c0, c1, fun {o} hh d8 d9 => cnd (fun h => absurd h y) (fun _ => b373_84 (b373_85 ?_)), c3⟩
      rw [if_pos rfl]
      exact to (by rw [if_neg (by omega)]) (c2 hh) _ _
theorem d373 {σc σ0 σ : Sg} {D t u : Nat} {s : TS} (F : FL σc σ0) (hD : σ0 682 53 = (D : Nat)) (hD10 : D < 10) (ht : t < 3) (hu : u < 3) (I : INV (hv σc t) (hv σc u) s) (M : MT (hv σc t) (hv σc u) σ0 σ D s) : ∃ σ', Dd 373 [vA 682, vI t, vI u] σ (rI (if (mB (hv σc t) (hv σc u) (fun n e => lkF σc (6 * t + n) (6 * u + e)) s).2.1 = -1 then 0 else 1) σ') ∧ MT (hv σc t) (hv σc u) σ0 σ' D (sA (hv σc t) (hv σc u) (fun n e => lkF σc (6 * t + n) (6 * u + e)) s) := by
  have L : ∀ (d : Nat) (σ : Sg) (b : BT), d ≤ 6 → 59 ≤ b.1 → MT (hv σc t) (hv σc u) σ0 σ D s → ∃ σ' b', b' = mO (hv σc t) (hv σc u) (fun n e => lkF σc (6 * t + n) (6 * u + e)) s d b ∧ (∀ {o : Rs}, (∀ d7 d8 d9, C373_12 t u b'.1 b'.2.1 b'.2.2 6 d7 d8 d9 σ' o) → ∀ d7 d8 d9, C373_12 t u b.1 b.2.1 b.2.2 ((6 - d : Nat) : Int) d7 d8 d9 σ o) ∧ MT (hv σc t) (hv σc u) σ0 σ' D s := by
    intro d
    induction d with
    | zero =>
      intro σ b hd hb M
      exact ⟨σ, b, rfl, fun {o} hh => hh, M⟩
    | succ d ih =>
      intro σ b hd hb M
      obtain ⟨σ1, b1, c0, c1, c2, c3⟩ := l373b (n := 5 - d) F hD hD10 ht hu (by omega) I 6 σ b (by omega) hb M
      obtain ⟨σ', b', e0, e1, e2⟩ := ih σ1 b1 (by omega) c1 c3
      refine ⟨σ', b', by rw [e0, c0]; rfl, fun {o} hh d7 d8 d9 => b373_12 ?_, e2⟩
      rw [if_pos (by omega), show 6 - (d + 1) = 5 - d by omega]
      rw [show 5 - d + 1 = 6 - d by omega] at c2
      exact c2 (e1 hh) _ _
  obtain ⟨σ1, b, e0, e1, e2⟩ := L 6 σ (59, -1, -1) (by omega) (by decide) M
  have ok := mB_ok (hA := hv σc t) (hB := hv σc u) (lk := fun n e => lkF σc (6 * t + n) (6 * u + e)) (s := s)
  have eb : mB (hv σc t) (hv σc u) (fun n e => lkF σc (6 * t + n) (6 * u + e)) s = b := e0.symm
  unfold sA
  rw [eb] at ok ⊢
  rcases ok with ⟨k1, k2⟩ | ⟨n, e, k1, k2, k3, k4, k5⟩
  · rw [if_pos k1, if_pos k1]
    refine ⟨σ1, b373 (e1 (fun d7 d8 d9 => b373_12 ?_) _ _ _), e2⟩
    rw [if_neg (by decide), if_pos k1]
    refine b373_187 ?_
    rw [if_pos k1]
  · have hne : ¬ b.2.1 = -1 := by omega
    rw [if_neg hne, if_neg hne]
    obtain ⟨σ2, a1, a2⟩ := d372 (a := (t : Int)) (b := (u : Int)) (n := n) (e := e) e2 hD hD10 k1 k2
    rw [k3, k4, show ((n : Nat) : Int).toNat = n by omega, show ((e : Nat) : Int).toNat = e by omega]
    refine ⟨σ2, b373 (e1 (fun d7 d8 d9 => b373_12 ?_) _ _ _), a2⟩
    rw [if_neg (by decide), if_neg hne, k3, k4]
    refine ⟨_, a1, b373_187 ?_⟩
    rw [if_neg (by omega)]
theorem l374d {σc σ0 : Sg} {D t u : Nat} (F : FL σc σ0) (hD : σ0 682 53 = (D : Nat)) (hD10 : D < 10) (ht : t < 3) (hu : u < 3) : ∀ (w : Nat) (σ : Sg) (s : TS), frc s ≤ w → INV (hv σc t) (hv σc u) s → MT (hv σc t) (hv σc u) σ0 σ D s → ∃ σ', (∀ d4 d5, C374_245 t u 1 d4 d5 σ (rI (D : Nat) (upS σ' 682 53 ((D : Int) + 1)))) ∧ MT (hv σc t) (hv σc u) σ0 σ' D (sN (hv σc t) (hv σc u) (fun n e => lkF σc (6 * t + n) (6 * u + e)) w s) := by
  intro w
  induction w with
  | zero =>
    intro σ s hw I M
    obtain ⟨σ1, a1, a2⟩ := d373 F hD hD10 ht hu I M
    have ok := mB_ok (hA := hv σc t) (hB := hv σc u) (lk := fun n e => lkF σc (6 * t + n) (6 * u + e)) (s := s)
    rcases ok with ⟨k1, k2⟩ | ⟨n, e, k1, k2, k3, k4, k5⟩
    · rw [if_pos k1] at a1
      have es : sA (hv σc t) (hv σc u) (fun n e => lkF σc (6 * t + n) (6 * u + e)) s = s := by unfold sA; rw [if_pos k1]
      rw [es] at a2
      have e53 : σ1 682 53 = (D : Nat) := by rw [a2.1 _ _ (by decide) (by decide) (by omega) (by omega)]; exact hD
      refine ⟨σ1, fun d4 d5 => b374_245 ?_, a2⟩
      rw [if_neg (show ¬ (1 : Int) = 0 by decide)]
      refine ⟨_, _, a1, b374_245 ?_⟩
      rw [if_pos rfl, e53, up_s, show ((D : Nat) : Int) + 1 - 1 = (D : Int) by omega]
      exact ⟨by omega, by omega, rfl⟩
    · exfalso
      have := frc_p (n := n) k2 k5.2.1
      omega
  | succ w ih =>
    intro σ s hw I M
    obtain ⟨σ1, a1, a2⟩ := d373 F hD hD10 ht hu I M
    have ok := mB_ok (hA := hv σc t) (hB := hv σc u) (lk := fun n e => lkF σc (6 * t + n) (6 * u + e)) (s := s)
    rcases ok with ⟨k1, k2⟩ | ⟨n, e, k1, k2, k3, k4, k5⟩
    · rw [if_pos k1] at a1
      have es : sA (hv σc t) (hv σc u) (fun n e => lkF σc (6 * t + n) (6 * u + e)) s = s := by unfold sA; rw [if_pos k1]
      rw [es] at a2
      have e53 : σ1 682 53 = (D : Nat) := by rw [a2.1 _ _ (by decide) (by decide) (by omega) (by omega)]; exact hD
      rw [sN_fix es]
      refine ⟨σ1, fun d4 d5 => b374_245 ?_, a2⟩
      rw [if_neg (show ¬ (1 : Int) = 0 by decide)]
      refine ⟨_, _, a1, b374_245 ?_⟩
      rw [if_pos rfl, e53, up_s, show ((D : Nat) : Int) + 1 - 1 = (D : Int) by omega]
      exact ⟨by omega, by omega, rfl⟩
    · have hne : ¬ (mB (hv σc t) (hv σc u) (fun n e => lkF σc (6 * t + n) (6 * u + e)) s).2.1 = -1 := by omega
      rw [if_neg hne] at a1
      have hf : frc (sA (hv σc t) (hv σc u) (fun n e => lkF σc (6 * t + n) (6 * u + e)) s) ≤ w := by
        unfold sA
        rw [if_neg hne, k3, k4, show ((n : Nat) : Int).toNat = n by omega, show ((e : Nat) : Int).toNat = e by omega]
        have := frc_p (n := n) k2 k5.2.1
        omega
      obtain ⟨σ', c1, c2⟩ := ih σ1 _ hf (INV_sA I) a2
      refine ⟨σ', fun d4 d5 => b374_245 ?_, c2⟩
      rw [if_neg (show ¬ (1 : Int) = 0 by decide)]
      exact ⟨_, _, a1, c1 _ _⟩
end
