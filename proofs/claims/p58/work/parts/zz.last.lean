-- DRAFT c3st.lean
/-! The stack, of the law: one step of it. -/
noncomputable section
theorem LI_5 {n : Nat} {w : WS} (L : LI n w) (h : ¬ w.2.1 682 5 = 0) : ∃ t : Nat, t < 4 ∧ w.2.1 682 5 = (t : Int) + 1 ∧ smP w.2.2 (2 + 2 * t) (tpR w.2.2) := by
  rcases L.2.2.2.2.2.2.2.2.1 with a9 | a9
  · exact absurd a9 h
  · exact a9
theorem wU_s {w : WS} {a k : Nat} {v : Int} : (wU w a k v).2.1 a k = v := by
  show upS w.2.1 a k v a k = v
  exact up_s
theorem wSU_s {w : WS} {s : Sg} {a k : Nat} {v : Int} : (wS (wU w a k v) s).2.1 a k = v := by
  show upS w.2.1 a k v a k = v
  exact up_s
theorem ll267a {n b : Nat} {w : WS} (L : LI n w) (hn : n ≤ 1000) (h0 : w.2.1 682 3 = 0) : ∃ w', LI n w' ∧ Sc w w' ∧ ∀ (d2 d4 d5 d6 d7 : Option AV) (r : Nat), 3 ≤ r → K267_112 d2 b d4 d5 d6 d7 w r (rO 1 w') := by
  have htb : b / 3 % 4 < 4 := Nat.mod_lt _ (by decide)
  obtain ⟨tb, etb⟩ : ∃ tb, tb = b / 3 % 4 := ⟨_, rfl⟩
  have eb : Int.tmod (Int.tdiv (b : Int) 3) 4 = (tb : Int) := by rw [etb]; rfl
  rw [← etb] at htb
  have e3 : w.2.2 402 3 = 0 := by rw [← L.2.2.2.2.2.1]; exact h0
  obtain ⟨s2, d, R, O, q1, q2, sm⟩ := c200 L.2.1 htb e3
  have u5 : (wU w 682 ((5 : Int)).toNat ((tb : Int) + 1)).2.1 682 ((5 : Int)).toNat = (tb : Int) + 1 := wU_s
  have u5' : (wS (wU w 682 ((5 : Int)).toNat ((tb : Int) + 1)) s2).2.1 682 ((5 : Int)).toNat = (tb : Int) + 1 := wSU_s
  have vu : ∀ a k, ¬ (a = 682 ∧ k = 5) → (wU w 682 ((5 : Int)).toNat ((tb : Int) + 1)).2.1 a k = w.2.1 a k := fun a k h => by
    show upS w.2.1 682 5 ((tb : Int) + 1) a k = _
    unfold upS
    rw [if_neg h]
  have L1 : LI n (wS (wU w 682 ((5 : Int)).toNat ((tb : Int) + 1)) s2) := by
    refine LI_st (w' := wS (wU w 682 ((5 : Int)).toNat ((tb : Int) + 1)) s2) L (Nat.le_refl _) rfl R O (fun a k _ _ h4 _ => vu a k (by omega)) ?_ ?_ ?_ hn (fun k hk => ?_) (Or.inr ⟨tb, htb, u5', sm⟩)
    · show _ = s2 402 3
      rw [q1]
      exact (vu 682 3 (by decide)).trans L.2.2.2.2.2.1
    · show _ = s2 402 4
      rw [q1]
      exact (vu 682 4 (by decide)).trans L.2.2.2.2.2.2.1
    · show s2 402 4 ≤ _
      rw [q1, ← L.2.2.2.2.2.2.1]
      exact L.2.2.2.2.2.2.2.2.2.2.2
    · have hk : (k : Int) < s2 402 3 := hk
      rw [q1, e3] at hk
      omega
  refine ⟨_, L1, Sc_u (by decide) rfl, fun d2 d4 d5 d6 d7 r hr => bK267_112 ?_⟩
  rw [eb, u5, show (tb : Int) + 1 - 1 = tb by omega]
  refine ⟨by omega, L.1, ⟨by decide, by decide⟩, L.1, ⟨by decide, by decide⟩, by omega, by omega, _, s2, d, L.1, ⟨by decide, by decide⟩, ?_⟩
  rw [u5', show (tb : Int) + 1 - 1 = tb by omega]
  refine ⟨by omega, by omega, _, s2, Dc_of (q175 (σ := s2) htb), ?_⟩
  rw [if_pos (O (2 + 2 * tb) 1 (by omega) (by unfold KP; omega) (by omega)).symm, wSS]
  exact bK267_148 ⟨Or.inr rfl, rfl⟩
theorem ll267b {n b : Nat} {w : WS} (L : LI n w) (hn : n + 1 ≤ 1000) : ∃ w', LI (n + 1) w' ∧ Sc w w' ∧ ∀ (d2 d4 d5 d6 d7 : Option AV) (r : Nat), 250 ≤ r → K267_149 d2 b d4 d5 d6 d7 w r (rO 1 w') := by
  have hb := LI_b L
  obtain ⟨h, hh⟩ := Int.eq_ofNat_of_zero_le hb.1
  have h3 : w.2.1 682 3 = (h : Nat) := by rw [L.2.2.2.2.2.1]; exact hh
  have e3 : w.2.1 682 ((3 : Int)).toNat = (h : Int) := h3
  have e0 : w.2.1 682 ((0 : Int)).toNat = w.2.2 0 3 := L.2.2.1
  have no : ∀ (d2 d3 d4 d5 d6 d7 : Option AV) (r : Nat), K267_186 (some (vA 0)) (some (vA 682)) d2 d3 d4 d5 d6 d7 w r (rO 1 w) := fun _ _ _ _ _ _ _ => bK267_186 (bK267_191 ⟨Or.inr rfl, rfl⟩)
  by_cases c5 : w.2.1 682 ((5 : Int)).toNat = 0
  · refine ⟨w, LI_mono L (Nat.le_succ n), Sc_r _, fun d2 d4 d5 d6 d7 r hr => bK267_149 ⟨L.1, ⟨by decide, by decide⟩, ?_⟩⟩
    rw [if_pos c5]
    exact no _ _ _ _ _ _ _
  obtain ⟨t0, t1, t2, t3⟩ := LI_5 L c5
  by_cases h5 : h = 5
  · refine ⟨w, LI_mono L (Nat.le_succ n), Sc_r _, fun d2 d4 d5 d6 d7 r hr => bK267_149 ⟨L.1, ⟨by decide, by decide⟩, ?_⟩⟩
    rw [if_neg c5, e3, if_pos (by omega)]
    exact ⟨L.1, ⟨by decide, by decide⟩, no _ _ _ _ _ _ _⟩
  by_cases g : w.2.2 0 3 ≤ 21
  · have em : Int.tmod (b : Int) 4 = ((b % 4 : Nat) : Int) := rfl
    have em2 : Int.tmod (Int.tdiv (b : Int) 4) 3 = ((b / 4 % 3 : Nat) : Int) := rfl
    have b4 : b % 4 < 4 := Nat.mod_lt _ (by decide)
    have b3 : b / 4 % 3 < 3 := Nat.mod_lt _ (by decide)
    obtain ⟨w', L', S', K'⟩ := m269 (t := b % 4) (a3 := ((b / 4 % 3 : Nat) : Int)) L hn b4 (by omega) h3 (by omega) t1 t2 t3 (by omega)
    refine ⟨w', L', S', fun d2 d4 d5 d6 d7 r hr => bK267_149 ⟨L.1, ⟨by decide, by decide⟩, ?_⟩⟩
    rw [if_neg c5, e3, if_neg (by omega), e0, if_pos g, em, em2]
    refine ⟨L.1, ⟨by decide, by decide⟩, L.1, ⟨by decide, by decide⟩, by omega, 1, w', K', ?_⟩
    rw [if_neg (show ¬ (1 : Int) = 0 by decide)]
    exact bK267_186 (bK267_191 ⟨Or.inr rfl, rfl⟩)
  · refine ⟨w, LI_mono L (Nat.le_succ n), Sc_r _, fun d2 d4 d5 d6 d7 r hr => bK267_149 ⟨L.1, ⟨by decide, by decide⟩, ?_⟩⟩
    rw [if_neg c5, e3, if_neg (by omega), e0, if_neg g]
    exact ⟨L.1, ⟨by decide, by decide⟩, L.1, ⟨by decide, by decide⟩, no _ _ _ _ _ _ _⟩
/-- names move up behind a fold -/
theorem ll267c {w : WS} {lo g : Nat} {d2 d3 d4 d5 : Option AV} (hE : w.1[0]? = some (0, 12, [])) (h3 : w.2.1 682 3 = ((g + 2 : Nat) : Int)) (h5 : g + 2 ≤ 5) : ∀ (d e : Nat) (w1 : WS), e + d = g + 1 → lo + 1 ≤ e → w1.1 = w.1 → w1.2.2 = w.2.2 → (∀ a k, w1.2.1 a k = if a = 682 ∧ 6 + (lo + 1) ≤ k ∧ k < 6 + e then w.2.1 682 (k + 1) else w.2.1 a k) → ∃ w', w'.1 = w.1 ∧ w'.2.2 = w.2.2 ∧ (∀ a k, w'.2.1 a k = if a = 682 ∧ 6 + (lo + 1) ≤ k ∧ k < 6 + (g + 1) then w.2.1 682 (k + 1) else w.2.1 a k) ∧ ∀ (o : Ro) (r : Nat), K267_324 d2 d3 d4 d5 lo ((g + 1 : Nat) : Int) w' r o → K267_324 d2 d3 d4 d5 lo e w1 r o := by
  intro d
  induction d with
  | zero =>
    intro e w1 he hlo h1 h2 hv
    have ee : e = g + 1 := by omega
    subst ee
    exact ⟨w1, h1, h2, hv, fun o r K => K⟩
  | succ d ih =>
    intro e w1 he hlo h1 h2 hv
    have e3 : w1.2.1 682 ((3 : Int)).toNat = ((g + 2 : Nat) : Int) := by
      show w1.2.1 682 3 = _
      rw [hv, if_neg (by omega)]
      exact h3
    have hE1 : w1.1[0]? = some (0, 12, []) := by rw [h1]; exact hE
    have e7 : w1.2.1 682 (7 + (e : Int)).toNat = w.2.1 682 (6 + e + 1) := by
      rw [show (7 + (e : Int)).toNat = 6 + e + 1 by omega, hv, if_neg (by omega)]
    obtain ⟨w', a1, a2, a3, a4⟩ := ih (e + 1) (wU w1 682 (6 + (e : Int)).toNat (w.2.1 682 (6 + e + 1))) (by omega) (by omega) h1 h2 (fun a k => by
      show upS w1.2.1 682 (6 + (e : Int)).toNat (w.2.1 682 (6 + e + 1)) a k = _
      rw [show (6 + (e : Int)).toNat = 6 + e by omega]
      unfold upS
      by_cases y : a = 682 ∧ k = 6 + e
      · rw [if_pos y, if_pos (by omega), y.2]
      · rw [if_neg y, hv]
        by_cases z : a = 682 ∧ 6 + (lo + 1) ≤ k ∧ k < 6 + e
        · rw [if_pos z, if_pos (by omega)]
        · rw [if_neg z, if_neg (by omega)])
    refine ⟨w', a1, a2, a3, fun o r K => bK267_324 ?_⟩
    rw [e3, if_pos (by omega), e7]
    exact ⟨hE1, ⟨by decide, by decide⟩, by omega, by omega, by omega, hE1, by omega, hE1, by omega, by omega, a4 o r K⟩
theorem m267 {n a b : Nat} {w : WS} (L : LI n w) (hn : n + 1 ≤ 900) : ∃ w', LI (n + 1) w' ∧ Sc w w' ∧ Lx 267 [vA 0, vA 682, vI a, vI b] w (rO 1 w') := by
  have hb := LI_b L
  have hs : SCR = 1000000000 := rfl
  obtain ⟨h, hh⟩ := Int.eq_ofNat_of_zero_le hb.1
  have h3 : w.2.1 682 3 = (h : Nat) := by rw [L.2.2.2.2.2.1]; exact hh
  have e3 : w.2.1 682 ((3 : Int)).toNat = (h : Int) := h3
  have e0 : w.2.1 682 ((0 : Int)).toNat = w.2.2 0 3 := L.2.2.1
  have h5 : h ≤ 5 := by omega
  have nam := L.2.2.2.2.2.2.2.1
  have nmn : w.2.2 402 4 ≤ n := by
    rw [← L.2.2.2.2.2.2.1]
    exact L.2.2.2.2.2.2.2.2.2.2.2
  obtain ⟨kk, hkk⟩ : ∃ kk, kk = if h = 0 then 0 else a / 8 % h := ⟨_, rfl⟩
  have ek : (if (h : Int) = 0 then (0 : Int) else Int.tmod (Int.tdiv (a : Int) 8) (h : Int)) = (kk : Int) := by
    rw [hkk]
    by_cases z : h = 0
    · rw [if_pos z, if_pos (by omega)]; rfl
    · rw [if_neg z, if_neg (by omega)]; rfl
  obtain ⟨nm, hnm⟩ : ∃ nm : Int, nm = if (h : Int) = 0 then -1 else w.2.1 682 (6 + (h : Int) - 1).toNat := ⟨_, rfl⟩
  have em8 : Int.tmod (a : Int) 8 = ((a % 8 : Nat) : Int) := rfl
  have a8 : a % 8 < 8 := Nat.mod_lt _ (by decide)
  have top : ∀ {o : Ro}, (a % 8 ≤ 2 → K267_88 (some (.inl (a : Int))) b (some (.inl (kk : Int))) (some (.inl nm)) none none w 1200 o) → (a % 8 = 3 → K267_192 (some (.inl (a : Int))) b (some (.inl (kk : Int))) nm none none w 1200 o) → (a % 8 = 4 → K267_246 a (some (.inl (b : Int))) (some (.inl (kk : Int))) (some (.inl nm)) none none w 1200 o) → (a % 8 = 5 → K267_277 a b (some (.inl (kk : Int))) (some (.inl nm)) none none w 1200 o) → (a % 8 = 6 → K267_379 (some (.inl (a : Int))) b (some (.inl (kk : Int))) (some (.inl nm)) none none w 1200 o) → (a % 8 = 7 → K267_448 (some (.inl (a : Int))) b kk (some (.inl nm)) none none w 1200 o) → Lx 267 [vA 0, vA 682, vI a, vI b] w o := fun {o} k1 k2 k3 k4 k5 k6 => by
    refine lb267 ?_
    rw [e3, ek]
    refine ⟨L.1, ⟨by decide, by decide⟩, fun _ => L.1, fun _ => ⟨by decide, by decide⟩, fun _ => by omega, bK267_18 ?_⟩
    rw [e3, ← hnm]
    refine ⟨L.1, ⟨by decide, by decide⟩, fun _ => L.1, fun _ => ⟨by decide, by decide⟩, fun _ => by omega, fun _ => by omega, fun _ => L.1, fun _ => by omega, bK267_40 ?_⟩
    rw [em8]
    exact ⟨fun e => k1 (by omega), fun e => k1 (by omega), fun e => k1 (by omega), fun e => k2 (by omega), fun e => k3 (by omega), fun e => k4 (by omega), fun e => k5 (by omega), fun e => k6 (by omega)⟩
  have ht : ∀ d2 d3 d4 d5 d6 d7 : Option AV, Dc 208 [vA 0] w.2.2 (.inl (some (.inl (h : Int)))) w.2.2 := fun _ _ _ _ _ _ => by
    have := Dc_of (b208 (σ := w.2.2) rfl)
    rw [hh] at this
    exact this
  have d208 : Dc 208 [vA 0] w.2.2 (.inl (some (.inl (h : Int)))) w.2.2 := ht none none none none none none
  by_cases c2 : a % 8 ≤ 2
  · have go : ∀ {w'}, (∀ (d2 d4 d5 d6 d7 : Option AV) (r : Nat), 900 ≤ r → K267_88 d2 b d4 d5 d6 d7 w r (rO 1 w')) → Lx 267 [vA 0, vA 682, vI a, vI b] w (rO 1 w') := fun {w'} K => top (fun _ => K _ _ _ _ _ _ (by decide)) (fun e => absurd e (by omega)) (fun e => absurd e (by omega)) (fun e => absurd e (by omega)) (fun e => absurd e (by omega)) (fun e => absurd e (by omega))
    have eb : Int.tmod (b : Int) 3 = ((b % 3 : Nat) : Int) := rfl
    by_cases h0 : h = 0
    · have z3 : w.2.1 682 3 = 0 := by rw [h3, h0]; rfl
      obtain ⟨w1, L1, S1, K1⟩ := ll267a (b := b) L (by omega) z3
      obtain ⟨w2, L2, S2, K2⟩ := ll267b (b := b) L (by omega)
      have z3' : w.2.1 682 ((3 : Int)).toNat = 0 := z3
      by_cases c3 : b % 3 = 0 ∨ w.2.1 682 5 = 0
      · refine ⟨w1, LI_mono L1 (Nat.le_succ n), S1, go (fun d2 d4 d5 d6 d7 r hr => bK267_88 ⟨L.1, ⟨by decide, by decide⟩, ?_⟩)⟩
        rw [if_pos z3', eb]
        by_cases c4 : b % 3 = 0
        · rw [if_pos (by omega)]
          exact K1 _ _ _ _ _ _ (by omega)
        · rw [if_neg (by omega)]
          have c5 : w.2.1 682 ((5 : Int)).toNat = 0 := c3.resolve_left c4
          refine bK267_100 ⟨L.1, ⟨by decide, by decide⟩, ?_⟩
          rw [if_pos z3', if_pos c5]
          exact ⟨L.1, ⟨by decide, by decide⟩, K1 _ _ _ _ _ _ (by omega)⟩
      · refine ⟨w2, L2, S2, go (fun d2 d4 d5 d6 d7 r hr => bK267_88 ⟨L.1, ⟨by decide, by decide⟩, ?_⟩)⟩
        rw [if_pos z3', eb, if_neg (by omega)]
        have c5 : ¬ w.2.1 682 ((5 : Int)).toNat = 0 := fun e => c3 (Or.inr e)
        refine bK267_100 ⟨L.1, ⟨by decide, by decide⟩, ?_⟩
        rw [if_pos z3', if_neg c5]
        exact ⟨L.1, ⟨by decide, by decide⟩, K2 _ _ _ _ _ _ (by omega)⟩
    · obtain ⟨w2, L2, S2, K2⟩ := ll267b (b := b) L (by omega)
      have z3' : ¬ w.2.1 682 ((3 : Int)).toNat = 0 := by rw [e3]; omega
      refine ⟨w2, L2, S2, go (fun d2 d4 d5 d6 d7 r hr => bK267_88 ⟨L.1, ⟨by decide, by decide⟩, ?_⟩)⟩
      rw [if_neg z3']
      refine bK267_100 ⟨L.1, ⟨by decide, by decide⟩, ?_⟩
      rw [if_neg z3']
      exact K2 _ _ _ _ _ _ (by omega)
  by_cases c3 : a % 8 = 3
  · have go : ∀ {w'}, (∀ (d2 d4 d6 d7 : Option AV) (r : Nat), 900 ≤ r → K267_192 d2 b d4 nm d6 d7 w r (rO 1 w')) → Lx 267 [vA 0, vA 682, vI a, vI b] w (rO 1 w') := fun {w'} K => top (fun e => absurd e (by omega)) (fun _ => K _ _ _ _ _ (by decide)) (fun e => absurd e (by omega)) (fun e => absurd e (by omega)) (fun e => absurd e (by omega)) (fun e => absurd e (by omega))
    have K204 : ∀ (d2 d3 d4 d5 d6 d7 : Option AV) (r : Nat), K267_204 d2 d3 d4 d5 d6 d7 w r (rO 1 w) := fun d2 d3 d4 d5 d6 d7 r => by
      refine bK267_204 ⟨Nat.zero_le _, _, _, d208, L.1, ⟨by decide, by decide⟩, ?_⟩
      rw [wSs, e3, if_pos rfl]
      exact bK267_219 ⟨Or.inr rfl, rfl⟩
    have eb : Int.tmod (b : Int) 3 = ((b % 3 : Nat) : Int) := rfl
    by_cases h0 : h = 0
    · refine ⟨w, LI_mono L (Nat.le_succ n), Sc_r _, go (fun d2 d4 d6 d7 r hr => bK267_192 ⟨L.1, ⟨by decide, by decide⟩, ?_⟩)⟩
      rw [e3, if_pos (by omega)]
      exact K204 _ _ _ _ _ _ _
    by_cases b0 : b % 3 = 0
    · obtain ⟨g, hg⟩ : ∃ g, h = g + 1 := ⟨h - 1, by omega⟩
      obtain ⟨s2, d, R, O, q1, q2, q3⟩ := c202 (h := g) L.2.1 (by omega)
      have ex : (h : Int) - 1 = (g : Int) := by omega
      have vu : ∀ a k, ¬ (a = 682 ∧ k = 5) → ¬ (a = 682 ∧ k = 3) → (wU (wU w 682 ((3 : Int)).toNat (g : Int)) 682 ((5 : Int)).toNat 0).2.1 a k = w.2.1 a k := fun a k h h' => by
        show upS (upS w.2.1 682 3 (g : Int)) 682 5 0 a k = _
        unfold upS
        rw [if_neg h, if_neg h']
      have L1 : LI (n + 1) (wS (wU (wU w 682 ((3 : Int)).toNat (g : Int)) 682 ((5 : Int)).toNat 0) s2) := by
        refine LI_st (w' := wS (wU (wU w 682 ((3 : Int)).toNat (g : Int)) 682 ((5 : Int)).toNat 0) s2) L (Nat.le_succ _) rfl R O (fun a k _ _ h4 _ => vu a k (by omega) (by omega)) ?_ ?_ ?_ (by omega) (fun k hk => ?_) (Or.inl wSU_s)
        · show upS (upS w.2.1 682 3 (g : Int)) 682 5 0 682 3 = s2 402 3
          rw [up_k (by decide), up_s, q1]
        · show _ = s2 402 4
          rw [q2]
          exact (vu 682 4 (by decide) (by decide)).trans L.2.2.2.2.2.2.1
        · show s2 402 4 ≤ _
          omega
        · have hk : (k : Int) < s2 402 3 := hk
          show _ = s2 472 k
          rw [q3]
          exact (vu 682 (6 + k) (by omega) (by omega)).trans (nam k (by omega))
      have sc1 : Sc w (wS (wU (wU w 682 ((3 : Int)).toNat (g : Int)) 682 ((5 : Int)).toNat 0) s2) := fun k => ⟨vu SCR k (by omega) (by omega), vu (SCR + 1) k (by omega) (by omega)⟩
      refine ⟨_, L1, sc1, go (fun d2 d4 d6 d7 r hr => bK267_192 ⟨L.1, ⟨by decide, by decide⟩, ?_⟩)⟩
      rw [e3, if_neg (by omega), eb, if_neg (by omega), ex]
      refine ⟨L.1, ⟨by decide, by decide⟩, by omega, L.1, ⟨by decide, by decide⟩, L.1, ⟨by decide, by decide⟩, by omega, _, s2, d, ?_⟩
      have en : nm = w.2.2 472 g := by
        rw [hnm, if_neg (by omega), show (6 + (h : Int) - 1).toNat = 6 + g by omega]
        exact nam g (by omega)
      rw [if_pos en.symm]
      exact bK267_245 ⟨Or.inr rfl, rfl⟩
    · refine ⟨w, LI_mono L (Nat.le_succ n), Sc_r _, go (fun d2 d4 d6 d7 r hr => bK267_192 ⟨L.1, ⟨by decide, by decide⟩, ?_⟩)⟩
      rw [e3, if_neg (by omega), eb, if_pos (by omega)]
      exact K204 _ _ _ _ _ _ _
  by_cases c4 : a % 8 = 4
  · have go : ∀ {w'}, (∀ (d3 d4 d5 d6 d7 : Option AV) (r : Nat), 900 ≤ r → K267_246 a d3 d4 d5 d6 d7 w r (rO 1 w')) → Lx 267 [vA 0, vA 682, vI a, vI b] w (rO 1 w') := fun {w'} K => top (fun e => absurd e (by omega)) (fun e => absurd e (by omega)) (fun _ => K _ _ _ _ _ _ (by decide)) (fun e => absurd e (by omega)) (fun e => absurd e (by omega)) (fun e => absurd e (by omega))
    by_cases h2 : 2 ≤ h
    · have em : Int.tmod (Int.tdiv (a : Int) 8) ((h - 1 : Nat) : Int) = ((a / 8 % (h - 1) : Nat) : Int) := rfl
      have km : a / 8 % (h - 1) < h - 1 := Nat.mod_lt _ (by omega)
      obtain ⟨w', L', S', K'⟩ := m270 (k := a / 8 % (h - 1)) L (by omega) h3 (by omega)
      refine ⟨w', L', S', go (fun d3 d4 d5 d6 d7 r hr => bK267_246 ⟨L.1, ⟨by decide, by decide⟩, ?_⟩)⟩
      rw [e3, if_pos (by omega), show (h : Int) - 1 = ((h - 1 : Nat) : Int) by omega, em]
      refine ⟨L.1, ⟨by decide, by decide⟩, by omega, by omega, by omega, 1, w', K', ?_⟩
      rw [if_neg (show ¬ (1 : Int) = 0 by decide)]
      exact bK267_271 (bK267_276 ⟨Or.inr rfl, rfl⟩)
    · refine ⟨w, LI_mono L (Nat.le_succ n), Sc_r _, go (fun d3 d4 d5 d6 d7 r hr => bK267_246 ⟨L.1, ⟨by decide, by decide⟩, ?_⟩)⟩
      rw [e3, if_neg (by omega)]
      exact bK267_271 (bK267_276 ⟨Or.inr rfl, rfl⟩)
  by_cases c5 : a % 8 = 5
  · have go : ∀ {w'}, (∀ (d4 d5 d6 d7 : Option AV) (r : Nat), 900 ≤ r → K267_277 a b d4 d5 d6 d7 w r (rO 1 w')) → Lx 267 [vA 0, vA 682, vI a, vI b] w (rO 1 w') := fun {w'} K => top (fun e => absurd e (by omega)) (fun e => absurd e (by omega)) (fun e => absurd e (by omega)) (fun _ => K _ _ _ _ _ (by decide)) (fun e => absurd e (by omega)) (fun e => absurd e (by omega))
    have K290 : ∀ (d2 d3 d4 d5 d6 d7 : Option AV) (r : Nat), K267_290 d2 d3 d4 d5 d6 d7 w r (rO 1 w) := fun d2 d3 d4 d5 d6 d7 r => by
      refine bK267_290 ⟨Nat.zero_le _, _, _, d208, L.1, ⟨by decide, by decide⟩, ?_⟩
      rw [wSs, e3, if_pos rfl]
      exact bK267_305 ⟨Or.inr rfl, rfl⟩
    have eb : Int.tmod (b : Int) 4 = ((b % 4 : Nat) : Int) := rfl
    by_cases h2 : 2 ≤ h
    · by_cases b0 : b % 4 = 0
      · obtain ⟨g, hg⟩ : ∃ g, h = g + 2 := ⟨h - 2, by omega⟩
        have em : Int.tmod (Int.tdiv (a : Int) 8) ((g + 1 : Nat) : Int) = ((a / 8 % (g + 1) : Nat) : Int) := rfl
        have km : a / 8 % (g + 1) < g + 1 := Nat.mod_lt _ (by omega)
        obtain ⟨lo, hlo⟩ : ∃ lo, lo = a / 8 % (g + 1) := ⟨_, rfl⟩
        rw [← hlo] at em km
        obtain ⟨s2, d, R, O, q1, q2, q3, q4, q5⟩ := c205 (k := lo) (g := g) L.2.1 (by omega) (by omega)
        obtain ⟨w1, M1, M2, M3, K1⟩ := ll267c (w := w) (lo := lo) (g := g) (d2 := some (.inl (a : Int))) (d3 := some (.inl (b : Int))) (d4 := some (.inl (kk : Int))) (d5 := some (.inl nm)) L.1 (by rw [h3, hg]) (by omega) (g - lo) (lo + 1) w (by omega) (Nat.le_refl _) rfl rfl (fun a k => by rw [if_neg (by omega)])
        have eg3 : w1.2.1 682 ((3 : Int)).toNat = ((g + 2 : Nat) : Int) := by
          show w1.2.1 682 3 = _
          rw [M3, if_neg (by omega), h3, hg]
        have vu : ∀ a k, ¬ (a = 682 ∧ k = 3) → (wU w1 682 ((3 : Int)).toNat ((g + 1 : Nat) : Int)).2.1 a k = w1.2.1 a k := fun a k h => by
          show upS w1.2.1 682 3 ((g + 1 : Nat) : Int) a k = _
          unfold upS
          rw [if_neg h]
        have tO : tpR w.2.2 = 406 + 13 * (g + 1) + 3 := tpR_s (by omega)
        have tN : tpR s2 = 406 + 13 * g + 3 := tpR_s (by omega)
        have x3 : (wS (wU w1 682 ((3 : Int)).toNat ((g + 1 : Nat) : Int)) s2).2.1 682 ((3 : Int)).toNat = ((g + 1 : Nat) : Int) := wSU_s
        have L1 : LI (n + 1) (wS (wU w1 682 ((3 : Int)).toNat ((g + 1 : Nat) : Int)) s2) := by
          refine LI_st (w' := wS (wU w1 682 ((3 : Int)).toNat ((g + 1 : Nat) : Int)) s2) L (Nat.le_succ _) M1 R O (fun a k _ _ h4 _ => ?_) (x3.trans q1.symm) ?_ ?_ (by omega) (fun k hk => ?_) ?_
          · refine (vu a k (by omega)).trans ?_
            rw [M3, if_neg (by omega)]
          · show _ = s2 402 4
            rw [q2]
            refine (vu 682 4 (by decide)).trans ?_
            rw [M3, if_neg (by omega)]
            exact L.2.2.2.2.2.2.1
          · show s2 402 4 ≤ _
            omega
          · have hk : (k : Int) < s2 402 3 := hk
            show _ = s2 472 k
            rw [q3 k (by omega)]
            refine (vu 682 (6 + k) (by omega)).trans ?_
            rw [M3]
            by_cases y : lo + 1 ≤ k
            · rw [if_pos (by omega), if_pos y]
              exact nam (k + 1) (by omega)
            · rw [if_neg (by omega), if_neg y]
              exact nam k (by omega)
          · have e5 : (wS (wU w1 682 ((3 : Int)).toNat ((g + 1 : Nat) : Int)) s2).2.1 682 5 = w.2.1 682 5 := by
              refine (vu 682 5 (by decide)).trans ?_
              rw [M3, if_neg (by omega)]
            rw [e5]
            rcases L.2.2.2.2.2.2.2.2.1 with a9 | ⟨t, t1, t2, t3⟩
            · exact Or.inl a9
            · refine Or.inr ⟨t, t1, t2, ?_⟩
              show smP s2 (2 + 2 * t) (tpR s2)
              rw [tN]
              rw [tO] at t3
              have w1t : s2 (2 + 2 * t) = w.2.2 (2 + 2 * t) := funext fun i => O _ i (by omega) (by unfold KP; omega) (by omega)
              have w2t : s2 (2 + 2 * t + 1) = w.2.2 (2 + 2 * t + 1) := funext fun i => O _ i (by omega) (by unfold KP; omega) (by omega)
              refine ⟨by rw [w1t, q4]; exact t3.1, fun i hi => ?_⟩
              rw [w1t] at hi
              rw [w2t, q5 i (by rw [← t3.1]; exact hi)]
              exact t3.2 i hi
        have sc1 : Sc w (wS (wU w1 682 ((3 : Int)).toNat ((g + 1 : Nat) : Int)) s2) := fun k => ⟨(vu SCR k (by omega)).trans (by rw [M3, if_neg (by omega)]), (vu (SCR + 1) k (by omega)).trans (by rw [M3, if_neg (by omega)])⟩
        have hE1 : w1.1[0]? = some (0, 12, []) := by rw [M1]; exact L.1
        have d' : Dc 205 [vA 0, vI lo] (wU w1 682 ((3 : Int)).toNat ((g + 1 : Nat) : Int)).2.2 (.inl (some (.inl ((g + 1 : Nat) : Int)))) s2 := by
          show Dc 205 [vA 0, vI lo] w1.2.2 _ s2
          rw [M2]
          exact d
        refine ⟨_, L1, sc1, top (fun e => absurd e (by omega)) (fun e => absurd e (by omega)) (fun e => absurd e (by omega)) (fun _ => bK267_277 ⟨L.1, ⟨by decide, by decide⟩, ?_⟩) (fun e => absurd e (by omega)) (fun e => absurd e (by omega))⟩
        rw [e3, if_pos (by omega), eb, if_neg (by omega), show (h : Int) - 1 = ((g + 1 : Nat) : Int) by omega, em, show (lo : Int) + 1 = ((lo + 1 : Nat) : Int) from rfl]
        refine ⟨L.1, ⟨by decide, by decide⟩, by omega, by omega, by omega, K1 _ _ (bK267_324 ?_)⟩
        rw [eg3, if_neg (by omega), show ((g + 2 : Nat) : Int) - 1 = ((g + 1 : Nat) : Int) by omega]
        refine ⟨hE1, ⟨by decide, by decide⟩, by omega, hE1, ⟨by decide, by decide⟩, by omega, hE1, ⟨by decide, by decide⟩, by omega, _, s2, d', hE1, ⟨by decide, by decide⟩, ?_⟩
        rw [x3, if_pos rfl]
        exact bK267_378 ⟨Or.inr rfl, rfl⟩
      · refine ⟨w, LI_mono L (Nat.le_succ n), Sc_r _, go (fun d4 d5 d6 d7 r hr => bK267_277 ⟨L.1, ⟨by decide, by decide⟩, ?_⟩)⟩
        rw [e3, if_pos (by omega), eb, if_pos (by omega)]
        exact K290 _ _ _ _ _ _ _
    · refine ⟨w, LI_mono L (Nat.le_succ n), Sc_r _, go (fun d4 d5 d6 d7 r hr => bK267_277 ⟨L.1, ⟨by decide, by decide⟩, ?_⟩)⟩
      rw [e3, if_neg (by omega)]
      exact K290 _ _ _ _ _ _ _
  by_cases c6 : a % 8 = 6
  · have go : ∀ {w'}, (∀ (d2 d4 d5 d6 d7 : Option AV) (r : Nat), 900 ≤ r → K267_379 d2 b d4 d5 d6 d7 w r (rO 1 w')) → Lx 267 [vA 0, vA 682, vI a, vI b] w (rO 1 w') := fun {w'} K => top (fun e => absurd e (by omega)) (fun e => absurd e (by omega)) (fun e => absurd e (by omega)) (fun e => absurd e (by omega)) (fun _ => K _ _ _ _ _ _ (by decide)) (fun e => absurd e (by omega))
    by_cases h0 : h = 0
    · refine ⟨w, LI_mono L (Nat.le_succ n), Sc_r _, go (fun d2 d4 d5 d6 d7 r hr => bK267_379 ⟨L.1, ⟨by decide, by decide⟩, ?_⟩)⟩
      rw [e3, if_pos (by omega)]
      refine ⟨Nat.zero_le _, _, _, d208, ?_⟩
      rw [if_pos (by omega), wSs]
      exact bK267_397 ⟨Or.inr rfl, rfl⟩
    · obtain ⟨g, hg⟩ : ∃ g, h = g + 1 := ⟨h - 1, by omega⟩
      have htb : b % 4 < 4 := Nat.mod_lt _ (by decide)
      have hw : b / 4 % 3 < 3 := Nat.mod_lt _ (by decide)
      have em : Int.tmod (b : Int) 4 = ((b % 4 : Nat) : Int) := rfl
      have em2 : Int.tmod (Int.tdiv (b : Int) 4) 3 = ((b / 4 % 3 : Nat) : Int) := rfl
      obtain ⟨m, s2, m17, d, R, O, q1, q2, sm⟩ := c207 (u := b % 4) (a2 := ((b / 4 % 3 : Nat) : Int)) (k := g) L.2.1 htb (by omega) (by omega)
      have u5 : (wS (wU w 682 ((5 : Int)).toNat (((b % 4 : Nat) : Int) + 1)) s2).2.1 682 ((5 : Int)).toNat = ((b % 4 : Nat) : Int) + 1 := wSU_s
      have vu : ∀ a k, ¬ (a = 682 ∧ k = 5) → (wU w 682 ((5 : Int)).toNat (((b % 4 : Nat) : Int) + 1)).2.1 a k = w.2.1 a k := fun a k h => by
        show upS w.2.1 682 5 (((b % 4 : Nat) : Int) + 1) a k = _
        unfold upS
        rw [if_neg h]
      have L1 : LI (n + 1) (wS (wU w 682 ((5 : Int)).toNat (((b % 4 : Nat) : Int) + 1)) s2) := by
        refine LI_st (w' := wS (wU w 682 ((5 : Int)).toNat (((b % 4 : Nat) : Int) + 1)) s2) L (Nat.le_succ _) rfl R O (fun a k _ _ h4 _ => vu a k (by omega)) ?_ ?_ ?_ (by omega) (fun k hk => ?_) (Or.inr ⟨b % 4, htb, u5, sm⟩)
        · show _ = s2 402 3
          rw [q1]
          exact (vu 682 3 (by decide)).trans L.2.2.2.2.2.1
        · show _ = s2 402 4
          rw [q1]
          exact (vu 682 4 (by decide)).trans L.2.2.2.2.2.2.1
        · show s2 402 4 ≤ _
          rw [q1]
          omega
        · have hk : (k : Int) < s2 402 3 := hk
          rw [q1] at hk
          show _ = s2 472 k
          rw [q2]
          exact (vu 682 (6 + k) (by omega)).trans (nam k hk)
      refine ⟨_, L1, Sc_u (by decide) rfl, go (fun d2 d4 d5 d6 d7 r hr => bK267_379 ⟨L.1, ⟨by decide, by decide⟩, ?_⟩)⟩
      rw [e3, if_neg (by omega), em, em2]
      refine ⟨by omega, L.1, ⟨by decide, by decide⟩, by omega, _, s2, d, ?_⟩
      rw [if_pos (by omega), if_pos (by omega)]
      refine ⟨by omega, 1, _, m268 (w := wS (wU w 682 ((5 : Int)).toNat (((b % 4 : Nat) : Int) + 1)) s2) L1.2.1 htb sm, ?_⟩
      rw [if_neg (show ¬ (1 : Int) = 0 by decide)]
      exact bK267_447 ⟨Or.inr rfl, rfl⟩
  · have c7 : a % 8 = 7 := by omega
    have go : ∀ {w'}, (∀ (d2 d5 d6 d7 : Option AV) (r : Nat), 1100 ≤ r → K267_448 d2 b kk d5 d6 d7 w r (rO 1 w')) → Lx 267 [vA 0, vA 682, vI a, vI b] w (rO 1 w') := fun {w'} K => top (fun e => absurd e (by omega)) (fun e => absurd e (by omega)) (fun e => absurd e (by omega)) (fun e => absurd e (by omega)) (fun e => absurd e (by omega)) (fun _ => K _ _ _ _ _ (by decide))
    have no : ∀ (d2 d3 d4 d5 d6 d7 : Option AV) (r : Nat), K267_473 (some (vA 0)) (some (vA 682)) d2 d3 d4 d5 d6 d7 w r (rO 1 w) := fun _ _ _ _ _ _ _ => bK267_473 (bK267_478 ⟨Or.inr rfl, rfl⟩)
    by_cases h0 : h = 0
    · refine ⟨w, LI_mono L (Nat.le_succ n), Sc_r _, go (fun d2 d5 d6 d7 r hr => bK267_448 ⟨L.1, ⟨by decide, by decide⟩, ?_⟩)⟩
      rw [e3, if_pos (by omega)]
      exact no _ _ _ _ _ _ _
    by_cases g : w.2.2 0 3 ≤ 20
    · have kh : kk < h := by
        rw [hkk, if_neg h0]
        exact Nat.mod_lt _ (by omega)
      obtain ⟨w', L', S', K'⟩ := m271 (k := kk) (b := b) L (by rw [h3]; omega) (by omega)
      refine ⟨w', LI_mono L' (Nat.le_succ n), S', go (fun d2 d5 d6 d7 r hr => bK267_448 ⟨L.1, ⟨by decide, by decide⟩, ?_⟩)⟩
      rw [e3, if_neg (by omega), e0, if_pos g]
      refine ⟨L.1, ⟨by decide, by decide⟩, by omega, 1, w', K', ?_⟩
      rw [if_neg (show ¬ (1 : Int) = 0 by decide)]
      exact bK267_473 (bK267_478 ⟨Or.inr rfl, rfl⟩)
    · refine ⟨w, LI_mono L (Nat.le_succ n), Sc_r _, go (fun d2 d5 d6 d7 r hr => bK267_448 ⟨L.1, ⟨by decide, by decide⟩, ?_⟩)⟩
      rw [e3, if_neg (by omega), e0, if_neg g]
      exact ⟨L.1, ⟨by decide, by decide⟩, no _ _ _ _ _ _ _⟩
end
