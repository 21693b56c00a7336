/-! The stack, of the law: pushes, swaps, edits. -/
noncomputable section
theorem LI_FK {n : Nat} {w : WS} {s : Sg} (L : LI n w) (hn : n ≤ 1000) (W : WF s) (fr : FK s w.2.2) : LI n (wS w s) := by
  have hb := LI_b L
  obtain ⟨a1, a2, a3, a4, a5, a6, a7, a8, a9, b1, b2, b3⟩ := L
  have R := Rel_FK W fr a2
  have e3 := fr 402 3 (by omega)
  have e4 := fr 402 4 (by omega)
  have eT : tpR s = tpR w.2.2 := by unfold tpR; rw [e3]
  refine LI_st (w' := wS w s) ⟨a1, a2, a3, a4, a5, a6, a7, a8, a9, b1, b2, b3⟩ (Nat.le_refl n) rfl R (fun x k h1 h2 h3 => fr x k (by omega)) (fun a k _ _ _ _ => rfl) (a6.trans e3.symm) (a7.trans e4.symm) (by show s 402 4 ≤ n; omega) hn (fun k hk => ?_) ?_
  · have hk : (k : Int) < s 402 3 := hk
    exact (a8 k (by omega)).trans (fr 472 k (by omega)).symm
  · rcases a9 with a9 | ⟨t, t1, t2, t3⟩
    · exact Or.inl a9
    · refine Or.inr ⟨t, t1, t2, ?_⟩
      show smP s (2 + 2 * t) (tpR s)
      rw [eT]
      have hp := tp_in (σ := w.2.2) ⟨hb.1, hb.2.1⟩
      refine smP_cg (funext fun k => fr _ k (by omega)) (funext fun k => fr _ k (by omega)) (funext fun k => fr _ k ?_) (funext fun k => fr _ k ?_) t3
      · unfold tpR blw at hp ⊢
        split <;> omega
      · unfold tpR blw at hp ⊢
        split <;> omega
/-- pushes -/
theorem m269 {n t t0 h : Nat} {a3 : Int} {w : WS} (L : LI n w) (hn : n + 1 ≤ 1000) (ht : t < 4) (g7 : 0 ≤ a3 ∧ a3 < 3) (h3 : w.2.1 682 3 = (h : Nat)) (h5 : h < 5) (ht0 : t0 < 4) (hc5 : w.2.1 682 5 = (t0 : Int) + 1) (hsm : smP w.2.2 (2 + 2 * t0) (tpR w.2.2)) (g8 : w.2.2 0 3 < 24) : ∃ w', LI (n + 1) w' ∧ Sc w w' ∧ Lx 269 [vA 0, vA 682, vI t, vI a3] w (rO 1 w') := by
  obtain ⟨p, n1, n2, s1, hp, p24, z1, z2, d1, R1, N1⟩ := c181 (a3 := a3) L.2.1 ht0 ht g7 g8
  have L1 := LI_new L R1 N1
  have hbb := LI_b L
  have hs : SCR = 1000000000 := rfl
  have e3 : w.2.2 402 3 = (h : Nat) := by rw [← L.2.2.2.2.2.1]; exact h3
  have k0 : w.2.1 682 0 = (p : Nat) := by rw [L.2.2.1]; exact hp
  have f1 : ∀ x k, 402 ≤ x → x ≤ 472 → s1 x k = w.2.2 x k := fun x k h1 h2 => N1.2.1 x k (by omega) (by unfold KP; omega) (by omega) (by omega)
  have eT : tpR s1 = tpR w.2.2 := by unfold tpR; rw [f1 402 3 (by decide) (by decide)]
  have hpT := tp_in (σ := w.2.2) ⟨hbb.1, hbb.2.1⟩
  have sm1 : smP s1 (20 + 13 * p + 1) (tpR s1) := by
    rw [eT]
    refine ⟨?_, fun k hk => ?_⟩
    · rw [N1.2.2.1, f1 _ _ (by omega) (by omega), ← hsm.1]; exact z1.symm
    · rw [N1.2.2.1] at hk
      rw [f1 (tpR w.2.2 + 1) k (by omega) (by omega), ← hsm.2 k (by rw [z1]; exact hk)]
      exact N1.2.2.2.2.1 k (by omega)
  have R1' : Rel 1000 s1 := L1.2.1
  have c0 := N1.1
  obtain ⟨nm, s2, hnm, d2, R2, O2, q1, q2, q3, q4, q5, q6⟩ := c201 (t := p) (h := h) R1' (by decide) (by omega) (by rw [f1 402 3 (by decide) (by decide)]; exact e3) h5 sm1
  obtain ⟨wB, hwB⟩ : ∃ wB, wB = wS (wU w 682 0 ((p : Int) + 1)) s1 := ⟨_, rfl⟩
  have LB : LI n wB := by rw [hwB]; exact L1
  have eB : wB.2.2 = s1 := by rw [hwB]; rfl
  have v3 : wB.2.1 682 ((3 : Int)).toNat = (h : Int) := by rw [hwB]; exact h3
  have v4 : wB.2.1 682 ((4 : Int)).toNat = (nm : Int) := by
    have := LB.2.2.2.2.2.2.1
    rw [eB, hnm] at this
    exact this
  have w3 : (wU wB 682 (6 + (h : Int)).toNat (nm : Int)).2.1 682 ((3 : Int)).toNat = (h : Int) := by
    show upS wB.2.1 682 (6 + (h : Int)).toNat (nm : Int) 682 3 = h
    rw [up_k (by omega)]
    exact v3
  have w4 : (wU (wU wB 682 (6 + (h : Int)).toNat (nm : Int)) 682 ((3 : Int)).toNat ((h : Int) + 1)).2.1 682 ((4 : Int)).toNat = (nm : Int) := by
    show upS (upS wB.2.1 682 (6 + (h : Int)).toNat (nm : Int)) 682 3 ((h : Int) + 1) 682 4 = nm
    rw [up_k (by decide), up_k (by omega)]
    exact v4
  obtain ⟨wC, hwC⟩ : ∃ wC, wC = wU (wU (wU (wU wB 682 (6 + (h : Int)).toNat (nm : Int)) 682 ((3 : Int)).toNat ((h : Int) + 1)) 682 ((4 : Int)).toNat ((nm : Int) + 1)) 682 ((5 : Int)).toNat ((t : Int) + 1) := ⟨_, rfl⟩
  have eC : wC.2.2 = s1 := by rw [hwC]; exact eB
  have eC1 : wC.1 = wB.1 := by rw [hwC]; rfl
  have vC : ∀ k, wC.2.1 682 k = upS (upS (upS (upS wB.2.1 682 (6 + (h : Int)).toNat (nm : Int)) 682 3 ((h : Int) + 1)) 682 4 ((nm : Int) + 1)) 682 5 ((t : Int) + 1) 682 k := fun k => by rw [hwC]; rfl
  have x3 : (wS wC s2).2.1 682 ((3 : Int)).toNat = (h : Int) + 1 := by
    show wC.2.1 682 3 = _
    rw [vC, up_k (by decide), up_k (by decide), up_s]
  have x4 : (wS wC s2).2.1 682 ((4 : Int)).toNat = (nm : Int) + 1 := by
    show wC.2.1 682 4 = _
    rw [vC, up_k (by decide), up_s]
  have x5 : (wS wC s2).2.1 682 5 = (t : Int) + 1 := by
    show wC.2.1 682 5 = _
    rw [vC, up_s]
  have tT : tpR s2 = 406 + 13 * h + 3 := tpR_s q1
  have smt : smP s2 (2 + 2 * t) (tpR s2) := by
    rw [tT]
    have m1 : s2 (2 + 2 * t) 1 = (n2 : Nat) := by
      rw [O2 _ _ (by omega) (by unfold KP; omega) (by omega), N1.2.1 _ _ (by omega) (by unfold KP; omega) (by omega) (by omega)]
      exact z2
    refine ⟨by rw [m1, q5]; exact N1.2.2.2.1.symm, fun k hk => ?_⟩
    rw [m1] at hk
    rw [O2 _ _ (by omega) (by unfold KP; omega) (by omega), N1.2.1 _ _ (by omega) (by unfold KP; omega) (by omega) (by omega), q6 k (by rw [N1.2.2.2.1]; exact hk)]
    exact (N1.2.2.2.2.2 k (by omega)).symm
  have b3 : wB.2.1 682 4 ≤ n := LB.2.2.2.2.2.2.2.2.2.2.2
  have nmn : (nm : Int) ≤ n := by
    have : wB.2.1 682 4 = (nm : Int) := v4
    omega
  have LC : LI (n + 1) (wS wC s2) := by
    refine LI_st (w' := wS wC s2) LB (Nat.le_succ n) eC1 R2 (by rw [eB]; exact O2) (fun a k _ _ h4 _ => ?_) (x3.trans q1.symm) (x4.trans q2.symm) (by show s2 402 4 ≤ _; omega) hn (fun k hk => ?_) (Or.inr ⟨t, ht, x5, smt⟩)
    · show wC.2.1 a k = wB.2.1 a k
      rw [hwC]
      show upS (upS (upS (upS wB.2.1 682 (6 + (h : Int)).toNat (nm : Int)) 682 3 ((h : Int) + 1)) 682 4 ((nm : Int) + 1)) 682 5 ((t : Int) + 1) a k = _
      unfold upS
      rw [if_neg (by omega), if_neg (by omega), if_neg (by omega), if_neg (by omega)]
    · have hk : (k : Int) < s2 402 3 := hk
      show wC.2.1 682 (6 + k) = s2 472 k
      rw [vC, up_k (by omega), up_k (by omega), up_k (by omega)]
      by_cases e : k = h
      · subst e
        rw [show (6 + (k : Int)).toNat = 6 + k by omega, up_s]
        exact q3.symm
      · rw [up_k (by omega), q4 k e]
        have := LB.2.2.2.2.2.2.2.1 k (by rw [eB, f1 402 3 (by decide) (by decide)]; omega)
        rw [eB] at this
        exact this
  have SC : Sc w (wS wC s2) := fun k => by
    have u : ∀ a, ¬ a = 682 → (wS wC s2).2.1 a k = w.2.1 a k := fun a ha => by
      show wC.2.1 a k = _
      rw [hwC, hwB]
      show upS (upS (upS (upS (upS w.2.1 682 0 ((p : Int) + 1)) 682 (6 + (h : Int)).toNat (nm : Int)) 682 3 ((h : Int) + 1)) 682 4 ((nm : Int) + 1)) 682 5 ((t : Int) + 1) a k = _
      rw [up_a ha, up_a ha, up_a ha, up_a ha, up_a ha]
    exact ⟨u _ (by omega), u _ (by omega)⟩
  have key : ∀ (d3 d5 d6 : Option AV) (r : Nat), 103 ≤ r → K269_46 t d3 p d5 d6 1 wB r (rO 1 (wS wC s2)) := fun d3 d5 d6 r hr => by
    refine bK269_46 ?_
    rw [v3, v4, w3, w4]
    refine ⟨LB.1, ⟨by decide, by decide⟩, by omega, LB.1, ⟨by decide, by decide⟩, LB.1, by omega, LB.1, ⟨by decide, by decide⟩, by omega, LB.1, ⟨by decide, by decide⟩, LB.1, ⟨by decide, by decide⟩, by omega, LB.1, ⟨by decide, by decide⟩, by omega, LB.1, ⟨by decide, by decide⟩, ?_⟩
    rw [if_neg (show ¬ (1 : Int) = 0 by decide), ← hwC]
    refine ⟨by omega, _, s2, by rw [eC]; exact d2, LC.1, ⟨by decide, by decide⟩, ?_⟩
    rw [x4]
    refine ⟨by omega, ?_⟩
    rw [if_pos (by omega)]
    refine ⟨Nat.zero_le _, _, s2, Dc_of (b208 rfl), LC.1, ⟨by decide, by decide⟩, ?_⟩
    rw [wSS, x3, wSx, if_pos q1]
    refine ⟨by omega, 1, wS wC s2, m268 (w := wS wC s2) LC.2.1 ht smt, ?_⟩
    rw [if_neg (show ¬ (1 : Int) = 0 by decide)]
    exact bK269_121 ⟨Or.inr rfl, rfl⟩
  refine ⟨_, LC, SC, lb269 ?_⟩
  have k5 : w.2.1 682 ((5 : Int)).toNat = (t0 : Int) + 1 := hc5
  have k0' : w.2.1 682 ((0 : Int)).toNat = (p : Int) := k0
  rw [k5, k0', show (t0 : Int) + 1 - 1 = t0 by omega]
  refine ⟨L.1, ⟨by decide, by decide⟩, L.1, ⟨by decide, by decide⟩, by omega, L.1, ⟨by decide, by decide⟩, by omega, L.1, ⟨by decide, by decide⟩, by decide, 1, _, m268 (w := wU w 682 ((0 : Int)).toNat ((p : Int) + 1)) L.2.1 ht0 hsm, ?_⟩
  rw [if_neg (show ¬ (1 : Int) = 0 by decide)]
  refine ⟨by decide, _, s1, d1, ?_⟩
  rw [if_pos rfl]
  rw [hwB] at key
  exact key _ _ _ _ (by decide)
/-- the text of the stack, asked line by line -/
theorem q210i {σ : Sg} {c : Int} {i : Nat} (H : Rel c σ) (hi : (i : Int) < σ (tpR σ) 1) : Dc 210 [vA 0, vI i] σ (.inl (some (.inl (σ (tpR σ + 1) i)))) σ := by
  have d := q210 (k := i) H
  rw [atS_in hi] at d
  exact Dc_of d
theorem q210o {σ : Sg} {c : Int} {i : Nat} (H : Rel c σ) (hi : σ (tpR σ) 1 ≤ (i : Int)) : Dc 210 [vA 0, vI i] σ (.inl (some (.inl (-1)))) σ := by
  have d := q210 (k := i) H
  rw [atS_out hi] at d
  exact Dc_of d
theorem top_nn {σ : Sg} {c : Int} {i : Nat} (H : Rel c σ) (hi : (i : Int) < σ (tpR σ) 1) : 0 ≤ σ (tpR σ + 1) i := by
  have hS := H.2.2.2.2.2.1
  obtain ⟨h, hh⟩ := Int.eq_ofNat_of_zero_le hS.1
  by_cases h0 : h = 0
  · have eT : tpR σ = 403 := by unfold tpR; rw [hh, h0]; rfl
    rw [eT] at hi ⊢
    exact isLn_nn (hS.2.2.2.2.2.2.2.2.2.1 i hi)
  · have eT : tpR σ = 406 + 13 * (h - 1) + 3 := tpR_s (by omega)
    rw [eT] at hi ⊢
    exact isLn_nn ((hS.2.2.2.2.2.2.2.2.2.2 (h - 1) (by omega)).2.1.2.2.2.2.2.2.2.2.1 i hi)
/-- swaps: the text of the stack is kept in a row -/
def TA (A m : Nat) (w : WS) : Prop := ∀ i : Nat, i < m → w.2.1 A i = w.2.2 (tpR w.2.2 + 1) i
theorem ll270a {w0 : WS} {c : Int} {A m : Nat} {x2 : Int} {d5 d6 d7 : Option AV} (H : Rel c w0.2.2) (hm : w0.2.2 (tpR w0.2.2) 1 = (m : Nat)) (hm16 : m ≤ 16) (hA : 682 ≤ A) (hS : w0.1[A - 682]? = some (0, 17, [])) : ∀ (d i : Nat) (w : WS), i + d = m → w.1 = w0.1 → w.2.2 = w0.2.2 → (∀ b k, ¬ b = A → w.2.1 b k = w0.2.1 b k) → (∀ k, k < i → w.2.1 A k = w0.2.2 (tpR w0.2.2 + 1) k) → ∃ w', w'.1 = w0.1 ∧ w'.2.2 = w0.2.2 ∧ (∀ b k, ¬ b = A → w'.2.1 b k = w0.2.1 b k) ∧ TA A m w' ∧ ∀ (o : Ro) (r : Nat), (∀ rr, r ≤ rr + 2 * d → K270_8 x2 A m d5 d6 d7 w' rr o) → 2 * d ≤ r → K270_8 x2 A i d5 d6 d7 w r o := by
  intro d
  induction d with
  | zero =>
    intro i w hi h1 h2 h3 h4
    refine ⟨w, h1, h2, h3, fun k hk => by rw [h4 k (by omega), h2], fun o r K _ => ?_⟩
    rw [show i = m by omega]
    exact K r (by omega)
  | succ d ih =>
    intro i w hi h1 h2 h3 h4
    have hv := q210i (i := i) H (by omega)
    have hnn := top_nn (i := i) H (by omega)
    obtain ⟨w', a1, a2, a3, a4, a5⟩ := ih (i + 1) (wU w A i (w0.2.2 (tpR w0.2.2 + 1) i)) (by omega) h1 h2 (fun b k hb => (up_a hb).trans (h3 b k hb)) (fun k hk => by
      show upS w.2.1 A i _ A k = _
      by_cases e : k = i
      · rw [e, up_s]
      · rw [up_k e]; exact h4 k (by omega))
    refine ⟨w', a1, a2, a3, a4, fun o r K hr => bK270_8 ⟨by omega, _, w0.2.2, by rw [h2]; exact hv, ?_⟩⟩
    rw [if_neg (by omega), ← h2, wSs, tn]
    refine ⟨by omega, _, w.2.2, by rw [h2]; exact hv, hA, by rw [wSs, h1]; exact hS, by omega, by omega, ?_⟩
    rw [wSs]
    have := a5 o (r - 1 - 1) (fun rr hrr => K rr (by omega)) (by omega)
    exact this
theorem ll270b {w : WS} {c : Int} {A m : Nat} {x2 x5 : Int} {d1 : Option AV} (H : Rel c w.2.2) (hm : w.2.2 (tpR w.2.2) 1 = (m : Nat)) (hm16 : m ≤ 16) (hA : 682 ≤ A ∧ ¬ A = SCR) (hS : w.1[A - 682]? = some (0, 17, [])) (T : TA A m w) {o : Ro} : ∀ (d i r : Nat), i + d = m → (∀ rr, r ≤ rr + d → K270_96 d1 x2 A m x5 1 m w rr o) → d ≤ r → K270_96 d1 x2 A m x5 1 i w r o := by
  intro d
  induction d with
  | zero =>
    intro i r hi K _
    rw [show i = m by omega]
    exact K r (by omega)
  | succ d ih =>
    intro i r hi K hr
    have hv := q210i (i := i) H (by omega)
    refine bK270_96 ?_
    rw [if_pos (by omega), if_neg (by decide)]
    refine ⟨by omega, _, w.2.2, hv, hA, hS, by omega, ?_⟩
    rw [wSs, tn, T i (by omega), if_pos rfl]
    exact bK270_126 ⟨by omega, ih (i + 1) _ (by omega) (fun rr hrr => K rr (by omega)) (by omega)⟩
theorem m270 {n h k : Nat} {w : WS} (L : LI n w) (hn : n + 1 ≤ 900) (h3 : w.2.1 682 3 = (h : Nat)) (hk : k + 1 < h) : ∃ w', LI (n + 1) w' ∧ Sc w w' ∧ Lx 270 [vA 0, vA 682, vI k] w (rO 1 w') := by
  have hs : SCR = 1000000000 := rfl
  have hl : w.1.length ≤ n + 1 := L.2.2.2.2.2.2.2.2.2.2.1
  have hbb := LI_b L
  have e3 : w.2.2 402 3 = (h : Nat) := by rw [← L.2.2.2.2.2.1]; exact h3
  obtain ⟨A, hA⟩ : ∃ A, A = 682 + w.1.length := ⟨_, rfl⟩
  have hl0 : 0 < w.1.length := by
    have a1 := L.1
    cases hw : w.1 with
    | nil => rw [hw] at a1; cases a1
    | cons _ _ => simp
  have hSx : (wN w 17).1[A - 682]? = some (0, 17, []) := by
    show (w.1 ++ [(0, 17, [])])[A - 682]? = _
    rw [show A - 682 = w.1.length by omega, List.getElem?_append_right (Nat.le_refl _), Nat.sub_self]
    rfl
  obtain ⟨m, hm⟩ := Int.eq_ofNat_of_zero_le (rel_top16 L.2.1).1
  have hm : w.2.2 (tpR w.2.2) 1 = (m : Nat) := hm
  have hm16 : m ≤ 16 := by
    have : w.2.2 (tpR w.2.2) 1 ≤ 16 := (rel_top16 L.2.1).2
    omega
  obtain ⟨w1, M1, M2, M3, TA1, K1⟩ := ll270a (w0 := wN w 17) (A := A) (x2 := (k : Int)) (d5 := none) (d6 := none) (d7 := none) (m := m) L.2.1 hm hm16 (by omega) hSx m 0 (wN w 17) (by omega) rfl rfl (fun _ _ _ => rfl) (fun k hk => absurd hk (Nat.not_lt_zero _))
  have M2 : w1.2.2 = w.2.2 := M2
  have L1 : LI (n + 1) w1 := LI_arr (x := (0, 17, [])) L M1 M2 (fun b k hb => M3 b k (by omega))
  have S1 : Sc w w1 := fun k => ⟨M3 _ k (by omega), M3 _ k (by omega)⟩
  have top : ∀ {o : Ro}, (∀ rr, 60 ≤ rr → K270_8 k A m none none none w1 rr o) → Lx 270 [vA 0, vA 682, vI k] w o := fun {o} K => by
    refine lb270 ⟨by omega, by decide, ?_⟩
    rw [← hA]
    exact K1 o (100 - 1) (fun rr hrr => K rr (by omega)) (by omega)
  have o210 : Dc 210 [vA 0, vI m] w1.2.2 (.inl (some (.inl (-1)))) w1.2.2 := q210o L1.2.1 (by rw [M2]; omega)
  have hS1 : w1.1[A - 682]? = some (0, 17, []) := by rw [M1]; exact hSx
  rcases c204 (k := k) L1.2.1 (by rw [M2]; omega) with X | ⟨s2, d2, R2, O2, q1, q2, q3, q4, q5⟩
  · refine ⟨w1, L1, S1, top (fun rr hrr => bK270_8 ⟨by omega, _, _, o210, ?_⟩)⟩
    rw [if_pos rfl, wSs]
    refine ⟨by omega, -2, w1, lb260 ⟨by decide, Or.inr ⟨_, X, rfl⟩⟩, ?_⟩
    rw [if_pos rfl]
    refine bK270_59 (bK270_64 ?_)
    rw [if_pos rfl]
    refine bK270_93 (ll270b (c := 1000) L1.2.1 (by rw [M2]; exact hm) hm16 ⟨by omega, by omega⟩ hS1 TA1 m 0 _ (by omega) (fun r hr => ?_) (by omega))
    refine bK270_96 ?_
    rw [if_neg (by omega), if_neg (by decide)]
    refine ⟨by omega, _, _, o210, ?_⟩
    rw [if_pos rfl, if_pos rfl]
    exact bK270_170 (bK270_175 ⟨Or.inr rfl, rfl⟩)
  · -- exchanged
    have nam := L1.2.2.2.2.2.2.2.1
    have e3' : w1.2.2 402 3 = (h : Nat) := by rw [M2]; exact e3
    obtain ⟨v, hv⟩ : ∃ v, v = w1.2.2 472 (k + 1) := ⟨_, rfl⟩
    rw [← hv] at d2 q2
    have nv := (L1.2.1.2.2.2.2.2.1).2.2.2.2.2.2.2.1 (k + 1) (by omega)
    have v0 : 0 ≤ v := by rw [hv]; exact nv.1
    have c7 : w1.2.1 682 (7 + (k : Int)).toNat = v := by
      rw [show (7 + (k : Int)).toNat = 6 + (k + 1) by omega, nam (k + 1) (by omega), hv]
    have c6 : w1.2.1 682 (6 + (k : Int)).toNat = w1.2.2 472 k := by
      rw [show (6 + (k : Int)).toNat = 6 + k by omega]
      exact nam k (by omega)
    obtain ⟨wB, hwB⟩ : ∃ wB, wB = wU (wU (wS w1 s2) 682 (7 + (k : Int)).toNat (w1.2.2 472 k)) 682 (6 + (k : Int)).toNat v := ⟨_, rfl⟩
    have eB : wB.2.2 = s2 := by rw [hwB]; rfl
    have eB1 : wB.1 = w1.1 := by rw [hwB]; rfl
    have vB : ∀ a i, wB.2.1 a i = upS (upS w1.2.1 682 (7 + (k : Int)).toNat (w1.2.2 472 k)) 682 (6 + (k : Int)).toNat v a i := fun a i => by rw [hwB]; rfl
    have eT : tpR s2 = tpR w1.2.2 := by unfold tpR; rw [q1]
    have hpT := tp_in (σ := w1.2.2) ⟨by omega, by rw [M2]; exact hbb.2.1⟩
    have u5 : ∀ i, i < 6 → wB.2.1 682 i = w1.2.1 682 i := fun i hi => by rw [vB, up_k (by omega), up_k (by omega)]
    have LB : LI (n + 1) wB := by
      refine LI_st (w' := wB) L1 (Nat.le_refl _) eB1 (by rw [eB]; exact R2) (by rw [eB]; exact O2) (fun a i _ _ h4 _ => ?_) ?_ ?_ ?_ (by omega) (fun i hi => ?_) ?_
      · rw [vB]
        unfold upS
        rw [if_neg (by omega), if_neg (by omega)]
      · rw [u5 3 (by decide), eB, q1]; exact L1.2.2.2.2.2.1
      · rw [u5 4 (by decide), eB, q1]; exact L1.2.2.2.2.2.2.1
      · rw [eB, q1, ← L1.2.2.2.2.2.2.1]; exact L1.2.2.2.2.2.2.2.2.2.2.2
      · rw [eB, q1] at hi
        rw [vB, eB, q2]
        by_cases i1 : i = k
        · rw [if_pos i1, i1, show (6 + (k : Int)).toNat = 6 + k by omega, up_s]
        · rw [if_neg i1, up_k (by omega)]
          by_cases i2 : i = k + 1
          · rw [if_pos i2, i2, show (7 + (k : Int)).toNat = 6 + (k + 1) by omega, up_s]
          · rw [if_neg i2, up_k (by omega)]
            exact nam i hi
      · rw [u5 5 (by decide), eB, eT]
        rcases L1.2.2.2.2.2.2.2.2.1 with a9 | ⟨t, t1, t2, t3⟩
        · exact Or.inl a9
        · refine Or.inr ⟨t, t1, t2, ?_⟩
          have w1t : s2 (2 + 2 * t) = w1.2.2 (2 + 2 * t) := funext fun i => O2 _ i (by omega) (by unfold KP; omega) (by omega)
          have w2t : s2 (2 + 2 * t + 1) = w1.2.2 (2 + 2 * t + 1) := funext fun i => O2 _ i (by omega) (by unfold KP; omega) (by omega)
          refine ⟨by rw [w1t, q3]; exact t3.1, fun i hi => ?_⟩
          rw [w1t] at hi
          rw [w2t, q4 i (by rw [← t3.1]; exact hi)]
          exact t3.2 i hi
    have SB : Sc w wB := Sc_t S1 (fun i => by
      rw [vB, vB, up_a (by omega), up_a (by omega), up_a (by omega), up_a (by omega)]
      exact ⟨rfl, rfl⟩)
    have mB : wB.2.2 (tpR wB.2.2) 1 = (m : Nat) := by rw [eB, eT, q3, M2]; exact hm
    have TB : TA A m wB := fun i hi => by
      rw [vB, up_a (by omega), up_a (by omega), eB, eT, q4 i (by rw [M2]; omega)]
      exact TA1 i hi
    obtain ⟨nv1, s9, r1, r2, r3, r4, r5, r6⟩ := q211 (k := k + 1) LB.2.1 (by rw [eB, q1]; omega)
    have bit := r3 k rfl (by rw [eB]; exact q5)
    have W9 : Wi 1000 wB (wS wB s9) := Wi_s (Wi_r LB.2.1) r5 r6
    have oB : Dc 210 [vA 0, vI m] wB.2.2 (.inl (some (.inl (-1)))) wB.2.2 := q210o LB.2.1 (by omega)
    have hSB : wB.1[A - 682]? = some (0, 17, []) := by rw [eB1]; exact hS1
    refine ⟨wS wB s9, LI_W LB W9, Sc_t SB (Sc_e rfl), top (fun rr hrr => bK270_8 ⟨by omega, _, _, o210, ?_⟩)⟩
    rw [if_pos rfl, wSs]
    refine ⟨by omega, v, wS w1 s2, lb260 ⟨by decide, Or.inl ⟨_, _, d2, rfl⟩⟩, ?_⟩
    have c7' : (wS w1 s2).2.1 682 (7 + (k : Int)).toNat = v := c7
    have c6' : (wS w1 s2).2.1 682 (6 + (k : Int)).toNat = w1.2.2 472 k := c6
    rw [if_neg (by omega), c7', if_pos rfl]
    refine ⟨by omega, L1.1, by omega, bK270_59 (bK270_64 ?_)⟩
    rw [if_neg (by omega), c6', ← hwB]
    refine ⟨by omega, by omega, L1.1, by omega, L1.1, by omega, by omega, L1.1, by omega, bK270_93 (ll270b (c := 1000) LB.2.1 mB hm16 ⟨by omega, by omega⟩ hSB TB m 0 _ (by omega) (fun r hr => ?_) (by omega))⟩
    refine bK270_96 ?_
    rw [if_neg (by omega), if_neg (by decide)]
    refine ⟨by omega, _, _, oB, ?_⟩
    rw [if_pos rfl, if_neg (by omega), wSs]
    refine ⟨by omega, by omega, nv1, s9, r4, ?_⟩
    rw [if_pos bit]
    exact bK270_170 (bK270_175 ⟨Or.inr rfl, rfl⟩)
end
