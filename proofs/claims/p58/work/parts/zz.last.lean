-- DRAFT b9sw.lean
/-! The stack: swap, edit there and back, needs, orders, blame. -/
noncomputable section
/-- swap -/
theorem c204 {σ : Sg} {c : Int} {k : Nat} (H : Rel c σ) (hk : ((k + 1 : Nat) : Int) < σ 402 3) : Dc 204 [vA 0, vI k] σ (.inr 2) σ ∨ ∃ s2, Dc 204 [vA 0, vI k] σ (.inl (some (.inl (σ 472 (k + 1))))) s2 ∧ Rel (c + 1) s2 ∧ OS σ s2 ∧ (∀ x, s2 402 x = σ 402 x) ∧ (∀ x, s2 472 x = if x = k then σ 472 (k + 1) else if x = k + 1 then σ 472 k else σ 472 x) ∧ s2 (tpR σ) 1 = σ (tpR σ) 1 ∧ (∀ i : Nat, (i : Int) < σ (tpR σ) 1 → s2 (tpR σ + 1) i = σ (tpR σ + 1) i) ∧ ¬ tcP (stP s2 k) (stP s2 (k + 1)) := by
  have hS : RSt c σ := H.2.2.2.2.2.1
  obtain ⟨h1, h2, h3, h4, h5, h6, h7, h8, h9, h10, h11⟩ := hS
  obtain ⟨x1, x2, x3⟩ := h11 k (by omega)
  obtain ⟨y1, y2, y3⟩ := h11 (k + 1) hk
  obtain ⟨cP1, cP3, cP5, cP7, cP9, -, hP, qP⟩ := cpL (p := k) (by omega)
  obtain ⟨cQ1, cQ3, cQ5, cQ7, cQ9, -, hQ, qQ⟩ := cpL (p := k + 1) (by omega)
  have hbl : blw (k + 1) = 406 + 13 * k + 3 := by unfold blw; rw [if_neg (by omega), Nat.add_sub_cancel]
  rw [hbl] at y3
  obtain ⟨nb, na, hb1, hb2, N, S⟩ := po_slot x1 x2 (WF_w H.1 (pat_1 hP)).2.1 (WF_w H.1 (pat_3 hP)).2.1
  obtain ⟨nb', nc, hb3, hb4, N', S'⟩ := po_slot y1 y2 (WF_w H.1 (pat_1 hQ)).2.1 (WF_w H.1 (pat_3 hQ)).2.1
  have ena : na = nb' := by
    have z := y3.1
    rw [N'.1, N.2.1] at z
    omega
  subst ena
  have hf : ∀ x, x < na → σ (406 + 13 * k + 4) x = σ (406 + 13 * (k + 1) + 2) x := fun x hx => (y3.2 x (by rw [N'.1]; omega)).symm
  have E : EL 405 k (406 + 13 * k) (406 + 13 * (k + 1)) := ⟨5, by decide +kernel, by decide, by omega, qP, hP, qQ, hQ⟩
  have e232 := d232_ok (σ := σ) (i := (k : Int)) (n := σ 402 3 - 1) (by omega)
  by_cases tc : TCH (hks (σ (406 + 13 * k + 6)) nb na) (hks (σ (406 + 13 * (k + 1) + 6)) na nc)
  · have e10 := d10_t (lim := 16) E H.1 N N' (by omega) tc
    exact Or.inl (Dc_of (b204 ⟨by omega, Or.inl ⟨_, e232, 0, σ, e10, by rw [if_pos rfl]⟩⟩))
  have EX : EQL (σ (406 + 13 * k + 2)) (σ (406 + 13 * k + 4)) (σ (406 + 13 * k + 6)) nb := fun i hi e => GDg N x2 i hi e
  have EY : EQL (σ (406 + 13 * k + 4)) (σ (406 + 13 * (k + 1) + 4)) (σ (406 + 13 * (k + 1) + 6)) na := fun i hi e => by
    rw [hf i hi]
    exact GDg N' y2 i hi e
  have lX : ∀ i, i < nb → isLn (σ (406 + 13 * k + 2) i) = true := fun i hi => x2.2.2.2.2.2.2.2.1 i (by rw [N.1]; omega)
  have lZ : ∀ i, i < nc → isLn (σ (406 + 13 * (k + 1) + 4) i) = true := fun i hi => y2.2.2.2.2.2.2.2.2.1 i (by rw [N'.2.1]; omega)
  obtain ⟨b', M, f, a', g, u1, u2, u3, u4, u5, u6, u7, u8, u9, -⟩ := d297 (σ := σ) (s := 24 + k) (t := 24 + (k + 1)) (K := σ (406 + 13 * k + 8)) (L := σ (406 + 13 * (k + 1) + 8)) (Y := σ (406 + 13 * k + 4)) (by omega) (by omega) (by omega) (by omega) (by omega) (by omega) N.2.2.2.2.1 N'.2.2.2.2.1 N.2.2.2.2.2.1 N'.2.2.2.2.2.1 EX EY lX lZ tc S S'
  by_cases g5 : 16 < M.length
  · have e10 := d10_l (lim := 16) E H.1 N N' (by omega) tc (by omega)
    exact Or.inl (Dc_of (b204 ⟨by omega, Or.inl ⟨_, e232, 0, σ, e10, by rw [if_pos rfl]⟩⟩))
  obtain ⟨s8, r1, W8, N1, N2, r2, r3, r4, r5, r6, r7, r8, r9, r10⟩ := d10_y (lim := 16) E (by omega) (by omega) (by omega) H.1 N N' hf (by omega) (by omega) (by omega) u2 u5 u3 u4 u6 u7 u8 tc (fun j hj => by rcases hj with e | e | e | e <;> subst e <;> omega) (fun j hj => by rcases hj with e | e | e | e <;> subst e <;> omega) (by omega) (by omega) u1
  obtain ⟨h, hh⟩ := Int.eq_ofNat_of_zero_le h1
  have q471 : s8 471 1 = (h : Nat) := by rw [r10 _ _ (by decide) (by decide) (by omega) (by omega), h7.1, hh]
  have n472 : ∀ x, s8 472 x = σ 472 x := fun x => r10 _ _ (by decide) (by decide) (by omega) (by omega)
  have w471 : wR s8 471 := WF_w W8 (by decide +kernel)
  have e158 := d158 (σ := s8) (R := 471) (n := h) (k := k) w471 q471 (by omega)
  obtain ⟨s9, hs9⟩ : ∃ s9, s9 = upS (upS s8 (471 + 1) k (s8 (471 + 1) (k + 1))) (471 + 1) (k + 1) (s8 (471 + 1) k) := ⟨_, rfl⟩
  rw [← hs9] at e158
  have off9 : ∀ a x, ¬ a = 472 → s9 a x = s8 a x := fun a x ha => by rw [hs9, up_a ha, up_a ha]
  have v472 : ∀ x, s9 472 x = if x = k then σ 472 (k + 1) else if x = k + 1 then σ 472 k else σ 472 x := fun x => by
    rw [hs9]
    by_cases z1 : x = k
    · rw [if_pos z1, up_k (by omega), z1, up_s]
      exact n472 _
    · rw [if_neg z1]
      by_cases z2 : x = k + 1
      · rw [if_pos z2, z2, up_s]
        exact n472 _
      · rw [if_neg z2, up_k z2, up_k z1]
        exact n472 _
  have W9 : WF s9 := fun a ha => by
    have : ¬ a = 472 := by
      intro e
      subst e
      exact absurd ha (by decide +kernel)
    rw [off9 a 1 this]
    exact W8 a ha
  have e147 := d147 (σ := s9) (a := 471) (i := (k : Int)) (WF_w W9 (by decide +kernel))
  rw [at_on (n := h) (f := s9 472) (by rw [off9 _ _ (by decide)]; exact q471) (fun _ _ => rfl) (by omega), v472, if_pos rfl] at e147
  obtain ⟨s, d1, d2, d3⟩ := fc_join (fc32 (a1 := k) H) (b204 (x1 := (k : Int)) ⟨by omega, Or.inl ⟨_, e232, 1, s8, r1, by
    rw [if_neg (show ¬ (1 : Int) = 0 by decide)]
    exact ⟨s9, e158, _, s9, e147, rfl⟩⟩⟩)
  have IK : IV (gv f) (s8 (406 + 13 * k + 8)) nb M.length := IV_cgF r4 N1.2.2.2.2.2.1
  have IL : IV (gv g) (s8 (406 + 13 * (k + 1) + 8)) M.length nc := IV_cgF r7 N2.2.2.2.2.2.1
  obtain ⟨o1, -, -⟩ := mv_more N.2.2.2.2.1 N.2.2.2.2.2.1 N'.2.2.2.2.1 N'.2.2.2.2.2.1 EX EY tc u1 IK IL
  have lo : ∀ a x, a < 682 → ¬ a = 472 → s a x = s8 a x := fun a x y1 y2 => by rw [d3 a y1, off9 a x y2]
  obtain ⟨h', hh', hkh'⟩ : ∃ h' : Nat, σ 402 3 = ((h' + 2 : Nat) : Int) ∧ k ≤ h' := ⟨h - 2, by omega, by omega⟩
  have eT : tpR σ = 406 + 13 * (h' + 1) + 3 := tpR_s (by omega)
  refine Or.inr ⟨s, d1, d2, fun x i y1 y2 y3 => ?_, fun x => ?_, fun x => by rw [d3 472 (by decide)]; exact v472 x, ?_, fun i hi => ?_, fun T => ?_⟩
  · rw [lo x i y1 (by omega)]
    unfold KP at y2
    exact r10 x i (by omega) (by omega) (by omega) (by omega)
  · rw [lo 402 x (by decide) (by decide)]
    exact r10 402 x (by omega) (by omega) (by omega) (by omega)
  · rw [eT, lo _ _ (by omega) (by omega)]
    by_cases e : k = h'
    · subst e
      rw [N2.2.1, N'.2.1]
    · exact r10 _ _ (by omega) (by omega) (by omega) (by omega)
  · rw [eT] at hi ⊢
    rw [lo _ _ (by omega) (by omega)]
    by_cases e : k = h'
    · subst e
      rw [N'.2.1] at hi
      exact r6 i (by omega)
    · exact r10 _ _ (by omega) (by omega) (by omega) (by omega)
  · have T : TCH (hks (s (406 + 13 * k + 6)) (s (406 + 13 * k + 1) 1).toNat (s (406 + 13 * k + 3) 1).toNat) (hks (s (406 + 13 * (k + 1) + 6)) (s (406 + 13 * (k + 1) + 1) 1).toNat (s (406 + 13 * (k + 1) + 3) 1).toNat) := T
    rw [lo (406 + 13 * k + 1) 1 (by omega) (by omega), lo (406 + 13 * k + 3) 1 (by omega) (by omega), lo (406 + 13 * (k + 1) + 1) 1 (by omega) (by omega), lo (406 + 13 * (k + 1) + 3) 1 (by omega) (by omega), N1.1, N1.2.1, N2.1, N2.2.1, tn, tn, tn] at T
    rw [hks_cg (f := gv f) (g := s (406 + 13 * k + 6)) (fun i hi => by rw [lo _ _ (by omega) (by omega)]; exact r4 i hi), hks_cg (f := gv g) (g := s (406 + 13 * (k + 1) + 6)) (fun i hi => by rw [lo _ _ (by omega) (by omega)]; exact r7 i hi)] at T
    exact o1 T
/-- edit, of a line that no pair holds -/
theorem c206 {σ : Sg} {c l : Int} {k place : Nat} (H : Rel c σ) (hk : (k : Int) < σ 402 3) (hp : (place : Int) < σ (406 + 13 * k + 3) 1) (hK : σ (406 + 13 * k + 8) place = -1) (hl : isLn l = true) : ∃ s2, Dc 206 [vA 0, vI k, vI place, vI l] σ (.inl (some (.inl (σ (406 + 13 * k + 4) place)))) s2 ∧ Rel (c + 1) s2 ∧ (∀ a x, a < 682 → (∀ j' : Nat, (j' : Int) < σ 402 3 → ¬ a = 406 + 13 * j' + 2 ∧ ¬ a = 406 + 13 * j' + 4) → s2 a x = σ a x) ∧ ∀ j x : Nat, (j : Int) < σ 402 3 → s2 (406 + 13 * j + 2) x = edB (gp (fun j i => σ (406 + 13 * j + 6) i) k place) k l j x (σ (406 + 13 * j + 2) x) ∧ s2 (406 + 13 * j + 4) x = edA (gp (fun j i => σ (406 + 13 * j + 6) i) k place) k l j x (σ (406 + 13 * j + 4) x) := by
  obtain ⟨n4, n5, n6⟩ := (rel_n H).2.1
  obtain ⟨h, hh⟩ := Int.eq_ofNat_of_zero_le n5
  have hS := H.2.2.2.2.2.1
  have hL := cpL (p := k) (by omega)
  have hPk := hL.2.2.2.2.2.2.1
  have k1 : 0 ≤ (k : Int) ∧ (k : Int) < σ 402 3 := by omega
  have e231 := d231_ok (σ := σ) k1 n6
  rw [tn] at e231
  obtain ⟨r1, r2, r3⟩ := hS.2.2.2.2.2.2.2.2.2.2 k (by omega)
  have b16 := PR_16 r1 r2
  have w3 := H.1 _ (pat_3 hPk)
  have w1 := H.1 _ (pat_1 hPk)
  have e146 := d146 (σ := σ) (pat_3 hPk)
  have g3 : 0 ≤ (place : Int) ∧ (place : Int) < σ (406 + 13 * k + 3) 1 := by omega
  obtain ⟨nb, hnb⟩ := Int.eq_ofNat_of_zero_le w1.1
  obtain ⟨na, hna⟩ := Int.eq_ofNat_of_zero_le w3.1
  have N := NP_of r2 hnb hna
  have a7 : Dd 147 [vA (406 + 13 * k + 7), vI place] σ (rI (σ (406 + 13 * k + 8) place) σ) := by
    have e := d147 (σ := σ) (i := (place : Int)) (WF_w H.1 (pat_7 hPk))
    rw [at_on (n := na) (f := σ (406 + 13 * k + 8)) N.2.2.2.1 (fun _ _ => rfl) (by omega)] at e
    exact e
  rw [hK] at a7
  obtain ⟨g, hg⟩ : ∃ g, g = gp (fun j i => σ (406 + 13 * j + 6) i) k place := ⟨_, rfl⟩
  rw [← hg]
  have hg0 : g 0 = (place : Nat) := by rw [hg]; rfl
  have hgs : ∀ d, g (d + 1) = if g d = -1 then -1 else σ (406 + 13 * (k + d + 1) + 6) (g d).toNat := by
    intro d; rw [hg]; rfl
  have hsz : ∀ j, j + 1 < h → σ (406 + 13 * (j + 1) + 1) 1 = σ (406 + 13 * j + 3) 1 ∧ σ (406 + 13 * (j + 1) + 5) 1 = σ (406 + 13 * (j + 1) + 1) 1 := by
    intro j hj
    obtain ⟨q1, q2, q3⟩ := hS.2.2.2.2.2.2.2.2.2.2 (j + 1) (by omega)
    have := q3.1
    unfold blw at this
    rw [if_neg (by omega), Nat.add_sub_cancel] at this
    exact ⟨this, q2.2.2.1⟩
  have hgv : ∀ d, k + d < h → g d = -1 ∨ (0 ≤ g d ∧ g d < σ (406 + 13 * (k + d) + 3) 1) := by
    intro d
    induction d with
    | zero => intro _; right; rw [hg0]; exact g3
    | succ d ih =>
      intro hd
      rw [hgs]
      by_cases y : g d = -1
      · rw [if_pos y]; exact Or.inl rfl
      · rw [if_neg y]
        rcases ih (by omega) with z | z
        · exact absurd z y
        · obtain ⟨q1, q2, q3⟩ := hS.2.2.2.2.2.2.2.2.2.2 (k + d + 1) (by omega)
          have sz := (hsz (k + d) (by omega)).1
          rcases q2.2.2.2.2.1 (g d).toNat (by omega) with z2 | z2
          · exact Or.inl z2
          · exact Or.inr ⟨z2.1, z2.2.1⟩
  have hpk : ∀ j, j < h → isPatch (406 + 13 * j) = true := fun j hj => (cpL (p := j) (by omega)).2.2.2.2.2.2.1
  obtain ⟨s, c1, c2, c3⟩ := l131 (σ0 := σ) (k := k) (h := h) (place := place) (l := l) (g := g) (d2 := some (vI place)) (by omega) hh (fun j hj => ⟨WF_w H.1 (pat_1 (hpk j hj)), WF_w H.1 (pat_3 (hpk j hj)), WF_w H.1 (pat_5 (hpk j hj))⟩) hgs hgv hsz (h - (k + 1)) (k + 1) (upS σ (406 + 13 * k + 4) place l) (by omega) (by omega) (fun a x hne => up_a (fun e => hne ⟨k, by omega, by omega⟩)) (fun j' x hj' => by
    unfold edB edA
    refine ⟨?_, ?_⟩
    · rw [up_a (by omega)]
      by_cases y : j' < k + 1
      · rw [if_pos y, if_neg (fun e => by omega)]
      · rw [if_neg y]
    · by_cases y : j' = k
      · subst y
        rw [if_pos (Nat.lt_succ_self j'), Nat.sub_self, hg0]
        by_cases y2 : x = place
        · rw [y2, up_s, if_pos ⟨Nat.le_refl _, rfl⟩]
        · rw [up_k y2, if_neg (fun e => by omega)]
      · rw [up_a (by omega)]
        by_cases y3 : j' < k + 1
        · rw [if_pos y3, if_neg (fun e => by omega)]
        · rw [if_neg y3])
  rw [show k + 1 - k - 1 = 0 by omega, hg0] at c1
  have d131 : Dd 131 [vA 402, vI k, vI place, vI l] σ (rV s) := by
    refine b131 ?_
    rw [show (if 0 < (k : Int) then (k : Int) else 0) = (k : Int) by split <;> omega]
    have hqE : qE 405 ((k : Nat) : Int).toNat (406 + 13 * k) = true := by
      rw [show ((k : Nat) : Int).toNat = k by omega]
      exact hL.2.2.2.2.2.2.2
    have e148 := d148 (σ := σ) (a := 406 + 13 * k + 3) (i := (place : Int)) (v := l) (WF_w H.1 (pat_3 hPk))
    rw [st_in (n := na) hna (by omega)] at e148
    refine b131_10 ?_
    rw [if_pos k1.2, if_pos (by omega), if_neg (by omega), if_neg (Int.lt_irrefl _)]
    refine b131_74 ⟨by omega, _, hqE, hPk, _, e148, by omega, ?_⟩
    rw [show (k : Int) + 1 = ((k + 1 : Nat) : Int) by omega]
    exact c1
  have a3' : Dd 147 [vA (406 + 13 * k + 3), vI place] σ (rI (σ (406 + 13 * k + 4) place) σ) := by
    have e := d147 (σ := σ) (i := (place : Int)) (WF_w H.1 (pat_3 hPk))
    rw [at_on (n := na) (f := σ (406 + 13 * k + 4)) hna (fun _ _ => rfl) (by omega)] at e
    exact e
  obtain ⟨s2, d1, d2, d3⟩ := fc_join (fc34 (a1 := k) (a2 := place) (a3 := l) H) (b206 (Or.inl ⟨_, _, e231, hPk, _, _, e146, Or.inl ⟨_, d232_ok g3, Or.inl ⟨_, d235_t hl, _, _, a7, by
    rw [if_pos rfl]
    exact ⟨_, _, a3', _, d131, rfl⟩⟩⟩⟩))
  refine ⟨s2, d1, d2, fun a x ha hx => ?_, fun j x hj => ?_⟩
  · rw [d3 a ha]
    refine c2 a x ?_
    rintro ⟨j', y1, y2⟩
    have := hx j' (by omega)
    omega
  · rw [d3 _ (by omega), d3 _ (by omega)]
    exact c3 j x (by omega)
/-- an edit, and the old line edited back -/
theorem c206b {σ : Sg} {c l : Int} {k place : Nat} (H : Rel c σ) (hk : (k : Int) < σ 402 3) (hp : (place : Int) < σ (406 + 13 * k + 3) 1) (hK : σ (406 + 13 * k + 8) place = -1) (hl : isLn l = true) : ∃ s2 s3, Dc 206 [vA 0, vI k, vI place, vI l] σ (.inl (some (.inl (σ (406 + 13 * k + 4) place)))) s2 ∧ Dc 206 [vA 0, vI k, vI place, vI (σ (406 + 13 * k + 4) place)] s2 (.inl (some (.inl l))) s3 ∧ Rel (c + 1 + 1) s3 ∧ ∀ a, a < 682 → s3 a = σ a := by
  obtain ⟨n4, n5, n6⟩ := (rel_n H).2.1
  have hS := H.2.2.2.2.2.1
  have hlay := hS.2.2.2.2.2.2.2.2.2.2
  obtain ⟨r1, r2, r3⟩ := hlay k hk
  obtain ⟨s2, a1, a2, a3, a4⟩ := c206 H hk hp hK hl
  have e402 : s2 402 3 = σ 402 3 := a3 402 3 (by decide) (fun j' _ => by omega)
  have e3 : s2 (406 + 13 * k + 3) 1 = σ (406 + 13 * k + 3) 1 := a3 _ 1 (by omega) (fun j' _ => by omega)
  have e8 : s2 (406 + 13 * k + 8) place = -1 := (a3 _ _ (by omega) (fun j' _ => by omega)).trans hK
  have ln : isLn (σ (406 + 13 * k + 4) place) = true := r2.2.2.2.2.2.2.2.2.1 place hp
  obtain ⟨s3, b1, b2, b3, b4⟩ := c206 (l := σ (406 + 13 * k + 4) place) a2 (by omega) (by omega) e8 ln
  obtain ⟨g, hg⟩ : ∃ g, g = gp (fun j i => σ (406 + 13 * j + 6) i) k place := ⟨_, rfl⟩
  obtain ⟨g', hg'⟩ : ∃ g', g' = gp (fun j i => s2 (406 + 13 * j + 6) i) k place := ⟨_, rfl⟩
  rw [← hg] at a4
  rw [← hg'] at b4
  have hg0 : g 0 = (place : Nat) := by rw [hg]; rfl
  have hgs : ∀ d, g (d + 1) = if g d = -1 then -1 else σ (406 + 13 * (k + d + 1) + 6) (g d).toNat := by
    intro d; rw [hg]; rfl
  have hg0' : g' 0 = (place : Nat) := by rw [hg']; rfl
  have hgs' : ∀ d, g' (d + 1) = if g' d = -1 then -1 else s2 (406 + 13 * (k + d + 1) + 6) (g' d).toNat := by
    intro d; rw [hg']; rfl
  have eg : ∀ d : Nat, ((k + d : Nat) : Int) < σ 402 3 → g' d = g d := by
    intro d
    induction d with
    | zero => intro _; rw [hg0, hg0']
    | succ d ih =>
      intro hd
      rw [hgs, hgs', ih (by omega), a3 _ _ (by omega) (fun j' _ => by omega)]
  have cl : ∀ d : Nat, ((k + d : Nat) : Int) < σ 402 3 → ¬ g d = -1 → 0 ≤ g d ∧ g d < σ (406 + 13 * (k + d) + 3) 1 ∧ σ (406 + 13 * (k + d) + 4) (g d).toNat = σ (406 + 13 * k + 4) place := by
    intro d
    induction d with
    | zero =>
      intro _ _
      rw [hg0, tn]
      exact ⟨by omega, hp, rfl⟩
    | succ d ih =>
      intro hd hne
      rw [hgs] at hne ⊢
      by_cases y : g d = -1
      · rw [if_pos y] at hne
        exact absurd rfl hne
      · rw [if_neg y] at hne ⊢
        obtain ⟨i1, i2, i3⟩ := ih (by omega) y
        obtain ⟨q1, q2, q3⟩ := hlay (k + d + 1) (by omega)
        have hbl : blw (k + d + 1) = 406 + 13 * (k + d) + 3 := by unfold blw; rw [if_neg (by omega), Nat.add_sub_cancel]
        rw [hbl] at q3
        have sz := q3.1
        have z3 := q3.2 (g d).toNat (by omega)
        rcases q2.2.2.2.2.1 (g d).toNat (by omega) with z2 | z2
        · exact absurd z2 hne
        · refine ⟨z2.1, z2.2.1, ?_⟩
          rw [← i3]
          exact z2.2.2.2.symm.trans z3
  have cb : ∀ (j x : Nat), (j : Int) < σ 402 3 → k < j → g (j - k - 1) = (x : Int) → σ (406 + 13 * j + 2) x = σ (406 + 13 * k + 4) place := by
    intro j x hj hkj hx
    obtain ⟨i1, i2, i3⟩ := cl (j - k - 1) (by omega) (by omega)
    rw [show k + (j - k - 1) = j - 1 by omega, hx] at i2 i3
    rw [tn] at i3
    obtain ⟨q1, q2, q3⟩ := hlay j hj
    have hbl : blw j = 406 + 13 * (j - 1) + 3 := by unfold blw; rw [if_neg (by omega)]
    rw [hbl] at q3
    rw [← i3]
    exact q3.2 x (by have := q3.1; omega)
  have ca : ∀ (j x : Nat), (j : Int) < σ 402 3 → k ≤ j → g (j - k) = (x : Int) → σ (406 + 13 * j + 4) x = σ (406 + 13 * k + 4) place := by
    intro j x hj hkj hx
    obtain ⟨i1, i2, i3⟩ := cl (j - k) (by omega) (by omega)
    rw [show k + (j - k) = j by omega, hx, tn] at i3
    exact i3
  have ev : s2 (406 + 13 * k + 4) place = l := by
    rw [(a4 k place hk).2]
    unfold edA
    rw [if_pos ⟨Nat.le_refl _, by rw [Nat.sub_self]; exact hg0⟩]
  rw [ev] at b1
  refine ⟨s2, s3, a1, b1, b2, fun a ha => funext fun x => ?_⟩
  by_cases hx : ∀ j' : Nat, (j' : Int) < σ 402 3 → ¬ a = 406 + 13 * j' + 2 ∧ ¬ a = 406 + 13 * j' + 4
  · rw [b3 a x ha (by rw [e402]; exact hx), a3 a x ha hx]
  · obtain ⟨j, hj, ho⟩ : ∃ j : Nat, (j : Int) < σ 402 3 ∧ (a = 406 + 13 * j + 2 ∨ a = 406 + 13 * j + 4) := by
      apply Classical.byContradiction
      intro hn
      exact hx (fun j' h1 => ⟨fun e => hn ⟨j', h1, Or.inl e⟩, fun e => hn ⟨j', h1, Or.inr e⟩⟩)
    rcases ho with ho | ho
    · rw [ho, (b4 j x (by omega)).1, (a4 j x hj).1]
      unfold edB
      by_cases y : k < j ∧ g (j - k - 1) = (x : Int)
      · rw [if_pos ⟨y.1, by rw [eg _ (by omega)]; exact y.2⟩]
        exact (cb j x hj y.1 y.2).symm
      · rw [if_neg (fun e => y ⟨e.1, by rw [← eg _ (by omega)]; exact e.2⟩), if_neg y]
    · rw [ho, (b4 j x (by omega)).2, (a4 j x hj).2]
      unfold edA
      by_cases y : k ≤ j ∧ g (j - k) = (x : Int)
      · rw [if_pos ⟨y.1, by rw [eg _ (by omega)]; exact y.2⟩]
        exact (ca j x hj y.1 y.2).symm
      · rw [if_neg (fun e => y ⟨e.1, by rw [← eg _ (by omega)]; exact e.2⟩), if_neg y]
/-- the bits of what a patch needs -/
theorem bit_ok : ∀ j, j < 5 → ∀ S, S < 32 → S % 2 ^ (j + 1) = 0 → S % 2 ^ j = 0 ∧ iOr ((S : Nat) : Int) (iShl 1 ((j : Nat) : Int)) = ((S + 2 ^ j : Nat) : Int) ∧ (S + 2 ^ j) % 2 ^ j = 0 ∧ S + 2 ^ j < 32 := by decide +kernel
theorem ndF_v {P : Nat → Pt} : ∀ (j : Nat) (G : List Pt) (S : Nat), j ≤ 5 → S < 32 → S % 2 ^ j = 0 → ∃ m : Nat, m < 2 ^ j ∧ ndF P j G ((S : Nat) : Int) = ((S + m : Nat) : Int) := by
  intro j
  induction j with
  | zero => intro G S _ _ _; exact ⟨0, by decide, rfl⟩
  | succ j ih =>
    intro G S hj hS hm
    obtain ⟨b1, b2, b3, b4⟩ := bit_ok j (by omega) S hS hm
    have h2 : 2 ^ (j + 1) = 2 ^ j + 2 ^ j := by rw [Nat.pow_succ]; omega
    cases hp : pgo G (P j) with
    | some ms =>
      obtain ⟨m, m1, m2⟩ := ih ms S (by omega) hS b1
      exact ⟨m, by omega, by rw [ndF_s hp]; exact m2⟩
    | none =>
      obtain ⟨m, m1, m2⟩ := ih (P j :: G) (S + 2 ^ j) (by omega) b4 b3
      refine ⟨2 ^ j + m, by omega, ?_⟩
      rw [ndF_n hp, b2, m2, show S + 2 ^ j + m = S + (2 ^ j + m) by omega]
theorem shl_ok : ∀ k, k < 5 → iShl 1 ((k : Nat) : Int) = ((2 ^ k : Nat) : Int) := by decide +kernel
theorem bit_no : ∀ j, j < 5 → ∀ m, m < 32 → m < 2 ^ j → iAnd (iShr ((m : Nat) : Int) ((j : Nat) : Int)) 1 = 0 := by decide +kernel
theorem pow_le : ∀ j, j < 5 → 2 ^ j < 32 := by decide
/-- needs -/
theorem q211 {σ : Sg} {c : Int} {k : Nat} (H : Rel c σ) (hk : (k : Int) < σ 402 3) : ∃ (v : Int) (s : Sg), 0 ≤ v ∧ v < iShl 1 ((k : Nat) : Int) ∧ (∀ j, k = j + 1 → ¬ tcP (stP σ j) (stP σ k) → iAnd (iShr v ((j : Nat) : Int)) 1 = 0) ∧ Dc 211 [vA 0, vI k] σ (.inl (some (.inl v))) s ∧ Rel c s ∧ Pe σ s := by
  have hS : RSt c σ := H.2.2.2.2.2.1
  have h5 := hS.2.1
  have st : ∀ i, i ≤ k → _ := fun i hi => stP_ok H (i := i) (by omega)
  have I : ndI (stP σ) k [stP σ k] := ⟨fun i hi => ⟨(st i (by omega)).1, (st i (by omega)).2.1, (st i (by omega)).2.2.1⟩, fun i hi => (st i (by omega)).2.2.2.2.2 (by omega), fun q h => by rw [List.mem_singleton.mp h]; exact (st k (Nat.le_refl _)).1, by show 1 + k ≤ 5; omega, stP σ k, [], rfl, trivial, (st k (Nat.le_refl _)).2.1, fun i hi => by subst hi; exact (st i (by omega)).2.2.2.2.2 (by omega)⟩
  obtain ⟨s, a1, a2, a3⟩ := d162 (σ := σ) (P := stP σ) (k := k) (by omega) I H.1 (fun i hi => (st i hi).2.2.2.1)
  obtain ⟨m, m1, m2⟩ := ndF_v (P := stP σ) k [stP σ k] 0 (by omega) (by decide) (Nat.zero_mod _)
  have m2 : ndF (stP σ) k [stP σ k] 0 = ((0 + m : Nat) : Int) := m2
  rw [Nat.zero_add] at m2
  refine ⟨_, s, ?_, ?_, fun j hj T => ?_, Dc_of (b211 (Or.inl ⟨_, d232_ok ⟨by omega, hk⟩, _, _, a1, rfl⟩)), Rel_sc (Int.le_refl c) a2 (fun x i h => a3 x i (by unfold KP at h; omega) (by unfold KP at h; omega)) H, fun x i h1 h2 h3 => a3 x i (by unfold KP at h2; omega) (by unfold KP at h2; omega)⟩
  · rw [m2]; omega
  · rw [m2, shl_ok k (by omega)]; omega
  · subst hj
    have e : pgo [stP σ (j + 1)] (stP σ j) = some [exL (stP σ j) (stP σ (j + 1))] := by rw [pgo_n T]; rfl
    obtain ⟨m', p1, p2⟩ := ndF_v (P := stP σ) j [exL (stP σ j) (stP σ (j + 1))] 0 (by omega) (by decide) (Nat.zero_mod _)
    have p2 : ndF (stP σ) j [exL (stP σ j) (stP σ (j + 1))] 0 = ((0 + m' : Nat) : Int) := p2
    rw [Nat.zero_add] at p2
    rw [ndF_s e, p2]
    exact bit_no j (by omega) m' (by have := pow_le j (by omega); omega) p1
theorem ouF_DI {h : Nat} {st : List Pt} (h4 : h ≤ 4) : ∀ (f i : Nat) (D : List Oe), DI h st D → DI h st (ouF h f i D) := by
  intro f
  induction f with
  | zero => intro i D I; exact I
  | succ f ih =>
    intro i D I
    show DI h st (if i < D.length then _ else _)
    by_cases y : i < D.length
    · rw [if_pos y]
      exact ih _ _ (inF_ok (i := i) h4 (h - 1) 0 D (by omega) I y).1
    · rw [if_neg y]
      exact I
/-- orders -/
theorem q212 {σ : Sg} {c : Int} (H : Rel c σ) (g : ¬ 4 < σ 402 3) : ∃ (v : Int) (s : Sg), 1 ≤ v ∧ v ≤ 24 ∧ Dc 212 [vA 0] σ (.inl (some (.inl v))) s ∧ Rel c s ∧ Pe σ s := by
  have hS : RSt c σ := H.2.2.2.2.2.1
  obtain ⟨h, hh⟩ := Int.eq_ofNat_of_zero_le hS.1
  have h4 : h ≤ 4 := by omega
  obtain ⟨st, hst0⟩ : ∃ st, st = (List.range h).map (stP σ) := ⟨_, rfl⟩
  have get : ∀ {x : Nat} {q : Pt}, st[x]? = some q → x < h ∧ q = stP σ x := fun {x q} e => rm_get (by rw [← hst0]; exact e)
  have sk : ∀ i, i < h → _ := fun i hi => stP_ok H (i := i) (by omega)
  have hst : okL h st st := ⟨by rw [hst0, List.length_map, List.length_range], fun x a e => by obtain ⟨y, rfl⟩ := get e; exact (sk x y).1, fun x a b e e2 => by obtain ⟨y, rfl⟩ := get e; obtain ⟨y2, rfl⟩ := get e2; exact (sk x y).2.2.2.2.2 (by omega), fun a e => by obtain ⟨y, rfl⟩ := get e; exact (sk 0 y).2.1, fun a b e e2 => by rw [e] at e2; cases e2; exact ⟨rfl, rfl⟩⟩
  have K : SK σ h st := ⟨hh, fun y q e => by obtain ⟨y1, rfl⟩ := get e; exact (sk y y1).2.2.2.1⟩
  obtain ⟨s, a1, a2, a3⟩ := d165 h4 hst H.1 K
  have D := ouF_DI h4 24 0 _ (DI_0 h4 hst)
  have l1 := DI_len D h4
  obtain ⟨e, he, -⟩ := D.2.2.1
  have l2 := (List.getElem?_eq_some_iff.mp he).1
  refine ⟨_, s, ?_, ?_, Dc_of (b212 (by rw [if_neg g]; exact ⟨_, _, a1, rfl⟩)), Rel_sc (Int.le_refl c) a2 (fun x i h => a3 x i (by unfold KP at h; omega) (by unfold KP at h; omega)) H, fun x i h1 h2 h3 => a3 x i (by unfold KP at h2; omega) (by unfold KP at h2; omega)⟩
  · omega
  · omega
/-- whence a line of the top came -/
theorem orgZ_b {σ : Sg} {c : Int} (H : Rel c σ) : ∀ (k p : Nat), (k : Int) ≤ σ 402 3 → (0 < k → p < lna σ (k - 1)) → p < 16 → (orgZ σ k p).2 < 16 := by
  intro k
  induction k with
  | zero => intro p _ _ h; exact h
  | succ k ih =>
    intro p hk hp h16
    obtain ⟨y1, y2, y3, y4, y5, y6, y7, y8, y9⟩ := ly_at H (k := k) (by omega)
    have e : orgZ σ (k + 1) p = if SRC σ k p = -1 then ((k : Int), p) else orgZ σ k (SRC σ k p).toNat := rfl
    rw [e]
    by_cases z : SRC σ k p = -1
    · rw [if_pos z]; exact h16
    · rw [if_neg z]
      have hp := hp (by omega)
      rw [Nat.add_sub_cancel] at hp
      have b : SRC σ k p = -1 ∨ (0 ≤ SRC σ k p ∧ SRC σ k p < (lnb σ k : Int)) := srcZ_b y5.2.2.2.2.1 y5.2.2.2.2.2.1 hp
      rcases b with b | b
      · exact absurd b z
      · exact ih _ (by omega) (fun h0 => by rw [y9 h0]; omega) (by omega)
theorem org_c {σ : Sg} {c : Int} {p : Nat} (H : Rel c σ) (hp : (p : Int) < σ (tpR σ) 1) : ∃ (L : Int) (q : Nat) (s1 : Sg), q < 16 ∧ -1 ≤ L ∧ L < σ 402 3 ∧ Dd 132 [vA 402, vI p] σ (rI (100 * (L + 1) + (q : Nat)) s1) ∧ WF s1 ∧ FK s1 σ := by
  have hS : RSt c σ := H.2.2.2.2.2.1
  have h16 := rel_top16 H
  obtain ⟨h, hh⟩ := Int.eq_ofNat_of_zero_le hS.1
  have h5 : h ≤ 5 := by have := hS.2.1; omega
  have hp2 : (p : Int) < σ (blw (σ 402 3).toNat) 1 := hp
  have p16 : p < 16 := by omega
  rw [hh, tn] at hp2
  have hp3 : 0 < h → p < lna σ (h - 1) := fun h0 => by
    unfold blw at hp2
    rw [if_neg (by omega)] at hp2
    unfold lna
    omega
  obtain ⟨s1, a1, a2, a3, a4, a5, a6⟩ := l132 H h p σ (some (vI p)) none (by omega) hp3 (by omega) H.1 (fun _ _ _ => rfl)
  refine ⟨(orgZ σ h p).1, (orgZ σ h p).2, s1, orgZ_b H h p (by omega) hp3 p16, a5, by omega, b132 ?_, a2, a3⟩
  rw [if_neg (by omega), hh]
  exact ⟨by omega, a1⟩
theorem q213 {σ : Sg} {c : Int} {p : Nat} (H : Rel c σ) (hp : (p : Int) < σ (tpR σ) 1) : ∃ (v : Int) (s : Sg), (v = -1 ∨ ∃ k : Nat, (k : Int) < σ 402 3 ∧ v = σ 472 k) ∧ Dc 213 [vA 0, vI p] σ (.inl (some (.inl v))) s ∧ WF s ∧ FK s σ := by
  obtain ⟨L, q, s1, b1, b2, b3, b4, W, fr⟩ := org_c H hp
  have hS : RSt c σ := H.2.2.2.2.2.1
  have h7 := hS.2.2.2.2.2.2.1
  have h5 := hS.2.1
  have e127 := d127 H
  have e146 := d146 (σ := σ) (blw_row H)
  have e133 : Dd 133 [vA 402, vI (100 * (L + 1) + (q : Nat))] s1 (rI L s1) := by
    refine b133 ?_
    rw [td (by omega), show (100 * (L + 1) + ((q : Nat) : Int)) / 100 - 1 = L by omega]
    exact ⟨by omega, rfl⟩
  have e147 := d147 (σ := s1) (a := 471) (i := L) (WF_w W (by decide +kernel))
  refine ⟨_, s1, ?_, Dc_of (b213 ⟨_, _, e127, blw_row H, _, _, e146, Or.inl ⟨_, d232_ok ⟨by omega, hp⟩, _, _, b4, _, _, e133, _, _, e147, rfl⟩⟩), W, fr⟩
  unfold atS
  rw [fr 471 1 (by omega), h7.1]
  by_cases y : L < 0
  · rw [if_neg (by omega)]; exact Or.inl rfl
  · rw [if_pos (by omega)]
    exact Or.inr ⟨L.toNat, by omega, fr 472 _ (by omega)⟩
theorem q214 {σ : Sg} {c : Int} {p : Nat} (H : Rel c σ) (hp : (p : Int) < σ (tpR σ) 1) : ∃ (v : Int) (s : Sg), 0 ≤ v ∧ v < 16 ∧ Dc 214 [vA 0, vI p] σ (.inl (some (.inl v))) s ∧ WF s ∧ FK s σ := by
  obtain ⟨L, q, s1, b1, b2, b3, b4, W, fr⟩ := org_c H hp
  have hS : RSt c σ := H.2.2.2.2.2.1
  have h5 := hS.2.1
  have e127 := d127 H
  have e146 := d146 (σ := σ) (blw_row H)
  have e134 : Dd 134 [vA 402, vI (100 * (L + 1) + (q : Nat))] s1 (rI (q : Nat) s1) := by
    refine b134 ?_
    rw [tm (by omega), show (100 * (L + 1) + ((q : Nat) : Int)) % 100 = ((q : Nat) : Int) by omega]
  exact ⟨_, s1, by omega, by omega, Dc_of (b214 ⟨_, _, e127, blw_row H, _, _, e146, Or.inl ⟨_, d232_ok ⟨by omega, hp⟩, _, _, b4, _, _, e134, rfl⟩⟩), W, fr⟩
/-- no line of a hunk's new text is paired -/
theorem hkK {F K : Nat → Int} {nb na h : Nat} {q : St} (V : VF F nb na) (I : IV F K nb na) (hq : (hks F nb na)[h]? = some q) : ∀ y, q.2.2.1 ≤ y → y < q.2.2.1 + q.2.2.2 → K y = -1 := by
  have D := DS_swap I _ 0 0 0 (DS_0 V) (fun x hx => absurd hx (Nat.not_lt_zero _))
  have e : ((hks F nb na).map swq)[h]? = some (swq q) := by rw [List.getElem?_map, hq]; rfl
  exact (DS_at _ h 0 0 0 _ D e).2.1
end
