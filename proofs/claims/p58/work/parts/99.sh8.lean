/-! refresh. -/
noncomputable section
theorem shs_len {O N : Nat → Int} {nb : Nat} : ∀ (d h : Nat) (l : List St), (shs O N nb d h l).length = l.length := by
  intro d
  induction d with
  | zero => intro h l; rfl
  | succ d ih =>
    intro h l
    show (shs O N nb d (h + 1) (sh1 O N nb l h)).length = _
    rw [ih, sh1_len]
/-- a patch made anew, its first text being its own -/
theorem d95s {P x1 x2 x3 nb na : Nat} {σ : Sg} (hP : isPatch P = true) (w1 : wR σ x1) (w2 : wR σ x2) (w3 : wR σ x3) (h1 : σ x1 1 = (nb : Nat)) (h2 : σ x2 1 = (na : Nat)) (h3 : σ x3 1 = (nb : Nat)) (V : VF (σ (x3 + 1)) nb na) (hc1 : nb ≤ cap (P + 1)) (hc3 : na ≤ cap (P + 3)) (hc5 : nb ≤ cap (P + 5)) (hc7 : na ≤ cap (P + 7)) (hc9 : 4 * (nb + 1) ≤ cap (P + 9)) (e1 : x1 = P + 1) (e2 : x2 < P ∨ P + 12 < x2) (e3 : x3 < P ∨ P + 12 < x3) : ∃ s, Dd 95 [vA P, vA x1, vA x2, vA x3] σ (rV s) ∧ NP s P nb na ∧ wR s (P + 9) ∧ (∀ i, i < nb → s (P + 2) i = σ (x1 + 1) i) ∧ (∀ i, i < na → s (P + 4) i = σ (x2 + 1) i) ∧ (∀ i, i < nb → s (P + 6) i = σ (x3 + 1) i) ∧ ∀ c k, ¬ (P + 1 ≤ c ∧ c ≤ P + 10) → s c k = σ c k := by
  have q1 := pat_1 hP
  have q3 := pat_3 hP
  have q5 := pat_5 hP
  have q7 := pat_7 hP
  have n1 : ¬ x1 + 1 = P := by omega
  have n2 : ¬ x2 + 1 = P := fun e => by
    have := row_nx w2.1 (show isRow (x2 + 1) = true by
      rw [e]
      exfalso
      have hq := hP
      unfold isPatch at hq
      simp only [Bool.and_eq_true, decide_eq_true_eq] at hq
      have hr := w2.1
      unfold isRow at hr
      simp only [Bool.and_eq_true, decide_eq_true_eq] at hr
      rw [e] at hr
      have e := hq.1.symm.trans hr.2
      simp at e)
    exact this rfl
  have n3 : ¬ x3 + 1 = P := fun e => by
    have := row_nx w3.1 (show isRow (x3 + 1) = true by
      rw [e]
      exfalso
      have hq := hP
      unfold isPatch at hq
      simp only [Bool.and_eq_true, decide_eq_true_eq] at hq
      have hr := w3.1
      unfold isRow at hr
      simp only [Bool.and_eq_true, decide_eq_true_eq] at hr
      rw [e] at hr
      have e := hq.1.symm.trans hr.2
      simp at e)
    exact this rfl
  obtain ⟨s1, es1⟩ : ∃ s1, s1 = bcS σ (P + 1) x1 := ⟨_, rfl⟩
  have f1 : ∀ c k, ¬ c = P + 1 → ¬ c = P + 2 → s1 c k = σ c k := fun c k a b => by rw [es1]; exact bc_off a b
  obtain ⟨s2, es2⟩ : ∃ s2, s2 = bcS s1 (P + 3) x2 := ⟨_, rfl⟩
  have f2 : ∀ c k, ¬ c = P + 3 → ¬ c = P + 4 → s2 c k = s1 c k := fun c k a b => by rw [es2]; exact bc_off a b
  obtain ⟨s3, es3⟩ : ∃ s3, s3 = bcS s2 (P + 5) x3 := ⟨_, rfl⟩
  have f3 : ∀ c k, ¬ c = P + 5 → ¬ c = P + 6 → s3 c k = s2 c k := fun c k a b => by rw [es3]; exact bc_off a b
  obtain ⟨s4, es4⟩ : ∃ s4, s4 = flS s3 (P + 7) na (-1) := ⟨_, rfl⟩
  have f4 : ∀ c k, ¬ c = P + 7 → ¬ c = P + 8 → s4 c k = s3 c k := fun c k a b => by rw [es4]; exact fl_off a b
  have g2 : ∀ k, s1 x2 k = σ x2 k := fun k => f1 _ _ (by omega) (by omega)
  have g3 : ∀ k, s2 x3 k = σ x3 k := fun k => by rw [f2 _ _ (by omega) (by omega), f1 _ _ (by omega) (by omega)]
  have v1 : s1 (P + 1) 1 = (nb : Nat) := by rw [es1, bc_sz (by omega)]; exact h1
  have v1' : ∀ i, i < nb → s1 (P + 2) i = σ (x1 + 1) i := fun i hi => by rw [es1]; exact bc_val (by omega) (by omega) (by omega)
  have v2 : s2 (P + 3) 1 = (na : Nat) := by rw [es2, bc_sz (by rw [g2]; omega), g2]; exact h2
  have v2' : ∀ i, i < na → s2 (P + 4) i = σ (x2 + 1) i := fun i hi => by
    rw [es2, bc_val (a := P + 3) (by rw [g2]; omega) (by omega) (by rw [g2]; omega), f1 _ _ (by omega) (by omega)]
  have v3 : s3 (P + 5) 1 = (nb : Nat) := by rw [es3, bc_sz (by rw [g3]; omega), g3]; exact h3
  have v3' : ∀ i, i < nb → s3 (P + 6) i = σ (x3 + 1) i := fun i hi => by
    rw [es3, bc_val (a := P + 5) (by rw [g3]; omega) (by omega) (by rw [g3]; omega), f2 _ _ (by omega) (by omega), f1 _ _ (by omega) (by omega)]
  have v4 : s4 (P + 7) 1 = (na : Nat) := by rw [es4]; exact fl_sz (by omega) (by omega)
  have v4' : ∀ i : Nat, i < na → s4 (P + 8) i = -1 := fun i hi => by rw [es4]; exact fl_val (a := P + 7) (by omega) (by omega) (by omega)
  have gx : ∀ c k, ¬ (P + 1 ≤ c ∧ c ≤ P + 8) → s4 c k = σ c k := fun c k h => by rw [f4 c k (by omega) (by omega), f3 c k (by omega) (by omega), f2 c k (by omega) (by omega), f1 c k (by omega) (by omega)]
  have r1 := d155 (σ := σ) (a := P + 1) q1 w1
  have r2 := d155 (σ := s1) (a := P + 3) (b := x2) q3 ⟨w2.1, by rw [g2]; exact w2.2⟩
  have r3 := d155 (σ := s2) (a := P + 5) (b := x3) q5 ⟨w3.1, by rw [g3]; exact w3.2⟩
  have r4 := d153 (σ := s3) (a := P + 7) (n := na) (v := -1) q7
  have r5 := d146 (σ := s3) w2.1
  rw [f3 _ _ (by omega) (by omega), f2 _ _ (by omega) (by omega), g2, h2] at r5
  rw [← es1] at r1
  rw [← es2] at r2
  rw [← es3] at r3
  rw [← es4] at r4
  have w33 := w3.2.2
  obtain ⟨s5, a1, a2, a3, a4⟩ := l95 (F := σ (x3 + 1)) (na := na) hP w3.1 (by omega) (by omega) V hc7 (d1 := some (vA x1)) (d2 := some (vA x2)) nb 0 s4 (by omega) (by rw [gx _ _ (by omega)]; exact h3) (fun k hk => gx _ _ (by omega)) v4 (fun j hj => Or.inl (v4' j hj)) (fun k hk => absurd hk (Nat.not_lt_zero k))
  have u6 : ∀ i, i < nb → s5 (P + 6) i = σ (x3 + 1) i := fun i hi => by rw [a4 _ _ (by omega), f4 _ _ (by omega) (by omega)]; exact v3' i hi
  have V5 : VF (s5 (P + 6)) nb na := ⟨fun i hi => by rw [u6 i hi]; exact V.1 i hi, fun i i' z1 z2 z3 z4 => by
    rw [u6 i (by omega)] at z3 ⊢
    rw [u6 i' z2] at z4 ⊢
    exact V.2 i i' z1 z2 z3 z4⟩
  have K5 : IV (s5 (P + 6)) (s5 (P + 8)) nb na := ⟨fun j hj => by
    rcases a2 j hj with z | z
    · exact Or.inl z
    · exact Or.inr ⟨z.1, z.2.1, by rw [u6 _ (by omega)]; exact z.2.2⟩, fun i hi e => by
    rw [u6 i hi] at e ⊢
    exact a3 i hi e⟩
  have t1 : s5 (P + 1) 1 = (nb : Nat) := by rw [a4 _ _ (by omega), f4 _ _ (by omega) (by omega), f3 _ _ (by omega) (by omega), f2 _ _ (by omega) (by omega)]; exact v1
  have t3 : s5 (P + 3) 1 = (na : Nat) := by rw [a4 _ _ (by omega), f4 _ _ (by omega) (by omega), f3 _ _ (by omega) (by omega)]; exact v2
  have t5 : s5 (P + 5) 1 = (nb : Nat) := by rw [a4 _ _ (by omega), f4 _ _ (by omega) (by omega)]; exact v3
  have t7 : s5 (P + 7) 1 = (na : Nat) := by rw [a4 _ _ (by omega)]; exact v4
  obtain ⟨s, c1, c2, c3, c4⟩ := d94 hP t1 t3 t5 t7 ⟨q5, by omega, by omega⟩ ⟨q7, by omega, by omega⟩ V5 K5 hc9
  have s6 : s (P + 6) = s5 (P + 6) := funext fun k => c4 _ _ (by omega) (by omega)
  have s8 : s (P + 8) = s5 (P + 8) := funext fun k => c4 _ _ (by omega) (by omega)
  refine ⟨s, b95 hP w2.1 ⟨_, r1, _, r2, _, r3, _, _, r5, _, r4, a1 ⟨_, c1, rfl⟩⟩, ⟨by rw [c4 _ _ (by omega) (by omega)]; exact t1, by rw [c4 _ _ (by omega) (by omega)]; exact t3, by rw [c4 _ _ (by omega) (by omega)]; exact t5, by rw [c4 _ _ (by omega) (by omega)]; exact t7, by rw [s6]; exact V5, by rw [s6, s8]; exact K5, c2⟩, c3, fun i hi => ?_, fun i hi => ?_, fun i hi => ?_, fun c k h => ?_⟩
  · rw [c4 _ _ (by omega) (by omega), a4 _ _ (by omega), f4 _ _ (by omega) (by omega), f3 _ _ (by omega) (by omega), f2 _ _ (by omega) (by omega)]; exact v1' i hi
  · rw [c4 _ _ (by omega) (by omega), a4 _ _ (by omega), f4 _ _ (by omega) (by omega), f3 _ _ (by omega) (by omega)]; exact v2' i hi
  · rw [c4 _ _ (by omega) (by omega)]; exact u6 i hi
  · rw [c4 c k (by omega) (by omega), a4 c k (by omega)]; exact gx c k (by omega)
/-- the topmost layer is another one -/
theorem RSt_top {σ s : Sg} {c : Int} {k : Nat} (H : RSt c σ) (hh : σ 402 3 = ((k + 1 : Nat) : Int)) (fr : ∀ a x, ((402 ≤ a ∧ a ≤ 472) ∨ (685 ≤ a ∧ a ≤ 689) ∨ a = 710 ∨ a = 711 ∨ (a = 682 ∧ 39 ≤ x ∧ x ≤ 41)) → ¬ (406 + 13 * k + 1 ≤ a ∧ a ≤ 406 + 13 * k + 10) → ¬ (685 ≤ a ∧ a ≤ 687 ∧ 100 * (24 + k) ≤ x ∧ x < 100 * (24 + k) + 100) → ¬ ((a = 688 ∨ a = 689) ∧ x = 24 + k) → s a x = σ a x) (p1 : PR s (406 + 13 * k) (24 + k)) (p2 : PO s (406 + 13 * k) 16) (z1 : s (406 + 13 * k + 1) 1 = σ (406 + 13 * k + 1) 1) (z2 : ∀ i : Nat, (i : Int) < σ (406 + 13 * k + 1) 1 → s (406 + 13 * k + 2) i = σ (406 + 13 * k + 2) i) : RSt (c + 1) s := by
  obtain ⟨h1, h2, h3, h4, h5, h6, h7, h8, h9, h10, h11⟩ := H
  have e0 := fr 402 3 (by omega) (by omega) (by omega) (by omega)
  have e1 := fr 402 4 (by omega) (by omega) (by omega) (by omega)
  have e2 := fr 682 39 (by omega) (by omega) (by omega) (by omega)
  have e3 := fr 682 40 (by omega) (by omega) (by omega) (by omega)
  have e4 := fr 682 41 (by omega) (by omega) (by omega) (by omega)
  have hk5 : k + 1 ≤ 5 := by omega
  have f403 : ∀ x, s 403 x = σ 403 x := fun x => fr 403 x (by omega) (by omega) (by omega) (by omega)
  have f404 : ∀ x, s 404 x = σ 404 x := fun x => fr 404 x (by omega) (by omega) (by omega) (by omega)
  have f471 : ∀ x, s 471 x = σ 471 x := fun x => fr 471 x (by omega) (by omega) (by omega) (by omega)
  have f472 : ∀ x, s 472 x = σ 472 x := fun x => fr 472 x (by omega) (by omega) (by omega) (by omega)
  have f710 : ∀ x, s 710 x = σ 710 x := fun x => fr 710 x (by omega) (by omega) (by omega) (by omega)
  have f711 : ∀ x, s 711 x = σ 711 x := fun x => fr 711 x (by omega) (by omega) (by omega) (by omega)
  refine ⟨by omega, by omega, by omega, by omega, by omega, by omega, rowEq_fr (f471 1) f472 f711 e0 h7, fun q hq => ?_, rowEq_fr (f403 1) f404 f710 e2 h9, fun i hi => ?_, fun j hj => ?_⟩
  · rw [e0] at hq
    rw [f472, e1]
    exact h8 q hq
  · rw [f403] at hi
    rw [f404]
    exact h10 i hi
  · rw [e0] at hj
    obtain ⟨g1, g2, g3⟩ := h11 j hj
    have b := PR_16 g1 g2
    have hbl : ∀ a x, a = blw j ∨ a = blw j + 1 → s a x = σ a x := by
      intro a x ha
      unfold blw at ha
      by_cases y : j = 0
      · rw [if_pos y] at ha
        exact fr a x (by omega) (by omega) (by omega) (by omega)
      · rw [if_neg y] at ha
        exact fr a x (by omega) (by omega) (by omega) (by omega)
    by_cases hjk : j < k
    · refine ⟨PR_fr2 (fun a x ha => fr a x (by omega) (by omega) (by omega) (by omega)) (fun a x ha hx => fr a _ (by omega) (by omega) (by omega) (by omega)) ⟨fr _ _ (by omega) (by omega) (by omega) (by omega), fr _ _ (by omega) (by omega) (by omega) (by omega)⟩ (by omega) g1, PO_fr (fun a x ha => fr a x (by omega) (by omega) (by omega) (by omega)) g2, smP_fr (funext fun x => fr _ x (by omega) (by omega) (by omega) (by omega)) (funext fun x => fr _ x (by omega) (by omega) (by omega) (by omega)) (funext fun x => hbl _ x (Or.inl rfl)) (funext fun x => hbl _ x (Or.inr rfl)) g3⟩
    · have e : j = k := by omega
      subst e
      refine ⟨p1, p2, by rw [z1, hbl _ 1 (Or.inl rfl)]; exact g3.1, fun i hi => ?_⟩
      rw [z1] at hi
      rw [hbl _ i (Or.inr rfl)]
      show s (406 + 13 * j + 2) i = _
      rw [z2 i hi]
      exact g3.2 i hi
theorem q685 : qA 685 0 4400 = true := by decide +kernel
/-- refresh -/
theorem o35 {σ : Sg} {c a1 a2 : Int} (H : Rel c σ) : OpR 424 352 [vA 0, vI a1, vI a2, vA 726] [vA 682, vI a1, vI a2] σ (c + 1) := by
  by_cases g1 : a1 < 0
  · exact x35_0 H g1
  by_cases g2 : 4 ≤ a1
  · exact x35_1 H g2
  by_cases g3 : a2 < 0
  · exact x35_2 H (by omega) g3
  by_cases g4 : 2 < a2
  · exact x35_3 H (by omega) g4
  obtain ⟨u, rfl⟩ := Int.eq_ofNat_of_zero_le (show 0 ≤ a1 by omega)
  have g7 : 0 ≤ a2 ∧ a2 < 3 := by omega
  obtain ⟨n2, b2, r2, z2, m2, v2, l2⟩ := rt_two H (t := u) (by omega)
  have hS : RSt c σ := H.2.2.2.2.2.1
  have e227 := d227_ok (σ := σ) (t := (u : Int)) (by omega)
  rw [tn] at e227
  obtain ⟨h1, h2, h3, h4, h5, h6, h7, h8, h9, h10, h11⟩ := hS
  have m352 : ∀ {s : Sg} {o : Rs}, C352_35 (u : Int) a2 none (if s 682 40 = 0 then 3 else 0) s o → Dd 352 [vA 682, vI u, vI a2] s o := by
    intro s o hh
    refine b352 ⟨_, _, d247_ok (by omega), ?_⟩
    rw [if_neg (show ¬ (1 : Int) = 0 by decide)]
    refine ⟨_, _, d275, ?_⟩
    rw [if_pos g7, if_neg (show ¬ (1 : Int) = 0 by decide)]
    exact hh
  by_cases g5 : σ 402 3 < 1
  · have e238 : Dd 238 [vA 0] σ (rX 2 σ) := b238 (by rw [if_pos g5])
    refine op_x H (kx := 3) (b := 0) (by decide) (b424 (Or.inr (Or.inr (Or.inr ⟨_, b207 (Or.inl ⟨_, _, e227, r2, Or.inl ⟨_, d236_ok g7, Or.inr ⟨_, _, e238, rfl⟩⟩⟩), rfl⟩)))) (m352 ?_)
    rw [if_pos (by omega)]
    refine b352_35 ⟨_, _, d245, ?_⟩
    rw [if_neg (show ¬ (3 : Int) = 0 by decide), if_pos rfl]
  obtain ⟨k, hk⟩ : ∃ k : Nat, σ 402 3 = ((k + 1 : Nat) : Int) := ⟨(σ 402 3).toNat - 1, by omega⟩
  have k5 : k < 5 := by omega
  have e238 : Dd 238 [vA 0] σ (rV σ) := b238 (by rw [if_neg g5])
  have e231 := d231_ok (σ := σ) (k := ((k : Nat) : Int)) (by omega) h2
  rw [tn] at e231
  obtain ⟨g8, g9, g10⟩ := h11 k (by omega)
  obtain ⟨c1, c3, c5, c7, c9, c11, hP, -⟩ := cpL k5
  have w1 := (WF_w H.1 (pat_1 hP)).2.1
  have w3 := (WF_w H.1 (pat_3 hP)).2.1
  obtain ⟨nb, na, bb, ba, NP0, S0⟩ := po_slot g8 g9 w1 w3
  obtain ⟨t1, t2, t3, t4, t5⟩ := S0
  have lO : ∀ i, i < nb → isLn (σ (406 + 13 * k + 2) i) = true := fun i hi => g9.2.2.2.2.2.2.2.1 i (by rw [NP0.1]; omega)
  have G : GD (σ (406 + 13 * k + 2)) (σ (2 + 2 * u + 1)) nb n2 (mtc a2 (σ (406 + 13 * k + 2)) (σ (2 + 2 * u + 1)) nb n2) := mtc_GD
  obtain ⟨s1, a1', W1, a4', a5', a6'⟩ := d15 (x1 := 406 + 13 * k + 1) (way := a2) H.1 (pat_1 hP) r2 NP0.1 z2 (by omega) (by omega) (by omega) (by omega)
  obtain ⟨M, hM⟩ : ∃ M, M = mtc a2 (σ (406 + 13 * k + 2)) (σ (2 + 2 * u + 1)) nb n2 := ⟨_, rfl⟩
  have a5'' : ∀ i, i < nb → s1 (337 + 1) i = M i := fun i hi => by rw [hM]; exact a5' i hi
  rw [← hM] at G
  have w337 : wR s1 337 := WF_w W1 (by decide +kernel)
  obtain ⟨s2, e1, e2, e3, e4, e5, e6, e7⟩ := d95s (P := 406 + 13 * k) (x1 := 406 + 13 * k + 1) (x2 := 2 + 2 * u) (x3 := 337) (nb := nb) (na := n2) (σ := s1) hP (WF_w W1 (pat_1 hP)) (WF_w W1 r2) w337 (by rw [a6' _ _ (by omega) (by omega)]; exact NP0.1) (by rw [a6' _ _ (by omega) (by omega)]; exact z2) a4' (VF_cg a5'' G.1) (by omega) (by omega) (by omega) (by omega) (by omega) rfl (by omega) (by omega)
  have W2 : WF s2 := WF_np W1 hP e2 e3 (by omega) (by omega) (by omega) (by omega) e7
  have i6 : ∀ i, i < nb → s2 (406 + 13 * k + 6) i = M i := fun i hi => by rw [e6 i hi]; exact a5'' i hi
  have i2 : ∀ i, i < nb → s2 (406 + 13 * k + 2) i = σ (406 + 13 * k + 2) i := fun i hi => by
    rw [e4 i hi]
    exact a6' _ _ (by omega) (by omega)
  have i4 : ∀ i, i < n2 → s2 (406 + 13 * k + 4) i = σ (2 + 2 * u + 1) i := fun i hi => by rw [e5 i hi, a6' _ _ (by omega) (by omega)]
  have E2 : EQL (σ (406 + 13 * k + 2)) (σ (2 + 2 * u + 1)) (s2 (406 + 13 * k + 6)) nb := fun x hx hne => by
    rw [i6 x hx] at hne ⊢
    exact G.2 x hx hne
  obtain ⟨s3, k1, k2, k3, k4, k6, k7⟩ := d108 (P := 406 + 13 * k) (nb := nb) (na := n2) (O := σ (406 + 13 * k + 2)) (N := σ (2 + 2 * u + 1)) hP W2 (by omega) (by omega) e2 i2 i4 lO l2 E2 (by omega) (by omega)
  have q2 : ∀ i, i < nb → s3 (406 + 13 * k + 2) i = σ (406 + 13 * k + 2) i := fun i hi => by rw [k7 _ _ (by omega)]; exact i2 i hi
  have q4 : ∀ i, i < n2 → s3 (406 + 13 * k + 4) i = σ (2 + 2 * u + 1) i := fun i hi => by rw [k7 _ _ (by omega)]; exact i4 i hi
  have hkk : hks (s2 (406 + 13 * k + 6)) nb n2 = hks M nb n2 := hks_cg i6
  have q6 : ∀ i, i < nb → s3 (406 + 13 * k + 6) i = shsF (σ (406 + 13 * k + 2)) (σ (2 + 2 * u + 1)) nb (hks M nb n2).length 0 M (hks M nb n2) i := fun i hi => by
    rw [k4 i hi, hkk]
    exact shsF_cg _ _ _ _ _ i6 i hi
  have V3 : VF (s3 (406 + 13 * k + 6)) nb n2 := k2.2.2.2.2.1
  have W3 : WF s3 := WF_np W2 hP k2 k6 (by omega) (by omega) (by omega) (by omega) (fun c k h => k7 c k (by omega))
  have P3 : PO s3 (406 + 13 * k) 16 := by
    refine PO_of k2 (by omega) (by omega) (fun i hi e => ?_) (fun i hi => ?_) (fun i hi => ?_)
    · have y := V3.1 i hi
      rw [q2 i hi, q4 _ (by omega)]
      exact k3 i hi e
    · rw [q2 i hi]; exact lO i hi
    · rw [q4 i hi]; exact l2 i hi
  have F1 : ∀ a x, ¬ (333 ≤ a ∧ a ≤ 344) → ¬ a = 349 → ¬ (406 + 13 * k + 1 ≤ a ∧ a ≤ 406 + 13 * k + 10) → s3 a x = σ a x := fun a x h1 h2 h3 => by rw [k7 a x (by omega), e7 a x (by omega), a6' a x (by omega) (by omega)]
  -- how many hunks
  have hln : (hks (s3 (406 + 13 * k + 6)) nb n2).length = (hks M nb n2).length := by
    have D := (shs_DS (O := σ (406 + 13 * k + 2)) (N := σ (2 + 2 * u + 1)) (hks M nb n2).length 0 M (hks M nb n2) (DS_0 G.1) G.2).1
    rw [hks_cg q6, DS_hks D, shs_len]
  have e98 : Dd 98 [vA (406 + 13 * k)] s3 (rI ((hks M nb n2).length : Nat) s3) := by
    have z := k2.2.2.2.2.2.2.1
    rw [hln] at z
    exact d98 hP z
  have e231' : Dd 231 [vA 0, vI (σ 402 3 - 1)] σ (rA (406 + 13 * k) σ) := by
    rw [hk, show ((k + 1 : Nat) : Int) - 1 = ((k : Nat) : Int) by omega]
    exact e231
  have hA := b424 (x1 := (u : Int)) (x2 := a2) (Or.inl ⟨_, _, b207 (Or.inl ⟨_, _, e227, r2, Or.inl ⟨_, d236_ok g7, Or.inl ⟨_, e238, by omega, Or.inl ⟨_, _, e231', hP, _, _, a1', by decide +kernel, s2, e1, s3, k1, _, _, e98, rfl⟩⟩⟩⟩), rfl⟩)
  have fr0 : ∀ a x, 682 ≤ a → ¬ a = 726 → ¬ (a = 682 ∧ x = 0) → upS (upS s3 726 ((0 : Int).toNat) (((hks M nb n2).length : Nat) : Int)) 682 0 0 a x = σ a x := by
    intro a x y1 y2 y3
    have : upS (upS s3 726 ((0 : Int).toNat) (((hks M nb n2).length : Nat) : Int)) 682 0 0 a x = upS s3 726 ((0 : Int).toNat) (((hks M nb n2).length : Nat) : Int) a x := by
      unfold upS
      rw [if_neg y3]
    rw [this, up_a y2]
    exact F1 a x (by omega) (by omega) (by omega)
  obtain ⟨s4, y1, y2, y3, y4⟩ := d263 (A := 685) (off := 100 * (24 + k)) (n := nb) (σ := upS (upS s3 726 ((0 : Int).toNat) (((hks M nb n2).length : Nat) : Int)) 682 0 0) q685 (by decide) (by decide) (by omega) (by omega) (by decide)
  obtain ⟨s5, x1, x2, x3, x4⟩ := d264 (A := 683) (off := 16 * u) (n := n2) (σ := s4) q683 (by decide) (by decide) (by omega) (by omega) (by decide)
  have RR : MRw s5 (σ (406 + 13 * k + 2)) (σ (2 + 2 * u + 1)) nb n2 := ⟨by omega, by omega, fun i hi => by
    rw [x4 _ _ (by decide) (by omega), y2 i hi, fr0 _ _ (by decide) (by decide) (by omega)]
    exact t3 i hi, fun i hi => by
    rw [x2 i hi, y4 _ _ (by decide) (by omega), fr0 _ _ (by decide) (by decide) (by omega)]
    exact v2 i hi⟩
  obtain ⟨s6, p1, p2, p3, p4, p5⟩ := d287 (p := 24 + k) (way := a2) (σ := s5) (by omega) RR (by rw [x4 _ _ (by decide) (by omega)]; exact y3) x3 lO l2
  rw [← hM] at p2 p3 p4
  have hoff : ∀ a x, 682 ≤ a → ¬ a = 726 → ¬ (a = 682 ∧ (x = 0 ∨ (12 ≤ x ∧ x ≤ 22))) → ¬ (691 ≤ a ∧ a ≤ 694) → ¬ (696 ≤ a ∧ a ≤ 704) → ¬ (685 ≤ a ∧ a ≤ 687 ∧ 100 * (24 + k) ≤ x ∧ x < 100 * (24 + k) + 100) → ¬ ((a = 688 ∨ a = 689) ∧ x = 24 + k) → s6 a x = σ a x := by
    intro a x z1 z2 z3 z4 z5 z6 z7
    rw [p5 a x (by omega) z5 (by omega) z6 z7, x4 a x (by omega) (by omega), y4 a x (by omega) (by omega)]
    exact fr0 a x z1 z2 (by omega)
  have hlo : ∀ a x, a < 682 → s6 a x = s3 a x := fun a x y => by
    rw [p5 a x (by omega) (by omega) (by omega) (by omega) (by omega), x4 a x (by omega) (by omega), y4 a x (by omega) (by omega), up_a (by omega), up_a (by omega)]
  have hB : Dd 352 [vA 682, vI u, vI a2] (upS s3 726 ((0 : Int).toNat) (((hks M nb n2).length : Nat) : Int)) (rI (((hks M nb n2).length : Nat) : Int) s6) := by
    have z40 : upS s3 726 ((0 : Int).toNat) (((hks M nb n2).length : Nat) : Int) 682 40 = ((k + 1 : Nat) : Int) := by
      rw [up_a (by decide), F1 _ _ (by decide) (by decide) (by omega), h3, hk]
    have z40' : upS (upS s3 726 ((0 : Int).toNat) (((hks M nb n2).length : Nat) : Int)) 682 0 0 682 40 = ((k + 1 : Nat) : Int) := by
      rw [up_k (by decide)]
      exact z40
    refine m352 ?_
    rw [z40, if_neg (by omega)]
    refine b352_35 ⟨_, _, d245, ?_⟩
    rw [if_pos rfl, if_neg (show ¬ (1 : Int) = 0 by decide), z40', show 24 + ((k + 1 : Nat) : Int) - 1 = ((24 + k : Nat) : Int) by omega, tn, show 100 * ((24 + k : Nat) : Int) = ((100 * (24 + k) : Nat) : Int) by omega, fr0 688 _ (by decide) (by decide) (by omega), t1]
    refine ⟨by omega, by omega, by omega, by omega, s4, y1, by omega, by omega, ?_⟩
    rw [tn, y4 684 u (by decide) (by omega), fr0 684 _ (by decide) (by decide) (by omega), m2, show 16 * (u : Int) = ((16 * u : Nat) : Int) by omega]
    refine ⟨s5, x1, s6, p1, ?_⟩
    rw [show ((0 : Int)).toNat = 0 from rfl, p4]
  have W6 : WF s6 := WF_fr (fun a x h => hlo a x h) W3
  obtain ⟨f1, f2, f3, f4, f5⟩ := p2
  have PR6 : PR s6 (406 + 13 * k) (24 + k) := by
    refine ⟨⟨by rw [hlo _ _ (by omega), k2.1, f1], fun i hi => ?_⟩, ⟨by rw [hlo _ _ (by omega), k2.2.1, f2], fun i hi => ?_⟩, ⟨by rw [hlo _ _ (by omega), k2.2.2.1, f1], fun i hi => ?_⟩⟩
    · rw [f1] at hi
      show s6 (406 + 13 * k + 2) i = _
      rw [hlo _ _ (by omega), q2 i (by omega), f3 i (by omega)]
    · rw [f2] at hi
      show s6 (406 + 13 * k + 4) i = _
      rw [hlo _ _ (by omega), q4 i (by omega), f4 i (by omega)]
    · rw [f1] at hi
      show s6 (406 + 13 * k + 6) i = _
      rw [hlo _ _ (by omega), q6 i (by omega), f5 i (by omega)]
  refine op_fin hA hB (by
    rw [p5 _ _ (by decide) (by decide) (by decide) (by omega) (by omega), x4 _ _ (by decide) (by omega), y4 _ _ (by decide) (by omega), up_s]) (fun _ => by
    rw [p5 _ _ (by decide) (by decide) (by decide) (by omega) (by omega), x4 _ _ (by decide) (by omega), y4 _ _ (by decide) (by omega), up_a (by decide)]
    exact up_s) (fun a x ha => by
    rw [up_a (by omega)]
    exact F1 a x (by omega) (by omega) (by omega)) (fun a x ha => hoff a x (by omega) (by omega) (by omega) (by omega) (by omega) (by omega) (by omega)) (Rel_S H W6 (RSt_top H.2.2.2.2.2.1 hk (fun a x h1 h2 h3 h4 => ?_) PR6 (PO_fr (fun a x ha => hlo a x (by omega)) P3) (by rw [hlo _ _ (by omega), k2.1, NP0.1]) (fun i hi => ?_)) (fun a x z1 z2 z3 z4 z5 z6 z7 => ?_))
  · by_cases y : a < 682
    · rw [hlo a x y]
      exact F1 a x (by omega) (by omega) h2
    · exact hoff a x (by omega) (by omega) (by omega) (by omega) (by omega) h3 h4
  · rw [NP0.1] at hi
    rw [hlo _ _ (by omega)]
    exact q2 i (by omega)
  · by_cases y : a < 682
    · rw [hlo a x y]
      exact F1 a x (by omega) (by omega) (by omega)
    · exact hoff a x (by omega) (by omega) (by omega) (by omega) (by omega) (by omega) (by omega)
end
