/-! The stack: setBase, push, pop, fold, refresh. -/
noncomputable section
/-- only the stack differs -/
def OS (σ s : Sg) : Prop := ∀ x k, x < 682 → KP x k → ¬ (402 ≤ x ∧ x ≤ 472) → s x k = σ x k
theorem OS_t {a b c : Sg} (h : OS a b) (h' : OS b c) : OS a c := fun x k h1 h2 h3 => (h' x k h1 h2 h3).trans (h x k h1 h2 h3)
theorem LI_st {n m : Nat} {w w' : WS} {c : Int} (L : LI n w) (hnm : n ≤ m) (hE : w'.1 = w.1) (hR : Rel c w'.2.2) (h : OS w.2.2 w'.2.2) (ht : ∀ a k, 682 ≤ a → a < SCR → ¬ (a = 682 ∧ 3 ≤ k) → (a = 682 ∨ 682 + w.1.length ≤ a) → w'.2.1 a k = w.2.1 a k) (h3 : w'.2.1 682 3 = w'.2.2 402 3) (h4 : w'.2.1 682 4 = w'.2.2 402 4) (h4' : w'.2.2 402 4 ≤ m) (hm : m ≤ 1000) (h6 : ∀ k : Nat, (k : Int) < w'.2.2 402 3 → w'.2.1 682 (6 + k) = w'.2.2 472 k) (h5 : w'.2.1 682 5 = 0 ∨ ∃ t : Nat, t < 4 ∧ w'.2.1 682 5 = (t : Int) + 1 ∧ smP w'.2.2 (2 + 2 * t) (tpR w'.2.2)) : LI m w' := by
  obtain ⟨a1, a2, a3, a4, a5, a6, a7, a8, a9, b1, b2, b3⟩ := L
  have hs : SCR = 1000000000 := rfl
  have hl : 0 < w.1.length := by
    cases hw : w.1 with
    | nil => rw [hw] at a1; cases a1
    | cons _ _ => simp
  have u : ∀ k, k < 3 → w'.2.1 682 k = w.2.1 682 k := fun k hk => ht 682 k (by decide) (by omega) (by omega) (Or.inl rfl)
  refine ⟨by rw [hE]; exact a1, Rel_dn hR (by omega), ?_, ?_, ?_, h3, h4, h6, h5, fun a h1 h2 k => ?_, by rw [hE]; omega, by omega⟩
  · rw [u 0 (by decide), h 0 3 (by decide) (by unfold KP; omega) (by decide)]; exact a3
  · rw [u 1 (by decide), h 653 1 (by decide) (by unfold KP; omega) (by decide)]; exact a4
  · rw [u 2 (by decide), h 658 1 (by decide) (by unfold KP; omega) (by decide)]; exact a5
  · rw [hE] at h1
    rw [ht a k (by omega) h2 (by omega) (Or.inr h1)]
    exact b1 a h1 h2 k
theorem tpR_s {σ : Sg} {h : Nat} (hh : σ 402 3 = (h : Int) + 1) : tpR σ = 406 + 13 * h + 3 := by
  unfold tpR blw
  rw [hh, show ((h : Int) + 1).toNat = h + 1 by omega, if_neg (by omega), Nat.add_sub_cancel]
/-- setBase -/
theorem c200 {σ : Sg} {c : Int} {t : Nat} (H : Rel c σ) (ht : t < 4) (h0 : σ 402 3 = 0) : ∃ s2, Dc 200 [vA 0, vI t] σ (.inl (some (.inl (σ (2 + 2 * t) 1)))) s2 ∧ Rel (c + 1) s2 ∧ OS σ s2 ∧ (∀ k, s2 402 k = σ 402 k) ∧ (∀ k, s2 472 k = σ 472 k) ∧ smP s2 (2 + 2 * t) (tpR s2) := by
  have hp := p200 (t := (t : Int)) H (by omega) h0
  rw [tn] at hp
  obtain ⟨s2, d1, d2, d3⟩ := fc_join (fc28 (a1 := t) H) hp
  have b := (txl_ok H ht).2.1
  have hcp : σ (2 + 2 * t) 1 ≤ (cap 403 : Int) := by
    have : cap 403 = 16 := by decide +kernel
    omega
  have e402 : ∀ k, s2 402 k = σ 402 k := fun k => by rw [d3 _ (by decide), bc_off (by decide) (by decide)]
  refine ⟨s2, d1, d2, fun x k h1 h2 h3 => by rw [d3 x h1, bc_off (by omega) (by omega)], e402, fun k => by rw [d3 _ (by decide), bc_off (by decide) (by decide)], ?_⟩
  have eT : tpR s2 = 403 := by unfold tpR; rw [e402, h0]; rfl
  rw [eT]
  refine ⟨?_, fun k hk => ?_⟩
  · rw [d3 (2 + 2 * t) (by omega), d3 403 (by decide), bc_sz hcp, bc_off (by omega) (by omega)]
  · rw [d3 (2 + 2 * t) (by omega), bc_off (by omega) (by omega)] at hk
    rw [d3 (2 + 2 * t + 1) (by omega), d3 (403 + 1) (by decide), bc_off (by omega) (by omega), bc_val hcp (by omega) hk]
/-- push -/
theorem c201 {σ : Sg} {c : Int} {t h : Nat} (H : Rel c σ) (hc9 : c < 1000000) (ht : (t : Int) < σ 0 3) (hh : σ 402 3 = (h : Nat)) (h5 : h < 5) (hs : smP σ (20 + 13 * t + 1) (tpR σ)) : ∃ (nm : Nat) (s2 : Sg), σ 402 4 = (nm : Nat) ∧ Dc 201 [vA 0, vI t] σ (.inl (some (.inl nm))) s2 ∧ Rel (c + 1) s2 ∧ OS σ s2 ∧ s2 402 3 = (h : Int) + 1 ∧ s2 402 4 = (nm : Int) + 1 ∧ s2 472 h = (nm : Nat) ∧ (∀ k, ¬ k = h → s2 472 k = σ 472 k) ∧ s2 (406 + 13 * h + 3) 1 = σ (20 + 13 * t + 3) 1 ∧ ∀ k : Nat, (k : Int) < σ (20 + 13 * t + 3) 1 → s2 (406 + 13 * h + 3 + 1) k = σ (20 + 13 * t + 3 + 1) k := by
  obtain ⟨⟨n1, n2, n3⟩, ⟨n4, n5, n6⟩, -⟩ := rel_n H
  have hP := cpP (p := t) (by omega)
  have e230 := d230_ok (σ := σ) (k := (t : Int)) (by omega) n3
  rw [tn] at e230
  have hbr := blw_row H
  have w1 := WF_w H.1 (pat_1 hP.2.2.2.2.2.2.1)
  have w2 := WF_w H.1 hbr
  have hst := H.2.2.2.2.2.1
  obtain ⟨u1, u2, u3, u4, u5, u6, u7, u8, u9, u10, u11⟩ := hst
  obtain ⟨nm, hnm⟩ := Int.eq_ofNat_of_zero_le u4
  have hL := cpL (p := h) (by omega)
  have hA : Dd 201 [vA 0, vI t] σ (rI nm (upS (upS (adS (pbS σ (406 + 13 * h) (20 + 13 * t)) 471 nm) 402 3 ((h : Int) + 1)) 402 4 ((nm : Int) + 1))) := by
    refine b201 (Or.inl ⟨_, _, e230, hP.2.2.2.2.2.2.1, ?_⟩)
    rw [if_neg (by omega)]
    refine ⟨_, _, d127 H, hbr, _, _, d156_t w1 w2 hs, ?_⟩
    rw [if_neg (show ¬ (1 : Int) = 0 by decide)]
    exact ⟨_, _, d128 H (by omega) hh (by omega) hnm (by omega), rfl⟩
  have e471 : σ 471 1 = (h : Nat) := by have := u7.1; omega
  have ad1 : adS (pbS σ (406 + 13 * h) (20 + 13 * t)) 471 nm = upS (upS (pbS σ (406 + 13 * h) (20 + 13 * t)) 472 h nm) 471 1 ((h : Int) + 1) := by
    have q : pbS σ (406 + 13 * h) (20 + 13 * t) 471 1 = (h : Nat) := by rw [pb_off (by omega)]; exact e471
    unfold adS
    rw [q, if_pos (by rw [r471.2]; omega), show ((h : Nat) : Int).toNat = h by omega]
  rw [ad1] at hA
  obtain ⟨s2, d1, d2, d3⟩ := fc_join (fc29 (a1 := t) H hc9) hA
  have q := (H.1 _ (pat_3 hP.2.2.2.2.2.2.1)).2
  have z := pb_row (σ := σ) (P := 406 + 13 * h) (Q := 20 + 13 * t) (j := 3) (by omega) (by omega) (by omega)
  refine ⟨nm, s2, hnm, d1, d2, fun x k h1 h2 h3 => by rw [d3 x h1, up_a (by omega), up_a (by omega), up_a (by omega), up_a (by omega), pb_off (by omega)], by rw [d3 402 (by decide), up_k (by decide), up_s], by rw [d3 402 (by decide), up_s], by rw [d3 472 (by decide), up_a (by decide), up_a (by decide), up_a (by decide), up_s], fun k hk => by rw [d3 472 (by decide), up_a (by decide), up_a (by decide), up_a (by decide), up_k hk, pb_off (by omega)], ?_, fun k hk => ?_⟩
  · rw [d3 _ (by omega), up_a (by omega), up_a (by omega), up_a (by omega), up_a (by omega)]; exact z.1
  · rw [d3 _ (by omega), up_a (by omega), up_a (by omega), up_a (by omega), up_a (by omega)]; exact z.2 k hk
/-- pop -/
theorem c202 {σ : Sg} {c : Int} {h : Nat} (H : Rel c σ) (hh : σ 402 3 = (h : Int) + 1) : ∃ s2, Dc 202 [vA 0] σ (.inl (some (.inl (σ 472 h)))) s2 ∧ Rel (c + 1) s2 ∧ OS σ s2 ∧ s2 402 3 = (h : Int) ∧ s2 402 4 = σ 402 4 ∧ ∀ k, s2 472 k = σ 472 k := by
  obtain ⟨-, ⟨n4, n5, n6⟩, -⟩ := rel_n H
  have u7 := H.2.2.2.2.2.1.2.2.2.2.2.2.1
  have hh1 : σ 402 3 - 1 = (h : Int) := by omega
  have e471 : σ 471 1 = (h : Int) + 1 := by have := u7.1; omega
  have w471 := WF_w H.1 r471.1
  have d1 := d147 (i := (h : Int)) w471
  have ea : atS σ 471 (h : Int) = σ 472 h := by
    unfold atS
    rw [if_pos (by omega)]
    rfl
  rw [ea] at d1
  have hrm : ∀ c k, ¬ (c = 471 ∧ k = 1) → rmS1 σ 471 (h : Int) c k = σ c k := by
    intro c k hc
    unfold rmS1
    by_cases e : c = 471 + 1
    · rw [if_pos e, if_neg (by omega)]
    · rw [if_neg e, if_neg hc]
  have hA : Dd 202 [vA 0] σ (rI (σ 472 h) (upS (rmS1 σ 471 (h : Int)) 402 3 (h : Int))) := by
    refine b202 (Or.inl ⟨_, b238 (by rw [if_neg (by omega)]), _, _, b129 ?_, rfl⟩)
    refine ⟨by omega, ?_⟩
    rw [hh1]
    refine ⟨_, _, d1, ?_⟩
    rw [hh1]
    refine ⟨by omega, _, b130 ?_, rfl⟩
    rw [if_pos (by omega), if_neg (by omega)]
    refine b130_15 ⟨by omega, ?_⟩
    rw [if_neg (by omega)]
    refine b130_59 ⟨_, d151 w471 (by omega), ?_⟩
    rw [hrm _ _ (by decide), hh1]
    exact ⟨by omega, rfl⟩
  obtain ⟨s2, e1, e2, e3⟩ := fc_join (fc30 H) hA
  refine ⟨s2, e1, e2, fun x k h1 h2 h3 => by rw [e3 x h1, up_a (by omega), hrm x k (by omega)], by rw [e3 402 (by decide), up_s], by rw [e3 402 (by decide), up_k (by decide), hrm _ _ (by decide)], fun k => by rw [e3 472 (by decide), up_a (by decide), hrm _ _ (by omega)]⟩
/-- fold -/
theorem c205 {σ : Sg} {c : Int} {k g : Nat} (H : Rel c σ) (hg : σ 402 3 = ((g + 2 : Nat) : Int)) (hkg : k ≤ g) : ∃ s2, Dc 205 [vA 0, vI k] σ (.inl (some (.inl ((g + 1 : Nat) : Int)))) s2 ∧ Rel (c + 1) s2 ∧ OS σ s2 ∧ s2 402 3 = ((g + 1 : Nat) : Int) ∧ s2 402 4 = σ 402 4 ∧ (∀ x : Nat, x < g + 1 → s2 472 x = if k + 1 ≤ x then σ 472 (x + 1) else σ 472 x) ∧ s2 (406 + 13 * g + 3) 1 = σ (406 + 13 * (g + 1) + 3) 1 ∧ ∀ i : Nat, (i : Int) < σ (406 + 13 * (g + 1) + 3) 1 → s2 (406 + 13 * g + 3 + 1) i = σ (406 + 13 * (g + 1) + 3 + 1) i := by
  obtain ⟨n4, n5, n6⟩ := (rel_n H).2.1
  obtain ⟨h, hhd⟩ : ∃ h, h = g + 2 := ⟨_, rfl⟩
  have hh : σ 402 3 = (h : Nat) := by omega
  have hkh : k + 1 < h := by omega
  have hS := H.2.2.2.2.2.1
  have hlay := hS.2.2.2.2.2.2.2.2.2.2
  have hL := cpL (p := k) (by omega)
  have hL1 := cpL (p := k + 1) (by omega)
  have hP := hL.2.2.2.2.2.2.1
  have hQ := hL1.2.2.2.2.2.2.1
  have e231 := d231_ok (σ := σ) (k := (k : Int)) (by omega) n6
  have f231 := d231_ok (σ := σ) (k := (k : Int) + 1) (by omega) n6
  rw [show ((k : Int)).toNat = k by omega] at e231
  rw [show ((k : Int) + 1).toNat = k + 1 by omega] at f231
  obtain ⟨p1, p2, p3⟩ := hlay k (by omega)
  obtain ⟨r1, r2, r3⟩ := hlay (k + 1) (by omega)
  have w1 := H.1 _ (pat_1 hP)
  have w3 := H.1 _ (pat_3 hP)
  have y1 := H.1 _ (pat_1 hQ)
  have y3 := H.1 _ (pat_3 hQ)
  obtain ⟨nb, na, b1, b2, N, S⟩ := po_slot p1 p2 w1.1 w3.1
  obtain ⟨nb', na', b3, b4, N', S'⟩ := po_slot r1 r2 y1.1 y3.1
  have hbl : blw (k + 1) = 406 + 13 * k + 3 := by unfold blw; rw [if_neg (by omega), Nat.add_sub_cancel]
  rw [hbl] at r3
  have ena : nb' = na := by
    have z1 := r3.1
    have z2 := N.2.1
    have z3 := N'.1
    omega
  subst ena
  have hf : ∀ x, x < nb' → σ (406 + 13 * k + 4) x = σ (406 + 13 * (k + 1) + 2) x := fun x hx => (r3.2 x (by have z3 := N'.1; omega)).symm
  obtain ⟨s1, a1', n2, W1, v1, v2, v3, fr⟩ := d4 H.1 hP hQ (by omega) (by omega) (by omega) (by omega) (by omega) N N' (gd_po N p2) (gd_po N' r2) hf
  obtain ⟨p351, c352, c354, c356, c358, c360⟩ := cpS351
  have c352' : cap (351 + 1) = 96 := c352
  have c354' : cap (351 + 3) = 96 := c354
  have c356' : cap (351 + 5) = 96 := c356
  have c358' : cap (351 + 7) = 96 := c358
  have c360' : cap (351 + 9) = 388 := c360
  have e96 := d96 (σ := s1) hP p351 (by omega) (WF_pw W1)
  have W2 := WF_pb hP p351 W1
  have hlk := hks_len n2.2.2.2.2.1
  have cpy : pbS s1 (406 + 13 * k) 351 (406 + 13 * k + 3) 1 = s1 (351 + 3) 1 ∧ ∀ x : Nat, (x : Int) < s1 (351 + 3) 1 → pbS s1 (406 + 13 * k) 351 (406 + 13 * k + 3 + 1) x = s1 (351 + 3 + 1) x := by
    obtain ⟨m1, m3, m5, m7, mV, mK, mC, -⟩ := n2
    refine pb_row (by omega) (by omega) ?_
    omega
  have off2 : ∀ a x, ¬ (406 + 13 * k + 1 ≤ a ∧ a ≤ 406 + 13 * k + 10) → pbS s1 (406 + 13 * k) 351 a x = s1 a x := fun a x y => pb_off y
  generalize pbS s1 (406 + 13 * k) 351 = s2 at e96 W2 cpy off2
  have s2h : s2 402 3 = (h : Nat) := by rw [off2 _ _ (by omega), fr _ _ (by omega) (by omega) (by omega)]; exact hh
  obtain ⟨s3, c1, W3, c2, c3⟩ := l130 (σ0 := s2) (k1 := k + 1) (h := h) (by omega) s2h (h - (k + 2)) (k + 1) s2 (by omega) (Nat.le_refl _) W2 (fun j' q1 q2 => by omega) (fun _ _ _ => rfl)
  have s3471 : ∀ x, s3 471 x = σ 471 x := fun x => by rw [c3 _ _ (by omega), off2 _ _ (by omega), fr _ _ (by omega) (by omega) (by omega)]
  have s3472 : ∀ x, s3 472 x = σ 472 x := fun x => by rw [c3 _ _ (by omega), off2 _ _ (by omega), fr _ _ (by omega) (by omega) (by omega)]
  have s3402 : ∀ x, s3 402 x = σ 402 x := fun x => by rw [c3 _ _ (by omega), off2 _ _ (by omega), fr _ _ (by omega) (by omega) (by omega)]
  have e471 : σ 471 1 = (h : Nat) := by have := hS.2.2.2.2.2.2.1.1; omega
  have d151' := d151 (σ := s3) (a := 471) (p := (k : Int) + 1) (WF_w W3 r471.1) (by rw [s3471]; omega)
  have rmo : ∀ a x, ¬ a = 471 → ¬ a = 472 → rmS1 s3 471 ((k : Int) + 1) a x = s3 a x := by
    intro a x q1 q2
    unfold rmS1
    rw [if_neg q2, if_neg (fun e => q1 e.1)]
  have rm2 : ∀ x : Nat, x < h - 1 → rmS1 s3 471 ((k : Int) + 1) 472 x = if k + 1 ≤ x then σ 472 (x + 1) else σ 472 x := by
    intro x hx
    unfold rmS1
    rw [if_pos rfl, s3471, s3472, s3472]
    by_cases y : k + 1 ≤ x
    · rw [if_pos y, if_pos (by omega)]
    · rw [if_neg y, if_neg (by omega)]
  have hA : Dd 205 [vA 0, vI k] σ (rI ((g + 1 : Nat) : Int) (upS (rmS1 s3 471 ((k : Int) + 1)) 402 3 ((g + 1 : Nat) : Int))) := by
    have e130 : Dd 130 [vA 402, vI ((k : Int) + 1)] s2 (rV (upS (rmS1 s3 471 ((k : Int) + 1)) 402 3 ((g + 1 : Nat) : Int))) := by
      refine b130 ?_
      rw [s2h, if_pos (by omega), if_neg (by omega)]
      have z := c1 (o := rV (upS (rmS1 s3 471 ((k : Int) + 1)) 402 3 ((g + 1 : Nat) : Int))) (fun d2 => b130_59 ⟨_, by
        rw [show (((k + 1 : Nat)) : Int) = (k : Int) + 1 by omega]
        exact d151', by rw [rmo _ _ (by decide) (by decide), c3 _ _ (by omega), s2h]; omega, by
        rw [rmo _ _ (by decide) (by decide), c3 _ _ (by omega), s2h, show ((h : Nat) : Int) - 1 = ((g + 1 : Nat) : Int) by omega]⟩)
      rw [show (((k + 1 : Nat)) : Int) = (k : Int) + 1 by omega] at z
      exact z
    refine b205 (Or.inl ⟨_, _, e231, hP, by omega, Or.inl ⟨_, _, f231, hQ, _, _, a1', p351, _, e96, by omega, _, e130, ?_⟩⟩)
    rw [up_s]
  obtain ⟨s9, d1, d2, d3⟩ := fc_join (fc33 (a1 := k) H) hA
  have off : ∀ a x, a < 682 → ¬ a = 471 → ¬ a = 472 → ¬ a = 402 → s9 a x = s3 a x := fun a x q0 q1 q2 q3 => by rw [d3 a q0, up_a q3, rmo a x q1 q2]
  refine ⟨s9, d1, d2, fun x k' h1 h2 h3 => ?_, by rw [d3 402 (by decide), up_s], by rw [d3 402 (by decide), up_k (by decide), rmo _ _ (by decide) (by decide), s3402], fun x hx => by rw [d3 472 (by decide), up_a (by decide)]; exact rm2 x (by omega), ?_⟩
  · rw [off x k' h1 (by omega) (by omega) (by omega), c3 _ _ (by omega), off2 _ _ (by omega)]
    unfold KP at h2
    exact fr _ _ (by omega) (by omega) (by omega)
  · by_cases e : k = g
    · subst e
      have m3 := n2.2.1
      have z3 := N'.2.1
      refine ⟨?_, fun i hi => ?_⟩
      · rw [off _ _ (by omega) (by omega) (by omega) (by omega), c3 _ _ (by omega), cpy.1, z3]
        exact m3
      · rw [off _ _ (by omega) (by omega) (by omega) (by omega), c3 _ _ (by omega), cpy.2 i (by rw [show 351 + 3 = 354 from rfl]; have m3 : s1 354 1 = (na' : Nat) := m3; omega)]
        exact v2 i (by omega)
    · have z := c2 g (by omega) (by omega) 3 (by omega)
      have q : ∀ x, s2 (406 + 13 * (g + 1) + 3) x = σ (406 + 13 * (g + 1) + 3) x := fun x => by rw [off2 _ _ (by omega), fr _ _ (by omega) (by omega) (by omega)]
      have q' : ∀ x, s2 (406 + 13 * (g + 1) + 3 + 1) x = σ (406 + 13 * (g + 1) + 3 + 1) x := fun x => by rw [off2 _ _ (by omega), fr _ _ (by omega) (by omega) (by omega)]
      refine ⟨by rw [off _ _ (by omega) (by omega) (by omega) (by omega), z.1, q], fun i hi => ?_⟩
      rw [off _ _ (by omega) (by omega) (by omega) (by omega), z.2 i (by rw [q]; exact hi), q']
/-- refresh -/
theorem c207 {σ : Sg} {c a2 : Int} {u k : Nat} (H : Rel c σ) (hu : u < 4) (g7 : 0 ≤ a2 ∧ a2 < 3) (hk : σ 402 3 = ((k + 1 : Nat) : Int)) : ∃ (m : Nat) (s2 : Sg), m ≤ 17 ∧ Dc 207 [vA 0, vI u, vI a2] σ (.inl (some (.inl m))) s2 ∧ Rel (c + 1) s2 ∧ OS σ s2 ∧ (∀ x, s2 402 x = σ 402 x) ∧ (∀ x, s2 472 x = σ 472 x) ∧ smP s2 (2 + 2 * u) (tpR s2) := by
  obtain ⟨n2, b2, r2, z2, m2, v2, l2⟩ := rt_two H (t := u) (by omega)
  have hS : RSt c σ := H.2.2.2.2.2.1
  have e227 := d227_ok (σ := σ) (t := (u : Int)) (by omega)
  rw [tn] at e227
  obtain ⟨h1, h2, h3, h4, h5, h6, h7, h8, h9, h10, h11⟩ := hS
  have k5 : k < 5 := by omega
  have e238 : Dd 238 [vA 0] σ (rV σ) := b238 (by rw [if_neg (by omega)])
  have e231 := d231_ok (σ := σ) (k := (k : Int)) (by omega) h2
  rw [tn] at e231
  obtain ⟨g8, g9, g10⟩ := h11 k (by omega)
  obtain ⟨c1, c3, c5, c7, c9, c11, hP, -⟩ := cpL k5
  have w1 := (WF_w H.1 (pat_1 hP)).2.1
  have w3 := (WF_w H.1 (pat_3 hP)).2.1
  obtain ⟨nb, na, bb, ba, NP0, S0⟩ := po_slot g8 g9 w1 w3
  have lO : ∀ i, i < nb → isLn (σ (406 + 13 * k + 2) i) = true := fun i hi => g9.2.2.2.2.2.2.2.1 i (by rw [NP0.1]; omega)
  have G : GD (σ (406 + 13 * k + 2)) (σ (2 + 2 * u + 1)) nb n2 (mtc a2 (σ (406 + 13 * k + 2)) (σ (2 + 2 * u + 1)) nb n2) := mtc_GD
  obtain ⟨s1, a1', W1, a4', a5', a6'⟩ := d15 (x1 := 406 + 13 * k + 1) (way := a2) H.1 (pat_1 hP) r2 NP0.1 z2 (by omega) (by omega) (by omega) (by omega)
  obtain ⟨M, hM⟩ : ∃ M, M = mtc a2 (σ (406 + 13 * k + 2)) (σ (2 + 2 * u + 1)) nb n2 := ⟨_, rfl⟩
  have a5'' : ∀ i, i < nb → s1 (337 + 1) i = M i := fun i hi => by rw [hM]; exact a5' i hi
  rw [← hM] at G
  have w337 : wR s1 337 := WF_w W1 (by decide +kernel)
  obtain ⟨s2, e1, e2, e3, e4, e5, e6, e7⟩ := d95s (P := 406 + 13 * k) (x1 := 406 + 13 * k + 1) (x2 := 2 + 2 * u) (x3 := 337) (nb := nb) (na := n2) (σ := s1) hP (WF_w W1 (pat_1 hP)) (WF_w W1 r2) w337 (by rw [a6' _ _ (by omega) (by omega)]; exact NP0.1) (by rw [a6' _ _ (by omega) (by omega)]; exact z2) a4' (VF_cg a5'' G.1) (by omega) (by omega) (by omega) (by omega) (by omega) rfl (by omega) (by omega)
  have W2 : WF s2 := WF_np W1 hP e2 e3 (by omega) (by omega) (by omega) (by omega) e7
  have i6 : ∀ i, i < nb → s2 (406 + 13 * k + 6) i = M i := fun i hi => by rw [e6 i hi]; exact a5'' i hi
  have i2 : ∀ i, i < nb → s2 (406 + 13 * k + 2) i = σ (406 + 13 * k + 2) i := fun i hi => by
    rw [e4 i hi]
    exact a6' _ _ (by omega) (by omega)
  have i4 : ∀ i, i < n2 → s2 (406 + 13 * k + 4) i = σ (2 + 2 * u + 1) i := fun i hi => by rw [e5 i hi, a6' _ _ (by omega) (by omega)]
  have E2 : EQL (σ (406 + 13 * k + 2)) (σ (2 + 2 * u + 1)) (s2 (406 + 13 * k + 6)) nb := fun x hx hne => by
    rw [i6 x hx] at hne ⊢
    exact G.2 x hx hne
  obtain ⟨s3, k1, k2, k3, k4, k6, k7⟩ := d108 (P := 406 + 13 * k) (nb := nb) (na := n2) (O := σ (406 + 13 * k + 2)) (N := σ (2 + 2 * u + 1)) hP W2 (by omega) (by omega) e2 i2 i4 lO l2 E2 (by omega) (by omega)
  have q4 : ∀ i, i < n2 → s3 (406 + 13 * k + 4) i = σ (2 + 2 * u + 1) i := fun i hi => by rw [k7 _ _ (by omega)]; exact i4 i hi
  have V3 : VF (s3 (406 + 13 * k + 6)) nb n2 := k2.2.2.2.2.1
  have F1 : ∀ a x, ¬ (333 ≤ a ∧ a ≤ 344) → ¬ a = 349 → ¬ (406 + 13 * k + 1 ≤ a ∧ a ≤ 406 + 13 * k + 10) → s3 a x = σ a x := fun a x h1 h2 h3 => by rw [k7 a x (by omega), e7 a x (by omega), a6' a x (by omega) (by omega)]
  have e98 : Dd 98 [vA (406 + 13 * k)] s3 (rI ((hks (s3 (406 + 13 * k + 6)) nb n2).length : Nat) s3) := d98 hP k2.2.2.2.2.2.2.1
  have hl17 := hks_len V3
  have e231' : Dd 231 [vA 0, vI (σ 402 3 - 1)] σ (rA (406 + 13 * k) σ) := by
    rw [hk, show ((k + 1 : Nat) : Int) - 1 = ((k : Nat) : Int) by omega]
    exact e231
  have hA := b207 (x1 := (u : Int)) (x2 := a2) (Or.inl ⟨_, _, e227, r2, Or.inl ⟨_, d236_ok g7, Or.inl ⟨_, e238, by omega, Or.inl ⟨_, _, e231', hP, _, _, a1', by decide +kernel, s2, e1, s3, k1, _, _, e98, rfl⟩⟩⟩⟩)
  obtain ⟨s9, d1, d2, d3⟩ := fc_join (fc35 (a1 := u) (a2 := a2) H) hA
  have e402 : ∀ x, s9 402 x = σ 402 x := fun x => by rw [d3 402 (by decide)]; exact F1 _ _ (by omega) (by omega) (by omega)
  have eT : tpR s9 = 406 + 13 * k + 3 := tpR_s (by rw [e402, hk]; omega)
  refine ⟨_, s9, by omega, d1, d2, fun x k' h1 h2 h3 => ?_, e402, fun x => by rw [d3 472 (by decide)]; exact F1 _ _ (by omega) (by omega) (by omega), ?_⟩
  · rw [d3 x h1]
    unfold KP at h2
    exact F1 _ _ (by omega) (by omega) (by omega)
  · rw [eT]
    have hz : s9 (2 + 2 * u) 1 = (n2 : Nat) := by
      rw [d3 _ (by omega)]
      exact (F1 _ _ (by omega) (by omega) (by omega)).trans z2
    refine ⟨?_, fun i hi => ?_⟩
    · rw [hz, d3 _ (by omega)]
      exact k2.2.1.symm
    · rw [hz] at hi
      rw [d3 (2 + 2 * u + 1) (by omega), d3 (406 + 13 * k + 3 + 1) (by omega)]
      exact (F1 _ _ (by omega) (by omega) (by omega)).trans (q4 i (by omega)).symm
end
