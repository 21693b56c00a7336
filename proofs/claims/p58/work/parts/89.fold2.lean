/-! fold, the call. -/
noncomputable section
theorem Slot_ssl {s σ : Sg} {t u nb na : Nat} {O N F : Nat → Int} (h : SSL s t σ u) (h1 : nb ≤ 100) (h2 : na ≤ 100) (S : Slot σ u nb na O N F) : Slot s t nb na O N F := by
  obtain ⟨a1, a2, a3, a4, a5⟩ := S
  exact ⟨by rw [h.2.1]; exact a1, by rw [h.2.2]; exact a2, fun i hi => by rw [h.1 685 i (by decide) (by omega)]; exact a3 i hi, fun i hi => by rw [h.1 686 i (by decide) (by omega)]; exact a4 i hi, fun i hi => by rw [h.1 687 i (by decide) (by omega)]; exact a5 i hi⟩
theorem Slot_cg {s : Sg} {t nb na : Nat} {O N F O' N' F' : Nat → Int} (h1 : ∀ i, i < nb → O' i = O i) (h2 : ∀ i, i < na → N' i = N i) (h3 : ∀ i, i < nb → F' i = F i) (S : Slot s t nb na O N F) : Slot s t nb na O' N' F' := by
  obtain ⟨a1, a2, a3, a4, a5⟩ := S
  exact ⟨a1, a2, fun i hi => by rw [h1 i hi]; exact a3 i hi, fun i hi => by rw [h2 i hi]; exact a4 i hi, fun i hi => by rw [h3 i hi]; exact a5 i hi⟩
theorem gd_po {σ : Sg} {P nb na : Nat} {m : Int} (n : NP σ P nb na) (h : PO σ P m) : ∀ i, i < nb → ¬ σ (P + 6) i = -1 → σ (P + 2) i = σ (P + 4) (σ (P + 6) i).toNat := by
  intro i hi e
  have n1 := n.1
  rcases h.2.2.2.2.1 i (by omega) with z | z
  · exact absurd z e
  · exact z.2.2.2
/-- the scratch patch after a join is in order -/
theorem PO_join {σ s1 : Sg} {P Q nb na na' : Nat} (N : NP σ P nb na) (N' : NP σ Q na na') (q2 : PO σ P 16) (r2 : PO σ Q 16) (hf : ∀ k, k < na → σ (P + 4) k = σ (Q + 2) k) (n2 : NP s1 351 nb na') (v1 : ∀ i, i < nb → s1 353 i = σ (P + 2) i) (v2 : ∀ i, i < na' → s1 355 i = σ (Q + 4) i) (v3 : ∀ i, i < nb → s1 357 i = jp (σ (P + 2)) (σ (Q + 4)) (σ (P + 6)) (σ (Q + 6)) nb na' i) : PO s1 351 16 := by
  have g := jp_GD N.2.2.2.2.1 N'.2.2.2.2.1 (gd_po N q2) (gd_po N' r2) hf
  have z1 := N.1
  have z3 := N'.2.1
  have z4 := q2.1
  have z5 := r2.2.1
  refine PO_of n2 (by omega) (by omega) (fun i hi e => ?_) (fun i hi => ?_) (fun i hi => ?_)
  · have z6 : s1 (351 + 6) i = _ := v3 i hi
    rw [z6] at e ⊢
    rcases g.1.1 i hi with y | y
    · exact absurd y e
    have z2 : s1 (351 + 2) i = _ := v1 i hi
    rw [z2, g.2 i hi e]
    exact (v2 _ (by omega)).symm
  · have z2 : s1 (351 + 2) i = _ := v1 i hi
    rw [z2]; exact q2.2.2.2.2.2.2.2.1 i (by omega)
  · have z2 : s1 (351 + 4) i = _ := v2 i hi
    rw [z2]; exact r2.2.2.2.2.2.2.2.2.1 i (by omega)
theorem o33 {σ : Sg} {c a1 : Int} (H : Rel c σ) : OpR 422 349 [vA 0, vI a1, vA 726] [vA 682, vI a1] σ (c + 1) := by
  by_cases g1 : a1 < 0
  · exact x33_0 H g1
  by_cases g2 : σ 402 3 ≤ a1
  · exact x33_1 H g2
  have k0 : 0 ≤ a1 ∧ a1 < σ 402 3 := by omega
  by_cases g3 : σ 402 3 ≤ a1 + 1
  · exact x33_2 H k0 g3
  obtain ⟨n4, n5, n6⟩ := (rel_n H).2.1
  obtain ⟨k, rfl⟩ := Int.eq_ofNat_of_zero_le k0.1
  obtain ⟨h, hh⟩ := Int.eq_ofNat_of_zero_le n5
  have hkh : k + 1 < h := by omega
  have hS := H.2.2.2.2.2.1
  have hlay := hS.2.2.2.2.2.2.2.2.2.2
  have hL := cpL (p := k) (by omega)
  have hL1 := cpL (p := k + 1) (by omega)
  have hP := hL.2.2.2.2.2.2.1
  have hQ := hL1.2.2.2.2.2.2.1
  have e231 := d231_ok (σ := σ) (k := (k : Int)) (by omega) n6
  have f231 := d231_ok (σ := σ) (k := (k : Int) + 1) (by omega) n6
  rw [show ((k : Int)).toNat = k by omega] at e231
  rw [show ((k : Int) + 1).toNat = k + 1 by omega] at f231
  obtain ⟨p1, p2, p3⟩ := hlay k (by omega)
  obtain ⟨r1, r2, r3⟩ := hlay (k + 1) (by omega)
  have w1 := H.1 _ (pat_1 hP)
  have w3 := H.1 _ (pat_3 hP)
  have y1 := H.1 _ (pat_1 hQ)
  have y3 := H.1 _ (pat_3 hQ)
  obtain ⟨nb, na, b1, b2, N, S⟩ := po_slot p1 p2 w1.1 w3.1
  obtain ⟨nb', na', b3, b4, N', S'⟩ := po_slot r1 r2 y1.1 y3.1
  have hbl : blw (k + 1) = 406 + 13 * k + 3 := by unfold blw; rw [if_neg (by omega), Nat.add_sub_cancel]
  rw [hbl] at r3
  have ena : nb' = na := by
    have z1 := r3.1
    have z2 := N.2.1
    have z3 := N'.1
    omega
  subst ena
  have hf : ∀ x, x < nb' → σ (406 + 13 * k + 4) x = σ (406 + 13 * (k + 1) + 2) x := fun x hx => (r3.2 x (by have z3 := N'.1; omega)).symm
  obtain ⟨s1, a1', n2, W1, v1, v2, v3, fr⟩ := d4 H.1 hP hQ (by omega) (by omega) (by omega) (by omega) (by omega) N N' (gd_po N p2) (gd_po N' r2) hf
  have P1 := PO_join N N' p2 r2 hf n2 v1 v2 v3
  obtain ⟨p351, c352, c354, c356, c358, c360⟩ := cpS351
  have c352' : cap (351 + 1) = 96 := c352
  have c354' : cap (351 + 3) = 96 := c354
  have c356' : cap (351 + 5) = 96 := c356
  have c358' : cap (351 + 7) = 96 := c358
  have c360' : cap (351 + 9) = 388 := c360
  have e96 := d96 (σ := s1) hP p351 (by omega) (WF_pw W1)
  have W2 := WF_pb hP p351 W1
  have hlk := hks_len n2.2.2.2.2.1
  have cpy : ∀ m, m = 1 ∨ m = 3 ∨ m = 5 ∨ m = 7 ∨ m = 9 → pbS s1 (406 + 13 * k) 351 (406 + 13 * k + m) 1 = s1 (351 + m) 1 ∧ ∀ x : Nat, (x : Int) < s1 (351 + m) 1 → pbS s1 (406 + 13 * k) 351 (406 + 13 * k + m + 1) x = s1 (351 + m + 1) x := by
    obtain ⟨m1, m3, m5, m7, mV, mK, mC, -⟩ := n2
    intro m hm
    refine pb_row (by omega) hm ?_
    rcases hm with hm | hm | hm | hm | hm <;> subst hm <;> omega
  have off2 : ∀ a x, ¬ (406 + 13 * k + 1 ≤ a ∧ a ≤ 406 + 13 * k + 10) → pbS s1 (406 + 13 * k) 351 a x = s1 a x := fun a x y => pb_off y
  generalize pbS s1 (406 + 13 * k) 351 = s2 at e96 W2 cpy off2
  have s2h : s2 402 3 = (h : Nat) := by rw [off2 _ _ (by omega), fr _ _ (by omega) (by omega) (by omega)]; exact hh
  obtain ⟨s3, c1, W3, c2, c3⟩ := l130 (σ0 := s2) (k1 := k + 1) (h := h) (by omega) s2h (h - (k + 2)) (k + 1) s2 (by omega) (Nat.le_refl _) W2 (fun j' q1 q2 => by omega) (fun _ _ _ => rfl)
  have s3471 : ∀ x, s3 471 x = σ 471 x := fun x => by rw [c3 _ _ (by omega), off2 _ _ (by omega), fr _ _ (by omega) (by omega) (by omega)]
  have s3472 : ∀ x, s3 472 x = σ 472 x := fun x => by rw [c3 _ _ (by omega), off2 _ _ (by omega), fr _ _ (by omega) (by omega) (by omega)]
  have e471 : σ 471 1 = (h : Nat) := by have := hS.2.2.2.2.2.2.1.1; omega
  have d151' := d151 (σ := s3) (a := 471) (p := (k : Int) + 1) (WF_w W3 r471.1) (by rw [s3471]; omega)
  have rmo : ∀ a x, ¬ a = 471 → ¬ a = 472 → rmS1 s3 471 ((k : Int) + 1) a x = s3 a x := by
    intro a x q1 q2
    unfold rmS1
    rw [if_neg q2, if_neg (fun e => q1 e.1)]
  have rm1 : rmS1 s3 471 ((k : Int) + 1) 471 1 = ((h - 1 : Nat) : Int) := by
    unfold rmS1
    rw [if_neg (by decide), if_pos ⟨rfl, rfl⟩, s3471]
    omega
  have rm2 : ∀ x : Nat, x < h - 1 → rmS1 s3 471 ((k : Int) + 1) 472 x = if k + 1 ≤ x then σ 472 (x + 1) else σ 472 x := by
    intro x hx
    unfold rmS1
    rw [if_pos rfl, s3471, s3472, s3472]
    by_cases y : k + 1 ≤ x
    · rw [if_pos y, if_pos (by omega)]
    · rw [if_neg y, if_neg (by omega)]
  obtain ⟨s5, hs5⟩ : ∃ s5, s5 = upS (upS (rmS1 s3 471 ((k : Int) + 1)) 402 3 ((h - 1 : Nat) : Int)) 726 0 ((h - 1 : Nat) : Int) := ⟨_, rfl⟩
  have hA : Dd 422 [vA 0, vI k, vA 726] σ (rI 0 s5) := by
    have e130 : Dd 130 [vA 402, vI ((k : Int) + 1)] s2 (rV (upS (rmS1 s3 471 ((k : Int) + 1)) 402 3 ((h - 1 : Nat) : Int))) := by
      refine b130 ?_
      rw [s2h, if_pos (by omega), if_neg (by omega)]
      have z := c1 (o := rV (upS (rmS1 s3 471 ((k : Int) + 1)) 402 3 ((h - 1 : Nat) : Int))) (fun d2 => b130_59 ⟨_, by
        rw [show (((k + 1 : Nat)) : Int) = (k : Int) + 1 by omega]
        exact d151', by rw [rmo _ _ (by decide) (by decide), c3 _ _ (by omega), s2h]; omega, by
        rw [rmo _ _ (by decide) (by decide), c3 _ _ (by omega), s2h, show ((h : Nat) : Int) - 1 = ((h - 1 : Nat) : Int) by omega]⟩)
      rw [show (((k + 1 : Nat)) : Int) = (k : Int) + 1 by omega] at z
      exact z
    rw [hs5]
    refine b422 (Or.inl ⟨((h - 1 : Nat) : Int), upS (rmS1 s3 471 ((k : Int) + 1)) 402 3 ((h - 1 : Nat) : Int), b205 (Or.inl ⟨_, _, e231, hP, by omega, Or.inl ⟨_, _, f231, hQ, _, _, a1', p351, _, e96, by omega, _, e130, ?_⟩⟩), rfl⟩)
    rw [up_s]
  have s5c : ∀ a x, ¬ a = 471 → ¬ a = 472 → ¬ (a = 402 ∧ x = 3) → ¬ a = 726 → s5 a x = s3 a x := by
    intro a x q1 q2 q3 q4
    rw [hs5, up_a q4]
    have : upS (rmS1 s3 471 ((k : Int) + 1)) 402 3 ((h - 1 : Nat) : Int) a x = rmS1 s3 471 ((k : Int) + 1) a x := by
      unfold upS
      rw [if_neg q3]
    rw [this, rmo a x q1 q2]
  have s5_1 : s5 471 1 = ((h - 1 : Nat) : Int) := by rw [hs5, up_a (by decide), up_a (by decide)]; exact rm1
  have s5_2 : ∀ x : Nat, x < h - 1 → s5 472 x = if k + 1 ≤ x then σ 472 (x + 1) else σ 472 x := fun x hx => by rw [hs5, up_a (by decide), up_a (by decide)]; exact rm2 x hx
  have s5_3 : s5 402 3 = ((h - 1 : Nat) : Int) := by rw [hs5, up_a (by decide), up_s]
  have s5_v : s5 726 0 = ((h - 1 : Nat) : Int) := by rw [hs5, up_s]
  clear hs5 rm1 rm2 rmo d151'
  have s5m : ∀ a x, 682 ≤ a → ¬ a = 726 → s5 a x = σ a x := fun a x q1 q2 => by
    rw [s5c a x (by omega) (by omega) (by omega) q2, c3 a x (by omega), off2 a x (by omega), fr a x (by omega) (by omega) (by omega)]
  -- the reference
  have fr2 : ∀ c k, 685 ≤ c ∧ c ≤ 689 → upS s5 682 0 0 c k = σ c k := fun c k h => by rw [up_a (by omega)]; exact s5m c k (by omega) (by omega)
  obtain ⟨m1, d1, d2, d3⟩ := d295 (s := 24 + k) (t := 24 + (k + 1)) (p := 39) (σ := upS s5 682 0 0) (by omega) (by omega) (by omega) (by omega) (by omega) (by omega) (by omega) (by omega) N.2.2.2.2.1 N'.2.2.2.2.1 (Slot_fr fr2 S) (Slot_fr fr2 S')
  have d288' := d288 (σ := m1) (s := 39) (t := 24 + k) (by omega) (by omega)
  have m40 : cpyS m1 39 (24 + k) 682 40 = (h : Nat) := by rw [cpy_off (by decide), d3 _ _ (by omega) (by omega) (by omega), up_k (by decide), s5m _ _ (by decide) (by decide)]; omega
  obtain ⟨m3, hm3⟩ : ∃ m3, m3 = upS (cpyS m1 39 (24 + k)) 682 40 ((h - 1 : Nat) : Int) := ⟨_, rfl⟩
  have m3s : ∀ u, u < 44 → ¬ u = 24 + k → ¬ u = 39 → SSL m3 u σ u := by
    intro u hu q1 q2
    refine SSL_t (σ2 := cpyS m1 39 (24 + k)) (b := u) (SSL_eq (fun c x hc => by rw [hm3, up_a (by omega)])) (SSL_t (cpy_slot q1) ?_)
    refine ⟨fun c x hc hx => ?_, ?_, ?_⟩
    · rw [d3 _ _ (by omega) (by omega) (by omega)]
      exact fr2 _ _ (by omega)
    · rw [d3 _ _ (by omega) (by omega) (by omega)]
      exact fr2 _ _ (by omega)
    · rw [d3 _ _ (by omega) (by omega) (by omega)]
      exact fr2 _ _ (by omega)
  have m3k : SSL m3 (24 + k) m1 39 := SSL_t (σ2 := cpyS m1 39 (24 + k)) (b := 24 + k) (SSL_eq (fun c x hc => by rw [hm3, up_a (by omega)])) SSL_cpy
  have m3o : ∀ a x, ¬ (685 ≤ a ∧ a ≤ 689) → ¬ (700 ≤ a ∧ a ≤ 704) → ¬ (a = 682 ∧ (x = 0 ∨ x = 40)) → m3 a x = s5 a x := by
    intro a x q1 q2 q3
    rw [hm3]
    have : upS (cpyS m1 39 (24 + k)) 682 40 ((h - 1 : Nat) : Int) a x = cpyS m1 39 (24 + k) a x := by
      unfold upS
      rw [if_neg (by omega)]
    rw [this, cpy_off q1, d3 a x (by omega) (by omega) q2]
    unfold upS
    rw [if_neg (by omega)]
  have m3_0 : m3 682 0 = 0 := by rw [hm3, up_k (by decide), cpy_off (by decide), d3 _ _ (by omega) (by omega) (by omega), up_s]
  obtain ⟨s6, f0, f1, f2, f3, f4⟩ := l349 (σ0 := m3) (k1 := k + 1) (hm := h - 1) (d1 := some (vI k)) (by omega) (by rw [hm3]; exact up_s) (h - 1 - (k + 1)) (k + 1) m3 (by omega) (Nat.le_refl _) (fun j' q1 q2 => by omega) (fun u _ _ => SSL_eq (fun _ _ _ => rfl)) (fun _ _ => rfl) (fun _ _ _ _ => rfl)
  have hB : Dd 349 [vA 682, vI k] s5 (rI ((h - 1 : Nat) : Int) s6) := by
    have e40 := s5m 682 40 (by decide) (by decide)
    refine b349 ⟨_, _, d340_ok (by omega), ?_⟩
    rw [if_neg (show ¬ (1 : Int) = 0 by decide), if_pos (by omega)]
    refine ⟨by omega, b349_24 ⟨_, _, d245, ?_⟩⟩
    rw [if_pos rfl, if_neg (show ¬ (1 : Int) = 0 by decide), show 24 + (k : Int) + 1 = ((24 + (k + 1) : Nat) : Int) by omega, show 24 + (k : Int) = ((24 + k : Nat) : Int) by omega]
    refine ⟨by omega, by omega, by omega, _, d1, by omega, _, d288', ?_⟩
    rw [m40, show ((h : Nat) : Int) - 1 = ((h - 1 : Nat) : Int) by omega, show (k : Int) + 1 = ((k + 1 : Nat) : Int) by omega, ← hm3]
    exact ⟨by omega, by omega, f0⟩
  have s6o : ∀ a x, ¬ (685 ≤ a ∧ a ≤ 689) → ¬ (700 ≤ a ∧ a ≤ 704) → ¬ a = 711 → ¬ (a = 682 ∧ (x = 0 ∨ x = 40)) → s6 a x = s5 a x := fun a x q1 q2 q3 q4 => by
    rw [f4 a x q1 q3]
    exact m3o a x q1 q2 q4
  have s6c : ∀ a x, a < 682 → s6 a x = s5 a x := fun a x q => s6o a x (by omega) (by omega) (by omega) (by omega)
  -- the class's cells that stay
  have low : ∀ a x, a < 682 → ¬ (352 ≤ a ∧ a ≤ 361) → ¬ a = 377 → ¬ a = 378 → ¬ a = 471 → ¬ a = 472 → ¬ (a = 402 ∧ x = 3) → ¬ (406 + 13 * k + 1 ≤ a ∧ a < 406 + 13 * (h - 1)) → s6 a x = σ a x := by
    intro a x q0 q1 q2 q3 q4 q5 q6 q7
    rw [s6c a x q0, s5c a x q4 q5 q6 (by omega), c3 a x (by omega), off2 a x (by omega), fr a x q1 q2 q3]
  have kc : ∀ a x, 406 + 13 * k + 1 ≤ a → a ≤ 406 + 13 * k + 10 → s6 a x = s2 a x := fun a x q1 q2 => by
    rw [s6c a x (by omega), s5c a x (by omega) (by omega) (by omega) (by omega), c3 a x (by omega)]
  have PK : PO s6 (406 + 13 * k) 16 := PO_fr (fun a x q => kc a x (by omega) (by omega)) (PO_cg cpy P1 ⟨by have := n2.1; omega, by have := n2.2.1; omega⟩)
  have k1 : s6 (406 + 13 * k + 1) 1 = (nb : Nat) := by rw [kc _ _ (by omega) (by omega), (cpy 1 (by omega)).1]; exact n2.1
  have k3 : s6 (406 + 13 * k + 3) 1 = (na' : Nat) := by rw [kc _ _ (by omega) (by omega), (cpy 3 (by omega)).1]; exact n2.2.1
  have m1' := n2.1
  have m3' := n2.2.1
  have m5' := n2.2.2.1
  have kv1 : ∀ i, i < nb → s6 (406 + 13 * k + 2) i = σ (406 + 13 * k + 2) i := fun i hi => by
    rw [kc _ _ (by omega) (by omega)]
    have z := (cpy 1 (by omega)).2 i (by omega)
    rw [show 406 + 13 * k + 2 = 406 + 13 * k + 1 + 1 by omega, z]
    exact v1 i hi
  have kv3 : ∀ i, i < na' → s6 (406 + 13 * k + 4) i = σ (406 + 13 * (k + 1) + 4) i := fun i hi => by
    rw [kc _ _ (by omega) (by omega)]
    have z := (cpy 3 (by omega)).2 i (by omega)
    rw [show 406 + 13 * k + 4 = 406 + 13 * k + 3 + 1 by omega, z]
    exact v2 i hi
  have kv5 : ∀ i, i < nb → s6 (406 + 13 * k + 6) i = jp (σ (406 + 13 * k + 2)) (σ (406 + 13 * (k + 1) + 4)) (σ (406 + 13 * k + 6)) (σ (406 + 13 * (k + 1) + 6)) nb na' i := fun i hi => by
    rw [kc _ _ (by omega) (by omega)]
    have z := (cpy 5 (by omega)).2 i (by omega)
    rw [show 406 + 13 * k + 6 = 406 + 13 * k + 5 + 1 by omega, z]
    exact v3 i hi
  have W6 : WF s6 := WF_row (r := 471) (σ := s3) (fun a ha hne => by
    have q1 := row_lt ha
    have q2 : ¬ a = 402 := by intro e; subst e; exact absurd ha (by decide +kernel)
    rw [s6c a 1 q1, s5c a 1 hne (row_nx r471.1 ha) (by omega) (by omega)]) (by rw [s6c _ _ (by decide), s5_1, r471.2]; omega) W3
  have hSt : RSt (c + 1) s6 := by
    refine RSt_fold (k := k) (h := h) (nb := nb) (na := nb') (na' := na') (J := fun _ => 0) hS trivial hh hkh (by rw [s6c _ _ (by decide)]; exact s5_3) (low 402 4 (by decide) (by omega) (by decide) (by decide) (by decide) (by decide) (by decide) (by omega)) (by rw [f4 _ _ (by decide) (by decide), hm3]; exact up_s) (by rw [s6o _ _ (by decide) (by decide) (by decide) (by decide)]; exact s5m _ _ (by decide) (by decide)) (by rw [s6o _ _ (by decide) (by decide) (by decide) (by decide)]; exact s5m _ _ (by decide) (by decide)) (fun a x ha => ?_) (by rw [s6c _ _ (by decide)]; exact s5_1) (fun x hx => by rw [s6c _ _ (by decide)]; exact s5_2 x hx) (fun x hx => ?_) (fun j hj => ⟨?_, ?_⟩) (fun j hj1 hj2 => ⟨?_, ?_⟩) (NP_of PK k1 k3) ⟨b1, b4⟩ ?_ PK ⟨N.1, kv1⟩ ⟨N'.2.1, kv3⟩ (fun j hj => ?_)
    · by_cases q : a < 682
      · exact low a x q (by omega) (by omega) (by omega) (by omega) (by omega) (by omega) (by omega)
      · rw [s6o a x (by omega) (by omega) (by omega) (by omega)]
        exact s5m a x (by omega) (by omega)
    · by_cases y : k + 1 ≤ x
      · rw [if_pos y, (f1 x y hx).2, m3o _ _ (by decide) (by decide) (by omega)]
        exact s5m _ _ (by decide) (by decide)
      · rw [if_neg y, f3 x (by omega), m3o _ _ (by decide) (by decide) (by omega)]
        exact s5m _ _ (by decide) (by decide)
    · intro m hm
      exact ⟨low _ _ (by omega) (by omega) (by omega) (by omega) (by omega) (by omega) (by omega) (by omega), fun x hx => low _ _ (by omega) (by omega) (by omega) (by omega) (by omega) (by omega) (by omega) (by omega)⟩
    · exact SSL_t (f2 (24 + j) (by omega) (by omega)) (m3s (24 + j) (by omega) (by omega) (by omega))
    · intro m hm
      obtain ⟨z1, z2⟩ := c2 j (by omega) hj2 m hm
      have q : ∀ x, s2 (406 + 13 * (j + 1) + m) x = σ (406 + 13 * (j + 1) + m) x := fun x => by rw [off2 _ _ (by omega), fr _ _ (by omega) (by omega) (by omega)]
      have q' : ∀ x, s2 (406 + 13 * (j + 1) + m + 1) x = σ (406 + 13 * (j + 1) + m + 1) x := fun x => by rw [off2 _ _ (by omega), fr _ _ (by omega) (by omega) (by omega)]
      rw [q] at z1
      refine ⟨?_, fun x hx => ?_⟩
      · rw [s6c _ _ (by omega), s5c _ _ (by omega) (by omega) (by omega) (by omega)]
        exact z1
      · rw [s6c _ _ (by omega), s5c _ _ (by omega) (by omega) (by omega) (by omega), z2 x (by rw [q]; exact hx), q']
    · exact SSL_t (f1 j (by omega) hj2).1 (m3s (24 + (j + 1)) (by omega) (by omega) (by omega))
    · exact Slot_cg kv1 kv3 kv5 (Slot_ssl (f2 (24 + k) (by omega) (by omega)) (by omega) (by omega) (Slot_ssl m3k (by omega) (by omega) d2))
    · have q := (cpL (p := j) (by omega)).2.2.2.2.2.2.1
      exact ⟨(H.1 _ (pat_1 q)).1, (H.1 _ (pat_3 q)).1⟩
  refine op_fin hA hB ?_ (fun _ => ?_) (fun a x ha => s5m a x (by omega) (by omega)) (fun a x ha => by rw [s6o a x (by omega) (by omega) (by omega) (by omega)]; exact s5m a x (by omega) (by omega)) (Rel_S H W6 hSt (fun a x z1 z2 z3 z4 z5 z6 z7 => ?_))
  · rw [f4 _ _ (by decide) (by decide)]; exact m3_0
  · rw [s6o _ _ (by decide) (by decide) (by decide) (by decide)]; exact s5_v
  · by_cases q : a < 682
    · exact low a x q (by omega) (by omega) (by omega) (by omega) (by omega) (by omega) (by omega)
    · by_cases q2 : 685 ≤ a ∧ a ≤ 689
      · by_cases q3 : a ≤ 687
        · have z := SSL_t (f2 (x / 100) (by omega) (by omega)) (m3s (x / 100) (by omega) (by omega) (by omega))
          have z' := z.1 a (x % 100) (by omega) (by omega)
          rw [show 100 * (x / 100) + x % 100 = x by omega] at z'
          exact z'
        · have z := SSL_t (f2 x (by omega) (by omega)) (m3s x (by omega) (by omega) (by omega))
          have hq : a = 688 ∨ a = 689 := by omega
          rcases hq with hq | hq
          · rw [hq]; exact z.2.1
          · rw [hq]; exact z.2.2
      · rw [s6o a x q2 (by omega) z6 (by omega)]
        exact s5m a x (by omega) (by omega)
end
