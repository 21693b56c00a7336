/-! swap. -/
noncomputable section
theorem PR_sl {s : Sg} {P p nb na : Nat} {O N F : Nat → Int} (n1 : s (P + 1) 1 = (nb : Nat)) (n3 : s (P + 3) 1 = (na : Nat)) (n5 : s (P + 5) 1 = (nb : Nat)) (S : Slot s p nb na O N F) (h2 : ∀ i, i < nb → s (P + 2) i = O i) (h4 : ∀ i, i < na → s (P + 4) i = N i) (h6 : ∀ i, i < nb → s (P + 6) i = F i) : PR s P p := by
  obtain ⟨t1, t2, t3, t4, t5⟩ := S
  refine ⟨⟨by rw [n1, t1], fun i hi => ?_⟩, ⟨by rw [n3, t2], fun i hi => ?_⟩, ⟨by rw [n5, t1], fun i hi => ?_⟩⟩
  · rw [t1] at hi
    show s (P + 2) i = _
    rw [h2 i (by omega), t3 i (by omega)]
  · rw [t2] at hi
    show s (P + 4) i = _
    rw [h4 i (by omega), t4 i (by omega)]
  · rw [t1] at hi
    show s (P + 6) i = _
    rw [h6 i (by omega), t5 i (by omega)]
theorem d158 {σ : Sg} {R n k : Nat} (w : wR σ R) (hn : σ R 1 = (n : Nat)) (hk : k + 1 < n) : Dd 158 [vA R, vI k] σ (rV (upS (upS σ (R + 1) k (σ (R + 1) (k + 1))) (R + 1) (k + 1) (σ (R + 1) k))) := by
  have hc := cap_le w.1
  have w2 := w.2.2
  have e := d147 (σ := σ) (a := R) (i := (k : Int)) w
  rw [at_on (n := n) (f := σ (R + 1)) hn (fun _ _ => rfl) (by omega)] at e
  refine b158 w.1 ⟨_, _, e, ?_⟩
  rw [if_pos (by omega), hn]
  refine ⟨by omega, ?_⟩
  rw [if_pos (by omega), tn, show ((k : Int) + 1).toNat = k + 1 by omega]
  exact ⟨by omega, by omega, by omega, by omega, by omega, rfl⟩
/-- two neighbours of the stack are others -/
theorem RSt_sw {σ s : Sg} {c : Int} {k : Nat} (H : RSt c σ) (hk : ((k + 1 : Nat) : Int) < σ 402 3) (fr : ∀ a x, ((402 ≤ a ∧ a ≤ 471) ∨ (685 ≤ a ∧ a ≤ 687 ∧ 2400 ≤ x ∧ x < 2900) ∨ ((a = 688 ∨ a = 689) ∧ 24 ≤ x ∧ x < 29) ∨ a = 710 ∨ (a = 682 ∧ 39 ≤ x ∧ x ≤ 41)) → ¬ (406 + 13 * k + 1 ≤ a ∧ a ≤ 406 + 13 * k + 10) → ¬ (406 + 13 * (k + 1) + 1 ≤ a ∧ a ≤ 406 + 13 * (k + 1) + 10) → ¬ (685 ≤ a ∧ a ≤ 687 ∧ 100 * (24 + k) ≤ x ∧ x < 100 * (24 + k) + 200) → ¬ ((a = 688 ∨ a = 689) ∧ (x = 24 + k ∨ x = 25 + k)) → s a x = σ a x) (n1 : ∀ x, s 472 x = if x = k then σ 472 (k + 1) else if x = k + 1 then σ 472 k else σ 472 x) (n2 : ∀ x, s 711 x = if x = k then σ 711 (k + 1) else if x = k + 1 then σ 711 k else σ 711 x) (p1 : PR s (406 + 13 * k) (24 + k)) (p2 : PO s (406 + 13 * k) 16) (p3 : PR s (406 + 13 * (k + 1)) (24 + (k + 1))) (p4 : PO s (406 + 13 * (k + 1)) 16) (z1 : s (406 + 13 * k + 1) 1 = σ (406 + 13 * k + 1) 1) (z2 : ∀ i : Nat, (i : Int) < σ (406 + 13 * k + 1) 1 → s (406 + 13 * k + 2) i = σ (406 + 13 * k + 2) i) (z3 : smP s (406 + 13 * (k + 1) + 1) (406 + 13 * k + 3)) (z4 : s (406 + 13 * (k + 1) + 3) 1 = σ (406 + 13 * (k + 1) + 3) 1) (z5 : ∀ i : Nat, (i : Int) < σ (406 + 13 * (k + 1) + 3) 1 → s (406 + 13 * (k + 1) + 4) i = σ (406 + 13 * (k + 1) + 4) i) : RSt (c + 1) s := by
  obtain ⟨h1, h2, h3, h4, h5, h6, h7, h8, h9, h10, h11⟩ := H
  have e0 := fr 402 3 (by omega) (by omega) (by omega) (by omega) (by omega)
  have e1 := fr 402 4 (by omega) (by omega) (by omega) (by omega) (by omega)
  have e2 := fr 682 39 (by omega) (by omega) (by omega) (by omega) (by omega)
  have e3 := fr 682 40 (by omega) (by omega) (by omega) (by omega) (by omega)
  have e4 := fr 682 41 (by omega) (by omega) (by omega) (by omega) (by omega)
  have f403 : ∀ x, s 403 x = σ 403 x := fun x => fr 403 x (by omega) (by omega) (by omega) (by omega) (by omega)
  have f404 : ∀ x, s 404 x = σ 404 x := fun x => fr 404 x (by omega) (by omega) (by omega) (by omega) (by omega)
  have f471 : ∀ x, s 471 x = σ 471 x := fun x => fr 471 x (by omega) (by omega) (by omega) (by omega) (by omega)
  have f710 : ∀ x, s 710 x = σ 710 x := fun x => fr 710 x (by omega) (by omega) (by omega) (by omega) (by omega)
  have g7 : ∀ i : Nat, (i : Int) < σ 402 3 → σ 472 i = σ 711 i := fun i hi => by
    have z := h7.2 i hi
    rw [Nat.zero_add] at z
    exact z
  refine ⟨by omega, by omega, by omega, by omega, by omega, by omega, ⟨by rw [f471 1, e0]; exact h7.1, fun i hi => ?_⟩, fun q hq => ?_, rowEq_fr (f403 1) f404 f710 e2 h9, fun i hi => ?_, fun j hj => ?_⟩
  · rw [e0] at hi
    rw [Nat.zero_add]
    show s 472 i = _
    rw [n1, n2]
    by_cases y1 : i = k
    · rw [if_pos y1, if_pos y1]
      exact g7 (k + 1) hk
    · rw [if_neg y1, if_neg y1]
      by_cases y2 : i = k + 1
      · rw [if_pos y2, if_pos y2]
        exact g7 k (by omega)
      · rw [if_neg y2, if_neg y2]
        exact g7 i hi
  · rw [e0] at hq
    rw [n1, e1]
    by_cases y1 : q = k
    · rw [if_pos y1]
      exact h8 (k + 1) hk
    · rw [if_neg y1]
      by_cases y2 : q = k + 1
      · rw [if_pos y2]
        exact h8 k (by omega)
      · rw [if_neg y2]
        exact h8 q hq
  · rw [f403] at hi
    rw [f404]
    exact h10 i hi
  · rw [e0] at hj
    obtain ⟨g1, g2, g3⟩ := h11 j hj
    have b := PR_16 g1 g2
    have far : ¬ j = k → ¬ j = k + 1 → PR s (406 + 13 * j) (24 + j) ∧ PO s (406 + 13 * j) 16 ∧ (∀ x, s (406 + 13 * j + 1) x = σ (406 + 13 * j + 1) x) ∧ ∀ x, s (406 + 13 * j + 2) x = σ (406 + 13 * j + 2) x := fun y1 y2 => ⟨PR_fr2 (fun a x ha => fr a x (by omega) (by omega) (by omega) (by omega) (by omega)) (fun a x ha hx => fr a _ (by omega) (by omega) (by omega) (by omega) (by omega)) ⟨fr _ _ (by omega) (by omega) (by omega) (by omega) (by omega), fr _ _ (by omega) (by omega) (by omega) (by omega) (by omega)⟩ (by omega) g1, PO_fr (fun a x ha => fr a x (by omega) (by omega) (by omega) (by omega) (by omega)) g2, fun x => fr _ x (by omega) (by omega) (by omega) (by omega) (by omega), fun x => fr _ x (by omega) (by omega) (by omega) (by omega) (by omega)⟩
    have hbl : ¬ j = k + 1 → ¬ j = k + 2 → ∀ a x, a = blw j ∨ a = blw j + 1 → s a x = σ a x := by
      intro y1 y2 a x ha
      unfold blw at ha
      by_cases y : j = 0
      · rw [if_pos y] at ha
        exact fr a x (by omega) (by omega) (by omega) (by omega) (by omega)
      · rw [if_neg y] at ha
        exact fr a x (by omega) (by omega) (by omega) (by omega) (by omega)
    by_cases y1 : j = k
    · subst y1
      have hb := hbl (by omega) (by omega)
      refine ⟨p1, p2, by rw [z1, hb _ 1 (Or.inl rfl)]; exact g3.1, fun i hi => ?_⟩
      rw [z1] at hi
      rw [hb _ i (Or.inr rfl)]
      show s (406 + 13 * j + 2) i = _
      rw [z2 i hi]
      exact g3.2 i hi
    · by_cases y2 : j = k + 1
      · subst y2
        refine ⟨p3, p4, ?_⟩
        have e : blw (k + 1) = 406 + 13 * k + 3 := by unfold blw; rw [if_neg (by omega), Nat.add_sub_cancel]
        rw [e]
        exact z3
      · obtain ⟨q1, q2, q3, q4⟩ := far y1 y2
        refine ⟨q1, q2, ?_⟩
        by_cases y3 : j = k + 2
        · subst y3
          have e : blw (k + 2) = 406 + 13 * (k + 1) + 3 := by unfold blw; rw [if_neg (by omega)]; congr 1
          rw [e] at g3 ⊢
          refine ⟨by rw [q3, z4]; exact g3.1, fun i hi => ?_⟩
          rw [q3] at hi
          show s (406 + 13 * (k + 2) + 2) i = s (406 + 13 * (k + 1) + 4) i
          rw [q4, z5 i (by rw [← g3.1]; exact hi)]
          exact g3.2 i hi
        · have hb := hbl y2 y3
          exact smP_fr (funext q3) (funext q4) (funext fun x => hb _ x (Or.inl rfl)) (funext fun x => hb _ x (Or.inr rfl)) g3
/-- swap -/
theorem o32 {σ : Sg} {c a1 : Int} (H : Rel c σ) : OpR 421 348 [vA 0, vI a1, vA 726] [vA 682, vI a1] σ (c + 1) := by
  by_cases g1 : a1 < 0
  · exact x32_0 H g1
  by_cases g2 : σ 402 3 ≤ a1
  · exact x32_1 H g2
  by_cases g3 : a1 + 1 = σ 402 3
  · exact x32_2 H (by omega)
  obtain ⟨k, rfl⟩ := Int.eq_ofNat_of_zero_le (show 0 ≤ a1 by omega)
  have hS : RSt c σ := H.2.2.2.2.2.1
  have hS0 := hS
  obtain ⟨h1, h2, h3, h4, h5, h6, h7, h8, h9, h10, h11⟩ := hS
  have hk : ((k + 1 : Nat) : Int) < σ 402 3 := by omega
  obtain ⟨x1, x2, x3⟩ := h11 k (by omega)
  obtain ⟨y1, y2, y3⟩ := h11 (k + 1) hk
  obtain ⟨cP1, cP3, cP5, cP7, cP9, -, hP, qP⟩ := cpL (p := k) (by omega)
  obtain ⟨cQ1, cQ3, cQ5, cQ7, cQ9, -, hQ, qQ⟩ := cpL (p := k + 1) (by omega)
  have hbl : blw (k + 1) = 406 + 13 * k + 3 := by unfold blw; rw [if_neg (by omega), Nat.add_sub_cancel]
  rw [hbl] at y3
  obtain ⟨nb, na, hb1, hb2, N, S⟩ := po_slot x1 x2 (WF_w H.1 (pat_1 hP)).2.1 (WF_w H.1 (pat_3 hP)).2.1
  obtain ⟨nb', nc, hb3, hb4, N', S'⟩ := po_slot y1 y2 (WF_w H.1 (pat_1 hQ)).2.1 (WF_w H.1 (pat_3 hQ)).2.1
  have ena : na = nb' := by
    have z := y3.1
    rw [N'.1, N.2.1] at z
    omega
  subst ena
  have hf : ∀ x, x < na → σ (406 + 13 * k + 4) x = σ (406 + 13 * (k + 1) + 2) x := fun x hx => (y3.2 x (by rw [N'.1]; omega)).symm
  have E : EL 405 k (406 + 13 * k) (406 + 13 * (k + 1)) := ⟨5, by decide +kernel, by decide, by omega, qP, hP, qQ, hQ⟩
  have e232 := d232_ok (σ := σ) (i := (k : Int)) (n := σ 402 3 - 1) (by omega)
  -- the reference, up to whether they touch
  have m21 : ∀ {s : Sg}, (∀ c k, 682 ≤ c → ¬ c = 726 → ¬ c = 472 → s c k = σ c k) → ∃ (z : Int) (σ' : Sg), (z = 0 ∨ z = 1) ∧ (z = 1 ↔ TCH (hks (σ (406 + 13 * k + 6)) nb na) (hks (σ (406 + 13 * (k + 1) + 6)) na nc)) ∧ (∀ c k, ¬ (700 ≤ c ∧ c ≤ 704) → σ' c k = s c k) ∧ ∀ {o : Rs}, (if z = 0 then C348_50 k 1 none none 1 σ' o else C348_49 k 1 none none σ' o) → Dd 348 [vA 682, vI k] s o := by
    intro s hs
    have fr0 : ∀ c k, 685 ≤ c ∧ c ≤ 689 → s c k = σ c k := fun c k h => hs c k (by omega) (by omega) (by omega)
    have e40 := hs 682 40 (by decide) (by decide) (by decide)
    obtain ⟨z, s2, d1, d2, d3, d4⟩ := d292 (s := 24 + k) (t := 24 + (k + 1)) (σ := s) (by omega) (by omega) (by omega) (by omega) (by omega) (by omega) N.2.2.2.2.1 N'.2.2.2.2.1 (Slot_fr fr0 S) (Slot_fr fr0 S')
    refine ⟨z, s2, d2, d3, d4, fun {o} hh => b348 ⟨_, _, d340_ok (by omega), ?_⟩⟩
    rw [if_neg (show ¬ (1 : Int) = 0 by decide)]
    refine ⟨by omega, ?_⟩
    rw [if_pos (by omega)]
    refine b348_23 ?_
    rw [if_neg (show ¬ (1 : Int) = 0 by decide), show 24 + (k : Int) = ((24 + k : Nat) : Int) by omega, show ((24 + k : Nat) : Int) + 1 = ((24 + (k + 1) : Nat) : Int) by omega]
    exact ⟨by omega, by omega, by omega, _, _, d1, hh⟩
  have m98 : ∀ (s : Sg) (d2 d3 d4 : Option AV), C348_98 k d2 d3 d4 s (rI 0 (upS s 682 0 2)) := fun s d2 d3 d4 => by
    refine b348_98 (b348_103 ⟨_, _, d245, ?_⟩)
    rw [if_neg (show ¬ (2 : Int) = 0 by decide), if_pos rfl]
  by_cases tc : TCH (hks (σ (406 + 13 * k + 6)) nb na) (hks (σ (406 + 13 * (k + 1) + 6)) na nc)
  · -- they touch
    have e10 := d10_t (lim := 16) E H.1 N N' (by omega) tc
    have hA := b421 (x1 := (k : Int)) (Or.inr (Or.inr ⟨_, b204 ⟨by omega, Or.inl ⟨_, e232, 0, σ, e10, by rw [if_pos rfl]⟩⟩, rfl⟩))
    obtain ⟨z, s2, z1, z2, z3, z4⟩ := m21 (s := σ) (fun _ _ _ _ _ => rfl)
    refine op_full2 H (kx := 2) (σ1 := σ) (by decide) H.1 (fun _ _ _ _ => rfl) (fun _ _ _ => rfl) hA ⟨upS s2 682 0 2, 0, z4 ?_, up_s, fun x k h => by rw [up_a (by omega)]; exact z3 x k (by omega), fun x k h h' h2 h3 => ?_⟩
    · rw [if_neg (by have := z2.mpr tc; omega)]
      refine b348_49 (b348_50 ?_)
      rw [if_pos rfl]
      refine b348_73 ?_
      rw [if_neg (show ¬ (1 : Int) = 0 by decide), if_pos rfl]
      exact m98 _ _ _ _
    · have : upS s2 682 0 2 x k = s2 x k := by unfold upS; rw [if_neg (by omega)]
      rw [this]
      exact z3 x k (by omega)
  have EX : EQL (σ (406 + 13 * k + 2)) (σ (406 + 13 * k + 4)) (σ (406 + 13 * k + 6)) nb := fun i hi e => GDg N x2 i hi e
  have EY : EQL (σ (406 + 13 * k + 4)) (σ (406 + 13 * (k + 1) + 4)) (σ (406 + 13 * (k + 1) + 6)) na := fun i hi e => by
    rw [hf i hi]
    exact GDg N' y2 i hi e
  have lX : ∀ i, i < nb → isLn (σ (406 + 13 * k + 2) i) = true := fun i hi => x2.2.2.2.2.2.2.2.1 i (by rw [N.1]; omega)
  have lZ : ∀ i, i < nc → isLn (σ (406 + 13 * (k + 1) + 4) i) = true := fun i hi => y2.2.2.2.2.2.2.2.2.1 i (by rw [N'.2.1]; omega)
  have pass : ∀ (s : Sg), (∀ c k, 685 ≤ c ∧ c ≤ 689 → s c k = σ c k) → _ := fun s hs => d297 (σ := s) (s := 24 + k) (t := 24 + (k + 1)) (K := σ (406 + 13 * k + 8)) (L := σ (406 + 13 * (k + 1) + 8)) (Y := σ (406 + 13 * k + 4)) (by omega) (by omega) (by omega) (by omega) (by omega) (by omega) N.2.2.2.2.1 N'.2.2.2.2.1 N.2.2.2.2.2.1 N'.2.2.2.2.2.1 EX EY lX lZ tc (Slot_fr hs S) (Slot_fr hs S')
  obtain ⟨b', M, f, a', g, u1, u2, u3, u4, u5, u6, u7, u8, u9, -⟩ := pass σ (fun _ _ _ => rfl)
  have mP : ∀ {s : Sg}, (∀ c k, 682 ≤ c → ¬ c = 726 → ¬ c = 472 → s c k = σ c k) → ∃ s3, (∀ {o : Rs}, C348_73 k 1 1 none s3 o → Dd 348 [vA 682, vI k] s o) ∧ Slot s3 39 nb M.length (σ (406 + 13 * k + 2)) (gv M) (gv f) ∧ Slot s3 40 M.length nc (gv M) (σ (406 + 13 * (k + 1) + 4)) (gv g) ∧ ∀ c x, ¬ c = 690 → ¬ (700 ≤ c ∧ c ≤ 704) → ¬ (685 ≤ c ∧ c ≤ 687 ∧ 3900 ≤ x ∧ x < 4100) → ¬ ((c = 688 ∨ c = 689) ∧ (x = 39 ∨ x = 40)) → s3 c x = s c x := by
    intro s hs
    obtain ⟨z, s2, z1, z2, z3, z4⟩ := m21 hs
    have hz : z = 0 := by
      rcases z1 with e | e
      · exact e
      · exact absurd (z2.mp e) tc
    obtain ⟨b2, M2, f2, a2, g2, v1, -, -, -, -, -, -, -, -, s3, v2, v3, v4, v5⟩ := pass s2 (fun c k h => by rw [z3 c k (by omega)]; exact hs c k (by omega) (by omega) (by omega))
    rw [u1] at v1
    cases v1
    refine ⟨s3, fun {o} hh => z4 ?_, v3, v4, fun c x h1 h2 h3 h4 => by rw [v5 c x h1 h2 h3 h4]; exact z3 c x h2⟩
    rw [if_pos hz]
    refine b348_50 ?_
    rw [if_neg (show ¬ (1 : Int) = 0 by decide), show 24 + (k : Int) = ((24 + k : Nat) : Int) by omega, show ((24 + k : Nat) : Int) + 1 = ((24 + (k + 1) : Nat) : Int) by omega]
    exact ⟨by omega, by omega, by omega, s3, v2, hh⟩
  by_cases g5 : 16 < M.length
  · -- the text between would be too long
    have e10 := d10_l (lim := 16) E H.1 N N' (by omega) tc (by omega)
    have hA := b421 (x1 := (k : Int)) (Or.inr (Or.inr ⟨_, b204 ⟨by omega, Or.inl ⟨_, e232, 0, σ, e10, by rw [if_pos rfl]⟩⟩, rfl⟩))
    obtain ⟨s3, v1, v2, v3, v4⟩ := mP (s := σ) (fun _ _ _ _ _ => rfl)
    refine op_full2 H (kx := 2) (σ1 := σ) (by decide) H.1 (fun _ _ _ _ => rfl) (fun _ _ _ => rfl) hA ⟨upS s3 682 0 2, 0, v1 (b348_73 ?_), up_s, fun x k h => by rw [up_a (by omega)]; exact v4 x k (by omega) (by omega) (by omega) (by omega), fun x k h h' h2 h3 => ?_⟩
    · rw [if_neg (show ¬ (1 : Int) = 0 by decide), if_neg (show ¬ (1 : Int) = 0 by decide), show ((39 : Int)).toNat = 39 from rfl, v2.2.1, if_pos (by omega)]
      exact m98 _ _ _ _
    · have : upS s3 682 0 2 x k = s3 x k := by unfold upS; rw [if_neg (by omega)]
      rw [this]
      exact v4 x k (by omega) (by omega) (by omega) (by omega)
  obtain ⟨s8, r1, W8, N1, N2, r2, r3, r4, r5, r6, r7, r8, r9, r10⟩ := d10_y (lim := 16) E (by omega) (by omega) (by omega) H.1 N N' hf (by omega) (by omega) (by omega) u2 u5 u3 u4 u6 u7 u8 tc (fun j hj => by rcases hj with e | e | e | e <;> subst e <;> omega) (fun j hj => by rcases hj with e | e | e | e <;> subst e <;> omega) (by omega) (by omega) u1
  have PO1 : PO s8 (406 + 13 * k) 16 := by
    refine PO_of N1 (by omega) (by omega) r8 (fun i hi => ?_) (fun i hi => ?_)
    · rw [r2 i hi]; exact lX i hi
    · rw [r3 i hi]; exact u9 i _ (gv_at hi)
  have PO2 : PO s8 (406 + 13 * (k + 1)) 16 := by
    refine PO_of N2 (by omega) (by omega) r9 (fun i hi => ?_) (fun i hi => ?_)
    · rw [r5 i hi]; exact u9 i _ (gv_at hi)
    · rw [r6 i hi]; exact lZ i hi
  obtain ⟨h, hh⟩ := Int.eq_ofNat_of_zero_le h1
  have q471 : s8 471 1 = (h : Nat) := by rw [r10 _ _ (by decide) (by decide) (by omega) (by omega), h7.1, hh]
  have n472 : ∀ x, s8 472 x = σ 472 x := fun x => r10 _ _ (by decide) (by decide) (by omega) (by omega)
  have w471 : wR s8 471 := WF_w W8 (by decide +kernel)
  have e158 := d158 (σ := s8) (R := 471) (n := h) (k := k) w471 q471 (by omega)
  obtain ⟨s9, hs9⟩ : ∃ s9, s9 = upS (upS s8 (471 + 1) k (s8 (471 + 1) (k + 1))) (471 + 1) (k + 1) (s8 (471 + 1) k) := ⟨_, rfl⟩
  rw [← hs9] at e158
  have off9 : ∀ a x, ¬ a = 472 → s9 a x = s8 a x := fun a x ha => by rw [hs9, up_a ha, up_a ha]
  have v472 : ∀ x, s9 472 x = if x = k then σ 472 (k + 1) else if x = k + 1 then σ 472 k else σ 472 x := fun x => by
    rw [hs9]
    by_cases z1 : x = k
    · rw [if_pos z1, up_k (by omega), z1, up_s]
      exact n472 _
    · rw [if_neg z1]
      by_cases z2 : x = k + 1
      · rw [if_pos z2, z2, up_s]
        exact n472 _
      · rw [if_neg z2, up_k z2, up_k z1]
        exact n472 _
  have W9 : WF s9 := fun a ha => by
    have : ¬ a = 472 := by
      intro e
      subst e
      exact absurd ha (by decide +kernel)
    rw [off9 a 1 this]
    exact W8 a ha
  have e147 := d147 (σ := s9) (a := 471) (i := (k : Int)) (WF_w W9 (by decide +kernel))
  rw [at_on (n := h) (f := s9 472) (by rw [off9 _ _ (by decide)]; exact q471) (fun _ _ => rfl) (by omega), v472, if_pos rfl] at e147
  have hA := b421 (x1 := (k : Int)) (Or.inl ⟨_, _, b204 ⟨by omega, Or.inl ⟨_, e232, 1, s8, r1, by
    rw [if_neg (show ¬ (1 : Int) = 0 by decide)]
    exact ⟨s9, e158, _, s9, e147, rfl⟩⟩⟩, rfl⟩)
  have hs1 : ∀ c x, 682 ≤ c → ¬ c = 726 → ¬ c = 472 → upS s9 726 ((0 : Int).toNat) (σ 472 (k + 1)) c x = σ c x := fun c x y1 y2 y3 => by
    rw [up_a y2, off9 c x y3]
    exact r10 c x (by omega) (by omega) (by omega) (by omega)
  obtain ⟨s3, v1, v2, v3, v4⟩ := mP hs1
  obtain ⟨s4, hs4⟩ : ∃ s4, s4 = upS s3 682 0 0 := ⟨_, rfl⟩
  have V2 : Slot s4 39 nb M.length (σ (406 + 13 * k + 2)) (gv M) (gv f) := Slot_fr (fun c k h => by rw [hs4, up_a (by omega)]) v2
  have V3 : Slot s4 40 M.length nc (gv M) (σ (406 + 13 * (k + 1) + 4)) (gv g) := Slot_fr (fun c k h => by rw [hs4, up_a (by omega)]) v3
  obtain ⟨s5, hs5⟩ : ∃ s5, s5 = cpyS s4 39 (24 + k) := ⟨_, rfl⟩
  have A1 : Slot s5 (24 + k) nb M.length (σ (406 + 13 * k + 2)) (gv M) (gv f) := by rw [hs5]; exact Slot_cpy (by omega) (by omega) V2
  have A2 : Slot s5 40 M.length nc (gv M) (σ (406 + 13 * (k + 1) + 4)) (gv g) := by
    obtain ⟨t1, t2, t3, t4, t5⟩ := V3
    rw [hs5]
    exact ⟨by rw [cpy_out (by omega) (by omega)]; exact t1, by rw [cpy_out (by omega) (by omega)]; exact t2, fun i hi => by rw [cpy_out (by omega) (by omega)]; exact t3 i hi, fun i hi => by rw [cpy_out (by omega) (by omega)]; exact t4 i hi, fun i hi => by rw [cpy_out (by omega) (by omega)]; exact t5 i hi⟩
  obtain ⟨s6, hs6⟩ : ∃ s6, s6 = cpyS s5 40 (24 + (k + 1)) := ⟨_, rfl⟩
  have B2 : Slot s6 (24 + (k + 1)) M.length nc (gv M) (σ (406 + 13 * (k + 1) + 4)) (gv g) := by rw [hs6]; exact Slot_cpy (by omega) (by omega) A2
  have B1 : Slot s6 (24 + k) nb M.length (σ (406 + 13 * k + 2)) (gv M) (gv f) := by
    obtain ⟨t1, t2, t3, t4, t5⟩ := A1
    rw [hs6]
    exact ⟨by rw [cpy_out (by omega) (by omega)]; exact t1, by rw [cpy_out (by omega) (by omega)]; exact t2, fun i hi => by rw [cpy_out (by omega) (by omega)]; exact t3 i hi, fun i hi => by rw [cpy_out (by omega) (by omega)]; exact t4 i hi, fun i hi => by rw [cpy_out (by omega) (by omega)]; exact t5 i hi⟩
  have o6 : ∀ c x, ¬ (685 ≤ c ∧ c ≤ 689) → s6 c x = s4 c x := fun c x h => by rw [hs6, hs5, cpy_off h, cpy_off h]
  obtain ⟨s7, hs7⟩ : ∃ s7, s7 = upS (upS s6 711 k (s6 711 (k + 1))) 711 (k + 1) (s6 711 k) := ⟨_, rfl⟩
  have off7 : ∀ a x, ¬ a = 711 → s7 a x = s6 a x := fun a x ha => by rw [hs7, up_a ha, up_a ha]
  have n711 : ∀ x, s6 711 x = σ 711 x := fun x => by
    rw [o6 _ _ (by decide), hs4, up_a (by decide), v4 _ _ (by decide) (by decide) (by omega) (by omega)]
    exact hs1 _ _ (by decide) (by decide) (by decide)
  have v711 : ∀ x, s7 711 x = if x = k then σ 711 (k + 1) else if x = k + 1 then σ 711 k else σ 711 x := fun x => by
    rw [hs7]
    by_cases z1 : x = k
    · rw [if_pos z1, up_k (by omega), z1, up_s]
      exact n711 _
    · rw [if_neg z1]
      by_cases z2 : x = k + 1
      · rw [if_pos z2, z2, up_s]
        exact n711 _
      · rw [if_neg z2, up_k z2, up_k z1]
        exact n711 _
  have s7lo : ∀ a x, a < 682 → s7 a x = s9 a x := fun a x ha => by
    rw [off7 a x (by omega), o6 a x (by omega), hs4, up_a (by omega), v4 a x (by omega) (by omega) (by omega) (by omega), up_a (by omega)]
  have s7hi : ∀ a x, 682 ≤ a → ¬ a = 726 → ¬ a = 711 → ¬ a = 690 → ¬ (700 ≤ a ∧ a ≤ 704) → ¬ (a = 682 ∧ x = 0) → ¬ (685 ≤ a ∧ a ≤ 687 ∧ (3900 ≤ x ∨ (100 * (24 + k) ≤ x ∧ x < 100 * (24 + k) + 200))) → ¬ ((a = 688 ∨ a = 689) ∧ (x = 39 ∨ x = 40 ∨ x = 24 + k ∨ x = 25 + k)) → s7 a x = σ a x := by
    intro a x t1 t2 t3 t4 t5 t6 t7 t8
    rw [off7 a x t3, hs6, cpy_out (by omega) (by omega), hs5, cpy_out (by omega) (by omega), hs4]
    have : upS s3 682 0 0 a x = s3 a x := by unfold upS; rw [if_neg t6]
    rw [this, v4 a x t4 t5 (by omega) (by omega)]
    exact hs1 a x t1 t2 (by omega)
  have hB : Dd 348 [vA 682, vI k] (upS s9 726 ((0 : Int).toNat) (σ 472 (k + 1))) (rI (σ 472 (k + 1)) s7) := by
    refine v1 (b348_73 ?_)
    rw [if_neg (show ¬ (1 : Int) = 0 by decide), if_neg (show ¬ (1 : Int) = 0 by decide), show ((39 : Int)).toNat = 39 from rfl, v2.2.1, if_neg (by omega)]
    refine b348_103 ⟨_, _, d245, ?_⟩
    rw [if_pos rfl, if_neg (show ¬ (1 : Int) = 0 by decide), ← hs4, show 24 + (k : Int) = ((24 + k : Nat) : Int) by omega, show ((24 + k : Nat) : Int) + 1 = ((24 + (k + 1) : Nat) : Int) by omega]
    have d1 := d288 (σ := s4) (s := 39) (t := 24 + k) (by omega) (by omega)
    rw [← hs5] at d1
    have d2 := d288 (σ := s5) (s := 40) (t := 24 + (k + 1)) (by omega) (by omega)
    rw [← hs6] at d2
    refine ⟨by omega, s5, d1, by omega, by omega, s6, d2, ?_⟩
    rw [tn, show ((k : Int) + 1).toNat = k + 1 by omega, ← hs7, v711, if_pos rfl]
    have z := h7.2 (k + 1) hk
    rw [Nat.zero_add] at z
    have z : σ 472 (k + 1) = σ 711 (k + 1) := z
    rw [z]
    exact ⟨by omega, by omega, by omega, by omega, by omega, by omega, by omega, rfl⟩
  have z39 : ∀ j, j = 24 + k ∨ j = 24 + (k + 1) → ∀ {n m : Nat} {O T G : Nat → Int}, Slot s6 j n m O T G → Slot s7 j n m O T G := fun j _ {n m O T G} S => Slot_fr (fun c x h => off7 c x (by omega)) S
  have lo8 : ∀ a x, a < 682 → ¬ a = 472 → s7 a x = s8 a x := fun a x h1 h2 => by rw [s7lo a x h1, off9 a x h2]
  refine op_fin hA hB ?_ (fun _ => ?_) (fun a x ha => ?_) (fun a x ha => s7hi a x (by omega) (by omega) (by omega) (by omega) (by omega) (by omega) (by omega) (by omega)) (Rel_S H (WF_fr (fun a x h => s7lo a x h) W9) (RSt_sw hS0 hk (fun a x t0 t1 t2 t3 t4 => ?_) (fun x => by rw [s7lo _ _ (by decide)]; exact v472 x) v711 (PR_sl (by rw [lo8 _ _ (by omega) (by omega)]; exact N1.1) (by rw [lo8 _ _ (by omega) (by omega)]; exact N1.2.1) (by rw [lo8 _ _ (by omega) (by omega)]; exact N1.2.2.1) (z39 _ (Or.inl rfl) B1) (fun i hi => by rw [lo8 _ _ (by omega) (by omega)]; exact r2 i hi) (fun i hi => by rw [lo8 _ _ (by omega) (by omega)]; exact r3 i hi) (fun i hi => by rw [lo8 _ _ (by omega) (by omega)]; exact r4 i hi)) (PO_fr (fun a x ha => lo8 a x (by omega) (by omega)) PO1) (PR_sl (by rw [lo8 _ _ (by omega) (by omega)]; exact N2.1) (by rw [lo8 _ _ (by omega) (by omega)]; exact N2.2.1) (by rw [lo8 _ _ (by omega) (by omega)]; exact N2.2.2.1) (z39 _ (Or.inr rfl) B2) (fun i hi => by rw [lo8 _ _ (by omega) (by omega)]; exact r5 i hi) (fun i hi => by rw [lo8 _ _ (by omega) (by omega)]; exact r6 i hi) (fun i hi => by rw [lo8 _ _ (by omega) (by omega)]; exact r7 i hi)) (PO_fr (fun a x ha => lo8 a x (by omega) (by omega)) PO2) (by rw [lo8 _ _ (by omega) (by omega), N1.1, N.1]) (fun i hi => ?_) ⟨by rw [lo8 _ _ (by omega) (by omega), lo8 _ _ (by omega) (by omega), N2.1, N1.2.1], fun i hi => ?_⟩ (by rw [lo8 _ _ (by omega) (by omega), N2.2.1, N'.2.1]) (fun i hi => ?_)) (fun a x z1 z2 z3 z4 z5 z6 z7 => ?_))
  · rw [off7 _ _ (by decide), o6 _ _ (by decide), hs4, up_s]
  · rw [off7 _ _ (by decide), o6 _ _ (by decide), hs4, up_a (by decide), v4 _ _ (by decide) (by decide) (by decide) (by decide)]
    exact up_s
  · rw [up_a (by omega), off9 a x (by omega)]
    exact r10 a x (by omega) (by omega) (by omega) (by omega)
  · by_cases y : a < 682
    · rw [lo8 a x y (by omega)]
      exact r10 a x (by omega) (by omega) t1 t2
    · exact s7hi a x (by omega) (by omega) (by omega) (by omega) (by omega) (by omega) (by omega) (by omega)
  · rw [N.1] at hi
    rw [lo8 _ _ (by omega) (by omega)]
    exact r2 i (by omega)
  · rw [lo8 _ _ (by omega) (by omega), N2.1] at hi
    show s7 (406 + 13 * (k + 1) + 2) i = s7 (406 + 13 * k + 4) i
    rw [lo8 _ _ (by omega) (by omega), lo8 _ _ (by omega) (by omega), r5 i (by omega), r3 i (by omega)]
  · rw [N'.2.1] at hi
    rw [lo8 _ _ (by omega) (by omega)]
    exact r6 i (by omega)
  · by_cases y : a < 682
    · rw [lo8 a x y (by omega)]
      exact r10 a x (by omega) (by omega) (by omega) (by omega)
    · exact s7hi a x (by omega) (by omega) (by omega) (by omega) (by omega) (by omega) (by omega) (by omega)
end
