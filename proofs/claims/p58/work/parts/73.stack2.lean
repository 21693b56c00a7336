/-! push, pop. -/
noncomputable section
theorem l344_0 {x1 : Nat} (h44 : x1 < 44) {σ : Sg} {i : Int} : C344_21 x1 0 i σ (rI 0 σ) := by
  refine b344_21 ⟨by omega, ?_⟩
  by_cases z : i < σ 688 ((x1 : Int)).toNat
  · rw [if_pos z, if_pos rfl]
    exact ⟨Or.inl rfl, rfl⟩
  · rw [if_neg z]
    exact ⟨Or.inl rfl, rfl⟩
theorem l344 {x1 n : Nat} (h44 : x1 < 44) {σ : Sg} {g : Nat → Int} (hn : σ 688 x1 = (n : Nat)) (h100 : n ≤ 100) (hg : ∀ k, k < n → Dd 342 [vA 682, vI k] σ (rI (g k) σ)) : ∀ (w i : Nat), i + w = n → ((∀ k, i ≤ k → k < n → σ 685 (100 * x1 + k) = g k) → C344_21 x1 1 i σ (rI 1 σ)) ∧ (¬ (∀ k, i ≤ k → k < n → σ 685 (100 * x1 + k) = g k) → C344_21 x1 1 i σ (rI 0 σ)) := by
  intro w
  induction w with
  | zero =>
    intro i q
    have e : C344_21 x1 1 i σ (rI 1 σ) := by
      refine b344_21 ⟨by omega, ?_⟩
      rw [show ((x1 : Int)).toNat = x1 by omega, if_neg (by omega)]
      exact ⟨Or.inr rfl, rfl⟩
    exact ⟨fun _ => e, fun h => absurd (fun k h1 h2 => by omega) h⟩
  | succ w ih =>
    intro i q
    obtain ⟨ih1, ih2⟩ := ih (i + 1) (by omega)
    have hd := hg i (by omega)
    have go : ∀ {o : Rs}, (C344_59 x1 (some (vI 1)) i (if σ 685 (100 * x1 + i) = g i then 1 else 0) σ o) → C344_21 x1 1 i σ o := by
      intro o hh
      refine b344_21 ⟨by omega, ?_⟩
      rw [show ((x1 : Int)).toNat = x1 by omega, if_pos (by omega), if_neg (show ¬ (1 : Int) = 0 by decide), show (100 * (x1 : Int) + (i : Int)).toNat = 100 * x1 + i by omega]
      exact ⟨by omega, by omega, by omega, _, _, hd, hh⟩
    constructor
    · intro h
      refine go ?_
      rw [if_pos (h i (by omega) (by omega))]
      refine b344_59 ⟨by omega, ?_⟩
      rw [show (i : Int) + 1 = ((i + 1 : Nat) : Int) by omega]
      exact ih1 (fun k h1 h2 => h k (by omega) h2)
    · intro h
      refine go ?_
      by_cases z : σ 685 (100 * x1 + i) = g i
      · rw [if_pos z]
        refine b344_59 ⟨by omega, ?_⟩
        rw [show (i : Int) + 1 = ((i + 1 : Nat) : Int) by omega]
        refine ih2 (fun hh => h (fun k h1 h2 => ?_))
        by_cases y : k = i
        · rw [y]; exact z
        · exact hh k (by omega) h2
      · rw [if_neg z]
        exact b344_59 ⟨by omega, l344_0 h44⟩
/-- the model's questions for the stack's text, wherever the class stands -/
theorem d341m {σ σ' : Sg} {c : Int} (H : Rel c σ) (f : ∀ a k, 682 ≤ a → ¬ a = 726 → σ' a k = σ a k) : Dd 341 [vA 682] σ' (rI (σ (blw (σ 402 3).toNat) 1) σ') := by
  have hn := (rel_n H).2.1
  have e40 := f 682 40 (by decide) (by decide)
  refine b341 ⟨fun _ => by omega, fun _ => by omega, fun _ => by omega, ?_⟩
  rcases rel_top H with ⟨h, e⟩ | ⟨h, e⟩
  · rw [if_pos (show σ' 682 40 = 0 by omega), f 682 39 (by decide) (by decide), e.1]
  · rw [if_neg (show ¬ σ' 682 40 = 0 by omega), e.1, show ((24 + σ' 682 40) - 1).toNat = 23 + (σ 402 3).toNat by omega, f 689 _ (by decide) (by decide)]
theorem d342m {σ σ' : Sg} {c : Int} (H : Rel c σ) (f : ∀ a k, 682 ≤ a → ¬ a = 726 → σ' a k = σ a k) {i : Nat} (hi : (i : Int) < σ (blw (σ 402 3).toNat) 1) : Dd 342 [vA 682, vI i] σ' (rI (σ (blw (σ 402 3).toNat + 1) i) σ') := by
  have hn := (rel_n H).2.1
  have h16 := rel_top16 H
  have e40 := f 682 40 (by decide) (by decide)
  refine b342 ⟨fun _ => by omega, fun _ => by omega, fun _ => by omega, fun _ => by omega, fun _ => by omega, fun _ => by omega, ?_⟩
  rcases rel_top H with ⟨h, e⟩ | ⟨h, e⟩
  · have e1 := e.1
    rw [if_pos (show σ' 682 40 = 0 by omega), e.2 i (by omega), Nat.zero_add, f 710 _ (by decide) (by decide), show ((i : Int)).toNat = i by omega]
  · have e1 := e.1
    rw [if_neg (show ¬ σ' 682 40 = 0 by omega), e.2 i (by omega), show ((100 * ((24 + σ' 682 40) - 1)) + (i : Int)).toNat = 100 * (23 + (σ 402 3).toNat) + i by omega, f 686 _ (by decide) (by decide)]
theorem d344 {σ σ' : Sg} {c : Int} {t : Nat} (H : Rel c σ) (f : ∀ a k, 682 ≤ a → ¬ a = 726 → σ' a k = σ a k) (ht : (t : Int) < σ 0 3) : (smP σ (20 + 13 * t + 1) (blw (σ 402 3).toNat) → Dd 344 [vA 682, vI t] σ' (rI 1 σ')) ∧ (¬ smP σ (20 + 13 * t + 1) (blw (σ 402 3).toNat) → Dd 344 [vA 682, vI t] σ' (rI 0 σ')) := by
  obtain ⟨p1, p2, p3, p4, p5, p6⟩ := rel_p H (p := (t : Int)) (by omega)
  rw [show ((t : Int)).toNat = t by omega] at p1 p2 p3 p4 p5 p6
  have hn := (rel_n H).1
  have pr := (H.2.2.2.2.1.2.2.2 t ht).1.1
  obtain ⟨n, hnn⟩ := Int.eq_ofNat_of_zero_le p3
  have hT := d341m H f
  have e688 := f 688 t (by decide) (by decide)
  by_cases z : σ 688 t = σ (blw (σ 402 3).toNat) 1
  · have L := l344 (x1 := t) (n := n) (σ := σ') (g := fun k => σ (blw (σ 402 3).toNat + 1) k) (by omega) (by omega) (by omega) (fun k hk => d342m H f (by omega)) n 0 (by omega)
    have iff : smP σ (20 + 13 * t + 1) (blw (σ 402 3).toNat) ↔ ∀ k, 0 ≤ k → k < n → σ' 685 (100 * t + k) = σ (blw (σ 402 3).toNat + 1) k := by
      constructor
      · rintro ⟨-, h⟩ k - hk
        rw [f 685 _ (by decide) (by decide), ← pr.2 k (by omega)]
        exact h k (by omega)
      · intro h
        refine ⟨by omega, fun k hk => ?_⟩
        rw [pr.2 k (by omega), ← f 685 _ (by decide) (by decide)]
        exact h k (by omega) (by omega)
    refine ⟨fun h => b344 ⟨by omega, _, _, hT, ?_⟩, fun h => b344 ⟨by omega, _, _, hT, ?_⟩⟩
    · rw [show ((t : Int)).toNat = t by omega, if_pos (by omega)]
      exact b344_18 (L.1 (iff.mp h))
    · rw [show ((t : Int)).toNat = t by omega, if_pos (by omega)]
      exact b344_18 (L.2 (fun h2 => h (iff.mpr h2)))
  · refine ⟨fun h => absurd (by have := h.1; omega) z, fun h => b344 ⟨by omega, _, _, hT, ?_⟩⟩
    rw [show ((t : Int)).toNat = t by omega, if_neg (by omega)]
    exact b344_18 (l344_0 (by omega))
theorem r471 : isRow 471 = true ∧ cap 471 = 5 := by decide +kernel
/-- Pile.layOn -/
theorem d128 {σ : Sg} {c : Int} {t h nm : Nat} (H : Rel c σ) (ht : (t : Int) < σ 0 3) (hh : σ 402 3 = (h : Nat)) (h5 : h < 5) (hm : σ 402 4 = (nm : Nat)) (hb : (nm : Int) < 2000000000) : Dd 128 [vA 402, vA (20 + 13 * t)] σ (rI nm (upS (upS (adS (pbS σ (406 + 13 * h) (20 + 13 * t)) 471 nm) 402 3 ((h : Int) + 1)) 402 4 ((nm : Int) + 1))) := by
  have hn := (rel_n H).1
  have hL := cpL h5
  have hP := cpP (p := t) (by omega)
  have w : wR (pbS σ (406 + 13 * h) (20 + 13 * t)) 471 := ⟨r471.1, by rw [pb_off (by omega)]; exact (H.1 _ r471.1).1, by rw [pb_off (by omega)]; exact (H.1 _ r471.1).2⟩
  refine b128 ?_
  rw [if_pos (by omega), hh, show ((h : Nat) : Int).toNat = h by omega]
  refine ⟨by omega, _, hL.2.2.2.2.2.2.2, hL.2.2.2.2.2.2.1, _, d96 hL.2.2.2.2.2.2.1 hP.2.2.2.2.2.2.1 (by omega) (WF_pw H.1), _, d149 w, ?_⟩
  have e1 : adS (pbS σ (406 + 13 * h) (20 + 13 * t)) 471 (pbS σ (406 + 13 * h) (20 + 13 * t) 402 4) 402 3 = (h : Nat) := by rw [ad_off (by decide) (by decide), pb_off (by omega)]; exact hh
  have e2 : pbS σ (406 + 13 * h) (20 + 13 * t) 402 4 = (nm : Nat) := by rw [pb_off (by omega)]; exact hm
  rw [e1, e2, up_k (show ¬ 4 = 3 by decide), ad_off (show ¬ 402 = 471 by decide) (by decide), e2]
  refine ⟨by omega, by omega, b128_56 ?_⟩
  rw [up_s, show ((nm : Nat) : Int) + 1 - 1 = (nm : Int) by omega]
  exact ⟨by omega, rfl⟩
theorem o29 {σ : Sg} {c a1 : Int} (H : Rel c σ) (hc9 : c < 1000000) : OpR 418 345 [vA 0, vI a1, vA 726] [vA 682, vI a1] σ (c + 1) := by
  by_cases g1 : a1 < 0
  · exact x29_0 H g1
  by_cases g2 : σ 0 3 ≤ a1
  · exact x29_1 H g2
  have k1 : 0 ≤ a1 ∧ a1 < σ 0 3 := by omega
  obtain ⟨⟨n1, n2, n3⟩, ⟨n4, n5, n6⟩, -⟩ := rel_n H
  obtain ⟨t, ht⟩ := Int.eq_ofNat_of_zero_le k1.1
  have hP := cpP (p := t) (by omega)
  have e230 := d230_ok k1 n3
  rw [show a1.toNat = t by omega] at e230
  have m0 : ∀ {o : Rs}, (if σ 682 40 = 5 then C345_31 a1 (some (vI 1)) σ o else (∃ (v5 : Int) (s4 : Sg), Dd 344 [vA 682, vI a1] σ (.inl (some (.inl v5)), s4) ∧ (if v5 = 0 then C345_31 a1 (some (vI 1)) s4 o else C345_36 a1 (some (vI 1)) 0 s4 o))) → Dd 345 [vA 682, vI a1] σ o := by
    intro o hh
    refine b345 ⟨_, _, d248_ok (by omega), ?_⟩
    rw [if_neg (show ¬ (1 : Int) = 0 by decide)]
    exact hh
  have bad : C345_31 a1 (some (vI 1)) σ (rI 0 (upS σ 682 0 2)) := by
    refine b345_31 (b345_36 ⟨_, _, d245, ?_⟩)
    rw [if_neg (show ¬ (2 : Int) = 0 by decide), if_pos rfl]
  by_cases g3 : 5 ≤ σ 402 3
  · have hA : Dd 201 [vA 0, vI a1] σ (rX 2 σ) := b201 (Or.inl ⟨_, _, e230, hP.2.2.2.2.2.2.1, by rw [if_pos g3]⟩)
    have hB : Dd 345 [vA 682, vI a1] σ (rI 0 (upS σ 682 0 2)) := m0 (by rw [if_pos (by omega)]; exact bad)
    exact op_x H (by decide) (b418 (Or.inr (Or.inr ⟨_, hA, rfl⟩))) hB
  have hbr := blw_row H
  have w1 := WF_w H.1 (pat_1 hP.2.2.2.2.2.2.1)
  have w2 := WF_w H.1 hbr
  obtain ⟨q344a, q344b⟩ := d344 H (fun _ _ _ _ => rfl) (t := t) (by omega)
  rw [← ht] at q344a q344b
  by_cases g4n : ¬ smP σ (20 + 13 * t + 1) (blw (σ 402 3).toNat)
  · have g4 := g4n
    have hA : Dd 201 [vA 0, vI a1] σ (rX 2 σ) := by
      refine b201 (Or.inl ⟨_, _, e230, hP.2.2.2.2.2.2.1, ?_⟩)
      rw [if_neg g3]
      refine ⟨_, _, d127 H, hbr, _, _, d156_f w1 w2 g4, ?_⟩
      rw [if_pos rfl]
    have hB : Dd 345 [vA 682, vI a1] σ (rI 0 (upS σ 682 0 2)) := m0 (by
      rw [if_neg (by omega)]
      refine ⟨_, _, q344b g4, ?_⟩
      rw [if_pos rfl]
      exact bad)
    exact op_x H (by decide) (b418 (Or.inr (Or.inr ⟨_, hA, rfl⟩))) hB
  have g4 : smP σ (20 + 13 * t + 1) (blw (σ 402 3).toNat) := Classical.byContradiction g4n
  obtain ⟨h, hh⟩ := Int.eq_ofNat_of_zero_le n5
  have hst := H.2.2.2.2.2.1
  obtain ⟨u1, u2, u3, u4, u5, u6, u7, u8, u9, u10, u11⟩ := hst
  obtain ⟨nm, hnm⟩ := Int.eq_ofNat_of_zero_le u4
  have hL := cpL (p := h) (by omega)
  have hA : Dd 201 [vA 0, vI a1] σ (rI nm (upS (upS (adS (pbS σ (406 + 13 * h) (20 + 13 * t)) 471 nm) 402 3 ((h : Int) + 1)) 402 4 ((nm : Int) + 1))) := by
    refine b201 (Or.inl ⟨_, _, e230, hP.2.2.2.2.2.2.1, ?_⟩)
    rw [if_neg g3]
    refine ⟨_, _, d127 H, hbr, _, _, d156_t w1 w2 g4, ?_⟩
    rw [if_neg (show ¬ (1 : Int) = 0 by decide)]
    exact ⟨_, _, d128 H (by omega) hh (by omega) hnm (by omega), rfl⟩
  have hW := b418 (Or.inl ⟨_, _, hA, rfl⟩)
  rw [show ((0 : Int).toNat) = 0 from rfl] at hW
  rw [show (σ 402 3).toNat = h by omega] at g4 hbr
  have hrow : ∀ j, j = 1 ∨ j = 3 ∨ j = 5 ∨ j = 7 ∨ j = 9 → isRow (20 + 13 * t + j) = true ∧ cap (20 + 13 * t + j) = cap (406 + 13 * h + j) := by
    intro j hj
    have q := hP.2.2.2.2.2.2.1
    rcases hj with hj | hj | hj | hj | hj <;> subst hj
    · exact ⟨pat_1 q, by omega⟩
    · exact ⟨pat_3 q, by omega⟩
    · exact ⟨pat_5 q, by omega⟩
    · exact ⟨pat_7 q, by omega⟩
    · exact ⟨pat_9 q, by omega⟩
  have w471 := H.1 _ r471.1
  have e471 : σ 471 1 = (h : Nat) := by have := u7.1; omega
  have c1 : ∀ c k, ¬ (406 + 13 * h + 1 ≤ c ∧ c ≤ 406 + 13 * h + 10) → ¬ (c = 402 ∧ (k = 3 ∨ k = 4)) → ¬ c = 471 → ¬ c = 472 → ¬ c = 726 → (upS (upS (upS (adS (pbS σ (406 + 13 * h) (20 + 13 * t)) 471 nm) 402 3 ((h : Int) + 1)) 402 4 ((nm : Int) + 1)) 726 0 (nm : Nat)) c k = σ c k := by
    intro c k h1 h2 h3 h4 h5
    rw [up_a h5]
    have : upS (upS (adS (pbS σ (406 + 13 * h) (20 + 13 * t)) 471 nm) 402 3 ((h : Int) + 1)) 402 4 ((nm : Int) + 1) c k = adS (pbS σ (406 + 13 * h) (20 + 13 * t)) 471 nm c k := by
      unfold upS
      rw [if_neg (by omega), if_neg (by omega)]
    rw [this, ad_off h3 h4, pb_off h1]
  have c2 : (upS (upS (upS (adS (pbS σ (406 + 13 * h) (20 + 13 * t)) 471 nm) 402 3 ((h : Int) + 1)) 402 4 ((nm : Int) + 1)) 726 0 (nm : Nat)) 402 3 = (h : Int) + 1 ∧ (upS (upS (upS (adS (pbS σ (406 + 13 * h) (20 + 13 * t)) 471 nm) 402 3 ((h : Int) + 1)) 402 4 ((nm : Int) + 1)) 726 0 (nm : Nat)) 402 4 = (nm : Int) + 1 := by
    refine ⟨by rw [up_a (by decide), up_k (by decide), up_s], by rw [up_a (by decide), up_s]⟩
  have c3 : (upS (upS (upS (adS (pbS σ (406 + 13 * h) (20 + 13 * t)) 471 nm) 402 3 ((h : Int) + 1)) 402 4 ((nm : Int) + 1)) 726 0 (nm : Nat)) 726 0 = (nm : Nat) := up_s
  have ad1 : adS (pbS σ (406 + 13 * h) (20 + 13 * t)) 471 nm = upS (upS (pbS σ (406 + 13 * h) (20 + 13 * t)) 472 h nm) 471 1 ((h : Int) + 1) := by
    have q : pbS σ (406 + 13 * h) (20 + 13 * t) 471 1 = (h : Nat) := by rw [pb_off (by omega)]; exact e471
    unfold adS
    rw [q, if_pos (by rw [r471.2]; omega), show ((h : Nat) : Int).toNat = h by omega]
  have c6 : (upS (upS (upS (adS (pbS σ (406 + 13 * h) (20 + 13 * t)) 471 nm) 402 3 ((h : Int) + 1)) 402 4 ((nm : Int) + 1)) 726 0 (nm : Nat)) 471 1 = (h : Int) + 1 ∧ (upS (upS (upS (adS (pbS σ (406 + 13 * h) (20 + 13 * t)) 471 nm) 402 3 ((h : Int) + 1)) 402 4 ((nm : Int) + 1)) 726 0 (nm : Nat)) 472 h = (nm : Nat) ∧ ∀ k, ¬ k = h → (upS (upS (upS (adS (pbS σ (406 + 13 * h) (20 + 13 * t)) 471 nm) 402 3 ((h : Int) + 1)) 402 4 ((nm : Int) + 1)) 726 0 (nm : Nat)) 472 k = σ 472 k := by
    rw [ad1]
    refine ⟨by rw [up_a (by decide), up_a (by decide), up_a (by decide), up_s], by rw [up_a (by decide), up_a (by decide), up_a (by decide), up_a (by decide), up_s], fun k hk => by rw [up_a (by decide), up_a (by decide), up_a (by decide), up_a (by decide), up_k hk, pb_off (by omega)]⟩
  have c4 : ∀ j, j = 1 ∨ j = 3 ∨ j = 5 ∨ j = 7 ∨ j = 9 → (upS (upS (upS (adS (pbS σ (406 + 13 * h) (20 + 13 * t)) 471 nm) 402 3 ((h : Int) + 1)) 402 4 ((nm : Int) + 1)) 726 0 (nm : Nat)) (406 + 13 * h + j) 1 = σ (20 + 13 * t + j) 1 ∧ ∀ k : Nat, (k : Int) < σ (20 + 13 * t + j) 1 → (upS (upS (upS (adS (pbS σ (406 + 13 * h) (20 + 13 * t)) 471 nm) 402 3 ((h : Int) + 1)) 402 4 ((nm : Int) + 1)) 726 0 (nm : Nat)) (406 + 13 * h + j + 1) k = σ (20 + 13 * t + j + 1) k := by
    intro j hj
    obtain ⟨q1, q2⟩ := hrow j hj
    have w := H.1 _ q1
    obtain ⟨z1, z2⟩ := pb_row (σ := σ) (P := 406 + 13 * h) (Q := 20 + 13 * t) (by omega) hj (by omega)
    refine ⟨by rw [up_a (by omega), up_a (by omega), up_a (by omega), ad_off (by omega) (by omega)]; exact z1, fun k hk => by rw [up_a (by omega), up_a (by omega), up_a (by omega), ad_off (by omega) (by omega)]; exact z2 k hk⟩
  have c5 : WF (upS (upS (upS (adS (pbS σ (406 + 13 * h) (20 + 13 * t)) 471 nm) 402 3 ((h : Int) + 1)) 402 4 ((nm : Int) + 1)) 726 0 (nm : Nat)) := by
    refine WF_up (Or.inr (by decide)) (WF_up (Or.inr (by decide)) (WF_up (Or.inr (by decide)) (WF_row (σ := pbS σ (406 + 13 * h) (20 + 13 * t)) (r := 471) (fun a ha hne => ad_off hne (row_nx r471.1 ha)) ?_ (WF_pb hL.2.2.2.2.2.2.1 hP.2.2.2.2.2.2.1 H.1))))
    rw [ad1, up_s, r471.2]
    omega
  generalize (upS (upS (upS (adS (pbS σ (406 + 13 * h) (20 + 13 * t)) 471 nm) 402 3 ((h : Int) + 1)) 402 4 ((nm : Int) + 1)) 726 0 (nm : Nat)) = s1 at hW c1 c2 c3 c4 c5 c6
  have fm : ∀ a k, 682 ≤ a → ¬ a = 726 → s1 a k = σ a k := fun a k h1 h2 => c1 a k (by omega) (by omega) (by omega) (by omega) h2
  obtain ⟨m344, -⟩ := d344 H fm (t := t) (by omega)
  rw [show (σ 402 3).toNat = h by omega] at m344
  have m344 := m344 g4
  have f40 : s1 682 40 = (h : Nat) := by rw [fm _ _ (by decide) (by decide)]; omega
  have f41 : s1 682 41 = (nm : Nat) := by rw [fm _ _ (by decide) (by decide)]; omega
  have e288 := d288 (σ := upS s1 682 0 0) (s := t) (t := 24 + h) (by omega) (by omega)
  have g40 : cpyS (upS s1 682 0 0) t (24 + h) 682 40 = (h : Nat) := by rw [cpy_off (by decide), up_k (by decide)]; exact f40
  have g41 : cpyS (upS s1 682 0 0) t (24 + h) 682 41 = (nm : Nat) := by rw [cpy_off (by decide), up_k (by decide)]; exact f41
  have hB : Dd 345 [vA 682, vI a1] s1 (rI nm (upS (upS (upS (cpyS (upS s1 682 0 0) t (24 + h)) 711 h (nm : Nat)) 682 40 ((h : Int) + 1)) 682 41 ((nm : Int) + 1))) := by
    refine b345 ⟨_, _, d248_ok (by rw [fm _ _ (by decide) (by decide)]; omega), ?_⟩
    rw [if_neg (show ¬ (1 : Int) = 0 by decide), if_neg (by omega)]
    rw [← ht] at m344
    refine ⟨_, _, m344, ?_⟩
    rw [if_neg (show ¬ (1 : Int) = 0 by decide)]
    refine b345_36 ⟨_, _, d245, ?_⟩
    rw [if_pos rfl, if_neg (show ¬ (1 : Int) = 0 by decide), up_k (show ¬ 40 = 0 by decide), f40, ht, show 24 + ((h : Nat) : Int) = ((24 + h : Nat) : Int) by omega]
    refine ⟨by omega, _, e288, ?_⟩
    rw [g40, g41, show ((h : Nat) : Int).toNat = h by omega, up_a (show ¬ 682 = 711 by decide), g40, up_k (show ¬ 41 = 40 by decide), up_a (show ¬ 682 = 711 by decide), g41, up_s, show ((nm : Nat) : Int) + 1 - 1 = (nm : Int) by omega]
    exact ⟨by omega, by omega, by omega, by omega, rfl⟩
  have mo : ∀ c k, ¬ (685 ≤ c ∧ c ≤ 689) → ¬ (c = 682 ∧ (k = 0 ∨ k = 40 ∨ k = 41)) → ¬ (c = 711 ∧ k = h) → (upS (upS (upS (cpyS (upS s1 682 0 0) t (24 + h)) 711 h (nm : Nat)) 682 40 ((h : Int) + 1)) 682 41 ((nm : Int) + 1)) c k = s1 c k := by
    intro c k h1 h2 h3
    have : (upS (upS (upS (cpyS (upS s1 682 0 0) t (24 + h)) 711 h (nm : Nat)) 682 40 ((h : Int) + 1)) 682 41 ((nm : Int) + 1)) c k = cpyS (upS s1 682 0 0) t (24 + h) c k := by
      unfold upS
      rw [if_neg (by omega), if_neg (by omega), if_neg (by omega)]
    rw [this, cpy_off h1]
    unfold upS
    rw [if_neg (by omega)]
  have z0 : (upS (upS (upS (cpyS (upS s1 682 0 0) t (24 + h)) 711 h (nm : Nat)) 682 40 ((h : Int) + 1)) 682 41 ((nm : Int) + 1)) 682 0 = 0 := by rw [up_k (by decide), up_k (by decide), up_a (by decide), cpy_off (by decide), up_s]
  have z40 : (upS (upS (upS (cpyS (upS s1 682 0 0) t (24 + h)) 711 h (nm : Nat)) 682 40 ((h : Int) + 1)) 682 41 ((nm : Int) + 1)) 682 40 = (h : Int) + 1 := by rw [up_k (by decide), up_s]
  have z41 : (upS (upS (upS (cpyS (upS s1 682 0 0) t (24 + h)) 711 h (nm : Nat)) 682 40 ((h : Int) + 1)) 682 41 ((nm : Int) + 1)) 682 41 = (nm : Int) + 1 := up_s
  have z711 : (upS (upS (upS (cpyS (upS s1 682 0 0) t (24 + h)) 711 h (nm : Nat)) 682 40 ((h : Int) + 1)) 682 41 ((nm : Int) + 1)) 711 h = (nm : Nat) := by rw [up_a (by decide), up_a (by decide), up_s]
  have z4 : ∀ u c k, ¬ u = 24 + h → k < 100 → 685 ≤ c ∧ c ≤ 687 → (upS (upS (upS (cpyS (upS s1 682 0 0) t (24 + h)) 711 h (nm : Nat)) 682 40 ((h : Int) + 1)) 682 41 ((nm : Int) + 1)) c (100 * u + k) = s1 c (100 * u + k) := by
    intro u c k h1 h2 h3
    rw [up_a (by omega), up_a (by omega), up_a (by omega), cpy_other h1 h2 h3, up_a (by omega)]
  have z5 : ∀ c k, k < 100 → 685 ≤ c ∧ c ≤ 687 → (upS (upS (upS (cpyS (upS s1 682 0 0) t (24 + h)) 711 h (nm : Nat)) 682 40 ((h : Int) + 1)) 682 41 ((nm : Int) + 1)) c (100 * (24 + h) + k) = s1 c (100 * t + k) := by
    intro c k h2 h3
    rw [up_a (by omega), up_a (by omega), up_a (by omega), cpy_val h2 h3, up_a (by omega)]
  have z6 : ∀ u, ¬ u = 24 + h → (upS (upS (upS (cpyS (upS s1 682 0 0) t (24 + h)) 711 h (nm : Nat)) 682 40 ((h : Int) + 1)) 682 41 ((nm : Int) + 1)) 688 u = s1 688 u ∧ (upS (upS (upS (cpyS (upS s1 682 0 0) t (24 + h)) 711 h (nm : Nat)) 682 40 ((h : Int) + 1)) 682 41 ((nm : Int) + 1)) 689 u = s1 689 u := by
    intro u h1
    refine ⟨by rw [up_a (by decide), up_a (by decide), up_a (by decide), cpy_n1, if_neg h1, up_a (by decide)], by rw [up_a (by decide), up_a (by decide), up_a (by decide), cpy_n2, if_neg h1, up_a (by decide)]⟩
  have z7 : (upS (upS (upS (cpyS (upS s1 682 0 0) t (24 + h)) 711 h (nm : Nat)) 682 40 ((h : Int) + 1)) 682 41 ((nm : Int) + 1)) 688 (24 + h) = s1 688 t ∧ (upS (upS (upS (cpyS (upS s1 682 0 0) t (24 + h)) 711 h (nm : Nat)) 682 40 ((h : Int) + 1)) 682 41 ((nm : Int) + 1)) 689 (24 + h) = s1 689 t := by
    refine ⟨by rw [up_a (by decide), up_a (by decide), up_a (by decide), cpy_n1, if_pos rfl, up_a (by decide)], by rw [up_a (by decide), up_a (by decide), up_a (by decide), cpy_n2, if_pos rfl, up_a (by decide)]⟩
  generalize (upS (upS (upS (cpyS (upS s1 682 0 0) t (24 + h)) 711 h (nm : Nat)) 682 40 ((h : Int) + 1)) 682 41 ((nm : Int) + 1)) = s2 at hB mo z0 z40 z41 z711 z4 z5 z6 z7
  have so : ∀ c k, ¬ (685 ≤ c ∧ c ≤ 689) → ¬ (c = 682 ∧ (k = 0 ∨ k = 40 ∨ k = 41)) → ¬ (c = 711 ∧ k = h) → ¬ (406 + 13 * h + 1 ≤ c ∧ c ≤ 406 + 13 * h + 10) → ¬ (c = 402 ∧ (k = 3 ∨ k = 4)) → ¬ c = 471 → ¬ c = 472 → ¬ c = 726 → s2 c k = σ c k := fun c k h1 h2 h3 h4 h5 h6 h7 h8 => by rw [mo c k h1 h2 h3, c1 c k h4 h5 h6 h7 h8]
  have so2 : ∀ c k, 685 ≤ c ∧ c ≤ 687 → ¬ (100 * (24 + h) ≤ k ∧ k < 100 * (24 + h) + 100) → s2 c k = σ c k := by
    intro c k h1 h2
    have e := z4 (k / 100) c (k % 100) (by omega) (by omega) h1
    rw [show 100 * (k / 100) + k % 100 = k by omega] at e
    rw [e, fm c k (by omega) (by omega)]
  have so3 : ∀ u, ¬ u = 24 + h → s2 688 u = σ 688 u ∧ s2 689 u = σ 689 u := by
    intro u h1
    rw [(z6 u h1).1, (z6 u h1).2, fm 688 u (by omega) (by omega), fm 689 u (by omega) (by omega)]
    exact ⟨rfl, rfl⟩
  obtain ⟨h1, h2, h3, h4, h5, -, h7, h8, h9⟩ := H
  obtain ⟨r1, r2⟩ := h5.2.2.2 t (by omega)
  have b16 := PR_16 r1 r2
  have cc : ∀ j, j = 1 ∨ j = 3 ∨ j = 5 ∨ j = 7 ∨ j = 9 → s2 (406 + 13 * h + j) 1 = σ (20 + 13 * t + j) 1 ∧ ∀ k : Nat, (k : Int) < σ (20 + 13 * t + j) 1 → s2 (406 + 13 * h + j + 1) k = σ (20 + 13 * t + j + 1) k := by
    intro j hj
    obtain ⟨q1, q2⟩ := c4 j hj
    exact ⟨by rw [mo _ _ (by omega) (by omega) (by omega)]; exact q1, fun k hk => by rw [mo _ _ (by omega) (by omega) (by omega)]; exact q2 k hk⟩
  have k3 : s2 402 3 = (h : Int) + 1 := by rw [mo _ _ (by decide) (by decide) (by omega)]; exact c2.1
  have k4 : s2 402 4 = (nm : Int) + 1 := by rw [mo _ _ (by decide) (by decide) (by omega)]; exact c2.2
  have k39 : s2 682 39 = σ 682 39 := so _ _ (by decide) (by decide) (by omega) (by omega) (by decide) (by decide) (by decide) (by decide)
  refine op_fin hW hB z0 (fun _ => by rw [mo _ _ (by decide) (by decide) (by omega), c3]) (fun a k ha => c1 _ _ (by omega) (by omega) (by omega) (by omega) (by omega)) (fun a k ha => so _ _ (by omega) (by omega) (by omega) (by omega) (by omega) (by omega) (by omega) (by omega)) ⟨WF_fr (fun a k ha => mo _ _ (by omega) (by omega) (by omega)) c5, Zl_fr (fun k => so _ _ (by omega) (by omega) (by omega) (by omega) (by omega) (by omega) (by omega) (by omega)) h2, RT_fr (fun c k hc => so _ _ (by omega) (by omega) (by omega) (by omega) (by omega) (by omega) (by omega) (by omega)) h3, RB_fr (fun c k hc => so _ _ (by omega) (by omega) (by omega) (by omega) (by omega) (by omega) (by omega) (by omega)) h4, RP_fr2 (fun c k hc => ?_) h5, ?_, RU_fr (fun c k hc => so _ _ (by omega) (by omega) (by omega) (by omega) (by omega) (by omega) (by omega) (by omega)) h7, RF_fr (fun c k hc => so _ _ (by omega) (by omega) (by omega) (by omega) (by omega) (by omega) (by omega) (by omega)) h8, RD_fr (fun c k hc => so _ _ (by omega) (by omega) (by omega) (by omega) (by omega) (by omega) (by omega) (by omega)) h9⟩
  · rcases hc with q | q | ⟨q1 | q1, q2⟩ | q | q
    · exact so _ _ (by omega) (by omega) (by omega) (by omega) (by omega) (by omega) (by omega) (by omega)
    · exact so2 c k (by omega) (by omega)
    · rw [q1]; exact (so3 k (by omega)).1
    · rw [q1]; exact (so3 k (by omega)).2
    · exact so _ _ (by omega) (by omega) (by omega) (by omega) (by omega) (by omega) (by omega) (by omega)
    · exact so _ _ (by omega) (by omega) (by omega) (by omega) (by omega) (by omega) (by omega) (by omega)
  · have hblw : ∀ k, k ≤ h → blw k = 403 ∨ (409 ≤ blw k ∧ blw k + 13 ≤ 406 + 13 * h + 3) := by
      intro k hk
      unfold blw
      split
      · exact Or.inl rfl
      · right; omega
    refine ⟨by omega, by omega, by omega, by omega, by omega, by omega, ⟨?_, fun i hi => ?_⟩, fun k hk => ?_, ⟨?_, fun i hi => ?_⟩, fun i hi => ?_, fun k hk => ?_⟩
    · rw [k3, mo _ _ (by decide) (by decide) (by omega)]; exact c6.1
    · rw [k3] at hi
      rw [mo 472 _ (by omega) (by omega) (by omega)]
      by_cases e : i = h
      · rw [e, c6.2.1, Nat.zero_add, z711]
      · rw [c6.2.2 i e, so 711 _ (by omega) (by omega) (by omega) (by omega) (by omega) (by omega) (by omega) (by omega)]
        exact u7.2 i (by omega)
    · rw [k3] at hk
      rw [k4, mo 472 _ (by omega) (by omega) (by omega)]
      by_cases e : k = h
      · rw [e, c6.2.1]; omega
      · rw [c6.2.2 k e]
        have := u8 k (by omega)
        omega
    · rw [k39, so _ _ (by decide) (by decide) (by omega) (by omega) (by decide) (by decide) (by decide) (by decide)]; exact u9.1
    · rw [k39] at hi
      rw [so (403 + 1) _ (by omega) (by omega) (by omega) (by omega) (by omega) (by omega) (by omega) (by omega), so 710 _ (by omega) (by omega) (by omega) (by omega) (by omega) (by omega) (by omega) (by omega)]
      exact u9.2 i hi
    · rw [so _ _ (by decide) (by decide) (by omega) (by omega) (by decide) (by decide) (by decide) (by decide)] at hi
      rw [so _ _ (by omega) (by omega) (by omega) (by omega) (by omega) (by omega) (by omega) (by omega)]
      exact u10 i hi
    · rw [k3] at hk
      have hbk := hblw k (by omega)
      by_cases e : k = h
      · subst e
        refine ⟨PR_cg cc (fun c k q1 q2 => ?_) ?_ (by omega) r1, PO_cg cc r2 ?_, ?_⟩
        · rw [z5 c k q2 q1, fm _ _ (by omega) (by omega)]
        · rw [z7.1, z7.2, fm _ _ (by omega) (by omega), fm _ _ (by omega) (by omega)]
          exact ⟨rfl, rfl⟩
        · have q := hP.2.2.2.2.2.2.1
          exact ⟨(h1 _ (pat_1 q)).1, (h1 _ (pat_3 q)).1⟩
        · obtain ⟨q1, q2⟩ := cc 1 (by omega)
          have b1 : s2 (blw k) 1 = σ (blw k) 1 := so _ _ (by omega) (by omega) (by omega) (by omega) (by omega) (by omega) (by omega) (by omega)
          refine ⟨by rw [q1, b1]; exact g4.1, fun i hi => ?_⟩
          rw [q1] at hi
          rw [q2 i hi, so (blw k + 1) _ (by omega) (by omega) (by omega) (by omega) (by omega) (by omega) (by omega) (by omega)]
          exact g4.2 i hi
      · obtain ⟨v1, v2, v3⟩ := u11 k (by omega)
        have bb := PR_16 v1 v2
        refine ⟨PR_fr2 (fun c j hc => so _ _ (by omega) (by omega) (by omega) (by omega) (by omega) (by omega) (by omega) (by omega)) (fun c j hc hj => so2 c _ hc (by omega)) ⟨(so3 _ (by omega)).1, (so3 _ (by omega)).2⟩ (by omega) v1, PO_fr (fun c j hc => so _ _ (by omega) (by omega) (by omega) (by omega) (by omega) (by omega) (by omega) (by omega)) v2, smP_fr (funext fun j => so _ _ (by omega) (by omega) (by omega) (by omega) (by omega) (by omega) (by omega) (by omega)) (funext fun j => so _ _ (by omega) (by omega) (by omega) (by omega) (by omega) (by omega) (by omega) (by omega)) (funext fun j => so _ _ (by omega) (by omega) (by omega) (by omega) (by omega) (by omega) (by omega) (by omega)) (funext fun j => so _ _ (by omega) (by omega) (by omega) (by omega) (by omega) (by omega) (by omega) (by omega)) v3⟩
end
