/-! blame, began. -/
noncomputable section
theorem RSt_FK {σ s : Sg} {c : Int} (fr : FK s σ) (H : RSt c σ) : RSt c s := by
  obtain ⟨h1, h2, h3, h4, h5, h6, h7, h8, h9, h10, h11⟩ := H
  have e0 := fr 402 3 (by omega)
  have e1 := fr 402 4 (by omega)
  have e2 := fr 682 39 (by omega)
  have e3 := fr 682 40 (by omega)
  have e4 := fr 682 41 (by omega)
  refine ⟨by omega, by omega, by omega, by omega, by omega, by omega, rowEq_fr (fr 471 1 (by omega)) (fun x => fr 472 x (by omega)) (fun x => fr 711 x (by omega)) e0 h7, fun q hq => ?_, rowEq_fr (fr 403 1 (by omega)) (fun x => fr 404 x (by omega)) (fun x => fr 710 x (by omega)) e2 h9, fun i hi => ?_, fun j hj => ?_⟩
  · rw [e0] at hq
    rw [fr 472 q (by omega), e1]
    exact h8 q hq
  · rw [fr 403 1 (by omega)] at hi
    rw [fr 404 i (by omega)]
    exact h10 i hi
  · rw [e0] at hj
    obtain ⟨g1, g2, g3⟩ := h11 j hj
    have hbl : ∀ a x, a = blw j ∨ a = blw j + 1 → s a x = σ a x := by
      intro a x ha
      unfold blw at ha
      by_cases y : j = 0
      · rw [if_pos y] at ha
        exact fr a x (by omega)
      · rw [if_neg y] at ha
        exact fr a x (by omega)
    exact ⟨PR_fr (fun a x ha => fr a x (by omega)) (fun a x ha => fr a x (by omega)) g1, PO_fr (fun a x ha => fr a x (by omega)) g2, smP_fr (funext fun x => fr _ x (by omega)) (funext fun x => fr _ x (by omega)) (funext fun x => hbl _ x (Or.inl rfl)) (funext fun x => hbl _ x (Or.inr rfl)) g3⟩
theorem Rel_FK {σ s : Sg} {c : Int} (w : WF s) (fr : FK s σ) (H : Rel c σ) : Rel c s := by
  obtain ⟨h1, h2, h3, h4, h5, h6, h7, h8, h9⟩ := H
  exact ⟨w, Zl_fr (fun k => fr _ _ (by omega)) h2, RT_fr (fun x k hx => fr x k (by omega)) h3, RB_fr (fun x k hx => fr x k (by omega)) h4, RP_fr (fun x k hx => fr x k (by omega)) h5, RSt_FK fr h6, RU_fr (fun x k hx => fr x k (by omega)) h7, RF_fr (fun x k hx => fr x k (by omega)) h8, RD_fr (fun x k hx => fr x k (by omega)) h9⟩
/-- the way down, both sides -/
theorem both_org {σ : Sg} {c a1 : Int} (H : Rel c σ) (hp : 0 ≤ a1 ∧ a1 < σ (blw (σ 402 3).toNat) 1) : ∃ (L : Int) (q : Nat) (s1 : Sg), q ≤ 99 ∧ -1 ≤ L ∧ L < σ 402 3 ∧ Dd 132 [vA 402, vI a1] σ (rI (100 * (L + 1) + (q : Nat)) s1) ∧ WF s1 ∧ FK s1 σ ∧ ∀ s : Sg, Zl s → FM s σ → ∃ s', Dd 364 [vA 682, vI a1] s (rV s') ∧ Zl s' ∧ s' 682 43 = L ∧ s' 682 44 = (q : Nat) ∧ ∀ c x, ¬ c = 690 → ¬ c = 695 → ¬ (700 ≤ c ∧ c ≤ 704) → ¬ (c = 682 ∧ (x = 43 ∨ x = 44)) → s' c x = s c x := by
  obtain ⟨p, rfl⟩ := Int.eq_ofNat_of_zero_le hp.1
  have hS : RSt c σ := H.2.2.2.2.2.1
  obtain ⟨h, hh⟩ := Int.eq_ofNat_of_zero_le hS.1
  have h5 : h ≤ 5 := by have := hS.2.1; omega
  have hp2 := hp.2
  rw [hh, tn] at hp2
  have hp3 : 0 < h → p < lna σ (h - 1) := fun h0 => by
    unfold blw at hp2
    rw [if_neg (by omega)] at hp2
    unfold lna
    omega
  have hp9 : p ≤ 99 := by
    by_cases y : 0 < h
    · have := hp3 y
      have := (ly_at H (k := h - 1) (by omega)).2.2.2.1
      omega
    · unfold blw at hp2
      rw [if_pos (by omega)] at hp2
      have w := H.1 403 (by decide +kernel)
      have c403 : cap 403 = 16 := by decide +kernel
      rw [c403] at w
      omega
  obtain ⟨s1, a1, a2, a3, a4, a5, a6⟩ := l132 H h p σ (some (vI p)) none (by omega) hp3 hp9 H.1 (fun _ _ _ => rfl)
  refine ⟨(orgZ σ h p).1, (orgZ σ h p).2, s1, a4, a5, by omega, b132 ?_, a2, a3, fun s Z fm => ?_⟩
  · rw [if_neg (by omega), hh]
    exact ⟨by omega, a1⟩
  · have e40 : s 682 40 = (h : Nat) := by rw [fm _ _ (by decide) (by decide) (by decide) (by decide) (by decide) (by decide), hS.2.2.1, hh]
    obtain ⟨s2, hs2⟩ : ∃ s2, s2 = upS (upS s 682 43 (s 682 40 - 1)) 682 44 (p : Nat) := ⟨_, rfl⟩
    have off2 : ∀ c x, ¬ (c = 682 ∧ (x = 43 ∨ x = 44)) → s2 c x = s c x := fun c x h => by
      rw [hs2]
      unfold upS
      rw [if_neg (by omega), if_neg (by omega)]
    have w43 : s2 682 43 = (h : Int) - 1 := by rw [hs2, up_k (by decide), up_s, e40]
    have w44 : s2 682 44 = (p : Nat) := by rw [hs2, up_s]
    obtain ⟨s', c1, c2, c3, c4, c5⟩ := l364 H (d1 := some (vI (p : Nat))) h p s2 (by omega) hp3 hp9 (Zl_fr (fun x => off2 _ _ (by omega)) Z) (fun c x h1 h2 h3 h4 h5 h6 => by rw [off2 c x (by omega)]; exact fm c x h1 h2 h3 h4 h5 h6) w43 w44
    refine ⟨s', b364 ⟨by omega, ?_⟩, c2, c3, c4, fun c x h1 h2 h3 h4 => by rw [c5 c x h1 h2 h3 h4]; exact off2 c x h4⟩
    rw [← hs2]
    by_cases y0 : 0 ≤ s2 682 43
    · rw [if_pos y0] at c1 ⊢
      obtain ⟨v4, s3, t1, t2⟩ := c1
      exact ⟨by omega, v4, s3, t1, b364_38 t2⟩
    · rw [if_neg y0] at c1 ⊢
      exact b364_38 c1
theorem o41f {σ : Sg} {c a1 : Int} (H : Rel c σ) (h : ¬ (0 ≤ a1 ∧ a1 < σ (blw (σ 402 3).toNat) 1)) : OpR 429 366 [vA 0, vI a1, vA 726] [vA 682, vI a1] σ (c + 1) ∧ OpR 430 367 [vA 0, vI a1, vA 726] [vA 682, vI a1] σ (c + 1) := by
  have e127 := d127 H
  have e146 := d146 (σ := σ) (blw_row H)
  have e365 : Dd 365 [vA 682, vI a1] σ (rI 0 (upS σ 682 0 1)) := by
    refine b365 ⟨_, _, d341 H, _, _, d246, ?_⟩
    rw [if_neg h, if_pos rfl]
    refine b365_17 ⟨_, _, d245, ?_, ?_⟩
    · rw [if_neg (show ¬ (1 : Int) = 0 by decide)]
      exact Or.inl rfl
    · rw [if_neg (show ¬ (1 : Int) = 0 by decide)]
  refine ⟨op_x H (kx := 1) (b := 0) (by decide) (b429 (Or.inr ⟨_, b213 ⟨_, _, e127, blw_row H, _, _, e146, Or.inr ⟨_, _, d232_no h, rfl⟩⟩, rfl⟩)) (b366 ⟨_, _, e365, ?_⟩), op_x H (kx := 1) (b := 0) (by decide) (b430 (Or.inr ⟨_, b214 ⟨_, _, e127, blw_row H, _, _, e146, Or.inr ⟨_, _, d232_no h, rfl⟩⟩, rfl⟩)) (b367 ⟨_, _, e365, ?_⟩)⟩
  · rw [if_pos rfl]
  · rw [if_pos rfl]
/-- the relation after the way down -/
theorem org_fin {w m : Nat} {aw am : List AV} {σ s1 s2 s' : Sg} {c v : Int} (H : Rel c σ) (W : WF s1) (fr : FK s1 σ) (hA : Dd w aw σ (rI 0 (upS s1 726 ((0 : Int).toNat) v))) (hs2 : s2 = upS (upS s1 726 ((0 : Int).toNat) v) 682 0 0) (hB : Dd m am (upS s1 726 ((0 : Int).toNat) v) (rI v s')) (Z : Zl s') (f' : ∀ c x, ¬ c = 690 → ¬ c = 695 → ¬ (700 ≤ c ∧ c ≤ 704) → ¬ (c = 682 ∧ (x = 43 ∨ x = 44)) → s' c x = s2 c x) : OpR w m aw am σ (c + 1) := by
  obtain ⟨s4, hs4⟩ : ∃ s4 : Sg, s4 = fun c k => if c = 695 then σ c k else s' c k := ⟨_, rfl⟩
  have z1 : ∀ c k, ¬ c = 695 → s4 c k = s' c k := fun c k h => by rw [hs4]; show (if c = 695 then σ c k else s' c k) = _; rw [if_neg h]
  have z2 : ∀ k, s4 695 k = σ 695 k := fun k => by rw [hs4]; show (if 695 = 695 then σ 695 k else s' 695 k) = _; rw [if_pos rfl]
  obtain ⟨s5, hs5⟩ : ∃ s5 : Sg, s5 = fun c k => if 406 ≤ c ∧ c ≤ 470 ∧ ((c - 406) % 13 = 11 ∨ (c - 406) % 13 = 12) then σ c k else s4 c k := ⟨_, rfl⟩
  have z3 : ∀ c k, ¬ (406 ≤ c ∧ c ≤ 470 ∧ ((c - 406) % 13 = 11 ∨ (c - 406) % 13 = 12)) → s5 c k = s4 c k := fun c k h => by rw [hs5]; show (if 406 ≤ c ∧ c ≤ 470 ∧ ((c - 406) % 13 = 11 ∨ (c - 406) % 13 = 12) then σ c k else s4 c k) = _; rw [if_neg h]
  have z4 : ∀ c k, (406 ≤ c ∧ c ≤ 470 ∧ ((c - 406) % 13 = 11 ∨ (c - 406) % 13 = 12)) → s5 c k = σ c k := fun c k h => by rw [hs5]; show (if 406 ≤ c ∧ c ≤ 470 ∧ ((c - 406) % 13 = 11 ∨ (c - 406) % 13 = 12) then σ c k else s4 c k) = _; rw [if_pos h]
  have lo : ∀ x k, x < 682 → s' x k = s1 x k := fun x k h => by rw [f' x k (by omega) (by omega) (by omega) (by omega), hs2, up_a (by omega), up_a (by omega)]
  have off : ∀ x k, ¬ x = 690 → ¬ x = 695 → ¬ (700 ≤ x ∧ x ≤ 704) → ¬ x = 726 → ¬ (x = 682 ∧ (k = 0 ∨ k = 43 ∨ k = 44)) → ¬ (406 ≤ x ∧ x ≤ 470 ∧ ((x - 406) % 13 = 11 ∨ (x - 406) % 13 = 12)) → s' x k = σ x k := fun x k h1 h2 h3 h4 h5 h6 => by
    rw [f' x k h1 h2 h3 (by omega), hs2]
    have : upS (upS s1 726 ((0 : Int).toNat) v) 682 0 0 x k = upS s1 726 ((0 : Int).toNat) v x k := by
      unfold upS
      rw [if_neg (by omega)]
    rw [this, up_a h4]
    exact fr x k h6
  have W4 : WF s4 := WF_fr (fun x k h => by rw [z1 x k (by omega)]; exact lo x k h) W
  have W5 : WF s5 := fun x hx => by
    by_cases y : 406 ≤ x ∧ x ≤ 470 ∧ ((x - 406) % 13 = 11 ∨ (x - 406) % 13 = 12)
    · rw [z4 x 1 y]
      exact H.1 x hx
    · rw [z3 x 1 y]
      exact W4 x hx
  refine op_fin hA hB ?_ (fun _ => ?_) (fun x k h => ?_) (fun x k h => off x k (by omega) (by omega) (by omega) (by omega) (by omega) (by omega)) (Rel_L (σ := s4) (Int.le_refl _) (fun x k h => (z1 x k (by omega)).symm) Z (Rel_FK (σ := s5) W4 (fun x k h => (z3 x k h).symm) (Rel_sc (by omega) W5 (fun x k h => ?_) H)))
  · rw [f' _ _ (by decide) (by decide) (by decide) (by decide), hs2, up_s]
  · rw [f' _ _ (by decide) (by decide) (by decide) (by decide), hs2, up_a (by decide)]
    exact up_s
  · rw [up_a (by omega)]
    exact fr x k (by omega)
  · by_cases y : 406 ≤ x ∧ x ≤ 470 ∧ ((x - 406) % 13 = 11 ∨ (x - 406) % 13 = 12)
    · exact z4 x k y
    · rw [z3 x k y]
      by_cases y2 : x = 695
      · rw [y2]; exact z2 k
      · rw [z1 x k y2]
        exact off x k (by omega) y2 (by omega) (by omega) (by omega) y
end
