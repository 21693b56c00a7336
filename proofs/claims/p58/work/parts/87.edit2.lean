/-! edit, the reference and the call. -/
noncomputable section
/-- only the stack was changed -/
theorem Rel_S {σ s : Sg} {c : Int} (H : Rel c σ) (w : WF s) (hs : RSt (c + 1) s) (h : ∀ a x, KP a x → ¬ (402 ≤ a ∧ a ≤ 472) → ¬ (685 ≤ a ∧ a ≤ 687 ∧ 2400 ≤ x) → ¬ ((a = 688 ∨ a = 689) ∧ 24 ≤ x) → ¬ a = 710 → ¬ a = 711 → ¬ (a = 682 ∧ 39 ≤ x ∧ x ≤ 41) → s a x = σ a x) : Rel (c + 1) s := by
  obtain ⟨h1, h2, h3, h4, h5, h6, h7, h8, h9⟩ := H
  exact ⟨w, Zl_fr (fun k => h _ _ (kp_12 rfl) (by omega) (by omega) (by omega) (by omega) (by omega) (by omega)) h2, RT_fr (fun c k hc => h _ _ (kq_T hc) (by omega) (by omega) (by omega) (by omega) (by omega) (by omega)) h3, RB_fr (fun c k hc => h _ _ (kq_B hc) (by omega) (by omega) (by omega) (by omega) (by omega) (by omega)) h4, RP_fr2 (fun c k hc => h _ _ (kq_P3 hc) (by omega) (by omega) (by omega) (by omega) (by omega) (by omega)) h5, hs, RU_fr (fun c k hc => h _ _ (kq_U hc) (by omega) (by omega) (by omega) (by omega) (by omega) (by omega)) h7, RF_fr (fun c k hc => h _ _ (kq_F hc) (by omega) (by omega) (by omega) (by omega) (by omega) (by omega)) h8, RD_fr (fun c k hc => h _ _ (kq_D hc) (by omega) (by omega) (by omega) (by omega) (by omega) (by omega)) h9⟩
theorem l351 {σ0 : Sg} {k h place : Nat} {l had : Int} {g : Nat → Int} {d1 d2 d4 : Option AV} (h5 : h ≤ 5) (hh : σ0 682 40 = (h : Nat)) (hst : ∀ d, g d = -1 → g (d + 1) = -1) (hgs : ∀ d, k + d + 1 < h → ¬ g d = -1 → g (d + 1) = σ0 687 (100 * (24 + (k + d + 1)) + (g d).toNat)) (hgv : ∀ d, k + d < h → g d = -1 ∨ (0 ≤ g d ∧ g d < 100)) : ∀ (w j : Nat) (σ : Sg), j + w = h → k < j → (∀ a x, ¬ ((a = 685 ∨ a = 686) ∧ 2400 ≤ x ∧ x < 2400 + 100 * h) → σ a x = σ0 a x) → (∀ j' x : Nat, j' < h → x < 100 → σ 685 (100 * (24 + j') + x) = (if j' < j then edB g k l j' x (σ0 685 (100 * (24 + j') + x)) else σ0 685 (100 * (24 + j') + x)) ∧ σ 686 (100 * (24 + j') + x) = (if j' < j then edA g k l j' x (σ0 686 (100 * (24 + j') + x)) else σ0 686 (100 * (24 + j') + x))) → ∃ s, C351_116 d1 d2 l d4 had (g (j - k - 1)) j σ (rI had s) ∧ (∀ a x, ¬ ((a = 685 ∨ a = 686) ∧ 2400 ≤ x ∧ x < 2400 + 100 * h) → s a x = σ0 a x) ∧ ∀ j' x : Nat, j' < h → x < 100 → s 685 (100 * (24 + j') + x) = edB g k l j' x (σ0 685 (100 * (24 + j') + x)) ∧ s 686 (100 * (24 + j') + x) = edA g k l j' x (σ0 686 (100 * (24 + j') + x)) := by
  have stay : ∀ d, g d = -1 → ∀ e, g (d + e) = -1 := by
    intro d hd e
    induction e with
    | zero => exact hd
    | succ e ih =>
      rw [show d + (e + 1) = (d + e) + 1 by omega]
      exact hst _ ih
  intro w
  induction w with
  | zero =>
    intro j σ hj hkj hf hv
    refine ⟨σ, b351_116 ?_, hf, fun j' x hj' hx => ?_⟩
    · rw [hf 682 40 (by omega), hh, if_neg (by omega)]
    · have := hv j' x hj' hx
      rw [if_pos (show j' < j by omega), if_pos (show j' < j by omega)] at this
      exact this
  | succ w ih =>
    intro j σ hj hkj hf hv
    have e40 : σ 682 40 = (h : Nat) := by rw [hf 682 40 (by omega), hh]
    by_cases hn : g (j - k - 1) = -1
    · refine ⟨σ, b351_116 ?_, hf, fun j' x hj' hx => ?_⟩
      · rw [e40, if_pos (by omega), if_pos hn]
      · have z := hv j' x hj' hx
        by_cases y : j' < j
        · rw [if_pos y, if_pos y] at z
          exact z
        · rw [if_neg y, if_neg y] at z
          have s1 := stay _ hn (j' - j)
          have s2 := stay _ hn (j' - j + 1)
          rw [show j - k - 1 + (j' - j) = j' - k - 1 by omega] at s1
          rw [show j - k - 1 + (j' - j + 1) = j' - k by omega] at s2
          rw [z.1, z.2]
          unfold edB edA
          rw [s1, s2, if_neg (fun e => by omega), if_neg (fun e => by omega)]
          exact ⟨rfl, rfl⟩
    · have gv := hgv (j - k - 1) (by omega)
      have es := hgs (j - k - 1) (by omega) hn
      rw [show j - k - 1 + 1 = j - k by omega, show k + (j - k - 1) + 1 = j by omega] at es
      have gv2 := hgv (j - k) (by omega)
      obtain ⟨i, hi⟩ := Int.eq_ofNat_of_zero_le (show 0 ≤ g (j - k - 1) by omega)
      rw [hi, show ((i : Nat) : Int).toNat = i by omega] at es
      have ea : ((100 * (24 + (j : Int))) + ((i : Nat) : Int)).toNat = 100 * (24 + j) + i := by omega
      -- the state after the layer
      obtain ⟨σ2, h2⟩ : ∃ σ2 : Sg, σ2 = if g (j - k) = -1 then upS σ 685 (100 * (24 + j) + i) l else upS (upS σ 685 (100 * (24 + j) + i) l) 686 (100 * (24 + j) + (g (j - k)).toNat) l := ⟨_, rfl⟩
      have v2 : ∀ a x, σ2 a x = if a = 686 ∧ ((x : Nat) : Int) = 100 * (24 + (j : Int)) + g (j - k) ∧ ¬ g (j - k) = -1 then l else if a = 685 ∧ x = 100 * (24 + j) + i then l else σ a x := by
        intro a x
        rw [h2]
        by_cases y : g (j - k) = -1
        · rw [if_pos y, if_neg (fun e => e.2.2 y)]
          rfl
        · rw [if_neg y]
          by_cases y2 : a = 686 ∧ ((x : Nat) : Int) = 100 * (24 + (j : Int)) + g (j - k)
          · rw [if_pos ⟨y2.1, y2.2, y⟩]
            unfold upS
            rw [if_pos ⟨by omega, by omega⟩]
          · rw [if_neg (fun e => y2 ⟨e.1, e.2.1⟩)]
            unfold upS
            rw [if_neg (fun e => y2 ⟨by omega, by omega⟩)]
      obtain ⟨s, a1, a2, a3⟩ := ih (j + 1) σ2 (by omega) (by omega) (fun a x hne => by
        rw [v2, if_neg (fun e => hne (by omega)), if_neg (fun e => hne (by omega))]
        exact hf a x hne) (fun j' x hj' hx => by
        have z := hv j' x hj' hx
        have u2 : σ2 685 (100 * (24 + j') + x) = if j' = j ∧ x = i then l else σ 685 (100 * (24 + j') + x) := by
          rw [v2, if_neg (fun e => by omega)]
          by_cases y : j' = j ∧ x = i
          · rw [if_pos y, if_pos ⟨rfl, by omega⟩]
          · rw [if_neg y, if_neg (fun e => y (by omega))]
        have u4 : σ2 686 (100 * (24 + j') + x) = if j' = j ∧ g (j - k) = (x : Int) then l else σ 686 (100 * (24 + j') + x) := by
          rw [v2]
          by_cases y : j' = j ∧ g (j - k) = (x : Int)
          · rw [if_pos y, if_pos ⟨rfl, by omega, by omega⟩]
          · rw [if_neg y, if_neg (fun e => y (by omega)), if_neg (fun e => by omega)]
        rw [u2, u4]
        by_cases y : j' = j
        · subst y
          rw [if_neg (Nat.lt_irrefl j'), if_neg (Nat.lt_irrefl j')] at z
          rw [if_pos (show j' < j' + 1 by omega), if_pos (show j' < j' + 1 by omega), z.1, z.2]
          unfold edB edA
          rw [hi]
          refine ⟨?_, ?_⟩
          · by_cases y2 : x = i
            · rw [if_pos ⟨rfl, y2⟩, if_pos ⟨hkj, by omega⟩]
            · rw [if_neg (fun e => y2 e.2), if_neg (fun e => y2 (by omega))]
          · by_cases y2 : g (j' - k) = (x : Int)
            · rw [if_pos ⟨rfl, y2⟩, if_pos ⟨by omega, y2⟩]
            · rw [if_neg (fun e => y2 e.2), if_neg (fun e => y2 e.2)]
        · rw [if_neg (show ¬ (j' = j ∧ x = i) from fun e => y e.1), if_neg (show ¬ (j' = j ∧ g (j - k) = (x : Int)) from fun e => y e.1), z.1, z.2]
          by_cases y2 : j' < j
          · rw [if_pos y2, if_pos y2, if_pos (show j' < j + 1 by omega), if_pos (show j' < j + 1 by omega)]
            exact ⟨rfl, rfl⟩
          · rw [if_neg y2, if_neg y2, if_neg (show ¬ j' < j + 1 by omega), if_neg (show ¬ j' < j + 1 by omega)]
            exact ⟨rfl, rfl⟩)
      rw [show j + 1 - k - 1 = j - k by omega] at a1
      refine ⟨s, b351_116 ?_, a2, a3⟩
      have e687 : (upS σ 685 (100 * (24 + j) + i) l) 687 (100 * (24 + j) + i) = g (j - k) := by
        rw [up_a (by decide), hf _ _ (by omega), es]
      have z189 : C351_189 d1 d2 l d4 had (g (j - k)) j σ2 (rI had s) := b351_189 ⟨by omega, by
        rw [show (j : Int) + 1 = ((j + 1 : Nat) : Int) by omega]
        exact a1⟩
      rw [e40, if_pos (by omega), if_neg hn, hi, ea, e687]
      refine ⟨by omega, by omega, by omega, by omega, by omega, by omega, by omega, by omega, ?_⟩
      by_cases y : g (j - k) = -1
      · rw [if_pos y]
        rw [h2, if_pos y] at z189
        exact z189
      · rw [if_neg y, show ((100 * (24 + (j : Int))) + g (j - k)).toNat = 100 * (24 + j) + (g (j - k)).toNat by omega]
        rw [h2, if_neg y] at z189
        exact ⟨by omega, by omega, by omega, by omega, z189⟩
theorem o34 {σ : Sg} {c a1 a2 a3 : Int} (H : Rel c σ) : OpR 423 351 [vA 0, vI a1, vI a2, vI a3, vA 726] [vA 682, vI a1, vI a2, vI a3] σ (c + 1) := by
  by_cases g1 : a1 < 0
  · exact x34_0 H g1
  by_cases g2 : σ 402 3 ≤ a1
  · exact x34_1 H g2
  have k1 : 0 ≤ a1 ∧ a1 < σ 402 3 := by omega
  obtain ⟨n4, n5, n6⟩ := (rel_n H).2.1
  obtain ⟨k, rfl⟩ := Int.eq_ofNat_of_zero_le k1.1
  obtain ⟨h, hh⟩ := Int.eq_ofNat_of_zero_le n5
  have hS := H.2.2.2.2.2.1
  have hL := cpL (p := k) (by omega)
  have hPk := hL.2.2.2.2.2.2.1
  have e231 := d231_ok k1 n6
  rw [show ((k : Int)).toNat = k by omega] at e231
  obtain ⟨r1, r2, r3⟩ := hS.2.2.2.2.2.2.2.2.2.2 k (by omega)
  have b16 := PR_16 r1 r2
  have w3 := H.1 _ (pat_3 hPk)
  have w1 := H.1 _ (pat_1 hPk)
  have e146 := d146 (σ := σ) (pat_3 hPk)
  have m340 : ∀ {s : Sg}, s 682 40 = σ 682 40 → Dd 340 [vA 682, vI k] s (rI 1 s) := fun h => d340_ok (by omega)
  by_cases g3 : 0 ≤ a2 ∧ a2 < σ (406 + 13 * k + 3) 1
  · obtain ⟨place, rfl⟩ := Int.eq_ofNat_of_zero_le g3.1
    have mB : ∀ {s : Sg} {o : Rs}, s 682 40 = σ 682 40 → s 689 (24 + k) = σ 689 (24 + k) → C351_29 k place a3 none none none none 1 s o → Dd 351 [vA 682, vI k, vI place, vI a3] s o := by
      intro s o z1 z2 hh
      refine b351 ⟨_, _, m340 z1, ?_⟩
      rw [if_neg (show ¬ (1 : Int) = 0 by decide)]
      refine ⟨by omega, by omega, _, _, d246, ?_⟩
      rw [show (24 + (k : Int)).toNat = 24 + k by omega, if_pos (show 0 ≤ (place : Int) ∧ (place : Int) < s 689 (24 + k) by omega), if_neg (show ¬ (1 : Int) = 0 by decide)]
      exact hh
    by_cases g4 : isLn a3 = true
    · -- the inverse
      obtain ⟨nb, hnb⟩ := Int.eq_ofNat_of_zero_le w1.1
      obtain ⟨na, hna⟩ := Int.eq_ofNat_of_zero_le w3.1
      have N := NP_of r2 hnb hna
      have mI : ∀ {s : Sg}, (∀ a x, 685 ≤ a → a ≤ 689 → s a x = σ a x) → ∃ s', Dd 350 [vA 682, vI (24 + k : Nat), vI place] s (rI (if σ (406 + 13 * k + 8) place = -1 then 1 else 0) s') ∧ ∀ a x, ¬ a = 690 → s' a x = s a x := by
        intro s hs
        obtain ⟨s', c1, c2, c3⟩ := d293 (s := 24 + k) (nb := nb) (na := na) (F := σ (406 + 13 * k + 6)) (K := σ (406 + 13 * k + 8)) (σ := s) (by omega) (by omega) (by omega) N.2.2.2.2.1 N.2.2.2.2.2.1 (by rw [hs _ _ (by decide) (by decide)]; omega) (by rw [hs _ _ (by decide) (by decide)]; omega) (fun x hx => by
          rw [hs _ _ (by decide) (by decide)]
          exact (r1.2.2.2 x (by omega)).symm)
        refine ⟨s', b350 ⟨_, c1, by omega, ?_⟩, c3⟩
        rw [show ((place : Nat) : Int).toNat = place by omega, c2 place (by omega)]
      have a7 : Dd 147 [vA (406 + 13 * k + 7), vI place] σ (rI (σ (406 + 13 * k + 8) place) σ) := by
        have e := d147 (σ := σ) (i := (place : Int)) (WF_w H.1 (pat_7 hPk))
        rw [at_on (n := na) (f := σ (406 + 13 * k + 8)) N.2.2.2.1 (fun _ _ => rfl) (by omega)] at e
        exact e
      by_cases g5 : σ (406 + 13 * k + 8) place = -1
      · -- the edit
        obtain ⟨g, hg⟩ : ∃ g, g = gp (fun j i => σ (406 + 13 * j + 6) i) k place := ⟨_, rfl⟩
        have hg0 : g 0 = (place : Nat) := by rw [hg]; rfl
        have hgs : ∀ d, g (d + 1) = if g d = -1 then -1 else σ (406 + 13 * (k + d + 1) + 6) (g d).toNat := by
          intro d; rw [hg]; rfl
        have hsz : ∀ j, j + 1 < h → σ (406 + 13 * (j + 1) + 1) 1 = σ (406 + 13 * j + 3) 1 ∧ σ (406 + 13 * (j + 1) + 5) 1 = σ (406 + 13 * (j + 1) + 1) 1 := by
          intro j hj
          obtain ⟨q1, q2, q3⟩ := hS.2.2.2.2.2.2.2.2.2.2 (j + 1) (by omega)
          have := q3.1
          unfold blw at this
          rw [if_neg (by omega), Nat.add_sub_cancel] at this
          exact ⟨this, q2.2.2.1⟩
        have hgv : ∀ d, k + d < h → g d = -1 ∨ (0 ≤ g d ∧ g d < σ (406 + 13 * (k + d) + 3) 1) := by
          intro d
          induction d with
          | zero => intro _; right; rw [hg0]; exact g3
          | succ d ih =>
            intro hd
            rw [hgs]
            by_cases y : g d = -1
            · rw [if_pos y]; exact Or.inl rfl
            · rw [if_neg y]
              rcases ih (by omega) with z | z
              · exact absurd z y
              · obtain ⟨q1, q2, q3⟩ := hS.2.2.2.2.2.2.2.2.2.2 (k + d + 1) (by omega)
                have sz := (hsz (k + d) (by omega)).1
                rcases q2.2.2.2.2.1 (g d).toNat (by omega) with z2 | z2
                · exact Or.inl z2
                · exact Or.inr ⟨z2.1, z2.2.1⟩
        have h16 : ∀ d, k + d < h → g d = -1 ∨ (0 ≤ g d ∧ g d < 100) := by
          intro d hd
          have q2 := (hS.2.2.2.2.2.2.2.2.2.2 (k + d) (by omega)).2.1.2.1
          have := hgv d hd
          omega
        have hpk : ∀ j, j < h → isPatch (406 + 13 * j) = true := fun j hj => (cpL (p := j) (by omega)).2.2.2.2.2.2.1
        -- the class: the layer itself first
        obtain ⟨s, c1, c2, c3⟩ := l131 (σ0 := σ) (k := k) (h := h) (place := place) (l := a3) (g := g) (d2 := some (vI place)) (by omega) hh (fun j hj => ⟨WF_w H.1 (pat_1 (hpk j hj)), WF_w H.1 (pat_3 (hpk j hj)), WF_w H.1 (pat_5 (hpk j hj))⟩) hgs hgv hsz (h - (k + 1)) (k + 1) (upS σ (406 + 13 * k + 4) place a3) (by omega) (by omega) (fun a x hne => up_a (fun e => hne ⟨k, by omega, by omega⟩)) (fun j' x hj' => by
          unfold edB edA
          refine ⟨?_, ?_⟩
          · rw [up_a (by omega)]
            by_cases y : j' < k + 1
            · rw [if_pos y, if_neg (fun e => by omega)]
            · rw [if_neg y]
          · by_cases y : j' = k
            · subst y
              rw [if_pos (Nat.lt_succ_self j'), Nat.sub_self, hg0]
              by_cases y2 : x = place
              · rw [y2, up_s, if_pos ⟨Nat.le_refl _, rfl⟩]
              · rw [up_k y2, if_neg (fun e => by omega)]
            · rw [up_a (by omega)]
              by_cases y3 : j' < k + 1
              · rw [if_pos y3, if_neg (fun e => by omega)]
              · rw [if_neg y3])
        rw [show k + 1 - k - 1 = 0 by omega, hg0] at c1
        have d131 : Dd 131 [vA 402, vI k, vI place, vI a3] σ (rV s) := by
          refine b131 ?_
          rw [show (if 0 < (k : Int) then (k : Int) else 0) = (k : Int) by split <;> omega]
          have hqE : qE 405 ((k : Nat) : Int).toNat (406 + 13 * k) = true := by
            rw [show ((k : Nat) : Int).toNat = k by omega]
            exact hL.2.2.2.2.2.2.2
          have e148 := d148 (σ := σ) (a := 406 + 13 * k + 3) (i := (place : Int)) (v := a3) (WF_w H.1 (pat_3 hPk))
          rw [st_in (n := na) hna (by omega)] at e148
          refine b131_10 ?_
          rw [if_pos k1.2, if_pos (by omega), if_neg (by omega), if_neg (Int.lt_irrefl _)]
          refine b131_74 ⟨by omega, _, hqE, hPk, _, e148, by omega, ?_⟩
          rw [show (k : Int) + 1 = ((k + 1 : Nat) : Int) by omega]
          exact c1
        have a3' : Dd 147 [vA (406 + 13 * k + 3), vI place] σ (rI (σ (406 + 13 * k + 4) place) σ) := by
          have e := d147 (σ := σ) (i := (place : Int)) (WF_w H.1 (pat_3 hPk))
          rw [at_on (n := na) (f := σ (406 + 13 * k + 4)) hna (fun _ _ => rfl) (by omega)] at e
          exact e
        have hA := b423 (Or.inl ⟨_, _, b206 (Or.inl ⟨_, _, e231, hPk, _, _, e146, Or.inl ⟨_, d232_ok g3, Or.inl ⟨_, d235_t g4, _, _, a7, by
          rw [if_pos g5]
          exact ⟨_, _, a3', _, d131, rfl⟩⟩⟩⟩), rfl⟩)
        -- the reference
        have nex : ∀ a, 472 < a → ¬ (∃ j', j' < h ∧ (a = 406 + 13 * j' + 2 ∨ a = 406 + 13 * j' + 4)) := by
          rintro a ha ⟨j', y1, y2⟩
          omega
        have s0 : ∀ a x, 682 ≤ a → upS s 726 ((0 : Int).toNat) (σ (406 + 13 * k + 4) place) a x = if a = 726 ∧ x = 0 then σ (406 + 13 * k + 4) place else σ a x := by
          intro a x ha
          unfold upS
          by_cases y : a = 726 ∧ x = (0 : Int).toNat
          · rw [if_pos y, if_pos ⟨y.1, y.2⟩]
          · rw [if_neg y, if_neg (fun e => y ⟨e.1, e.2⟩)]
            exact c2 a x (nex a (by omega))
        obtain ⟨s1, hs1⟩ : ∃ s1, s1 = upS s 726 ((0 : Int).toNat) (σ (406 + 13 * k + 4) place) := ⟨_, rfl⟩
        rw [← hs1] at hA s0
        have s1m : ∀ a x, 682 ≤ a → ¬ a = 726 → s1 a x = σ a x := fun a x y1 y2 => by rw [s0 a x y1, if_neg (fun e => y2 e.1)]
        have s1c : ∀ a x, a < 682 → s1 a x = s a x := fun a x y => by rw [hs1, up_a (by omega)]
        obtain ⟨t1, x1, x2⟩ := mI (s := s1) (fun a x y1 y2 => s1m a x (by omega) (by omega))
        have t1m : ∀ a x, 682 ≤ a → ¬ a = 726 → ¬ a = 690 → upS t1 682 0 0 a x = if a = 682 ∧ x = 0 then 0 else σ a x := by
          intro a x y1 y2 y3
          unfold upS
          by_cases y : a = 682 ∧ x = 0
          · rw [if_pos y, if_pos y]
          · rw [if_neg y, if_neg y, x2 a x y3]
            exact s1m a x y1 y2
        have m687 : ∀ j i : Nat, j < h → (i : Int) < σ (406 + 13 * j + 1) 1 → σ 687 (100 * (24 + j) + i) = σ (406 + 13 * j + 6) i := by
          intro j i hj hi
          obtain ⟨q1, q2, q3⟩ := hS.2.2.2.2.2.2.2.2.2.2 j (by omega)
          have b := PR_16 q1 q2
          exact (q1.2.2.2 i (by omega)).symm
        obtain ⟨u, hu⟩ : ∃ u, u = upS t1 682 0 0 := ⟨_, rfl⟩
        rw [← hu] at t1m
        have u40 : u 682 40 = (h : Nat) := by rw [t1m _ _ (by decide) (by decide) (by decide), if_neg (by omega)]; omega
        have hadv : u 686 (100 * (24 + k) + place) = σ (406 + 13 * k + 4) place := by
          rw [t1m _ _ (by decide) (by decide) (by decide), if_neg (by omega)]
          exact (r1.2.1.2 place (by omega)).symm
        obtain ⟨s2, y1, y2, y3⟩ := l351 (σ0 := u) (k := k) (h := h) (place := place) (l := a3) (had := σ (406 + 13 * k + 4) place) (g := g) (d1 := some (vI k)) (d2 := some (vI place)) (d4 := some (vI 1)) (by omega) u40 (fun d hd => by rw [hgs, if_pos hd]) (fun d hd hne => by
          rw [hgs, if_neg hne, t1m _ _ (by decide) (by decide) (by decide), if_neg (by omega)]
          rcases hgv d (by omega) with z | z
          · exact absurd z hne
          · exact (m687 (k + d + 1) _ (by omega) (by rw [(hsz (k + d) (by omega)).1]; omega)).symm) h16 (h - (k + 1)) (k + 1) (upS u 686 (100 * (24 + k) + place) a3) (by omega) (by omega) (fun a x hne => by
          unfold upS
          rw [if_neg (by omega)]) (fun j' x hj' hx => by
          unfold edB edA
          refine ⟨?_, ?_⟩
          · rw [up_a (by decide)]
            by_cases y : j' < k + 1
            · rw [if_pos y, if_neg (fun e => by omega)]
            · rw [if_neg y]
          · by_cases y : j' = k
            · subst y
              rw [if_pos (Nat.lt_succ_self j'), Nat.sub_self, hg0]
              by_cases y2 : x = place
              · rw [y2, up_s, if_pos ⟨Nat.le_refl _, rfl⟩]
              · rw [up_k (by omega), if_neg (fun e => by omega)]
            · rw [up_k (by omega)]
              by_cases y3 : j' < k + 1
              · rw [if_pos y3, if_neg (fun e => by omega)]
              · rw [if_neg y3])
        rw [show k + 1 - k - 1 = 0 by omega, hg0] at y1
        have hB : Dd 351 [vA 682, vI k, vI place, vI a3] s1 (rI (σ (406 + 13 * k + 4) place) s2) := by
          refine mB (s1m _ _ (by decide) (by decide)) (s1m _ _ (by decide) (by decide)) (b351_29 ?_)
          rw [if_neg (show ¬ (1 : Int) = 0 by decide)]
          refine ⟨_, _, d250, ?_⟩
          rw [if_pos g4, if_neg (show ¬ (1 : Int) = 0 by decide), show 24 + (k : Int) = ((24 + k : Nat) : Int) by omega]
          refine ⟨by omega, _, _, x1, ?_⟩
          rw [if_pos g5, if_neg (show ¬ (1 : Int) = 0 by decide)]
          refine b351_69 ⟨_, _, d245, ?_⟩
          rw [if_pos rfl, if_neg (show ¬ (1 : Int) = 0 by decide), ← hu, show ((100 * (24 + (k : Int))) + (place : Int)).toNat = 100 * (24 + k) + place by omega, hadv, show (k : Int) + 1 = ((k + 1 : Nat) : Int) by omega]
          exact ⟨by omega, by omega, by omega, by omega, by omega, by omega, by omega, by omega, by omega, y1⟩
        have s2c : ∀ a x, a < 682 → s2 a x = s a x := fun a x y => by
          rw [y2 a x (by omega), hu, up_a (by omega), x2 a x (by omega)]
          exact s1c a x y
        have s2m : ∀ a x, 682 ≤ a → ¬ a = 726 → ¬ a = 690 → ¬ (a = 682 ∧ x = 0) → ¬ ((a = 685 ∨ a = 686) ∧ 2400 ≤ x ∧ x < 2400 + 100 * h) → s2 a x = σ a x := fun a x z1 z2 z3 z4 z5 => by rw [y2 a x z5, t1m a x z1 z2 z3, if_neg z4]
        have W2 : WF s2 := WF_e (fun a ha => by
          rw [s2c a 1 (row_lt ha)]
          refine c2 a 1 ?_
          rintro ⟨j', z1, z2⟩
          rcases z2 with z2 | z2
          · exact row_nx (pat_1 (hpk j' z1)) ha z2
          · exact row_nx (pat_3 (hpk j' z1)) ha z2) H.1
        have nl : ∀ a, ¬ (402 ≤ a ∧ a ≤ 472) → ¬ (∃ j', j' < h ∧ (a = 406 + 13 * j' + 2 ∨ a = 406 + 13 * j' + 4)) := by
          rintro a ha ⟨j', z1, z2⟩
          omega
        refine op_fin hA hB ?_ (fun _ => ?_) (fun a x ha => ?_) (fun a x ha => ?_) (Rel_S H W2 (RSt_ed hS hh (by omega) hg0 hgs hgv g5 g4 (fun a x ha => ?_) (fun j x hj => by rw [s2c _ _ (by omega)]; exact (c3 j x hj).1) (fun j x hj => by rw [s2c _ _ (by omega)]; exact (c3 j x hj).2) (fun j x hj hx => ?_) (fun j x hj hx => ?_)) (fun a x z1 z2 z3 z4 z5 z6 z7 => ?_))
        · rw [y2 _ _ (by omega), hu, up_s]
        · rw [y2 _ _ (by omega), hu, up_a (by decide), x2 _ _ (by decide), s0 _ _ (by decide), if_pos ⟨rfl, rfl⟩]
        · rw [s0 a x (by omega), if_neg (by omega)]
        · exact s2m a x (by omega) (by omega) (by omega) (by omega) (by omega)
        · by_cases z : a < 682
          · rw [s2c a x z]
            refine c2 a x ?_
            rintro ⟨j', z1, z2⟩
            rcases ha with ha | ha | ha | ha | ha | ha | ha | ha | ha | ⟨j, ha1, ha2⟩ <;> omega
          · refine s2m a x (by omega) ?_ ?_ ?_ ?_ <;> (rcases ha with ha | ha | ha | ha | ha | ha | ha | ha | ha | ⟨j, ha1, ha2⟩ <;> omega)
        · rw [(y3 j x hj hx).1, t1m _ _ (by decide) (by decide) (by decide), if_neg (by omega)]
        · rw [(y3 j x hj hx).2, t1m _ _ (by decide) (by decide) (by decide), if_neg (by omega)]
        · by_cases z : a < 682
          · rw [s2c a x z]
            exact c2 a x (nl a z2)
          · exact s2m a x (by omega) (by omega) (by omega) (by omega) (by omega)
      · -- the line is paired
        have hA := b423 (x1 := (k : Int)) (x2 := (place : Int)) (x3 := a3) (Or.inr (Or.inr (Or.inr ⟨_, b206 (Or.inl ⟨_, _, e231, hPk, _, _, e146, Or.inl ⟨_, d232_ok g3, Or.inl ⟨_, d235_t g4, _, _, a7, by
          rw [if_neg g5]⟩⟩⟩), rfl⟩)))
        obtain ⟨t1, x1, x2⟩ := mI (s := σ) (fun _ _ _ _ => rfl)
        have hoff : ∀ a x, ¬ a = 690 → ¬ (a = 682 ∧ x = 0) → upS t1 682 0 3 a x = σ a x := fun a x z1 z2 => by
          unfold upS
          rw [if_neg z2]
          exact x2 a x z1
        refine op_fin hA (b := 0) (s2 := upS t1 682 0 3) (mB rfl rfl (b351_29 ?_)) up_s (fun e => absurd e (by decide)) (fun a x ha => rfl) (fun a x ha => hoff a x (by omega) (by omega)) (Rel_sc (by omega) (WF_fr (fun a x ha => hoff a x (by omega) (by omega)) H.1) (fun a x hk => hoff a x (by omega) (by omega)) H)
        rw [if_neg (show ¬ (1 : Int) = 0 by decide)]
        refine ⟨_, _, d250, ?_⟩
        rw [if_pos g4, if_neg (show ¬ (1 : Int) = 0 by decide), show 24 + (k : Int) = ((24 + k : Nat) : Int) by omega]
        refine ⟨by omega, _, _, x1, ?_⟩
        rw [if_neg g5, if_pos rfl]
        refine b351_69 ⟨_, _, d245, ?_⟩
        rw [if_neg (show ¬ (3 : Int) = 0 by decide), if_pos rfl]
    · -- it is no line
      refine op_x H (kx := 2) (b := 0) (by decide) (b423 (Or.inr (Or.inr (Or.inl ⟨_, b206 (Or.inl ⟨_, _, e231, hPk, _, _, e146, Or.inl ⟨_, d232_ok g3, Or.inr ⟨_, _, d235_f g4, rfl⟩⟩⟩), rfl⟩)))) (mB rfl rfl (b351_29 ?_))
      rw [if_neg (show ¬ (1 : Int) = 0 by decide)]
      refine ⟨_, _, d250, ?_⟩
      rw [if_neg g4, if_pos rfl]
      refine b351_69 ⟨_, _, d245, ?_⟩
      rw [if_neg (show ¬ (2 : Int) = 0 by decide), if_pos rfl]
  · -- no such place
    have e232 : Dd 232 [vA 0, vI a2, vI (σ (406 + 13 * k + 3) 1)] σ (rX 0 σ) := by
      refine b232 ?_
      by_cases y : 0 ≤ a2
      · rw [if_pos y, if_pos (by omega)]; exact b232_9 rfl
      · rw [if_neg y]; exact b232_9 rfl
    refine op_x H (kx := 1) (b := 0) (by decide) (b423 (Or.inr (Or.inl ⟨_, b206 (Or.inl ⟨_, _, e231, hPk, _, _, e146, Or.inr ⟨_, _, e232, rfl⟩⟩), rfl⟩))) (b351 ⟨_, _, m340 rfl, ?_⟩)
    rw [if_neg (show ¬ (1 : Int) = 0 by decide)]
    refine ⟨by omega, by omega, _, _, d246, ?_⟩
    rw [show (24 + (k : Int)).toNat = 24 + k by omega, if_neg (show ¬ (0 ≤ a2 ∧ a2 < σ 689 (24 + k)) by omega), if_pos rfl]
    refine b351_28 (b351_29 ?_)
    rw [if_pos rfl]
    refine b351_69 ⟨_, _, d245, ?_⟩
    rw [if_neg (show ¬ (1 : Int) = 0 by decide), if_pos rfl]
end
