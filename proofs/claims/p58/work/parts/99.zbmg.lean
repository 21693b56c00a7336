/-! Two patches merged: the class's groups. -/
noncomputable section
theorem d79 {P Q nb na nc a b lo a' b' hi : Nat} {FA FB X NA NB : Nat → Int} {A B : List St} {σ : Sg} {L : List Int} (hP : isPatch P = true) (hQ : isPatch Q = true) (hPl : P + 12 < 399) (hQl : Q + 12 < 399) (M : mgD FA FB X NA NB nb na nc A B) (C : mgC σ P Q nb na nc X NA NB A B) (h1 : σ 399 1 = (lo : Nat)) (h2 : σ 399 2 = (hi : Nat)) (h3 : σ 399 3 = (a : Nat)) (h4 : σ 399 4 = (a' : Nat)) (h5 : σ 399 5 = (b : Nat)) (h6 : σ 399 6 = (b' : Nat)) (ha : a ≤ a' ∧ a' ≤ A.length) (hb : b ≤ b' ∧ b' ≤ B.length) (hlo : lo ≤ hi ∧ hi ≤ nb) (pA : peo A a 0 ≤ lo ∧ lo ≤ gnd nb A a ∧ peo A a' 0 ≤ hi ∧ hi ≤ gnd nb A a') (pB : peo B b 0 ≤ lo ∧ lo ≤ gnd nb B b ∧ peo B b' 0 ≤ hi ∧ hi ≤ gnd nb B b') (R : Rw σ 400 L) (hl : L.length + (gpF NA NB A B a b a' b' lo hi).1.length ≤ 96) : ∃ s, Dd 79 [vA 399, vA P, vA Q] σ (rI ((gpF NA NB A B a b a' b' lo hi).2 : Nat) s) ∧ Rw s 400 (L ++ (gpF NA NB A B a b a' b' lo hi).1) ∧ ∀ c k, ¬ c = 400 → ¬ c = 401 → s c k = σ c k := by
  have hM := M
  obtain ⟨m1, m2, m3, m4, m5, DA, DB, EA, EB⟩ := hM
  have hC := C
  obtain ⟨w, CA, CB, VX, VA, VB⟩ := hC
  obtain ⟨q1, q2, -⟩ := rw400
  have SA := sd_ok DA EA ha.1 ha.2 pA.1 pA.2.1 hlo.1 pA.2.2.1 pA.2.2.2
  have SB := sd_ok DB EB hb.1 hb.2 pB.1 pB.2.1 hlo.1 pB.2.2.1 pB.2.2.2
  have e81 := d81 hP hQ M C h3 h4 h5 h6 ha hb
  have side : ∀ (d2 : Option AV), L.length + (npF A a' hi - npF A a lo) ≤ 96 → ∃ s, C79_20 P d2 σ (rI 0 s) ∧ Rw s 400 (L ++ sdF NA A a a' lo hi) ∧ ∀ c k, ¬ c = 400 → ¬ c = 401 → s c k = σ c k := fun d2 hl2 => by
    obtain ⟨s, g1, g2, g3⟩ := d80 (l := A) hP hPl w CA VA R h1 h2 (by omega) ⟨by omega, ha.2⟩ SA.2.2.2.1 SA.2.2.2.2 SA.2.1 SA.2.2.1 hl2
    refine ⟨s, b79_20 ⟨s, ?_, rfl⟩, g2, g3⟩
    rw [h3, h4]
    exact g1
  by_cases y : b' = b ∨ (a' = a + 1 ∧ b' = b + 1 ∧ saP NA NB A B a b)
  · have eg : gpF NA NB A B a b a' b' lo hi = (sdF NA A a a' lo hi, 0) := if_pos y
    rw [eg] at hl ⊢
    have hl : L.length + (sdF NA A a a' lo hi).length ≤ 96 := hl
    rw [sd_len] at hl
    obtain ⟨s, g1, g2, g3⟩ := side (some (vA Q)) hl
    refine ⟨s, b79 ?_, g2, g3⟩
    rw [h5, h6]
    by_cases y2 : b' = b
    · rw [if_pos (by omega)]
      exact g1
    · rw [if_neg (by omega)]
      have y3 : a' = a + 1 ∧ b' = b + 1 ∧ saP NA NB A B a b := by
        rcases y with e | e
        · exact absurd e y2
        · exact e
      refine ⟨_, _, e81, ?_⟩
      rw [WI_1 y3, if_neg (show ¬ (1 : Int) = 0 by decide)]
      exact g1
  · have y2 : ¬ b' = b := fun e => y (Or.inl e)
    have y3 : ¬ (a' = a + 1 ∧ b' = b + 1 ∧ saP NA NB A B a b) := fun e => y (Or.inr e)
    by_cases y4 : a' = a
    · have eg : gpF NA NB A B a b a' b' lo hi = (sdF NB B b b' lo hi, 0) := (if_neg y).trans (if_pos y4)
      rw [eg] at hl ⊢
      have hl : L.length + (sdF NB B b b' lo hi).length ≤ 96 := hl
      rw [sd_len] at hl
      obtain ⟨s, g1, g2, g3⟩ := d80 (l := B) hQ hQl w CB VB R h1 h2 (by omega) ⟨by omega, hb.2⟩ SB.2.2.2.1 SB.2.2.2.2 SB.2.1 SB.2.2.1 hl
      refine ⟨s, b79 ?_, g2, g3⟩
      rw [h5, h6, if_neg (by omega)]
      refine ⟨_, _, e81, ?_⟩
      rw [WI_0 y3, if_pos rfl, h3, h4, if_pos (by omega), h5, h6]
      exact ⟨s, g1, rfl⟩
    · have eg : gpF NA NB A B a b a' b' lo hi = (50001 :: (sdF NA A a a' lo hi ++ 50002 :: (sdF NB B b b' lo hi ++ [50003])), 1) := (if_neg y).trans (if_neg y4)
      rw [eg] at hl ⊢
      have hl : L.length + (50001 :: (sdF NA A a a' lo hi ++ 50002 :: (sdF NB B b b' lo hi ++ [50003]))).length ≤ 96 := hl
      rw [List.length_cons, List.length_append, List.length_cons, List.length_append, List.length_singleton, sd_len, sd_len] at hl
      -- the first mark
      have R1 := Rw_ad (v := 50001) R (by omega)
      have f1 : ∀ c k, ¬ c = 400 → ¬ c = 401 → adS σ 400 50001 c k = σ c k := fun c k y1 y2 => ad_off y1 y2
      have w1 : WF (adS σ 400 50001) := WF_ad q1 w
      have C1 := mgC_fr hPl hQl w1 (fun c k hc => f1 c k (by omega) (by omega)) C
      obtain ⟨s2, g1, g2, g3⟩ := d80 (l := A) hP hPl w1 C1.2.1 C1.2.2.2.2.1 R1 (by rw [f1 _ _ (by omega) (by omega)]; exact h1) (by rw [f1 _ _ (by omega) (by omega)]; exact h2) (by omega) ⟨by omega, ha.2⟩ SA.2.2.2.1 SA.2.2.2.2 SA.2.1 SA.2.2.1 (by rw [List.length_append, List.length_singleton]; omega)
      have w2 : WF s2 := WF_400 w1 g3 g2 (by rw [List.length_append, List.length_append, List.length_singleton, sd_len]; omega)
      have R3 := Rw_ad (v := 50002) g2 (by rw [List.length_append, List.length_append, List.length_singleton, sd_len]; omega)
      have f3 : ∀ c k, ¬ c = 400 → ¬ c = 401 → adS s2 400 50002 c k = σ c k := fun c k y1 y2 => by rw [ad_off y1 y2, g3 c k y1 y2]; exact f1 c k y1 y2
      have w3 : WF (adS s2 400 50002) := WF_ad q1 w2
      have C3 := mgC_fr hPl hQl w3 (fun c k hc => f3 c k (by omega) (by omega)) C
      obtain ⟨s4, k1, k2, k3⟩ := d80 (l := B) hQ hQl w3 C3.2.2.1 C3.2.2.2.2.2 R3 (by rw [f3 _ _ (by omega) (by omega)]; exact h1) (by rw [f3 _ _ (by omega) (by omega)]; exact h2) (by omega) ⟨by omega, hb.2⟩ SB.2.2.2.1 SB.2.2.2.2 SB.2.1 SB.2.2.1 (by rw [List.length_append, List.length_append, List.length_append, List.length_singleton, List.length_singleton, sd_len]; omega)
      have w4 : WF s4 := WF_400 w3 k3 k2 (by rw [List.length_append, List.length_append, List.length_append, List.length_append, List.length_singleton, List.length_singleton, sd_len, sd_len]; omega)
      have R5 := Rw_ad (v := 50003) k2 (by rw [List.length_append, List.length_append, List.length_append, List.length_append, List.length_singleton, List.length_singleton, sd_len, sd_len]; omega)
      refine ⟨adS s4 400 50003, b79 ?_, ?_, fun c k y1 y2 => by rw [ad_off y1 y2, k3 c k y1 y2]; exact f3 c k y1 y2⟩
      · rw [h5, h6, if_neg (by omega)]
        refine ⟨_, _, e81, ?_⟩
        rw [WI_0 y3, if_pos rfl, h3, h4, if_neg (by omega)]
        refine ⟨_, d149 (WF_w w q1), s2, ?_, _, d149 (WF_w w2 q1), s4, ?_, _, d149 (WF_w w4 q1), rfl⟩
        · rw [f1 _ _ (by omega) (by omega), f1 _ _ (by omega) (by omega), h3, h4]
          exact g1
        · rw [f3 _ _ (by omega) (by omega), f3 _ _ (by omega) (by omega), h5, h6]
          exact k1
      · have ea : L ++ [50001] ++ sdF NA A a a' lo hi ++ [50002] ++ sdF NB B b b' lo hi ++ [50003] = L ++ (50001 :: (sdF NA A a a' lo hi ++ 50002 :: (sdF NB B b b' lo hi ++ [50003]))) := by
          simp only [List.append_assoc, List.cons_append, List.nil_append]
        rw [ea] at R5
        exact R5
/-- all groups -/
theorem l76 {P Q nb na nc : Nat} {FA FB X NA NB : Nat → Int} {A B : List St} (hP : isPatch P = true) (hQ : isPatch Q = true) (hPl : P + 12 < 399) (hQl : Q + 12 < 399) (M : mgD FA FB X NA NB nb na nc A B) : ∀ (w i a b p mk : Nat) (L : List Int) (σ : Sg), i + w = A.length + B.length → (A.length - a) + (B.length - b) ≤ w → mgI nb A B a b p → mgC σ P Q nb na nc X NA NB A B → σ 399 4 = (a : Nat) → σ 399 6 = (b : Nat) → σ 399 2 = (p : Nat) → Rw σ 400 L → mk ≤ i → L.length + (mgF X NA NB nb A B w a b p).1.length ≤ 96 → ∃ s, (∀ d6, C76_38 P Q mk ((A.length + B.length : Nat) : Int) i d6 σ (rI ((mk + (mgF X NA NB nb A B w a b p).2 : Nat) : Int) s)) ∧ Rw s 400 (L ++ (mgF X NA NB nb A B w a b p).1) ∧ WF s ∧ ∀ c k, ¬ (399 ≤ c ∧ c ≤ 401) → s c k = σ c k := by
  have hM := M
  obtain ⟨m1, m2, m3, m4, m5, DA, DB, EA, EB⟩ := hM
  obtain ⟨q1, q2, -⟩ := rw400
  have fin : ∀ (w i a b p mk : Nat) (L : List Int) (σ : Sg), mgI nb A B a b p → mgC σ P Q nb na nc X NA NB A B → σ 399 2 = (p : Nat) → Rw σ 400 L → ¬ (a < A.length ∨ b < B.length) → L.length + (mgF X NA NB nb A B w a b p).1.length ≤ 96 → ∃ s, (∀ d2 d4 d5 d6, C76_114 P d2 mk d4 d5 d6 σ (rI ((mk + (mgF X NA NB nb A B w a b p).2 : Nat) : Int) s)) ∧ Rw s 400 (L ++ (mgF X NA NB nb A B w a b p).1) ∧ WF s ∧ ∀ c k, ¬ (399 ≤ c ∧ c ≤ 401) → s c k = σ c k := by
    intro w i a b p mk L σ I C h2 R he hl
    rw [mgF_e he] at hl ⊢
    have hl : L.length + (rlZ X p (nb - p)).length ≤ 96 := hl
    rw [rl_len] at hl
    have e1 := RV_146 C.2.2.2.1
    obtain ⟨s, g1, g2, g3⟩ := ap154 (A := 400) (x := p) (y := nb) q1 C.2.2.2.1 R (by omega) I.2.2.1 (Nat.le_refl _) (by omega)
    refine ⟨s, fun d2 d4 d5 d6 => b76_114 hP ⟨_, _, e1, s, by rw [h2]; exact g1, rfl⟩, g2, WF_400 C.1 g3 g2 (by rw [List.length_append, rl_len]; omega), fun c k y => g3 c k (by omega) (by omega)⟩
  intro w
  induction w with
  | zero =>
    intro i a b p mk L σ hi hw I C h4 h6 h2 R hm hl
    obtain ⟨s, g1, g2, g3, g4⟩ := fin 0 i a b p mk L σ I C h2 R (by omega) hl
    refine ⟨s, fun d6 => b76_38 hP hQ ?_, g2, g3, g4⟩
    rw [if_neg (by omega)]
    exact g1 _ _ _ _
  | succ w ih =>
    intro i a b p mk L σ hi hw I C h4 h6 h2 R hm hl
    have e1 := d98' hP C.2.1
    have e2 := d98' hQ C.2.2.1
    by_cases he : a < A.length ∨ b < B.length
    · obtain ⟨lo, hlo⟩ : ∃ lo, lo = min (sO A a) (sO B b) := ⟨_, rfl⟩
      obtain ⟨a', b', hi', hc⟩ : ∃ a' b' hi, clo A B (A.length + B.length) a b lo = (a', b', hi) := ⟨_, _, _, rfl⟩
      obtain ⟨g1, g2, g3, g4, g5, g6, g7, g8, g9, g10, g11, g12, g13, g14, g15, g16, g17⟩ := mg_grp (by omega) DA DB I he hlo hc
      rw [mgF_s he hlo hc] at hl ⊢
      have hl : L.length + (rlZ X p (lo - p) ++ ((gpF NA NB A B a b a' b' lo hi').1 ++ (mgF X NA NB nb A B w a' b' hi').1)).length ≤ 96 := hl
      rw [List.length_append, List.length_append, rl_len] at hl
      obtain ⟨s1, k1, k2, k3, k4, k5, k6, k7, k8⟩ := d77 hP hQ hPl hQl ⟨m4, m5⟩ C h4 h6 hlo (by omega) hc
      have w1 : WF s1 := WF_399 C.1 k8
      have C1 := mgC_fr hPl hQl w1 (fun c k hc => k8 c k (by omega)) C
      have R1 : Rw s1 400 L := Rw_fr (k8 _ _ (by omega)) (fun i => k8 _ _ (by omega)) R
      obtain ⟨s2, u1, u2, u3⟩ := ap154 (A := 400) (x := p) (y := lo) q1 C1.2.2.2.1 R1 (by omega) g1 (by omega) (by omega)
      have w2 : WF s2 := WF_400 w1 u3 u2 (by rw [List.length_append, rl_len]; omega)
      have C2 := mgC_fr hPl hQl w2 (fun c k hc => u3 c k (by omega) (by omega)) C1
      have o2 : ∀ x, s2 399 x = s1 399 x := fun x => u3 _ _ (by omega) (by omega)
      obtain ⟨s3, v1, v2, v3⟩ := d79 (a := a) (b := b) (a' := a') (b' := b') (lo := lo) (hi := hi') hP hQ hPl hQl M C2 (by rw [o2]; exact k2) (by rw [o2]; exact k3) (by rw [o2]; exact k4) (by rw [o2]; exact k5) (by rw [o2]; exact k6) (by rw [o2]; exact k7) ⟨g4, g5⟩ ⟨g6, g7⟩ ⟨g2, g3⟩ ⟨g12, g14, g11.2.2.2.1, g16⟩ ⟨g13, g15, g11.2.2.2.2.1, g17⟩ u2 (by rw [List.length_append, rl_len]; omega)
      have w3 : WF s3 := WF_400 w2 v3 v2 (by rw [List.length_append, List.length_append, rl_len]; omega)
      have C3 := mgC_fr hPl hQl w3 (fun c k hc => v3 c k (by omega) (by omega)) C2
      have o3 : ∀ x, s3 399 x = s1 399 x := fun x => by rw [v3 _ _ (by omega) (by omega)]; exact o2 x
      have z2 : (gpF NA NB A B a b a' b' lo hi').2 ≤ 1 := by
        unfold gpF
        split
        · exact Nat.zero_le _
        · split
          · exact Nat.zero_le _
          · exact Nat.le_refl _
      obtain ⟨s, a1, a2, a3, a4⟩ := ih (i + 1) a' b' hi' (mk + (gpF NA NB A B a b a' b' lo hi').2) (L ++ rlZ X p (lo - p) ++ (gpF NA NB A B a b a' b' lo hi').1) s3 (by omega) (by omega) g11 C3 (by rw [o3]; exact k5) (by rw [o3]; exact k7) (by rw [o3]; exact k3) v2 (by omega) (by rw [List.length_append, List.length_append, rl_len]; omega)
      have r67 : ∀ d6, C76_67 P Q mk ((A.length + B.length : Nat) : Int) i d6 σ (rI ((mk + ((gpF NA NB A B a b a' b' lo hi').2 + (mgF X NA NB nb A B w a' b' hi').2) : Nat) : Int) s) := fun d6 => b76_67 hP ⟨s1, k1, s2, by rw [h2, k2]; exact u1, _, s3, v1, fun _ => by omega, b76_108 ⟨by omega, by
        have em : (if (((gpF NA NB A B a b a' b' lo hi').2 : Nat) : Int) = 0 then (mk : Int) else (mk : Int) + 1) = ((mk + (gpF NA NB A B a b a' b' lo hi').2 : Nat) : Int) := by
          by_cases z : (((gpF NA NB A B a b a' b' lo hi').2 : Nat) : Int) = 0
          · rw [if_pos z]; omega
          · rw [if_neg z]; omega
        rw [em, show (i : Int) + 1 = ((i + 1 : Nat) : Int) by omega]
        have y := a1 (some (vI (σ 399 2)))
        rw [show mk + (gpF NA NB A B a b a' b' lo hi').2 + (mgF X NA NB nb A B w a' b' hi').2 = mk + ((gpF NA NB A B a b a' b' lo hi').2 + (mgF X NA NB nb A B w a' b' hi').2) by omega] at y
        exact y⟩⟩
      refine ⟨s, fun d6 => b76_38 hP hQ ?_, by rw [List.append_assoc, List.append_assoc] at a2; exact a2, a3, fun c k y => by rw [a4 c k y, v3 c k (by omega) (by omega), u3 c k (by omega) (by omega)]; exact k8 c k (by omega)⟩
      rw [if_pos (by omega)]
      refine ⟨_, _, e1, ?_⟩
      by_cases y : a < A.length
      · rw [if_neg (by omega)]
        exact r67 d6
      · rw [if_pos (by omega)]
        refine ⟨_, _, e2, ?_⟩
        rw [if_pos (by omega)]
        exact r67 d6
    · obtain ⟨s, g1, g2, g3, g4⟩ := fin (w + 1) i a b p mk L σ I C h2 R he hl
      refine ⟨s, fun d6 => b76_38 hP hQ ?_, g2, g3, g4⟩
      rw [if_pos (by omega)]
      refine ⟨_, _, e1, ?_⟩
      rw [if_pos (by omega)]
      refine ⟨_, _, e2, ?_⟩
      rw [if_neg (by omega)]
      exact g1 _ _ _ _
/-- the walk begins -/
theorem mgI_0 {nb : Nat} {A B : List St} : mgI nb A B 0 0 0 := ⟨Nat.zero_le _, Nat.zero_le _, Nat.zero_le _, by rw [peo_0]; exact Nat.le_refl _, by rw [peo_0]; exact Nat.le_refl _, Nat.zero_le _, Nat.zero_le _⟩
/-- what comes of it is no longer than a row -/
theorem mg_bd {FA FB X NA NB : Nat → Int} {nb na nc : Nat} {A B : List St} (M : mgD FA FB X NA NB nb na nc A B) : (mgF X NA NB nb A B (A.length + B.length) 0 0 0).1.length ≤ 96 := by
  have z := mgF_len M (A.length + B.length) 0 0 0 (by omega) mgI_0
  have := M.1
  have := M.2.1
  have := M.2.2.1
  have := M.2.2.2.1
  omega
/-- unite -/
theorem d76 {P Q nb na nc : Nat} {FA FB X NA NB : Nat → Int} {A B : List St} {σ : Sg} (hP : isPatch P = true) (hQ : isPatch Q = true) (hPl : P + 12 < 399) (hQl : Q + 12 < 399) (M : mgD FA FB X NA NB nb na nc A B) (C : mgC σ P Q nb na nc X NA NB A B) : ∃ s, Dd 76 [vA 399, vA P, vA Q] σ (rI ((mgF X NA NB nb A B (A.length + B.length) 0 0 0).2 : Nat) s) ∧ Rw s 400 (mgF X NA NB nb A B (A.length + B.length) 0 0 0).1 ∧ WF s ∧ ∀ c k, ¬ (399 ≤ c ∧ c ≤ 401) → s c k = σ c k := by
  obtain ⟨q1, q2, -⟩ := rw400
  obtain ⟨s3, hs3⟩ : ∃ s3, s3 = upS (upS (upS (upS σ 400 1 0) 399 4 0) 399 6 0) 399 2 0 := ⟨_, rfl⟩
  have f3 : ∀ c x, ¬ c = 399 → ¬ c = 400 → s3 c x = σ c x := fun c x y1 y2 => by rw [hs3, up_a y1, up_a y1, up_a y1, up_a y2]
  have w3 : WF s3 := by
    refine WF_399 (WF_0 q1 C.1) (fun c k hc => ?_)
    rw [hs3, up_a hc, up_a hc, up_a hc]
  have C3 := mgC_fr hPl hQl w3 (fun c k hc => f3 c k (by omega) (by omega)) C
  have R3 : Rw s3 400 [] := by
    refine Rw_fr (σ := upS σ 400 1 0) ?_ (fun i => ?_) Rw_nil
    · rw [hs3, up_a (by decide), up_a (by decide), up_a (by decide)]
    · rw [hs3, up_a (by decide), up_a (by decide), up_a (by decide)]
  obtain ⟨s, a1, a2, a3, a4⟩ := l76 hP hQ hPl hQl M (A.length + B.length) 0 0 0 0 0 [] s3 (by omega) (by omega) mgI_0 C3 (by rw [hs3, up_k (by decide), up_k (by decide), up_s]; rfl) (by rw [hs3, up_k (by decide), up_s]; rfl) (by rw [hs3, up_s]; rfl) R3 (Nat.le_refl _) (by show 0 + _ ≤ 96; rw [Nat.zero_add]; exact mg_bd M)
  rw [List.nil_append] at a2
  rw [Nat.zero_add] at a1
  refine ⟨s, b76 hP hQ ⟨_, d152 q1, ?_⟩, a2, a3, fun c k y => by rw [a4 c k y]; exact f3 c k (by omega) (by omega)⟩
  rw [← hs3]
  refine ⟨_, _, d98' hP C3.2.1, _, _, d98' hQ C3.2.2.1, by have := M.2.2.2.1; have := M.2.2.2.2.1; omega, ?_⟩
  rw [show ((A.length : Nat) : Int) + ((B.length : Nat) : Int) = ((A.length + B.length : Nat) : Int) by omega]
  exact a1 none
end
