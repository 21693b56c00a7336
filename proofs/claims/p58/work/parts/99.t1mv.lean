/-! A patch past its predecessor: the walk, and the class's side. -/
noncomputable section
/-- a row's value, as a function -/
def RV (σ : Sg) (R n : Nat) (f : Nat → Int) : Prop := wR σ R ∧ σ R 1 = (n : Nat) ∧ ∀ i, i < n → σ (R + 1) i = f i
theorem RV_fr {σ s : Sg} {R n : Nat} {f : Nat → Int} (h : ∀ k, s R k = σ R k) (h2 : ∀ k, s (R + 1) k = σ (R + 1) k) (V : RV σ R n f) : RV s R n f :=
  ⟨⟨V.1.1, by rw [h 1]; exact V.1.2⟩, by rw [h 1]; exact V.2.1, fun i hi => by rw [h2 i]; exact V.2.2 i hi⟩
theorem RV_146 {σ : Sg} {R n : Nat} {f : Nat → Int} (V : RV σ R n f) : Dd 146 [vA R] σ (rI (n : Nat) σ) := by
  have e := d146 (σ := σ) V.1.1
  rw [V.2.1] at e
  exact e
theorem RV_147 {σ : Sg} {R n i : Nat} {f : Nat → Int} (V : RV σ R n f) (hi : i < n) : Dd 147 [vA R, vI i] σ (rI (f i) σ) := by
  have e := d147 (σ := σ) (a := R) (i := (i : Int)) V.1
  rw [at_on V.2.1 V.2.2 hi] at e
  exact e
theorem RV_9 {σ : Sg} {R n i : Nat} {f : Nat → Int} (V : RV σ R n f) : Dd 9 [vA R, vI i] σ (rI (if i < n ∧ f i = -1 then 1 else 0) σ) := by
  refine b9 V.1.1 ⟨_, _, RV_146 V, ?_⟩
  by_cases y : i < n
  · rw [if_pos (by omega)]
    refine ⟨_, _, RV_147 V y, ?_⟩
    by_cases y2 : f i = -1
    · rw [if_pos y2, if_pos ⟨y, y2⟩]
    · rw [if_neg y2, if_neg (fun e => y2 e.2)]
  · rw [if_neg (by omega), if_neg (fun e => y e.1)]
/-- the walk through three texts -/
def mvW (F K G L X Y Z : Nat → Int) (nb na nc : Nat) : Nat → Nat → Nat → Nat → List Int → List Int → List Int → List Int → List Int → List Int × List Int × List Int × List Int × List Int
  | 0, _, _, _, b, M, f, a, g => (b, M, f, a, g)
  | w + 1, i, j, k, b, M, f, a, g =>
    if i < nb ∧ F i = -1 then mvW F K G L X Y Z nb na nc w (i + 1) j k (b ++ [X i]) (M ++ [X i]) (f ++ [(M.length : Int)]) a (g ++ [-1])
    else if j < na ∧ K j = -1 then mvW F K G L X Y Z nb na nc w i (j + 1) (k + 1) b M f (a ++ [Y j]) g
    else if j < na ∧ G j = -1 then mvW F K G L X Y Z nb na nc w (i + 1) (j + 1) k (b ++ [Y j]) M (f ++ [-1]) a g
    else if k < nc ∧ L k = -1 then mvW F K G L X Y Z nb na nc w i j (k + 1) b (M ++ [Z k]) f (a ++ [Z k]) (g ++ [(a.length : Int)])
    else if j < na then mvW F K G L X Y Z nb na nc w (i + 1) (j + 1) (k + 1) (b ++ [Y j]) (M ++ [Y j]) (f ++ [(M.length : Int)]) (a ++ [Y j]) (g ++ [(a.length : Int)])
    else mvW F K G L X Y Z nb na nc w i j k b M f a g
theorem mvW_s {F K G L X Y Z : Nat → Int} {nb na nc w i j k : Nat} {b M f a g : List Int} : mvW F K G L X Y Z nb na nc (w + 1) i j k b M f a g = (if i < nb ∧ F i = -1 then mvW F K G L X Y Z nb na nc w (i + 1) j k (b ++ [X i]) (M ++ [X i]) (f ++ [(M.length : Int)]) a (g ++ [-1])
    else if j < na ∧ K j = -1 then mvW F K G L X Y Z nb na nc w i (j + 1) (k + 1) b M f (a ++ [Y j]) g
    else if j < na ∧ G j = -1 then mvW F K G L X Y Z nb na nc w (i + 1) (j + 1) k (b ++ [Y j]) M (f ++ [-1]) a g
    else if k < nc ∧ L k = -1 then mvW F K G L X Y Z nb na nc w i j (k + 1) b (M ++ [Z k]) f (a ++ [Z k]) (g ++ [(a.length : Int)])
    else if j < na then mvW F K G L X Y Z nb na nc w (i + 1) (j + 1) (k + 1) (b ++ [Y j]) (M ++ [Y j]) (f ++ [(M.length : Int)]) (a ++ [Y j]) (g ++ [(a.length : Int)])
    else mvW F K G L X Y Z nb na nc w i j k b M f a g) := rfl
/-- no list is too long for a row -/
def BD (r : List Int × List Int × List Int × List Int × List Int) : Prop := r.1.length ≤ 96 ∧ r.2.1.length ≤ 96 ∧ r.2.2.2.1.length ≤ 96
theorem mvW_bd {F K G L X Y Z : Nat → Int} {nb na nc : Nat} : ∀ (w i j k : Nat) (b M f a g : List Int), BD (mvW F K G L X Y Z nb na nc w i j k b M f a g) → b.length ≤ 96 ∧ M.length ≤ 96 ∧ a.length ≤ 96 := by
  intro w
  induction w with
  | zero => intro i j k b M f a g h; exact h
  | succ w ih =>
    intro i j k b M f a g h
    rw [mvW_s] at h
    split at h
    · have z := ih _ _ _ _ _ _ _ _ h
      simp only [List.length_append, List.length_singleton] at z
      omega
    · split at h
      · have z := ih _ _ _ _ _ _ _ _ h
        simp only [List.length_append, List.length_singleton] at z
        omega
      · split at h
        · have z := ih _ _ _ _ _ _ _ _ h
          simp only [List.length_append, List.length_singleton] at z
          omega
        · split at h
          · have z := ih _ _ _ _ _ _ _ _ h
            simp only [List.length_append, List.length_singleton] at z
            omega
          · split at h
            · have z := ih _ _ _ _ _ _ _ _ h
              simp only [List.length_append, List.length_singleton] at z
              omega
            · exact ih _ _ _ _ _ _ _ _ h
/-- what the two scratch patches hold in the end -/
def FIN8 (s : Sg) (r : List Int × List Int × List Int × List Int × List Int) : Prop :=
  (NP s 351 r.1.length r.2.1.length ∧ wR s (351 + 9) ∧ (∀ i v, r.1[i]? = some v → s (351 + 2) i = v) ∧ (∀ i v, r.2.1[i]? = some v → s (351 + 4) i = v) ∧ (∀ i v, r.2.2.1[i]? = some v → s (351 + 6) i = v) ∧ (∀ i, i < r.1.length → ¬ s (351 + 6) i = -1 → s (351 + 2) i = s (351 + 4) (s (351 + 6) i).toNat)) ∧
  (NP s 364 r.2.1.length r.2.2.2.1.length ∧ wR s (364 + 9) ∧ (∀ i v, r.2.1[i]? = some v → s (364 + 2) i = v) ∧ (∀ i v, r.2.2.2.1[i]? = some v → s (364 + 4) i = v) ∧ (∀ i v, r.2.2.2.2[i]? = some v → s (364 + 6) i = v) ∧ (∀ i, i < r.2.1.length → ¬ s (364 + 6) i = -1 → s (364 + 2) i = s (364 + 4) (s (364 + 6) i).toNat))
theorem NP_fr {σ s : Sg} {P nb na : Nat} (h : ∀ c k, P + 1 ≤ c ∧ c ≤ P + 10 → s c k = σ c k) (N : NP σ P nb na) : NP s P nb na := by
  obtain ⟨n1, n3, n5, n7, V, K, C⟩ := N
  have e6 : s (P + 6) = σ (P + 6) := funext fun k => h _ _ (by omega)
  have e8 : s (P + 8) = σ (P + 8) := funext fun k => h _ _ (by omega)
  refine ⟨by rw [h _ _ (by omega)]; exact n1, by rw [h _ _ (by omega)]; exact n3, by rw [h _ _ (by omega)]; exact n5, by rw [h _ _ (by omega)]; exact n7, by rw [e6]; exact V, by rw [e6, e8]; exact K, ?_⟩
  unfold PCS at C ⊢
  rw [e6, h (P + 9) 1 (by omega)]
  refine ⟨C.1, fun a q hq => ?_⟩
  rw [h (P + 10) _ (by omega), h (P + 10) _ (by omega), h (P + 10) _ (by omega), h (P + 10) _ (by omega)]
  exact C.2 a q hq
theorem l8 {P Q nb na nc T : Nat} {F K G L X Y Z : Nat → Int} {σ0 : Sg} (hP : isPatch P = true) (hQ : isPatch Q = true) (eP : P + 12 < 351 ∨ 376 < P) (eQ : Q + 12 < 351 ∨ 376 < Q) (hT : T ≤ 1000) (V1 : RV σ0 (P + 1) nb X) (V3 : RV σ0 (P + 3) na Y) (V5 : RV σ0 (P + 5) nb F) (V7 : RV σ0 (P + 7) na K) (U1 : RV σ0 (Q + 1) na Y) (U3 : RV σ0 (Q + 3) nc Z) (U5 : RV σ0 (Q + 5) na G) (U7 : RV σ0 (Q + 7) nc L) : ∀ (w t i j k : Nat) (b M f a g k1 k2 : List Int) (σ : Sg), t + w = T → i ≤ t → j ≤ t → k ≤ t → BI σ 351 b M f k1 → BI σ 364 M a g k2 → okW b M f k1 → okW M a g k2 → BD (mvW F K G L X Y Z nb na nc w i j k b M f a g) → (∀ c x, ¬ (352 ≤ c ∧ c ≤ 361) → ¬ (365 ≤ c ∧ c ≤ 374) → σ c x = σ0 c x) → ∃ s, C8_50 P Q T i j k t σ (rV s) ∧ FIN8 s (mvW F K G L X Y Z nb na nc w i j k b M f a g) ∧ ∀ c x, ¬ (352 ≤ c ∧ c ≤ 361) → ¬ (365 ≤ c ∧ c ≤ 374) → s c x = σ0 c x := by
  intro w
  induction w with
  | zero =>
    intro t i j k b M f a g k1 k2 σ ht hi hj hk B1 B2 O1 O2 hB fr
    have hB : BD (b, M, f, a, g) := hB
    obtain ⟨hb, hM, ha⟩ := hB
    obtain ⟨s1, a1, a2, a3, a4, a5, a6, a7, a8⟩ := d94_bi WDp351 B1 O1 hb hM
    obtain ⟨s2, c1, c2, c3, c4, c5, c6, c7, c8⟩ := d94_bi WDp364 (BI_fr (fun c x h => a8 c x (by omega) (by omega)) B2) O2 hM ha
    refine ⟨s2, b8_50 hP hQ ?_, ?_, fun c x h h' => by rw [c8 c x (by omega) (by omega), a8 c x (by omega) (by omega)]; exact fr c x h h'⟩
    · rw [if_neg (by omega)]
      exact ⟨s1, a1, s2, c1, rfl⟩
    · show FIN8 s2 (b, M, f, a, g)
      refine ⟨⟨NP_fr (fun c x h => c8 c x (by omega) (by omega)) a2, ⟨a3.1, by rw [c8 _ _ (by decide) (by decide)]; exact a3.2⟩, fun i v h => by rw [c8 _ _ (by decide) (by decide)]; exact a4 i v h, fun i v h => by rw [c8 _ _ (by decide) (by decide)]; exact a5 i v h, fun i v h => by rw [c8 _ _ (by decide) (by decide)]; exact a6 i v h, fun i h1 h2 => ?_⟩, c2, c3, c4, c5, c6, c7⟩
      rw [c8 (351 + 6) i (by decide) (by decide)] at h2 ⊢
      rw [c8 (351 + 2) _ (by decide) (by decide), c8 (351 + 4) _ (by decide) (by decide)]
      exact a7 i h1 h2
  | succ w ih =>
    intro t i j k b M f a g k1 k2 σ ht hi hj hk B1 B2 O1 O2 hB fr
    have l1 := O1.1
    have l2 := O1.2.1
    have l3 := O2.1
    have l4 := O2.2.1
    have gS : ∀ {s : Sg} {R n : Nat} {h : Nat → Int}, (∀ c x, ¬ (352 ≤ c ∧ c ≤ 361) → ¬ (365 ≤ c ∧ c ≤ 374) → s c x = σ0 c x) → RV σ0 R n h → (R < 351 ∨ 376 < R) → RV s R n h := fun {s R n h} fr V e => RV_fr (fun x => fr R x (by omega) (by omega)) (fun x => fr (R + 1) x (by omega) (by omega)) V
    have e1 := RV_9 (i := i) (gS fr V5 (by omega))
    have e2 := RV_9 (i := j) (gS fr V7 (by omega))
    have e3 := RV_9 (i := j) (gS fr U5 (by omega))
    have e4 := RV_9 (i := k) (gS fr U7 (by omega))
    have e5 := RV_146 (gS fr V3 (by omega))
    rw [mvW_s] at hB ⊢
    have nx : ∀ {s : Sg} {i' j' k' : Nat} {o : Rs}, C8_50 P Q T i' j' k' ((t + 1 : Nat) : Int) s o → C8_283 P Q T i' j' k' t s o := fun {s i' j' k' o} h => b8_283 ⟨by omega, by rw [show (t : Int) + 1 = ((t + 1 : Nat) : Int) by omega]; exact h⟩
    by_cases y1 : i < nb ∧ F i = -1
    · rw [if_pos y1] at hB e1 ⊢
      have z := mvW_bd _ _ _ _ _ _ _ _ _ hB
      simp only [List.length_append, List.length_singleton] at z
      obtain ⟨s1, a1, a2, a3⟩ := d91 (x := X i) WDp351 B1 (by omega) (by omega) (by omega) (by omega)
      have fr1 : ∀ c x, ¬ (352 ≤ c ∧ c ≤ 361) → ¬ (365 ≤ c ∧ c ≤ 374) → s1 c x = σ0 c x := fun c x h h' => by rw [a3 c x (by omega)]; exact fr c x h h'
      obtain ⟨s2, c1, c2, c3⟩ := d92 (x := X i) WDp364 (BI_fr (fun c x h => a3 c x (by omega)) B2) (by omega) (by omega)
      have fr2 : ∀ c x, ¬ (352 ≤ c ∧ c ≤ 361) → ¬ (365 ≤ c ∧ c ≤ 374) → s2 c x = σ0 c x := fun c x h h' => by rw [c3 c x (by omega)]; exact fr1 c x h h'
      obtain ⟨s, g1, g2, g3⟩ := ih (t + 1) (i + 1) j k _ _ _ _ _ _ _ s2 (by omega) (by omega) (by omega) (by omega) (BI_fr (fun c x h => c3 c x (by omega)) a2) c2 (okW_k (X i) O1) (okW_d (X i) O2) hB fr2
      refine ⟨s, b8_50 hP hQ ?_, g2, g3⟩
      rw [if_pos (by omega)]
      refine ⟨_, _, e1, ?_⟩
      rw [if_neg (show ¬ (1 : Int) = 0 by decide)]
      refine ⟨_, _, RV_147 (gS fr V1 (by omega)) y1.1, s1, a1, _, _, RV_147 (gS fr1 V1 (by omega)) y1.1, s2, c1, by omega, nx ?_⟩
      exact g1
    rw [if_neg y1] at hB e1 ⊢
    by_cases y2 : j < na ∧ K j = -1
    · rw [if_pos y2] at hB e2 ⊢
      have z := mvW_bd _ _ _ _ _ _ _ _ _ hB
      simp only [List.length_append, List.length_singleton] at z
      obtain ⟨s2, c1, c2, c3⟩ := d93 (x := Y j) WDp364 B2 (by omega) (by omega)
      have fr2 : ∀ c x, ¬ (352 ≤ c ∧ c ≤ 361) → ¬ (365 ≤ c ∧ c ≤ 374) → s2 c x = σ0 c x := fun c x h h' => by rw [c3 c x (by omega)]; exact fr c x h h'
      obtain ⟨s, g1, g2, g3⟩ := ih (t + 1) i (j + 1) (k + 1) _ _ _ _ _ _ _ s2 (by omega) (by omega) (by omega) (by omega) (BI_fr (fun c x h => c3 c x (by omega)) B1) c2 O1 (okW_g (Y j) O2) hB fr2
      refine ⟨s, b8_50 hP hQ ?_, g2, g3⟩
      rw [if_pos (by omega)]
      refine ⟨_, _, e1, ?_⟩
      rw [if_pos rfl]
      refine ⟨_, _, e2, ?_⟩
      rw [if_neg (show ¬ (1 : Int) = 0 by decide)]
      refine ⟨_, _, RV_147 (gS fr V3 (by omega)) y2.1, s2, c1, by omega, by omega, nx ?_⟩
      exact g1
    rw [if_neg y2] at hB e2 ⊢
    by_cases y3 : j < na ∧ G j = -1
    · rw [if_pos y3] at hB e3 ⊢
      have z := mvW_bd _ _ _ _ _ _ _ _ _ hB
      simp only [List.length_append, List.length_singleton] at z
      obtain ⟨s1, a1, a2, a3⟩ := d92 (x := Y j) WDp351 B1 (by omega) (by omega)
      have fr1 : ∀ c x, ¬ (352 ≤ c ∧ c ≤ 361) → ¬ (365 ≤ c ∧ c ≤ 374) → s1 c x = σ0 c x := fun c x h h' => by rw [a3 c x (by omega)]; exact fr c x h h'
      obtain ⟨s, g1, g2, g3⟩ := ih (t + 1) (i + 1) (j + 1) k _ _ _ _ _ _ _ s1 (by omega) (by omega) (by omega) (by omega) a2 (BI_fr (fun c x h => a3 c x (by omega)) B2) (okW_d (Y j) O1) O2 hB fr1
      refine ⟨s, b8_50 hP hQ ?_, g2, g3⟩
      rw [if_pos (by omega)]
      refine ⟨_, _, e1, ?_⟩
      rw [if_pos rfl]
      refine ⟨_, _, e2, ?_⟩
      rw [if_pos rfl]
      refine ⟨_, _, e3, ?_⟩
      rw [if_neg (show ¬ (1 : Int) = 0 by decide)]
      refine ⟨_, _, RV_147 (gS fr U1 (by omega)) y3.1, s1, a1, by omega, by omega, nx ?_⟩
      exact g1
    rw [if_neg y3] at hB e3 ⊢
    by_cases y4 : k < nc ∧ L k = -1
    · rw [if_pos y4] at hB e4 ⊢
      have z := mvW_bd _ _ _ _ _ _ _ _ _ hB
      simp only [List.length_append, List.length_singleton] at z
      obtain ⟨s1, a1, a2, a3⟩ := d93 (x := Z k) WDp351 B1 (by omega) (by omega)
      have fr1 : ∀ c x, ¬ (352 ≤ c ∧ c ≤ 361) → ¬ (365 ≤ c ∧ c ≤ 374) → s1 c x = σ0 c x := fun c x h h' => by rw [a3 c x (by omega)]; exact fr c x h h'
      obtain ⟨s2, c1, c2, c3⟩ := d91 (x := Z k) WDp364 (BI_fr (fun c x h => a3 c x (by omega)) B2) (by omega) (by omega) (by omega) (by omega)
      have fr2 : ∀ c x, ¬ (352 ≤ c ∧ c ≤ 361) → ¬ (365 ≤ c ∧ c ≤ 374) → s2 c x = σ0 c x := fun c x h h' => by rw [c3 c x (by omega)]; exact fr1 c x h h'
      obtain ⟨s, g1, g2, g3⟩ := ih (t + 1) i j (k + 1) _ _ _ _ _ _ _ s2 (by omega) (by omega) (by omega) (by omega) (BI_fr (fun c x h => c3 c x (by omega)) a2) c2 (okW_g (Z k) O1) (okW_k (Z k) O2) hB fr2
      refine ⟨s, b8_50 hP hQ ?_, g2, g3⟩
      rw [if_pos (by omega)]
      refine ⟨_, _, e1, ?_⟩
      rw [if_pos rfl]
      refine ⟨_, _, e2, ?_⟩
      rw [if_pos rfl]
      refine ⟨_, _, e3, ?_⟩
      rw [if_pos rfl]
      refine ⟨_, _, e4, ?_⟩
      rw [if_neg (show ¬ (1 : Int) = 0 by decide)]
      refine ⟨_, _, RV_147 (gS fr U3 (by omega)) y4.1, s1, a1, _, _, RV_147 (gS fr1 U3 (by omega)) y4.1, s2, c1, by omega, nx ?_⟩
      exact g1
    rw [if_neg y4] at hB e4 ⊢
    by_cases y5 : j < na
    · rw [if_pos y5] at hB ⊢
      have z := mvW_bd _ _ _ _ _ _ _ _ _ hB
      simp only [List.length_append, List.length_singleton] at z
      obtain ⟨s1, a1, a2, a3⟩ := d91 (x := Y j) WDp351 B1 (by omega) (by omega) (by omega) (by omega)
      have fr1 : ∀ c x, ¬ (352 ≤ c ∧ c ≤ 361) → ¬ (365 ≤ c ∧ c ≤ 374) → s1 c x = σ0 c x := fun c x h h' => by rw [a3 c x (by omega)]; exact fr c x h h'
      obtain ⟨s2, c1, c2, c3⟩ := d91 (x := Y j) WDp364 (BI_fr (fun c x h => a3 c x (by omega)) B2) (by omega) (by omega) (by omega) (by omega)
      have fr2 : ∀ c x, ¬ (352 ≤ c ∧ c ≤ 361) → ¬ (365 ≤ c ∧ c ≤ 374) → s2 c x = σ0 c x := fun c x h h' => by rw [c3 c x (by omega)]; exact fr1 c x h h'
      obtain ⟨s, g1, g2, g3⟩ := ih (t + 1) (i + 1) (j + 1) (k + 1) _ _ _ _ _ _ _ s2 (by omega) (by omega) (by omega) (by omega) (BI_fr (fun c x h => c3 c x (by omega)) a2) c2 (okW_k (Y j) O1) (okW_k (Y j) O2) hB fr2
      refine ⟨s, b8_50 hP hQ ?_, g2, g3⟩
      rw [if_pos (by omega)]
      refine ⟨_, _, e1, ?_⟩
      rw [if_pos rfl]
      refine ⟨_, _, e2, ?_⟩
      rw [if_pos rfl]
      refine ⟨_, _, e3, ?_⟩
      rw [if_pos rfl]
      refine ⟨_, _, e4, ?_⟩
      rw [if_pos rfl]
      refine ⟨_, _, e5, ?_⟩
      rw [if_pos (by omega)]
      refine ⟨_, _, RV_147 (gS fr V3 (by omega)) y5, s1, a1, _, _, RV_147 (gS fr1 V3 (by omega)) y5, s2, c1, by omega, by omega, by omega, nx ?_⟩
      exact g1
    · rw [if_neg y5] at hB ⊢
      obtain ⟨s, g1, g2, g3⟩ := ih (t + 1) i j k b M f a g k1 k2 σ (by omega) (by omega) (by omega) (by omega) B1 B2 O1 O2 hB fr
      refine ⟨s, b8_50 hP hQ ?_, g2, g3⟩
      rw [if_pos (by omega)]
      refine ⟨_, _, e1, ?_⟩
      rw [if_pos rfl]
      refine ⟨_, _, e2, ?_⟩
      rw [if_pos rfl]
      refine ⟨_, _, e3, ?_⟩
      rw [if_pos rfl]
      refine ⟨_, _, e4, ?_⟩
      rw [if_pos rfl]
      refine ⟨_, _, e5, ?_⟩
      rw [if_neg (by omega)]
      exact nx g1
/-- movePast -/
theorem d8 {P Q nb na nc : Nat} {F K G L X Y Z : Nat → Int} {σ : Sg} (hP : isPatch P = true) (hQ : isPatch Q = true) (eP : P + 12 < 350 ∨ 376 < P) (eQ : Q + 12 < 350 ∨ 376 < Q) (hn : nb ≤ 100 ∧ na ≤ 100 ∧ nc ≤ 100) (V1 : RV σ (P + 1) nb X) (V3 : RV σ (P + 3) na Y) (V5 : RV σ (P + 5) nb F) (V7 : RV σ (P + 7) na K) (U1 : RV σ (Q + 1) na Y) (U3 : RV σ (Q + 3) nc Z) (U5 : RV σ (Q + 5) na G) (U7 : RV σ (Q + 7) nc L) (hB : BD (mvW F K G L X Y Z nb na nc (nb + na + nc) 0 0 0 [] [] [] [] [])) : ∃ s, Dd 8 [vA 350, vA P, vA Q] σ (rV s) ∧ FIN8 s (mvW F K G L X Y Z nb na nc (nb + na + nc) 0 0 0 [] [] [] [] []) ∧ ∀ c x, ¬ (352 ≤ c ∧ c ≤ 361) → ¬ (365 ≤ c ∧ c ≤ 374) → s c x = σ c x := by
  obtain ⟨s1, a1, a2, a3⟩ := d90 (σ := σ) WDp351.1
  obtain ⟨s2, c1, c2, c3⟩ := d90 (σ := s1) WDp364.1
  have fr : ∀ c x, ¬ (352 ≤ c ∧ c ≤ 361) → ¬ (365 ≤ c ∧ c ≤ 374) → s2 c x = σ c x := fun c x h h' => by rw [c3 c x (by omega), a3 c x (by omega)]
  have gS : ∀ {R n : Nat} {h : Nat → Int}, RV σ R n h → (R < 351 ∨ 376 < R) → RV s2 R n h := fun {R n h} V e => RV_fr (fun x => fr R x (by omega) (by omega)) (fun x => fr (R + 1) x (by omega) (by omega)) V
  obtain ⟨s, g1, g2, g3⟩ := l8 (T := nb + na + nc) hP hQ (by omega) (by omega) (by omega) (gS V1 (by omega)) (gS V3 (by omega)) (gS V5 (by omega)) (gS V7 (by omega)) (gS U1 (by omega)) (gS U3 (by omega)) (gS U5 (by omega)) (gS U7 (by omega)) (nb + na + nc) 0 0 0 0 [] [] [] [] [] [] [] s2 (by omega) (Nat.le_refl 0) (Nat.le_refl 0) (Nat.le_refl 0) (BI_fr (fun c x h => c3 c x (by omega)) a2) c2 okW_0 okW_0 hB (fun _ _ _ _ => rfl)
  refine ⟨s, b8 hP hQ ⟨s1, a1, s2, c1, _, _, RV_146 (gS V1 (by omega)), _, _, RV_146 (gS V3 (by omega)), by omega, _, _, RV_146 (gS U3 (by omega)), by omega, ?_⟩, g2, fun c x h h' => by rw [g3 c x h h']; exact fr c x h h'⟩
  rw [show ((nb : Nat) : Int) + ((na : Nat) : Int) + ((nc : Nat) : Int) = ((nb + na + nc : Nat) : Int) by omega]
  exact g1
end
