/-! Two patches merged: the reference's groups, and the call. -/
noncomputable section
theorem l331p {s t nb na : Nat} {X N : Nat → Int} {l : List St} {x2 x3 x4 x5 x6 x8 x11 x12 x13 : Int} {lo : Nat} {d7 d14} (hlo : lo ≤ nb) (h1 : -2147483648 ≤ x12 - x3 ∧ x12 - x3 ≤ 2147483647) (h2 : -2147483648 ≤ x12 - x3 + x13 ∧ x12 - x3 + x13 ≤ 2147483647) (h3 : -2147483648 ≤ x12 - x3 + x13 - x4 ∧ x12 - x3 + x13 - x4 ≤ 2147483647) : ∀ (d k : Nat) (L : List Int) (σ : Sg), k + d = lo → PG σ s 0 nb na X N l → MD σ L → L.length + d ≤ 150 → ∃ s', (∀ (d9 d16 : Option AV) {o : Rs}, (∀ d15, C331_328 s x2 x3 x4 x5 x6 d7 x8 d9 lo x11 x12 x13 d14 d15 d16 (if x12 - x3 + x13 - x4 = 1 then 1 else 0) s' o) → C331_280 s x2 x3 x4 x5 x6 d7 x8 d9 lo x11 x12 x13 d14 k d16 σ o) ∧ MD s' (L ++ rlZ X k d) ∧ ∀ c x, ¬ c = 705 → ¬ (c = 682 ∧ x = 32) → s' c x = σ c x := by
  intro d
  induction d with
  | zero =>
    intro k L σ hk P M hl
    refine ⟨σ, fun d9 d16 {o} hh => b331_280 ?_, by rw [rl_0]; exact M, fun _ _ _ _ => rfl⟩
    rw [if_neg (by omega)]
    exact ⟨h1, h2, h3, hh _⟩
  | succ d ih =>
    intro k L σ hk P M hl
    have hP := P
    obtain ⟨p1, p2, p3, p4, p5, p6, p7, p8⟩ := hP
    obtain ⟨s1, e1, e2, e3⟩ := d319m (v := X k) M (by omega)
    obtain ⟨s', a1, a2, a3⟩ := ih (k + 1) (L ++ [X k]) s1 (by omega) (PG_fr e3 P) e2 (by rw [List.length_append, List.length_singleton]; omega)
    rw [rl_c] at a2
    refine ⟨s', fun d9 d16 {o} hh => b331_280 ?_, a2, fun c x y1 y2 => by rw [a3 c x y1 y2]; exact e3 c x y1 y2⟩
    rw [if_pos (by omega), show (100 * (s : Int) + (k : Int)).toNat = 100 * s + k by omega, p7 k (by omega), show (k : Int) + 1 = ((k + 1 : Nat) : Int) by omega]
    exact ⟨by omega, by omega, by omega, s1, e1, by omega, a1 _ _ hh⟩
theorem l331e {s nb na : Nat} {X N : Nat → Int} {l : List St} {x8 : Int} : ∀ (d k : Nat) (L : List Int) (σ : Sg), k + d = nb → PG σ s 0 nb na X N l → σ 688 s = (nb : Nat) → MD σ L → L.length + d ≤ 150 → ∃ s', (∀ d2 d3 d4 d5 d6 d7 d10 d11 d12 d13 d14 d15 d16, C331_488 s d2 d3 d4 d5 d6 d7 x8 k d10 d11 d12 d13 d14 d15 d16 σ (rI x8 s')) ∧ MD s' (L ++ rlZ X k d) ∧ ∀ c x, ¬ c = 705 → ¬ (c = 682 ∧ x = 32) → s' c x = σ c x := by
  intro d
  induction d with
  | zero =>
    intro k L σ hk P hn M hl
    obtain ⟨p1, p2, p3, p4, p5, p6, p7, p8⟩ := P
    refine ⟨σ, fun d2 d3 d4 d5 d6 d7 d10 d11 d12 d13 d14 d15 d16 => b331_488 ⟨by omega, ?_⟩, by rw [rl_0]; exact M, fun _ _ _ _ => rfl⟩
    rw [tn, hn, if_neg (by omega)]
  | succ d ih =>
    intro k L σ hk P hn M hl
    have hP := P
    obtain ⟨p1, p2, p3, p4, p5, p6, p7, p8⟩ := hP
    obtain ⟨s1, e1, e2, e3⟩ := d319m (v := X k) M (by omega)
    obtain ⟨s', a1, a2, a3⟩ := ih (k + 1) (L ++ [X k]) s1 (by omega) (PG_fr e3 P) (by rw [e3 _ _ (by omega) (by omega)]; exact hn) e2 (by rw [List.length_append, List.length_singleton]; omega)
    rw [rl_c] at a2
    refine ⟨s', fun d2 d3 d4 d5 d6 d7 d10 d11 d12 d13 d14 d15 d16 => b331_488 ⟨by omega, ?_⟩, a2, fun c x y1 y2 => by rw [a3 c x y1 y2]; exact e3 c x y1 y2⟩
    rw [tn, hn, if_pos (by omega), show (100 * (s : Int) + (k : Int)).toNat = 100 * s + k by omega, p7 k (by omega), show (k : Int) + 1 = ((k + 1 : Nat) : Int) by omega]
    exact ⟨by omega, by omega, by omega, s1, e1, by omega, a1 _ _ _ _ _ _ _ _ _ _ _ _ _⟩
/-- one group -/
theorem l331g {s t nb na nc : Nat} {FA FB X NA NB : Nat → Int} {A B : List St} {σ : Sg} {L : List Int} {a b p lo a' b' hi mk : Nat} (M : mgD FA FB X NA NB nb na nc A B) (PA : PG σ s 0 nb na X NA A) (PB : PG σ t 128 nb nc X NB B) (R : MD σ L) (hp : p ≤ lo) (hlo : lo ≤ hi ∧ hi ≤ nb) (ha : a ≤ a' ∧ a' ≤ A.length) (hb : b ≤ b' ∧ b' ≤ B.length) (h0 : a < a' ∨ b < b') (h1 : b' = b → a' = a + 1) (h2 : a' = a → b' = b + 1) (pA : peo A a 0 ≤ lo ∧ lo ≤ gnd nb A a ∧ peo A a' 0 ≤ hi ∧ hi ≤ gnd nb A a') (pB : peo B b 0 ≤ lo ∧ lo ≤ gnd nb B b ∧ peo B b' 0 ≤ hi ∧ hi ≤ gnd nb B b') (hl : L.length + (lo - p) + (gpF NA NB A B a b a' b' lo hi).1.length ≤ 150) (hmk : mk ≤ 100) : ∃ s', (∀ {o : Rs} (d9 d16 : Option AV), (∀ d9 d10 d11 d12 d13 d14 d15 d16, C331_38 s t ((0 + a' : Nat) : Int) ((128 + b' : Nat) : Int) (A.length : Nat) ((128 + B.length : Nat) : Int) hi ((mk + (gpF NA NB A B a b a' b' lo hi).2 : Nat) : Int) d9 d10 d11 d12 d13 d14 d15 d16 s' o) → C331_280 s t ((0 + a : Nat) : Int) ((128 + b : Nat) : Int) (A.length : Nat) ((128 + B.length : Nat) : Int) (some (vI p)) mk d9 lo hi ((0 + a' : Nat) : Int) ((128 + b' : Nat) : Int) (some (vI 0)) p d16 σ o) ∧ MD s' (L ++ rlZ X p (lo - p) ++ (gpF NA NB A B a b a' b' lo hi).1) ∧ ∀ c x, ¬ c = 705 → ¬ (c = 682 ∧ x = 32) → s' c x = σ c x := by
  have hM := M
  obtain ⟨m1, m2, m3, m4, m5, DA, DB, EA, EB⟩ := hM
  obtain ⟨s1, k1, k2, k3⟩ := l331p (t := t) (x2 := (t : Int)) (x3 := ((0 + a : Nat) : Int)) (x4 := ((128 + b : Nat) : Int)) (x5 := (A.length : Nat)) (x6 := ((128 + B.length : Nat) : Int)) (x8 := (mk : Int)) (x11 := (hi : Int)) (x12 := ((0 + a' : Nat) : Int)) (x13 := ((128 + b' : Nat) : Int)) (d7 := some (vI p)) (d14 := some (vI 0)) (show lo ≤ nb by omega) (by omega) (by omega) (by omega) (lo - p) p L σ (by omega) PA R (by omega)
  have PA1 := PG_fr k3 PA
  have PB1 := PG_fr k3 PB
  have e330 := fun (h1 : a < A.length) (h2 : b < B.length) => d330 DA DB PA1 PB1 h1 h2
  -- the side of one patch, and on
  have fin : ∀ (s' : Sg) (m : Nat) {o : Rs} (d3 d4 d7 d9 d10 d14 d15 d16 : Option AV), (∀ d9 d10 d11 d12 d13 d14 d15 d16, C331_38 s t ((0 + a' : Nat) : Int) ((128 + b' : Nat) : Int) (A.length : Nat) ((128 + B.length : Nat) : Int) hi m d9 d10 d11 d12 d13 d14 d15 d16 s' o) → C331_470 s t d3 d4 (A.length : Nat) ((128 + B.length : Nat) : Int) d7 m d9 d10 hi ((0 + a' : Nat) : Int) ((128 + b' : Nat) : Int) d14 d15 d16 s' o := fun s' m {o} d3 d4 d7 d9 d10 d14 d15 d16 hh => b331_470 (hh _ _ _ _ _ _ _ _)
  by_cases y : b' = b ∨ (a' = a + 1 ∧ b' = b + 1 ∧ saP NA NB A B a b)
  · have eg : gpF NA NB A B a b a' b' lo hi = (sdF NA A a a' lo hi, 0) := if_pos y
    rw [eg] at hl ⊢
    have hl : L.length + (lo - p) + (sdF NA A a a' lo hi).length ≤ 150 := hl
    have haa : a' = a + 1 := by
      rcases y with e | e
      · exact h1 e
      · exact e.1
    obtain ⟨s2, u1, u2, u3⟩ := d328 DA EA PA1 k2 ha.1 ha.2 pA.1 pA.2.1 hlo.1 pA.2.2.1 pA.2.2.2 hlo.2 (by rw [List.length_append, rl_len]; omega)
    have z376 : ∀ {o : Rs} (d9 d15 d16 : Option AV), (∀ d9 d10 d11 d12 d13 d14 d15 d16, C331_38 s t ((0 + a' : Nat) : Int) ((128 + b' : Nat) : Int) (A.length : Nat) ((128 + B.length : Nat) : Int) hi ((mk + 0 : Nat) : Int) d9 d10 d11 d12 d13 d14 d15 d16 s2 o) → C331_376 s t ((0 + a : Nat) : Int) ((128 + b : Nat) : Int) (A.length : Nat) ((128 + B.length : Nat) : Int) (some (vI p)) mk d9 lo hi ((0 + a' : Nat) : Int) ((128 + b' : Nat) : Int) (some (vI 0)) d15 d16 s1 o := fun {o} d9 d15 d16 hh => by
      refine b331_376 ?_
      rw [if_pos (by omega)]
      refine b331_388 ?_
      rw [if_pos (by omega)]
      refine b331_400 ?_
      rw [if_pos (by omega)]
      exact b331_413 ⟨s2, u1, fin s2 mk _ _ _ _ _ _ _ _ hh⟩
    refine ⟨s2, fun {o} d9 d16 hh => k1 d9 d16 (fun d15 => b331_328 ⟨by omega, ?_⟩), u2, fun c x y1 y2 => by rw [u3 c x y1 y2]; exact k3 c x y1 y2⟩
    rw [if_pos (show ((0 + a' : Nat) : Int) - ((0 + a : Nat) : Int) = 1 by omega)]
    refine ⟨by omega, ?_⟩
    by_cases y2 : b' = b
    · rw [if_neg (show ¬ ((128 + b' : Nat) : Int) - ((128 + b : Nat) : Int) = 1 by omega), if_pos (show ((0 + a' : Nat) : Int) - ((0 + a : Nat) : Int) + ((128 + b' : Nat) : Int) - ((128 + b : Nat) : Int) = 1 by omega)]
      refine b331_363 (b331_364 ?_)
      rw [if_neg (show ¬ (1 : Int) = 0 by decide)]
      exact z376 _ _ _ hh
    · have y3 : a' = a + 1 ∧ b' = b + 1 ∧ saP NA NB A B a b := by
        rcases y with e | e
        · exact absurd e y2
        · exact e
      rw [if_pos (show ((128 + b' : Nat) : Int) - ((128 + b : Nat) : Int) = 1 by omega), if_neg (show ¬ ((0 + a' : Nat) : Int) - ((0 + a : Nat) : Int) + ((128 + b' : Nat) : Int) - ((128 + b : Nat) : Int) = 1 by omega)]
      refine ⟨_, _, e330 (by omega) (by omega), ?_⟩
      rw [WI_1 y3.2.2, if_neg (show ¬ (1 : Int) = 0 by decide)]
      refine b331_364 ?_
      rw [if_pos rfl, if_neg (show ¬ (1 : Int) = 0 by decide)]
      exact z376 _ _ _ hh
  · have y2 : ¬ b' = b := fun e => y (Or.inl e)
    by_cases y4 : a' = a
    · have eg : gpF NA NB A B a b a' b' lo hi = (sdF NB B b b' lo hi, 0) := (if_neg y).trans (if_pos y4)
      rw [eg] at hl ⊢
      have hl : L.length + (lo - p) + (sdF NB B b b' lo hi).length ≤ 150 := hl
      have hbb := h2 y4
      obtain ⟨s2, u1, u2, u3⟩ := d328 DB EB PB1 k2 hb.1 hb.2 pB.1 pB.2.1 hlo.1 pB.2.2.1 pB.2.2.2 hlo.2 (by rw [List.length_append, rl_len]; omega)
      refine ⟨s2, fun {o} d9 d16 hh => k1 d9 d16 (fun d15 => b331_328 ⟨by omega, ?_⟩), u2, fun c x y1 y2 => by rw [u3 c x y1 y2]; exact k3 c x y1 y2⟩
      rw [if_neg (show ¬ ((0 + a' : Nat) : Int) - ((0 + a : Nat) : Int) = 1 by omega), if_pos (show ((0 + a' : Nat) : Int) - ((0 + a : Nat) : Int) + ((128 + b' : Nat) : Int) - ((128 + b : Nat) : Int) = 1 by omega)]
      refine b331_363 (b331_364 ?_)
      rw [if_neg (show ¬ (1 : Int) = 0 by decide)]
      refine b331_376 ?_
      rw [if_neg (by omega)]
      refine b331_388 ?_
      rw [if_neg (by omega)]
      refine b331_400 ?_
      rw [if_neg (by omega)]
      exact b331_413 ⟨s2, u1, fin s2 mk _ _ _ _ _ _ _ _ hh⟩
    · have eg : gpF NA NB A B a b a' b' lo hi = (50001 :: (sdF NA A a a' lo hi ++ 50002 :: (sdF NB B b b' lo hi ++ [50003])), 1) := (if_neg y).trans (if_neg y4)
      rw [eg] at hl ⊢
      have hl : L.length + (lo - p) + (50001 :: (sdF NA A a a' lo hi ++ 50002 :: (sdF NB B b b' lo hi ++ [50003]))).length ≤ 150 := hl
      rw [List.length_cons, List.length_append, List.length_cons, List.length_append, List.length_singleton] at hl
      obtain ⟨s2, u1, u2, u3⟩ := d319m (v := 50001) k2 (by rw [List.length_append, rl_len]; omega)
      have PA2 := PG_fr u3 PA1
      obtain ⟨s3, v1, v2, v3⟩ := d328 DA EA PA2 u2 ha.1 ha.2 pA.1 pA.2.1 hlo.1 pA.2.2.1 pA.2.2.2 hlo.2 (by rw [List.length_append, List.length_append, rl_len, List.length_singleton]; omega)
      obtain ⟨s4, w1, w2, w3⟩ := d319m (v := 50002) v2 (by rw [List.length_append, List.length_append, List.length_append, rl_len, List.length_singleton]; omega)
      have PB4 := PG_fr w3 (PG_fr v3 (PG_fr u3 PB1))
      obtain ⟨s5, x1, x2, x3⟩ := d328 DB EB PB4 w2 hb.1 hb.2 pB.1 pB.2.1 hlo.1 pB.2.2.1 pB.2.2.2 hlo.2 (by rw [List.length_append, List.length_append, List.length_append, List.length_append, rl_len, List.length_singleton, List.length_singleton]; omega)
      obtain ⟨s6, z1, z2, z3⟩ := d319m (v := 50003) x2 (by rw [List.length_append, List.length_append, List.length_append, List.length_append, List.length_append, rl_len, List.length_singleton, List.length_singleton]; omega)
      have fr : ∀ c x, ¬ c = 705 → ¬ (c = 682 ∧ x = 32) → s6 c x = σ c x := fun c x y1 y2 => by rw [z3 c x y1 y2, x3 c x y1 y2, w3 c x y1 y2, v3 c x y1 y2, u3 c x y1 y2]; exact k3 c x y1 y2
      have z364 : ∀ {o : Rs} (d9 d16 : Option AV), (∀ d9 d10 d11 d12 d13 d14 d15 d16, C331_38 s t ((0 + a' : Nat) : Int) ((128 + b' : Nat) : Int) (A.length : Nat) ((128 + B.length : Nat) : Int) hi ((mk + 1 : Nat) : Int) d9 d10 d11 d12 d13 d14 d15 d16 s6 o) → C331_364 s t ((0 + a : Nat) : Int) ((128 + b : Nat) : Int) (A.length : Nat) ((128 + B.length : Nat) : Int) (some (vI p)) mk d9 lo hi ((0 + a' : Nat) : Int) ((128 + b' : Nat) : Int) (some (vI 0)) 0 d16 0 s1 o := fun {o} d9 d16 hh => by
        refine b331_364 ?_
        rw [if_pos rfl, if_pos rfl]
        refine ⟨s2, u1, s3, v1, s4, w1, s5, x1, s6, z1, by omega, ?_⟩
        rw [show (mk : Int) + 1 = ((mk + 1 : Nat) : Int) by omega]
        exact fin s6 (mk + 1) _ _ _ _ _ _ _ _ hh
      refine ⟨s6, fun {o} d9 d16 hh => k1 d9 d16 (fun d15 => b331_328 ⟨by omega, ?_⟩), ?_, fr⟩
      · rw [if_neg (show ¬ ((0 + a' : Nat) : Int) - ((0 + a : Nat) : Int) + ((128 + b' : Nat) : Int) - ((128 + b : Nat) : Int) = 1 by omega)]
        by_cases y5 : a' = a + 1
        · rw [if_pos (by omega)]
          refine ⟨by omega, ?_⟩
          by_cases y6 : b' = b + 1
          · rw [if_pos (by omega)]
            refine ⟨_, _, e330 (by omega) (by omega), ?_⟩
            rw [WI_0 (fun e => y (Or.inr ⟨y5, y6, e⟩)), if_pos rfl]
            exact b331_363 (z364 _ _ hh)
          · rw [if_neg (by omega)]
            exact b331_363 (z364 _ _ hh)
        · rw [if_neg (by omega)]
          exact b331_363 (z364 _ _ hh)
      · have ea : L ++ rlZ X p (lo - p) ++ [50001] ++ sdF NA A a a' lo hi ++ [50002] ++ sdF NB B b b' lo hi ++ [50003] = L ++ rlZ X p (lo - p) ++ (50001 :: (sdF NA A a a' lo hi ++ 50002 :: (sdF NB B b b' lo hi ++ [50003]))) := by
          simp only [List.append_assoc, List.cons_append, List.nil_append]
        rw [ea] at z2
        exact z2
/-- all groups -/
theorem l331 {s t nb na nc : Nat} {FA FB X NA NB : Nat → Int} {A B : List St} (M : mgD FA FB X NA NB nb na nc A B) : ∀ (w a b p mk : Nat) (L : List Int) (σ : Sg), (A.length - a) + (B.length - b) ≤ w → w ≤ 34 → mk + w ≤ 34 → mgI nb A B a b p → PG σ s 0 nb na X NA A → PG σ t 128 nb nc X NB B → σ 688 s = (nb : Nat) → MD σ L → L.length + (mgF X NA NB nb A B w a b p).1.length ≤ 150 → ∃ s', (∀ d9 d10 d11 d12 d13 d14 d15 d16, C331_38 s t ((0 + a : Nat) : Int) ((128 + b : Nat) : Int) (A.length : Nat) ((128 + B.length : Nat) : Int) p mk d9 d10 d11 d12 d13 d14 d15 d16 σ (rI ((mk + (mgF X NA NB nb A B w a b p).2 : Nat) : Int) s')) ∧ MD s' (L ++ (mgF X NA NB nb A B w a b p).1) ∧ ∀ c x, ¬ c = 705 → ¬ (c = 682 ∧ x = 32) → s' c x = σ c x := by
  have hM := M
  obtain ⟨m1, m2, m3, m4, m5, DA, DB, EA, EB⟩ := hM
  have fin : ∀ (w a b p mk : Nat) (L : List Int) (σ : Sg), mgI nb A B a b p → PG σ s 0 nb na X NA A → σ 688 s = (nb : Nat) → MD σ L → ¬ (a < A.length ∨ b < B.length) → L.length + (mgF X NA NB nb A B w a b p).1.length ≤ 150 → ∃ s', (∀ d9 d10 d11 d12 d13 d14 d15 d16, C331_38 s t ((0 + a : Nat) : Int) ((128 + b : Nat) : Int) (A.length : Nat) ((128 + B.length : Nat) : Int) p mk d9 d10 d11 d12 d13 d14 d15 d16 σ (rI ((mk + (mgF X NA NB nb A B w a b p).2 : Nat) : Int) s')) ∧ MD s' (L ++ (mgF X NA NB nb A B w a b p).1) ∧ ∀ c x, ¬ c = 705 → ¬ (c = 682 ∧ x = 32) → s' c x = σ c x := by
    intro w a b p mk L σ I PA hn R he hl
    rw [mgF_e he] at hl ⊢
    have hl : L.length + (rlZ X p (nb - p)).length ≤ 150 := hl
    rw [rl_len] at hl
    obtain ⟨s', a1, a2, a3⟩ := l331e (x8 := (mk : Int)) (nb - p) p L σ (by have := I.2.2.1; omega) PA hn R (by omega)
    refine ⟨s', fun d9 d10 d11 d12 d13 d14 d15 d16 => b331_38 ?_, a2, a3⟩
    rw [if_pos (by omega), if_neg (by omega)]
    exact a1 _ _ _ _ _ _ _ _ _ _ _ _ _
  intro w
  induction w with
  | zero =>
    intro a b p mk L σ hw _ _ I PA PB hn R hl
    exact fin 0 a b p mk L σ I PA hn R (by omega) hl
  | succ w ih =>
    intro a b p mk L σ hw hw2 hw3 I PA PB hn R hl
    by_cases he : a < A.length ∨ b < B.length
    · obtain ⟨lo, hlo⟩ : ∃ lo, lo = min (sO A a) (sO B b) := ⟨_, rfl⟩
      obtain ⟨a', b', hi, hc⟩ : ∃ a' b' hi, clo A B (A.length + B.length) a b lo = (a', b', hi) := ⟨_, _, _, rfl⟩
      obtain ⟨g1, g2, g3, g4, g5, g6, g7, g8, g9, g10, g11, g12, g13, g14, g15, g16, g17⟩ := mg_grp (by omega) DA DB I he hlo hc
      rw [mgF_s he hlo hc] at hl ⊢
      have hl : L.length + (rlZ X p (lo - p) ++ ((gpF NA NB A B a b a' b' lo hi).1 ++ (mgF X NA NB nb A B w a' b' hi).1)).length ≤ 150 := hl
      rw [List.length_append, List.length_append, rl_len] at hl
      have z2 : (gpF NA NB A B a b a' b' lo hi).2 ≤ 1 := by
        unfold gpF
        split
        · exact Nat.zero_le _
        · split
          · exact Nat.zero_le _
          · exact Nat.le_refl _
      obtain ⟨s1, k1, k2, k3⟩ := l331g (mk := mk) M PA PB R g1 ⟨g2, g3⟩ ⟨g4, g5⟩ ⟨g6, g7⟩ g8 g9 g10 ⟨g12, g14, g11.2.2.2.1, g16⟩ ⟨g13, g15, g11.2.2.2.2.1, g17⟩ (by omega) (by omega)
      obtain ⟨s', a1, a2, a3⟩ := ih a' b' hi (mk + (gpF NA NB A B a b a' b' lo hi).2) (L ++ rlZ X p (lo - p) ++ (gpF NA NB A B a b a' b' lo hi).1) s1 (by omega) (by omega) (by omega) g11 (PG_fr k3 PA) (PG_fr k3 PB) (by rw [k3 _ _ (by omega) (by omega)]; exact hn) k2 (by rw [List.length_append, List.length_append, rl_len]; omega)
      have em : mk + (gpF NA NB A B a b a' b' lo hi).2 + (mgF X NA NB nb A B w a' b' hi).2 = mk + ((gpF NA NB A B a b a' b' lo hi).2 + (mgF X NA NB nb A B w a' b' hi).2) := by omega
      rw [em] at a1
      -- the first hunk of the group
      have z280 : ∀ (d9 d16 : Option AV), C331_280 s t ((0 + a : Nat) : Int) ((128 + b : Nat) : Int) (A.length : Nat) ((128 + B.length : Nat) : Int) (some (vI p)) mk d9 lo hi ((0 + a' : Nat) : Int) ((128 + b' : Nat) : Int) (some (vI 0)) p d16 σ (rI ((mk + ((gpF NA NB A B a b a' b' lo hi).2 + (mgF X NA NB nb A B w a' b' hi).2) : Nat) : Int) s') := fun d9 d16 => k1 d9 d16 (fun d9 d10 d11 d12 d13 d14 d15 d16 => a1 d9 d10 d11 d12 d13 d14 d15 d16)
      have lon : lo ≤ 16 := by omega
      have hPA := PA
      have hPB := PB
      obtain ⟨p1, p2, p3, p4, p5, p6, p7, p8⟩ := hPA
      obtain ⟨u1, u2, u3, u4, u5, u6, u7, u8⟩ := hPB
      have z51 : ∀ (d9 d10 d11 d12 d13 d14 d15 d16 : Option AV), C331_51 s t ((0 + a : Nat) : Int) ((128 + b : Nat) : Int) (A.length : Nat) ((128 + B.length : Nat) : Int) p mk d9 d10 d11 d12 d13 d14 d15 d16 σ (rI ((mk + ((gpF NA NB A B a b a' b' lo hi).2 + (mgF X NA NB nb A B w a' b' hi).2) : Nat) : Int) s') := by
        intro d9 d10 d11 d12 d13 d14 d15 d16
        by_cases y : sO A a ≤ lo
        · -- it is one of the first patch
          have l1 := sO_lt (by omega) y
          obtain ⟨q, hq⟩ : ∃ q, A[a]? = some q := ⟨_, List.getElem?_eq_getElem l1⟩
          have bq := (DS_b A 0 0 0 DA).2.2 q (List.mem_of_getElem? hq)
          obtain ⟨v0, -⟩ := p6 a q hq
          have e1 := d281o PA hq (by omega)
          have sq := sO_s hq
          have eq := eO_s hq
          have hc2 : clo A B (A.length + B.length) (a + 1) b (q.1 + q.2.1) = (a', b', hi) := by
            obtain ⟨v, hv⟩ : ∃ v, A.length + B.length = v + 1 := ⟨A.length + B.length - 1, by omega⟩
            rw [hv, clo_A y, show max lo (eO A a) = q.1 + q.2.1 by omega] at hc
            rw [clo_w (w := A.length + B.length) (w' := v) (fun k => by
              unfold eO
              split
              · next r hr => have := (DS_b A 0 0 0 DA).2.2 r (List.mem_of_getElem? hr); omega
              · omega) (fun k => by
              unfold eO
              split
              · next r hr => have := (DS_b B 0 0 0 DB).2.2 r (List.mem_of_getElem? hr); omega
              · omega) (a + 1) b (q.1 + q.2.1) (by omega) (by omega) (by omega)]
            exact hc
          have z80 : C331_80 s t ((0 + a : Nat) : Int) ((128 + b : Nat) : Int) (A.length : Nat) ((128 + B.length : Nat) : Int) p mk d9 d10 d11 d12 d13 d14 d15 d16 σ (rI ((mk + ((gpF NA NB A B a b a' b' lo hi).2 + (mgF X NA NB nb A B w a' b' hi).2) : Nat) : Int) s') := by
            refine b331_80 (b331_85 ⟨fun e => absurd e (by decide), fun _ => by omega, ?_⟩)
            rw [if_neg (show ¬ (1 : Int) = 0 by decide), tn, v0, show ((q.1 : Nat) : Int) = (lo : Int) by omega]
            refine b331_108 ?_
            rw [if_neg (show ¬ (1 : Int) = 0 by decide)]
            refine ⟨_, _, e1, b331_129 ⟨fun _ => by omega, ?_⟩⟩
            rw [if_neg (show ¬ (1 : Int) = 0 by decide)]
            refine b331_143 ⟨fun e => absurd e (by decide), ?_⟩
            rw [if_neg (show ¬ (1 : Int) = 0 by decide)]
            refine b331_159 (b331_164 ?_)
            rw [if_neg (show ¬ (1 : Int) = 0 by decide), show ((0 + a : Nat) : Int) + 1 = ((0 + (a + 1) : Nat) : Int) by omega]
            exact l331c M PA PB (z280 _ _) (A.length + B.length) (a + 1) b (q.1 + q.2.1) 0 d15 (by omega) hc2 (by omega)
          refine b331_51 ?_
          by_cases y2 : b < B.length
          · obtain ⟨r, hr⟩ : ∃ r, B[b]? = some r := ⟨_, List.getElem?_eq_getElem y2⟩
            obtain ⟨w0, -⟩ := u6 b r hr
            have sr := sO_s hr
            rw [if_neg (by omega), if_pos (by omega), tn, v0, tn, w0, if_pos (by omega)]
            exact ⟨by omega, by omega, z80⟩
          · rw [if_pos (by omega)]
            exact z80
        · -- it is one of the second patch
          have y1 : sO B b ≤ lo := by omega
          have l1 := sO_lt (by omega) y1
          obtain ⟨q, hq⟩ : ∃ q, B[b]? = some q := ⟨_, List.getElem?_eq_getElem l1⟩
          have bq := (DS_b B 0 0 0 DB).2.2 q (List.mem_of_getElem? hq)
          obtain ⟨v0, -⟩ := u6 b q hq
          have e1 := d281o PB hq (by omega)
          have sq := sO_s hq
          have eq := eO_s hq
          have hc2 : clo A B (A.length + B.length) a (b + 1) (q.1 + q.2.1) = (a', b', hi) := by
            obtain ⟨v, hv⟩ : ∃ v, A.length + B.length = v + 1 := ⟨A.length + B.length - 1, by omega⟩
            rw [hv, clo_B y y1, show max lo (eO B b) = q.1 + q.2.1 by omega] at hc
            rw [clo_w (w := A.length + B.length) (w' := v) (fun k => by
              unfold eO
              split
              · next r hr => have := (DS_b A 0 0 0 DA).2.2 r (List.mem_of_getElem? hr); omega
              · omega) (fun k => by
              unfold eO
              split
              · next r hr => have := (DS_b B 0 0 0 DB).2.2 r (List.mem_of_getElem? hr); omega
              · omega) a (b + 1) (q.1 + q.2.1) (by omega) (by omega) (by omega)]
            exact hc
          have z84 : C331_84 s t ((0 + a : Nat) : Int) ((128 + b : Nat) : Int) (A.length : Nat) ((128 + B.length : Nat) : Int) p mk d9 d10 d11 d12 d13 d14 d15 d16 σ (rI ((mk + ((gpF NA NB A B a b a' b' lo hi).2 + (mgF X NA NB nb A B w a' b' hi).2) : Nat) : Int) s') := by
            refine b331_84 (b331_85 ⟨fun _ => by omega, fun e => absurd rfl e, ?_⟩)
            rw [if_pos rfl, tn, v0, show ((q.1 : Nat) : Int) = (lo : Int) by omega]
            refine b331_108 ?_
            rw [if_pos rfl]
            refine ⟨_, _, e1, b331_129 ⟨fun e => absurd rfl e, ?_⟩⟩
            rw [if_pos rfl]
            refine b331_143 ⟨fun _ => by omega, ?_⟩
            rw [if_pos rfl]
            refine b331_159 (b331_164 ?_)
            rw [if_neg (show ¬ (1 : Int) = 0 by decide), show ((128 + b : Nat) : Int) + 1 = ((128 + (b + 1) : Nat) : Int) by omega]
            exact l331c M PA PB (z280 _ _) (A.length + B.length) a (b + 1) (q.1 + q.2.1) 0 d15 (by omega) hc2 (by omega)
          refine b331_51 ?_
          rw [if_neg (by omega)]
          by_cases y2 : a < A.length
          · obtain ⟨r, hr⟩ : ∃ r, A[a]? = some r := ⟨_, List.getElem?_eq_getElem y2⟩
            obtain ⟨w0, -⟩ := p6 a r hr
            have sr := sO_s hr
            rw [if_pos (by omega), tn, w0, tn, v0, if_neg (by omega)]
            exact ⟨by omega, by omega, z84⟩
          · rw [if_neg (by omega)]
            exact z84
      refine ⟨s', fun d9 d10 d11 d12 d13 d14 d15 d16 => b331_38 ?_, by rw [List.append_assoc, List.append_assoc] at a2; exact a2, fun c x y1 y2 => by rw [a3 c x y1 y2]; exact k3 c x y1 y2⟩
      by_cases y : a < A.length
      · rw [if_neg (by omega)]
        exact z51 _ _ _ _ _ _ _ _
      · rw [if_pos (by omega), if_pos (by omega)]
        exact z51 _ _ _ _ _ _ _ _
    · exact fin (w + 1) a b p mk L σ I PA hn R he hl
end
