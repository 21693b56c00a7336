/-! pairOf, kept. -/
noncomputable section
theorem d236_ok {w : Int} {σ : Sg} (h : 0 ≤ w ∧ w < 3) : Dd 236 [vA 0, vI w] σ (rV σ) := by
  refine b236 ?_
  by_cases y0 : w = 0
  · rw [if_pos y0]
  · rw [if_neg y0]
    by_cases y1 : w = 1
    · rw [if_pos y1]
    · rw [if_neg y1, if_pos (by omega)]
theorem d236_x {w : Int} {σ : Sg} (h : ¬ (0 ≤ w ∧ w < 3)) : Dd 236 [vA 0, vI w] σ (rX 1 σ) := by
  refine b236 ?_
  rw [if_neg (by omega), if_neg (by omega), if_neg (by omega)]
theorem d275 {w : Int} {σ : Sg} : Dd 275 [vI w] σ (rI (if 0 ≤ w ∧ w < 3 then 1 else 0) σ) := by
  refine b275 ⟨_, _, d246, ?_, rfl⟩
  by_cases y : 0 ≤ w ∧ w < 3
  · rw [if_pos y]; exact Or.inr rfl
  · rw [if_neg y]; exact Or.inl rfl
/-- the reference: two texts compared -/
theorem d276c {t u n1 n2 : Nat} {way : Int} {σ : Sg} {f g : Nat → Int} (ht : t < 4) (hu : u < 4) (h1 : σ 684 t = (n1 : Nat)) (h2 : σ 684 u = (n2 : Nat)) (h3 : n1 ≤ 16) (h4 : n2 ≤ 16) (hf : ∀ i, i < n1 → σ 683 (16 * t + i) = f i) (hg : ∀ i, i < n2 → σ 683 (16 * u + i) = g i) : ∃ s1 s2, Dd 276 [vA 682, vI t, vI u] σ (rV s1) ∧ Dd 274 [vA 682, vI way] s1 (rI ((n1 : Int) - cnt (mtc way f g n1 n2) (-1) 0 n1) s2) ∧ (∀ x, x < n1 → s2 693 x = mtc way f g n1 n2 x) ∧ MRw s1 f g n1 n2 ∧ s1 682 12 = (n1 : Nat) ∧ s1 682 13 = (n2 : Nat) ∧ (∀ c x, ¬ c = 691 → ¬ c = 692 → ¬ (c = 682 ∧ (x = 12 ∨ x = 13)) → s1 c x = σ c x) ∧ ∀ c x, ¬ (691 ≤ c ∧ c ≤ 694) → ¬ (696 ≤ c ∧ c ≤ 699) → ¬ (c = 682 ∧ 12 ≤ x ∧ x ≤ 22) → s2 c x = σ c x := by
  obtain ⟨s1, a1, a2, a3, a4, a5, a6⟩ := d276 ht hu h1 h2 h3 h4
  have R : MRw s1 f g n1 n2 := ⟨by omega, by omega, fun i hi => by rw [a2 i hi]; exact hf i hi, fun i hi => by rw [a3 i hi]; exact hg i hi⟩
  obtain ⟨s2, e1, e2, e3⟩ := d274 (way := way) R a4 a5
  exact ⟨s1, s2, a1, e1, e2, R, a4, a5, a6, fun c x y1 y2 y3 => by rw [e3 c x (by omega) y2 (by omega), a6 c x (by omega) (by omega) (by omega)]⟩
theorem o6 {σ : Sg} {c a1 a2 a3 a4 : Int} (H : Rel c σ) : OpR 396 277 [vA 0, vI a1, vI a2, vI a3, vI a4, vA 726] [vA 682, vI a1, vI a2, vI a3, vI a4] σ (c + 1) := by
  by_cases g1 : a1 < 0
  · exact x6_0 H g1
  by_cases g2 : 4 ≤ a1
  · exact x6_1 H g2
  by_cases g3 : a2 < 0
  · exact x6_2 H (by omega) g3
  by_cases g4 : 4 ≤ a2
  · exact x6_3 H (by omega) g4
  by_cases g5 : a4 < 0
  · exact x6_4 H (by omega) (by omega) g5
  by_cases g6 : σ (2 + 2 * a1.toNat) 1 ≤ a4
  · exact x6_5 H (by omega) (by omega) g6
  obtain ⟨t, rfl⟩ := Int.eq_ofNat_of_zero_le (show 0 ≤ a1 by omega)
  obtain ⟨u, rfl⟩ := Int.eq_ofNat_of_zero_le (show 0 ≤ a2 by omega)
  obtain ⟨p, rfl⟩ := Int.eq_ofNat_of_zero_le (show 0 ≤ a4 by omega)
  rw [tn] at g6
  obtain ⟨n1, b1, r1, z1, m1, v1, -⟩ := rt_two H (t := t) (by omega)
  obtain ⟨n2, b2, r2, z2, m2, v2, -⟩ := rt_two H (t := u) (by omega)
  have e227 := d227_ok (σ := σ) (t := (t : Int)) (by omega)
  have f227 := d227_ok (σ := σ) (t := (u : Int)) (by omega)
  rw [tn] at e227 f227
  have e146 := d146 (σ := σ) r1
  rw [z1] at e146
  have e232 := d232_ok (σ := σ) (i := (p : Int)) (n := (n1 : Int)) (by omega)
  have k277 : ∀ {σ' : Sg} {o : Rs}, σ' 684 t = (n1 : Nat) → C277_33 (t : Int) (u : Int) a3 (p : Int) none none 1 σ' o → Dd 277 [vA 682, vI t, vI u, vI a3, vI p] σ' o := by
    intro σ' o hs hh
    refine b277 ⟨_, _, d247_ok (by omega), ?_⟩
    rw [if_neg (show ¬ (1 : Int) = 0 by decide)]
    refine ⟨_, _, d247_ok (by omega), ?_⟩
    rw [if_neg (show ¬ (1 : Int) = 0 by decide), tn, hs]
    refine ⟨by omega, _, _, d246, ?_⟩
    rw [if_pos (show 0 ≤ (p : Int) ∧ (p : Int) < (n1 : Nat) by omega), if_neg (show ¬ (1 : Int) = 0 by decide)]
    exact hh
  by_cases g7 : 0 ≤ a3 ∧ a3 < 3
  · obtain ⟨s1, a1', W1, a4', a5', a6'⟩ := d15 (way := a3) H.1 r1 r2 z1 z2 (by omega) (by omega) (by omega) (by omega)
    obtain ⟨M, hM⟩ : ∃ M, M = mtc a3 (σ (2 + 2 * t + 1)) (σ (2 + 2 * u + 1)) n1 n2 := ⟨_, rfl⟩
    rw [← hM] at a5'
    have q147 := d147 (σ := s1) (a := 337) (i := (p : Int)) (WF_w W1 (by decide +kernel))
    rw [at_on (n := n1) (f := M) a4' a5' (by omega)] at q147
    have hA := b396 (Or.inl ⟨_, _, b178 (Or.inl ⟨_, _, e227, r1, Or.inl ⟨_, _, f227, r2, _, _, e146, Or.inl ⟨_, e232, Or.inl ⟨_, d236_ok g7, _, _, a1', by decide +kernel, _, _, q147, rfl⟩⟩⟩⟩), rfl⟩)
    have s2m : ∀ a x, 682 ≤ a → ¬ a = 726 → ¬ (a = 682 ∧ x = 0) → upS (upS s1 726 ((0 : Int).toNat) (M p)) 682 0 0 a x = σ a x := by
      intro a x y1 y2 y3
      have : upS (upS s1 726 ((0 : Int).toNat) (M p)) 682 0 0 a x = upS s1 726 ((0 : Int).toNat) (M p) a x := by
        unfold upS
        rw [if_neg y3]
      rw [this, up_a y2]
      exact a6' a x (by omega) (by omega)
    have s1m : ∀ a x, 682 ≤ a → ¬ a = 726 → upS s1 726 ((0 : Int).toNat) (M p) a x = σ a x := fun a x y1 y2 => by
      rw [up_a y2]
      exact a6' a x (by omega) (by omega)
    obtain ⟨s3, s4, c1, c2, c3, -, -, -, -, c4⟩ := d276c (t := t) (u := u) (n1 := n1) (n2 := n2) (way := a3) (σ := upS (upS s1 726 ((0 : Int).toNat) (M p)) 682 0 0) (f := σ (2 + 2 * t + 1)) (g := σ (2 + 2 * u + 1)) (by omega) (by omega) (by rw [s2m _ _ (by omega) (by omega) (by omega)]; exact m1) (by rw [s2m _ _ (by omega) (by omega) (by omega)]; exact m2) b1 b2 (fun i hi => by rw [s2m _ _ (by omega) (by omega) (by omega)]; exact v1 i hi) (fun i hi => by rw [s2m _ _ (by omega) (by omega) (by omega)]; exact v2 i hi)
    rw [← hM] at c3
    have hoff : ∀ a x, 682 ≤ a → ¬ a = 726 → ¬ (a = 682 ∧ (x = 0 ∨ (12 ≤ x ∧ x ≤ 22))) → ¬ (691 ≤ a ∧ a ≤ 694) → ¬ (696 ≤ a ∧ a ≤ 699) → s4 a x = σ a x := by
      intro a x y1 y2 y3 y4 y5
      rw [c4 a x y4 y5 (by omega)]
      exact s2m a x y1 y2 (by omega)
    have hlo : ∀ a x, a < 682 → s4 a x = s1 a x := fun a x y => by rw [c4 a x (by omega) (by omega) (by omega), up_a (by omega), up_a (by omega)]
    refine op_fin hA (b := M p) (s2 := s4) ?_ ?_ (fun _ => ?_) (fun a x ha => ?_) (fun a x ha => hoff a x (by omega) (by omega) (by omega) (by omega) (by omega)) (Rel_sc (by omega) (WF_fr (fun a x ha => hlo a x ha) W1) (fun a x hk => ?_) H)
    · refine k277 (by rw [s1m _ _ (by decide) (by decide)]; exact m1) (b277_33 ?_)
      rw [if_neg (show ¬ (1 : Int) = 0 by decide)]
      refine ⟨_, _, d275, ?_⟩
      rw [if_pos g7, if_neg (show ¬ (1 : Int) = 0 by decide)]
      refine b277_57 ⟨_, _, d245, ?_⟩
      rw [if_pos rfl, if_neg (show ¬ (1 : Int) = 0 by decide)]
      refine ⟨s3, c1, _, s4, c2, by omega, ?_⟩
      rw [tn, c3 p (by omega)]
    · rw [c4 _ _ (by decide) (by decide) (by decide), up_s]
    · rw [c4 _ _ (by decide) (by decide) (by decide), up_a (by decide)]
      exact up_s
    · rw [up_a (by omega)]
      exact a6' a x (by omega) (by omega)
    · by_cases y : a < 682
      · rw [hlo a x y]
        exact a6' a x (by omega) (by omega)
      · exact hoff a x (by omega) (by omega) (by omega) (by omega) (by omega)
  · have hA := b396 (Or.inr (Or.inr ⟨_, b178 (Or.inl ⟨_, _, e227, r1, Or.inl ⟨_, _, f227, r2, _, _, e146, Or.inl ⟨_, e232, Or.inr ⟨_, _, d236_x g7, rfl⟩⟩⟩⟩), rfl⟩))
    refine op_x H (kx := 2) (b := 0) (by decide) hA (k277 m1 (b277_33 ?_))
    rw [if_neg (show ¬ (1 : Int) = 0 by decide)]
    refine ⟨_, _, d275, ?_⟩
    rw [if_neg g7, if_pos rfl]
    refine b277_57 ⟨_, _, d245, ?_⟩
    rw [if_neg (show ¬ (2 : Int) = 0 by decide), if_pos rfl]
theorem o7 {σ : Sg} {c a1 a2 a3 : Int} (H : Rel c σ) : OpR 397 278 [vA 0, vI a1, vI a2, vI a3, vA 726] [vA 682, vI a1, vI a2, vI a3] σ (c + 1) := by
  by_cases g1 : a1 < 0
  · exact x7_0 H g1
  by_cases g2 : 4 ≤ a1
  · exact x7_1 H g2
  by_cases g3 : a2 < 0
  · exact x7_2 H (by omega) g3
  by_cases g4 : 4 ≤ a2
  · exact x7_3 H (by omega) g4
  by_cases g5 : a3 < 0
  · exact x7_4 H (by omega) (by omega) g5
  by_cases g6 : 2 < a3
  · exact x7_5 H (by omega) (by omega) g6
  have g7 : 0 ≤ a3 ∧ a3 < 3 := by omega
  obtain ⟨t, rfl⟩ := Int.eq_ofNat_of_zero_le (show 0 ≤ a1 by omega)
  obtain ⟨u, rfl⟩ := Int.eq_ofNat_of_zero_le (show 0 ≤ a2 by omega)
  obtain ⟨n1, b1, r1, z1, m1, v1, -⟩ := rt_two H (t := t) (by omega)
  obtain ⟨n2, b2, r2, z2, m2, v2, -⟩ := rt_two H (t := u) (by omega)
  have e227 := d227_ok (σ := σ) (t := (t : Int)) (by omega)
  have f227 := d227_ok (σ := σ) (t := (u : Int)) (by omega)
  rw [tn] at e227 f227
  obtain ⟨s1, a1', W1, a4', a5', a6'⟩ := d15 (way := a3) H.1 r1 r2 z1 z2 (by omega) (by omega) (by omega) (by omega)
  obtain ⟨M, hM⟩ : ∃ M, M = mtc a3 (σ (2 + 2 * t + 1)) (σ (2 + 2 * u + 1)) n1 n2 := ⟨_, rfl⟩
  rw [← hM] at a5'
  have w337 := WF_w W1 (a := 337) (by decide +kernel)
  have q146 := d146 (σ := s1) w337.1
  rw [a4'] at q146
  have q157 := d157 (σ := s1) (R := 337) (n := n1) (a := 0) (e := n1) (f := M) (x := -1) w337 a4' a5' (Nat.zero_le _) (Nat.le_refl _)
  have q157 : Dd 157 [vA 337, vI (-1), vI 0, vI (n1 : Nat)] s1 (rI (cnt M (-1) 0 n1) s1) := q157
  have bc := cnt_b (f := M) (x := -1) n1 0
  obtain ⟨V, hV⟩ : ∃ V, V = (n1 : Int) - cnt M (-1) 0 n1 := ⟨_, rfl⟩
  have hA := b397 (Or.inl ⟨_, _, b179 (Or.inl ⟨_, _, e227, r1, Or.inl ⟨_, _, f227, r2, Or.inl ⟨_, d236_ok g7, _, _, a1', w337.1, _, _, q146, _, _, q146, _, _, q157, by omega, rfl⟩⟩⟩), rfl⟩)
  rw [← hV] at hA
  have s2m : ∀ a x, 682 ≤ a → ¬ a = 726 → ¬ (a = 682 ∧ x = 0) → upS (upS s1 726 ((0 : Int).toNat) V) 682 0 0 a x = σ a x := by
    intro a x y1 y2 y3
    have : upS (upS s1 726 ((0 : Int).toNat) V) 682 0 0 a x = upS s1 726 ((0 : Int).toNat) V a x := by
      unfold upS
      rw [if_neg y3]
    rw [this, up_a y2]
    exact a6' a x (by omega) (by omega)
  obtain ⟨s3, s4, c1, c2, c3, -, -, -, -, c4⟩ := d276c (t := t) (u := u) (n1 := n1) (n2 := n2) (way := a3) (σ := upS (upS s1 726 ((0 : Int).toNat) V) 682 0 0) (f := σ (2 + 2 * t + 1)) (g := σ (2 + 2 * u + 1)) (by omega) (by omega) (by rw [s2m _ _ (by omega) (by omega) (by omega)]; exact m1) (by rw [s2m _ _ (by omega) (by omega) (by omega)]; exact m2) b1 b2 (fun i hi => by rw [s2m _ _ (by omega) (by omega) (by omega)]; exact v1 i hi) (fun i hi => by rw [s2m _ _ (by omega) (by omega) (by omega)]; exact v2 i hi)
  rw [← hM, ← hV] at c2
  have hoff : ∀ a x, 682 ≤ a → ¬ a = 726 → ¬ (a = 682 ∧ (x = 0 ∨ (12 ≤ x ∧ x ≤ 22))) → ¬ (691 ≤ a ∧ a ≤ 694) → ¬ (696 ≤ a ∧ a ≤ 699) → s4 a x = σ a x := by
    intro a x y1 y2 y3 y4 y5
    rw [c4 a x y4 y5 (by omega)]
    exact s2m a x y1 y2 (by omega)
  have hlo : ∀ a x, a < 682 → s4 a x = s1 a x := fun a x y => by rw [c4 a x (by omega) (by omega) (by omega), up_a (by omega), up_a (by omega)]
  refine op_fin hA (b := V) (s2 := s4) ?_ ?_ (fun _ => ?_) (fun a x ha => ?_) (fun a x ha => hoff a x (by omega) (by omega) (by omega) (by omega) (by omega)) (Rel_sc (by omega) (WF_fr (fun a x ha => hlo a x ha) W1) (fun a x hk => ?_) H)
  · refine b278 ⟨_, _, d247_ok (by omega), ?_⟩
    rw [if_neg (show ¬ (1 : Int) = 0 by decide)]
    refine ⟨_, _, d247_ok (by omega), ?_⟩
    rw [if_neg (show ¬ (1 : Int) = 0 by decide)]
    refine ⟨_, _, d275, ?_⟩
    rw [if_pos g7, if_neg (show ¬ (1 : Int) = 0 by decide)]
    refine b278_31 ⟨_, _, d245, ?_⟩
    rw [if_pos rfl, if_neg (show ¬ (1 : Int) = 0 by decide)]
    exact ⟨s3, c1, _, s4, c2, rfl⟩
  · rw [c4 _ _ (by decide) (by decide) (by decide), up_s]
  · rw [c4 _ _ (by decide) (by decide) (by decide), up_a (by decide)]
    exact up_s
  · rw [up_a (by omega)]
    exact a6' a x (by omega) (by omega)
  · by_cases y : a < 682
    · rw [hlo a x y]
      exact a6' a x (by omega) (by omega)
    · exact hoff a x (by omega) (by omega) (by omega) (by omega) (by omega)
end
