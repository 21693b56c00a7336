/-! The comparer begins; how many pairs; keptByTable. -/
noncomputable section
theorem cpC : isRow 333 = true ∧ cap 333 = 40 ∧ isRow 335 = true ∧ cap 335 = 40 ∧ isRow 337 = true ∧ cap 337 = 40 ∧ isRow 343 = true ∧ cap 343 = 640 := by decide +kernel
/-- Comparer.begin -/
theorem d19 {σ : Sg} {x1 x2 n1 n2 : Nat} (w : WF σ) (w1 : isRow x1 = true) (w2 : isRow x2 = true) (z1 : σ x1 1 = (n1 : Nat)) (z2 : σ x2 1 = (n2 : Nat)) (h1 : n1 ≤ 40) (h2 : n2 ≤ 40) (e1 : x1 < 332 ∨ 344 < x1) (e2 : x2 < 332 ∨ 344 < x2) : ∃ s, Dd 19 [vA 332, vA x1, vA x2] σ (rV s) ∧ WF s ∧ s 333 1 = (n1 : Nat) ∧ s 335 1 = (n2 : Nat) ∧ s 337 1 = (n1 : Nat) ∧ s 343 1 = 0 ∧ (∀ i, i < n1 → s 334 i = σ (x1 + 1) i) ∧ (∀ i, i < n2 → s 336 i = σ (x2 + 1) i) ∧ (∀ i, i < n1 → s 338 i = -1) ∧ ∀ c k, ¬ (333 ≤ c ∧ c ≤ 338) → ¬ (c = 343 ∧ k = 1) → s c k = σ c k := by
  obtain ⟨r333, c333, r335, c335, r337, c337, r343, c343⟩ := cpC
  obtain ⟨s1, es1⟩ : ∃ s1, s1 = bcS σ 333 x1 := ⟨_, rfl⟩
  have f1 : ∀ c k, ¬ c = 333 → ¬ c = 334 → s1 c k = σ c k := fun c k a b => by rw [es1]; exact bc_off a b
  have v1 : s1 333 1 = (n1 : Nat) := by rw [es1, bc_sz (by rw [c333]; omega)]; exact z1
  have v1' : ∀ i, i < n1 → s1 334 i = σ (x1 + 1) i := fun i hi => by rw [es1]; exact bc_val (a := 333) (by rw [c333]; omega) (by omega) (by omega)
  obtain ⟨s2, es2⟩ : ∃ s2, s2 = bcS s1 335 x2 := ⟨_, rfl⟩
  have f2 : ∀ c k, ¬ c = 335 → ¬ c = 336 → s2 c k = s1 c k := fun c k a b => by rw [es2]; exact bc_off a b
  have g2 : ∀ k, s1 x2 k = σ x2 k := fun k => f1 _ _ (by omega) (by omega)
  have v2 : s2 335 1 = (n2 : Nat) := by rw [es2, bc_sz (by rw [g2, c335]; omega), g2]; exact z2
  have v2' : ∀ i, i < n2 → s2 336 i = σ (x2 + 1) i := fun i hi => by
    rw [es2, bc_val (a := 335) (by rw [g2, c335]; omega) (by omega) (by rw [g2]; omega), f1 _ _ (by omega) (by omega)]
  obtain ⟨s3, es3⟩ : ∃ s3, s3 = flS s2 337 n1 (-1) := ⟨_, rfl⟩
  have f3 : ∀ c k, ¬ c = 337 → ¬ c = 338 → s3 c k = s2 c k := fun c k a b => by rw [es3]; exact fl_off a b
  have v3 : s3 337 1 = (n1 : Nat) := by rw [es3]; exact fl_sz (by omega) (by rw [c337]; omega)
  have v3' : ∀ i : Nat, i < n1 → s3 338 i = -1 := fun i hi => by rw [es3]; exact fl_val (a := 337) (by omega) (by rw [c337]; omega) (by omega)
  have q1 := d155 (σ := σ) (a := 333) r333 (WF_w w w1)
  have q2 := d155 (σ := s1) (a := 335) (b := x2) r335 ⟨w2, by rw [g2]; exact w x2 w2⟩
  have q3 := d146 (σ := s2) r333
  rw [f2 _ _ (by decide) (by decide), v1] at q3
  have q4 := d153 (σ := s2) (a := 337) (n := (n1 : Int)) (v := -1) r337
  have q5 := d152 (σ := s3) r343
  rw [← es1] at q1
  rw [← es2] at q2
  rw [← es3] at q4
  refine ⟨upS s3 343 1 0, b19 ⟨_, q1, _, q2, _, _, q3, _, q4, _, q5, rfl⟩, fun a ha => ?_, by rw [up_a (by decide), f3 _ _ (by decide) (by decide), f2 _ _ (by decide) (by decide)]; exact v1, by rw [up_a (by decide), f3 _ _ (by decide) (by decide)]; exact v2, by rw [up_a (by decide)]; exact v3, up_s, fun i hi => by rw [up_a (by decide), f3 _ _ (by decide) (by decide), f2 _ _ (by decide) (by decide)]; exact v1' i hi, fun i hi => by rw [up_a (by decide), f3 _ _ (by decide) (by decide)]; exact v2' i hi, fun i hi => by rw [up_a (by decide)]; exact v3' i hi, fun c k h h' => ?_⟩
  · by_cases a1 : a = 343
    · rw [a1, up_s, c343]; omega
    · rw [up_a a1]
      by_cases a2 : a = 337
      · rw [a2, v3, c337]; omega
      · have n338 := row_nx r337 ha
        rw [f3 _ _ a2 n338]
        by_cases a3 : a = 335
        · rw [a3, v2, c335]; omega
        · rw [f2 _ _ a3 (row_nx r335 ha)]
          by_cases a4 : a = 333
          · rw [a4, v1, c333]; omega
          · rw [f1 _ _ a4 (row_nx r333 ha)]
            exact w a ha
  · have : upS s3 343 1 0 c k = s3 c k := by unfold upS; rw [if_neg h']
    rw [this, f3 c k (by omega) (by omega), f2 c k (by omega) (by omega), f1 c k (by omega) (by omega)]
/-- Comparer.mostPairs -/
theorem d16 {σ : Sg} {x1 x2 n1 n2 : Nat} (w : WF σ) (w1 : isRow x1 = true) (w2 : isRow x2 = true) (z1 : σ x1 1 = (n1 : Nat)) (z2 : σ x2 1 = (n2 : Nat)) (h1 : n1 ≤ 40) (h2 : n2 ≤ 40) (e1 : x1 < 332 ∨ 344 < x1) (e2 : x2 < 332 ∨ 344 < x2) : ∃ s, Dd 16 [vA 332, vA x1, vA x2] σ (rI (lt (σ (x1 + 1)) (σ (x2 + 1)) n1 n2 n1 n2) s) ∧ WF s ∧ ∀ c k, ¬ (333 ≤ c ∧ c ≤ 338) → ¬ (c = 343 ∧ k = 1) → ¬ c = 349 → s c k = σ c k := by
  obtain ⟨r333, c333, r335, c335, -⟩ := cpC
  obtain ⟨s1, a1, W, a2, a3, a4, a5, a6, a7, a8, a9⟩ := d19 w w1 w2 z1 z2 h1 h2 e1 e2
  obtain ⟨s2, c1, c2, c3⟩ := d21 (σ0 := s1) (f := σ (x1 + 1)) (g := σ (x2 + 1)) (Nat.zero_le n1) (Nat.zero_le n2) (Nat.le_refl n1) (Nat.le_refl n2) h1 h2 (WF_w W r333) (WF_w W r335) a2 a3 a6 a7
  have q1 := d146 (σ := s1) r333
  have q2 := d146 (σ := s1) r335
  rw [a2] at q1
  rw [a3] at q2
  have q3 := d22 (σ := s2) (i := 0) (j := 0) (by decide) (by decide)
  rw [c2 0 0 (Nat.le_refl 0) (Nat.zero_le n1) (Nat.le_refl 0) (Nat.zero_le n2)] at q3
  refine ⟨s2, b16 ⟨_, a1, _, _, q1, _, _, q2, _, c1, _, _, q3, rfl⟩, WF_e (fun a ha => c3 a 1 ?_) W, fun c k y1 y2 y3 => by rw [c3 c k y3, a9 c k y1 y2]⟩
  intro e
  subst e
  exact absurd ha (by decide +kernel)
theorem q683 : qA 683 0 64 = true := by decide +kernel
/-- the reference's two texts -/
theorem d276 {t u n1 n2 : Nat} {σ : Sg} (ht : t < 4) (hu : u < 4) (h1 : σ 684 t = (n1 : Nat)) (h2 : σ 684 u = (n2 : Nat)) (h3 : n1 ≤ 16) (h4 : n2 ≤ 16) : ∃ s, Dd 276 [vA 682, vI t, vI u] σ (rV s) ∧ (∀ i, i < n1 → s 691 i = σ 683 (16 * t + i)) ∧ (∀ i, i < n2 → s 692 i = σ 683 (16 * u + i)) ∧ s 682 12 = (n1 : Nat) ∧ s 682 13 = (n2 : Nat) ∧ ∀ c x, ¬ c = 691 → ¬ c = 692 → ¬ (c = 682 ∧ (x = 12 ∨ x = 13)) → s c x = σ c x := by
  obtain ⟨s1, a1, a2, a3, a4⟩ := d263 (A := 683) (off := 16 * t) (n := n1) (σ := σ) q683 (by decide) (by decide) (by omega) (by omega) (by decide)
  obtain ⟨s2, c1, c2, c3, c4⟩ := d264 (A := 683) (off := 16 * u) (n := n2) (σ := s1) q683 (by decide) (by decide) (by omega) (by omega) (by decide)
  refine ⟨s2, b276 ⟨by omega, by omega, s1, ?_, by omega, by omega, s2, ?_, rfl⟩, fun i hi => by rw [c4 _ _ (by decide) (by omega)]; exact a2 i hi, fun i hi => by rw [c2 i hi, a4 _ _ (by decide) (by omega)], by rw [c4 _ _ (by decide) (by omega)]; exact a3, c3, fun c x y1 y2 y3 => by rw [c4 c x y2 (by omega), a4 c x y1 (by omega)]⟩
  · rw [show ((t : Nat) : Int).toNat = t by omega, h1, show 16 * (t : Int) = ((16 * t : Nat) : Int) by omega]
    exact a1
  · rw [show ((u : Nat) : Int).toNat = u by omega, a4 _ _ (by decide) (by omega), h2, show 16 * (u : Int) = ((16 * u : Nat) : Int) by omega]
    exact c1
/-- a text, both sides -/
theorem rt_two {σ : Sg} {c : Int} {t : Nat} (H : Rel c σ) (ht : t < 4) : ∃ n : Nat, n ≤ 16 ∧ isRow (2 + 2 * t) = true ∧ σ (2 + 2 * t) 1 = (n : Nat) ∧ σ 684 t = (n : Nat) ∧ (∀ i, i < n → σ 683 (16 * t + i) = σ (2 + 2 * t + 1) i) ∧ ∀ i, i < n → isLn (σ (2 + 2 * t + 1) i) = true := by
  have h := rel_t H (t := (t : Int)) (by omega)
  rw [show ((t : Nat) : Int).toNat = t by omega] at h
  obtain ⟨n, hn⟩ := Int.eq_ofNat_of_zero_le h.2.1
  have hr := (el_1 (i := (t : Int)) (by omega)).2
  rw [show ((t : Nat) : Int).toNat = t by omega] at hr
  obtain ⟨⟨g1, g2⟩, g3⟩ := H.2.2.1 t ht
  exact ⟨n, by omega, hr, hn, by omega, fun i hi => (g2 i (by omega)).symm, fun i hi => g3 i (by omega)⟩
theorem o8 {σ : Sg} {c a1 a2 : Int} (H : Rel c σ) : OpR 398 279 [vA 0, vI a1, vI a2, vA 726] [vA 682, vI a1, vI a2] σ (c + 1) := by
  by_cases g1 : a1 < 0
  · exact x8_0 H g1
  by_cases g2 : 4 ≤ a1
  · exact x8_1 H g2
  by_cases g3 : a2 < 0
  · exact x8_2 H (by omega) g3
  by_cases g4 : 4 ≤ a2
  · exact x8_3 H (by omega) g4
  obtain ⟨t, rfl⟩ := Int.eq_ofNat_of_zero_le (show 0 ≤ a1 by omega)
  obtain ⟨u, rfl⟩ := Int.eq_ofNat_of_zero_le (show 0 ≤ a2 by omega)
  obtain ⟨n1, b1, r1, z1, m1, v1, -⟩ := rt_two H (t := t) (by omega)
  obtain ⟨n2, b2, r2, z2, m2, v2, -⟩ := rt_two H (t := u) (by omega)
  have e227 := d227_ok (σ := σ) (t := (t : Int)) (by omega)
  have f227 := d227_ok (σ := σ) (t := (u : Int)) (by omega)
  rw [show ((t : Nat) : Int).toNat = t by omega] at e227
  rw [show ((u : Nat) : Int).toNat = u by omega] at f227
  obtain ⟨s1, a1', W1, a3⟩ := d16 H.1 r1 r2 z1 z2 (by omega) (by omega) (by omega) (by omega)
  obtain ⟨L, hL⟩ : ∃ L, L = lt (σ (2 + 2 * t + 1)) (σ (2 + 2 * u + 1)) n1 n2 n1 n2 := ⟨_, rfl⟩
  rw [← hL] at a1'
  have hA := b398 (Or.inl ⟨_, _, b180 (Or.inl ⟨_, _, e227, r1, Or.inl ⟨_, _, f227, r2, _, _, a1', rfl⟩⟩), rfl⟩)
  have s2m : ∀ a x, 682 ≤ a → ¬ a = 726 → ¬ (a = 682 ∧ x = 0) → upS (upS s1 726 ((0 : Int).toNat) L) 682 0 0 a x = σ a x := by
    intro a x y1 y2 y3
    have : upS (upS s1 726 ((0 : Int).toNat) L) 682 0 0 a x = upS s1 726 ((0 : Int).toNat) L a x := by
      unfold upS
      rw [if_neg y3]
    rw [this, up_a y2]
    exact a3 a x (by omega) (by omega) (by omega)
  obtain ⟨s3, c1, c2, c3, c4, c5, c6⟩ := d276 (t := t) (u := u) (n1 := n1) (n2 := n2) (σ := upS (upS s1 726 ((0 : Int).toNat) L) 682 0 0) (by omega) (by omega) (by rw [s2m _ _ (by omega) (by omega) (by omega)]; exact m1) (by rw [s2m _ _ (by omega) (by omega) (by omega)]; exact m2) b1 b2
  obtain ⟨s4, e1, e2, e3⟩ := d265 (σ0 := s3) (f := σ (2 + 2 * t + 1)) (g := σ (2 + 2 * u + 1)) (Nat.zero_le n1) (Nat.zero_le n2) (Nat.le_refl n1) (Nat.le_refl n2) (by omega) (by omega) (fun i hi => by rw [c2 i hi, s2m _ _ (by decide) (by decide) (by omega)]; exact v1 i hi) (fun i hi => by rw [c3 i hi, s2m _ _ (by decide) (by decide) (by omega)]; exact v2 i hi)
  have v694 : s4 694 0 = L := by
    have := e2 0 0 (Nat.le_refl 0) (Nat.zero_le n1) (Nat.le_refl 0) (Nat.zero_le n2)
    rw [hL]
    exact this
  have hoff : ∀ a x, 682 ≤ a → ¬ a = 726 → ¬ (a = 682 ∧ (x = 0 ∨ x = 12 ∨ x = 13)) → ¬ (691 ≤ a ∧ a ≤ 694) → s4 a x = σ a x := by
    intro a x y1 y2 y3 y4
    rw [e3 a x (by omega), c6 a x (by omega) (by omega) (by omega)]
    exact s2m a x y1 y2 (by omega)
  have hlo : ∀ a x, a < 682 → s4 a x = s1 a x := fun a x y => by rw [e3 a x (by omega), c6 a x (by omega) (by omega) (by omega), up_a (by omega), up_a (by omega)]
  refine op_fin hA (b := L) (s2 := s4) ?_ ?_ (fun _ => ?_) (fun a x ha => ?_) (fun a x ha => hoff a x (by omega) (by omega) (by omega) (by omega)) (Rel_sc (by omega) (WF_fr (fun a x ha => hlo a x ha) W1) (fun a x hk => ?_) H)
  · refine b279 ⟨_, _, d247_ok (by omega), ?_⟩
    rw [if_neg (show ¬ (1 : Int) = 0 by decide)]
    refine ⟨_, _, d247_ok (by omega), ?_⟩
    rw [if_neg (show ¬ (1 : Int) = 0 by decide)]
    refine b279_20 ⟨_, _, d245, ?_⟩
    rw [if_pos rfl, if_neg (show ¬ (1 : Int) = 0 by decide)]
    refine ⟨s3, c1, s4, ?_, ?_⟩
    · rw [c4, c5]
      exact e1
    · show _ = rI (s4 694 0) s4
      rw [v694]
  · rw [e3 _ _ (by decide), c6 _ _ (by decide) (by decide) (by decide), up_s]
  · rw [e3 _ _ (by decide), c6 _ _ (by decide) (by decide) (by decide), up_a (by decide)]
    exact up_s
  · rw [up_a (by omega)]
    exact a3 a x (by omega) (by omega) (by omega)
  · by_cases y : a < 682
    · rw [hlo a x y]
      exact a3 a x (by omega) (by omega) (by omega)
    · exact hoff a x (by omega) (by omega) (by omega) (by omega)
end
