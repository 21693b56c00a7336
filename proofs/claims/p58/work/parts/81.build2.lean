/-! Patch.build, and a patch that is stored. -/
noncomputable section
theorem fl_sz {σ : Sg} {a : Nat} {n v : Int} (h0 : 0 ≤ n) (hc : n ≤ (cap a : Int)) : flS σ a n v a 1 = n := by
  unfold flS flS1
  rw [if_neg (by omega), up_s, if_neg (show ¬ (cap a : Int) < n by omega)]
  split <;> omega
theorem fl_off {σ : Sg} {a c k : Nat} {n v : Int} (h1 : ¬ c = a) (h2 : ¬ c = a + 1) : flS σ a n v c k = σ c k := by
  unfold flS flS1
  rw [if_neg (fun e => h2 e.1), up_a h1]
theorem fl_val {σ : Sg} {a k : Nat} {n v : Int} (h0 : 0 ≤ n) (hc : n ≤ (cap a : Int)) (hk : (k : Int) < n) : flS σ a n v (a + 1) k = v := by
  have e := fl_sz (σ := σ) (v := v) h0 hc
  unfold flS flS1 at e
  unfold flS flS1
  rw [if_neg (by omega)] at e
  rw [e, if_pos ⟨rfl, by omega, hk⟩]
/-- a patch in order, but for its lines -/
def NP (σ : Sg) (P nb na : Nat) : Prop := σ (P + 1) 1 = (nb : Nat) ∧ σ (P + 3) 1 = (na : Nat) ∧ σ (P + 5) 1 = (nb : Nat) ∧ σ (P + 7) 1 = (na : Nat) ∧ VF (σ (P + 6)) nb na ∧ IV (σ (P + 6)) (σ (P + 8)) nb na ∧ PCS σ P nb na
theorem PO_of {σ : Sg} {P nb na : Nat} {m : Int} (N : NP σ P nb na) (hb : (nb : Int) ≤ m) (ha : (na : Int) ≤ m) (he : ∀ i : Nat, i < nb → ¬ σ (P + 6) i = -1 → σ (P + 2) i = σ (P + 4) (σ (P + 6) i).toNat) (l1 : ∀ i : Nat, i < nb → isLn (σ (P + 2) i) = true) (l2 : ∀ i : Nat, i < na → isLn (σ (P + 4) i) = true) : PO σ P m := by
  obtain ⟨n1, n3, n5, n7, V, K, C1, C2⟩ := N
  refine ⟨by omega, by omega, by omega, by omega, fun i hi => ?_, fun j hj => ?_, fun i i' h1 h2 h3 h4 => V.2 i i' h1 (by omega) h3 h4, fun i hi => l1 i (by omega), fun i hi => l2 i (by omega), ?_⟩
  · by_cases e : σ (P + 6) i = -1
    · exact Or.inl e
    · rcases V.1 i (by omega) with z | z
      · exact absurd z e
      · exact Or.inr ⟨z.1, by omega, K.2 i (by omega) e, he i (by omega) e⟩
  · rcases K.1 j (by omega) with z | z
    · exact Or.inl z
    · exact Or.inr ⟨z.1, by omega, z.2.2⟩
  · rw [n1, n3, show ((nb : Nat) : Int).toNat = nb by omega, show ((na : Nat) : Int).toNat = na by omega]
    exact ⟨C1, C2⟩
theorem NP_of {σ : Sg} {P : Nat} {m : Int} (H : PO σ P m) {nb na : Nat} (h1 : σ (P + 1) 1 = (nb : Nat)) (h3 : σ (P + 3) 1 = (na : Nat)) : NP σ P nb na := by
  obtain ⟨o1, o2, o3, o4, o5, o6, o7, o8, o9, o10⟩ := H
  rw [h1, h3, show ((nb : Nat) : Int).toNat = nb by omega, show ((na : Nat) : Int).toNat = na by omega] at o10
  refine ⟨h1, h3, by omega, by omega, ⟨fun i hi => ?_, fun i i' a b c d => o7 i i' a (by omega) c d⟩, ⟨fun j hj => ?_, fun i hi e => ?_⟩, o10⟩
  · rcases o5 i (by omega) with z | z
    · exact Or.inl z
    · exact Or.inr ⟨z.1, by omega⟩
  · rcases o6 j (by omega) with z | z
    · exact Or.inl z
    · exact Or.inr ⟨z.1, by omega, z.2.2⟩
  · rcases o5 i (by omega) with z | z
    · exact absurd z e
    · exact z.2.2.1
theorem l95 {P x3 nb na : Nat} {F : Nat → Int} (hP : isPatch P = true) (h3 : isRow x3 = true) (hc : nb ≤ cap x3) (hx : x3 < P ∨ P + 12 < x3) (V : VF F nb na) (hc7 : na ≤ cap (P + 7)) {d1 d2 : Option AV} : ∀ (d i : Nat) (σ : Sg), i + d = nb → σ x3 1 = (nb : Nat) → (∀ k, k < nb → σ (x3 + 1) k = F k) → σ (P + 7) 1 = (na : Nat) → (∀ j : Nat, j < na → σ (P + 8) j = -1 ∨ (0 ≤ σ (P + 8) j ∧ σ (P + 8) j < i ∧ F (σ (P + 8) j).toNat = j)) → (∀ k : Nat, k < i → ¬ F k = -1 → σ (P + 8) (F k).toNat = k) → ∃ s, (∀ {o : Rs}, (∃ s10, Dd 94 [vA P] s (.inl none, s10) ∧ o = (.inl none, s10)) → C95_39 P d1 d2 x3 i σ o) ∧ (∀ j : Nat, j < na → s (P + 8) j = -1 ∨ (0 ≤ s (P + 8) j ∧ s (P + 8) j < nb ∧ F (s (P + 8) j).toNat = j)) ∧ (∀ k : Nat, k < nb → ¬ F k = -1 → s (P + 8) (F k).toNat = k) ∧ ∀ c k, ¬ c = P + 8 → s c k = σ c k := by
  have hcl := cap_le h3
  intro d
  induction d with
  | zero =>
    intro i σ hi hs hf h7 b1 b2
    have e : i = nb := by omega
    subst e
    refine ⟨σ, fun {o} hh => b95_39 h3 hP ⟨_, _, d146 h3, ?_⟩, b1, b2, fun _ _ _ => rfl⟩
    rw [if_neg (by omega)]
    exact hh
  | succ d ih =>
    intro i σ hi hs hf h7 b1 b2
    have hv : atS σ x3 (i : Int) = F i := by
      unfold atS
      rw [if_pos (by omega), show ((i : Int)).toNat = i by omega]
      exact hf i (by omega)
    have d147' := d147 (i := (i : Int)) (show wR σ x3 from ⟨h3, by omega, by omega⟩)
    rw [hv] at d147'
    have d148' := d148 (i := F i) (v := (i : Int)) (show wR σ (P + 7) from ⟨pat_7 hP, by omega, by omega⟩)
    have go : ∀ {o : Rs}, C95_39 P d1 d2 x3 ((i + 1 : Nat) : Int) (stS σ (P + 7) (F i) i) o → C95_39 P d1 d2 x3 i σ o := by
      intro o hh
      refine b95_39 h3 hP ⟨_, _, d146 h3, ?_⟩
      rw [if_pos (by omega)]
      rw [show (((i + 1 : Nat)) : Int) = (i : Int) + 1 by omega] at hh
      exact ⟨_, _, d147', _, d148', by omega, hh⟩
    rcases V.1 i (by omega) with z | z
    · have est : stS σ (P + 7) (F i) i = σ := by
        unfold stS
        rw [if_neg (by omega)]
      rw [est] at go
      obtain ⟨s, a1, a2, a3, a4⟩ := ih (i + 1) σ (by omega) hs hf h7 (fun j hj => by
        rcases b1 j hj with y | y
        · exact Or.inl y
        · exact Or.inr ⟨y.1, by omega, y.2.2⟩) (fun k hk e => by
        by_cases y : k = i
        · rw [y] at e; exact absurd z e
        · exact b2 k (by omega) e)
      exact ⟨s, fun {o} hh => go (a1 hh), a2, a3, a4⟩
    · have est : stS σ (P + 7) (F i) i = upS σ (P + 8) (F i).toNat i := by
        unfold stS
        rw [if_pos (by omega)]
      rw [est] at go
      obtain ⟨s, a1, a2, a3, a4⟩ := ih (i + 1) (upS σ (P + 8) (F i).toNat i) (by omega) (by rw [up_a (by omega)]; exact hs) (fun k hk => by rw [up_a (by omega)]; exact hf k hk) (by rw [up_a (by omega)]; exact h7) (fun j hj => by
        by_cases y : j = (F i).toNat
        · rw [y, up_s]
          exact Or.inr ⟨by omega, by omega, by rw [show ((i : Int)).toNat = i by omega]; omega⟩
        · rw [up_k y]
          rcases b1 j hj with y | y
          · exact Or.inl y
          · exact Or.inr ⟨y.1, by omega, y.2.2⟩) (fun k hk e => by
        by_cases y : k = i
        · rw [y, up_s]
        · have hk2 : k < i := by omega
          have := V.2 k i hk2 (by omega) e (by omega)
          have zk := V.1 k (by omega)
          rw [up_k (by omega)]
          exact b2 k hk2 e)
      exact ⟨s, fun {o} hh => go (a1 hh), a2, a3, fun c k h => by rw [a4 c k h, up_a h]⟩
/-- Patch.build -/
theorem d95 {P x1 x2 x3 nb na : Nat} {σ : Sg} (hP : isPatch P = true) (w1 : wR σ x1) (w2 : wR σ x2) (w3 : wR σ x3) (h1 : σ x1 1 = (nb : Nat)) (h2 : σ x2 1 = (na : Nat)) (h3 : σ x3 1 = (nb : Nat)) (V : VF (σ (x3 + 1)) nb na) (hc1 : nb ≤ cap (P + 1)) (hc3 : na ≤ cap (P + 3)) (hc5 : nb ≤ cap (P + 5)) (hc7 : na ≤ cap (P + 7)) (hc9 : 4 * (nb + 1) ≤ cap (P + 9)) (e1 : x1 < P ∨ P + 12 < x1) (e2 : x2 < P ∨ P + 12 < x2) (e3 : x3 < P ∨ P + 12 < x3) : ∃ s, Dd 95 [vA P, vA x1, vA x2, vA x3] σ (rV s) ∧ NP s P nb na ∧ wR s (P + 9) ∧ (∀ i, i < nb → s (P + 2) i = σ (x1 + 1) i) ∧ (∀ i, i < na → s (P + 4) i = σ (x2 + 1) i) ∧ (∀ i, i < nb → s (P + 6) i = σ (x3 + 1) i) ∧ ∀ c k, ¬ (P + 1 ≤ c ∧ c ≤ P + 10) → s c k = σ c k := by
  have q1 := pat_1 hP
  have q3 := pat_3 hP
  have q5 := pat_5 hP
  have q7 := pat_7 hP
  have n1 : ¬ x1 + 1 = P := fun e => by
    have := row_nx w1.1 (show isRow (x1 + 1) = true by
      rw [e]
      exfalso
      have hq := hP
      unfold isPatch at hq
      simp only [Bool.and_eq_true, decide_eq_true_eq] at hq
      have hr := w1.1
      unfold isRow at hr
      simp only [Bool.and_eq_true, decide_eq_true_eq] at hr
      rw [e] at hr
      have e := hq.1.symm.trans hr.2
      simp at e)
    exact this rfl
  have n2 : ¬ x2 + 1 = P := fun e => by
    have := row_nx w2.1 (show isRow (x2 + 1) = true by
      rw [e]
      exfalso
      have hq := hP
      unfold isPatch at hq
      simp only [Bool.and_eq_true, decide_eq_true_eq] at hq
      have hr := w2.1
      unfold isRow at hr
      simp only [Bool.and_eq_true, decide_eq_true_eq] at hr
      rw [e] at hr
      have e := hq.1.symm.trans hr.2
      simp at e)
    exact this rfl
  have n3 : ¬ x3 + 1 = P := fun e => by
    have := row_nx w3.1 (show isRow (x3 + 1) = true by
      rw [e]
      exfalso
      have hq := hP
      unfold isPatch at hq
      simp only [Bool.and_eq_true, decide_eq_true_eq] at hq
      have hr := w3.1
      unfold isRow at hr
      simp only [Bool.and_eq_true, decide_eq_true_eq] at hr
      rw [e] at hr
      have e := hq.1.symm.trans hr.2
      simp at e)
    exact this rfl
  obtain ⟨s1, es1⟩ : ∃ s1, s1 = bcS σ (P + 1) x1 := ⟨_, rfl⟩
  have f1 : ∀ c k, ¬ c = P + 1 → ¬ c = P + 2 → s1 c k = σ c k := fun c k a b => by rw [es1]; exact bc_off a b
  obtain ⟨s2, es2⟩ : ∃ s2, s2 = bcS s1 (P + 3) x2 := ⟨_, rfl⟩
  have f2 : ∀ c k, ¬ c = P + 3 → ¬ c = P + 4 → s2 c k = s1 c k := fun c k a b => by rw [es2]; exact bc_off a b
  obtain ⟨s3, es3⟩ : ∃ s3, s3 = bcS s2 (P + 5) x3 := ⟨_, rfl⟩
  have f3 : ∀ c k, ¬ c = P + 5 → ¬ c = P + 6 → s3 c k = s2 c k := fun c k a b => by rw [es3]; exact bc_off a b
  obtain ⟨s4, es4⟩ : ∃ s4, s4 = flS s3 (P + 7) na (-1) := ⟨_, rfl⟩
  have f4 : ∀ c k, ¬ c = P + 7 → ¬ c = P + 8 → s4 c k = s3 c k := fun c k a b => by rw [es4]; exact fl_off a b
  have g2 : ∀ k, s1 x2 k = σ x2 k := fun k => f1 _ _ (by omega) (by omega)
  have g3 : ∀ k, s2 x3 k = σ x3 k := fun k => by rw [f2 _ _ (by omega) (by omega), f1 _ _ (by omega) (by omega)]
  have v1 : s1 (P + 1) 1 = (nb : Nat) := by rw [es1, bc_sz (by omega)]; exact h1
  have v1' : ∀ i, i < nb → s1 (P + 2) i = σ (x1 + 1) i := fun i hi => by rw [es1]; exact bc_val (by omega) (by omega) (by omega)
  have v2 : s2 (P + 3) 1 = (na : Nat) := by rw [es2, bc_sz (by rw [g2]; omega), g2]; exact h2
  have v2' : ∀ i, i < na → s2 (P + 4) i = σ (x2 + 1) i := fun i hi => by
    rw [es2, bc_val (a := P + 3) (by rw [g2]; omega) (by omega) (by rw [g2]; omega), f1 _ _ (by omega) (by omega)]
  have v3 : s3 (P + 5) 1 = (nb : Nat) := by rw [es3, bc_sz (by rw [g3]; omega), g3]; exact h3
  have v3' : ∀ i, i < nb → s3 (P + 6) i = σ (x3 + 1) i := fun i hi => by
    rw [es3, bc_val (a := P + 5) (by rw [g3]; omega) (by omega) (by rw [g3]; omega), f2 _ _ (by omega) (by omega), f1 _ _ (by omega) (by omega)]
  have v4 : s4 (P + 7) 1 = (na : Nat) := by rw [es4]; exact fl_sz (by omega) (by omega)
  have v4' : ∀ i : Nat, i < na → s4 (P + 8) i = -1 := fun i hi => by rw [es4]; exact fl_val (a := P + 7) (by omega) (by omega) (by omega)
  have gx : ∀ c k, ¬ (P + 1 ≤ c ∧ c ≤ P + 8) → s4 c k = σ c k := fun c k h => by rw [f4 c k (by omega) (by omega), f3 c k (by omega) (by omega), f2 c k (by omega) (by omega), f1 c k (by omega) (by omega)]
  have r1 := d155 (σ := σ) (a := P + 1) q1 w1
  have r2 := d155 (σ := s1) (a := P + 3) (b := x2) q3 ⟨w2.1, by rw [g2]; exact w2.2⟩
  have r3 := d155 (σ := s2) (a := P + 5) (b := x3) q5 ⟨w3.1, by rw [g3]; exact w3.2⟩
  have r4 := d153 (σ := s3) (a := P + 7) (n := na) (v := -1) q7
  have r5 := d146 (σ := s3) w2.1
  rw [f3 _ _ (by omega) (by omega), f2 _ _ (by omega) (by omega), g2, h2] at r5
  rw [← es1] at r1
  rw [← es2] at r2
  rw [← es3] at r3
  rw [← es4] at r4
  have w33 := w3.2.2
  obtain ⟨s5, a1, a2, a3, a4⟩ := l95 (F := σ (x3 + 1)) (na := na) hP w3.1 (by omega) (by omega) V hc7 (d1 := some (vA x1)) (d2 := some (vA x2)) nb 0 s4 (by omega) (by rw [gx _ _ (by omega)]; exact h3) (fun k hk => gx _ _ (by omega)) v4 (fun j hj => Or.inl (v4' j hj)) (fun k hk => absurd hk (Nat.not_lt_zero k))
  have u6 : ∀ i, i < nb → s5 (P + 6) i = σ (x3 + 1) i := fun i hi => by rw [a4 _ _ (by omega), f4 _ _ (by omega) (by omega)]; exact v3' i hi
  have V5 : VF (s5 (P + 6)) nb na := ⟨fun i hi => by rw [u6 i hi]; exact V.1 i hi, fun i i' z1 z2 z3 z4 => by
    rw [u6 i (by omega)] at z3 ⊢
    rw [u6 i' z2] at z4 ⊢
    exact V.2 i i' z1 z2 z3 z4⟩
  have K5 : IV (s5 (P + 6)) (s5 (P + 8)) nb na := ⟨fun j hj => by
    rcases a2 j hj with z | z
    · exact Or.inl z
    · exact Or.inr ⟨z.1, z.2.1, by rw [u6 _ (by omega)]; exact z.2.2⟩, fun i hi e => by
    rw [u6 i hi] at e ⊢
    exact a3 i hi e⟩
  have t1 : s5 (P + 1) 1 = (nb : Nat) := by rw [a4 _ _ (by omega), f4 _ _ (by omega) (by omega), f3 _ _ (by omega) (by omega), f2 _ _ (by omega) (by omega)]; exact v1
  have t3 : s5 (P + 3) 1 = (na : Nat) := by rw [a4 _ _ (by omega), f4 _ _ (by omega) (by omega), f3 _ _ (by omega) (by omega)]; exact v2
  have t5 : s5 (P + 5) 1 = (nb : Nat) := by rw [a4 _ _ (by omega), f4 _ _ (by omega) (by omega)]; exact v3
  have t7 : s5 (P + 7) 1 = (na : Nat) := by rw [a4 _ _ (by omega)]; exact v4
  obtain ⟨s, c1, c2, c3, c4⟩ := d94 hP t1 t3 t5 t7 ⟨q5, by omega, by omega⟩ ⟨q7, by omega, by omega⟩ V5 K5 hc9
  have s6 : s (P + 6) = s5 (P + 6) := funext fun k => c4 _ _ (by omega) (by omega)
  have s8 : s (P + 8) = s5 (P + 8) := funext fun k => c4 _ _ (by omega) (by omega)
  refine ⟨s, b95 hP w2.1 ⟨_, r1, _, r2, _, r3, _, _, r5, _, r4, a1 ⟨_, c1, rfl⟩⟩, ⟨by rw [c4 _ _ (by omega) (by omega)]; exact t1, by rw [c4 _ _ (by omega) (by omega)]; exact t3, by rw [c4 _ _ (by omega) (by omega)]; exact t5, by rw [c4 _ _ (by omega) (by omega)]; exact t7, by rw [s6]; exact V5, by rw [s6, s8]; exact K5, c2⟩, c3, fun i hi => ?_, fun i hi => ?_, fun i hi => ?_, fun c k h => ?_⟩
  · rw [c4 _ _ (by omega) (by omega), a4 _ _ (by omega), f4 _ _ (by omega) (by omega), f3 _ _ (by omega) (by omega), f2 _ _ (by omega) (by omega)]; exact v1' i hi
  · rw [c4 _ _ (by omega) (by omega), a4 _ _ (by omega), f4 _ _ (by omega) (by omega), f3 _ _ (by omega) (by omega)]; exact v2' i hi
  · rw [c4 _ _ (by omega) (by omega)]; exact u6 i hi
  · rw [c4 c k (by omega) (by omega), a4 c k (by omega)]; exact gx c k (by omega)
/-- a new patch, on both sides -/
theorem Rel_new {σ s1 s2 : Sg} {c : Int} {p : Nat} (H : Rel c σ) (hp : σ 0 3 = (p : Nat)) (h24 : p < 24) (w : WF s1) (c0 : s1 0 3 = (p : Int) + 1) (cf : ∀ a k, a < 682 → KP a k → ¬ (a = 0 ∧ k = 3) → ¬ (20 + 13 * p + 1 ≤ a ∧ a ≤ 20 + 13 * p + 10) → s1 a k = σ a k) (m0 : ∀ a k, a < 682 → s2 a k = s1 a k) (m3 : s2 682 3 = (p : Int) + 1) (mf : ∀ a k, 682 ≤ a → KP a k → ¬ (a = 682 ∧ k = 3) → ¬ (685 ≤ a ∧ a ≤ 687 ∧ 100 * p ≤ k ∧ k < 100 * p + 100) → ¬ ((a = 688 ∨ a = 689) ∧ k = p) → s2 a k = σ a k) (n1 : PR s2 (20 + 13 * p) p) (n2 : PO s2 (20 + 13 * p) 16) : Rel (c + 1) s2 := by
  have hoff : ∀ a k, KP a k → ¬ (a = 0 ∧ k = 3) → ¬ (20 + 13 * p + 1 ≤ a ∧ a ≤ 20 + 13 * p + 10) → ¬ (a = 682 ∧ k = 3) → ¬ (685 ≤ a ∧ a ≤ 687 ∧ 100 * p ≤ k ∧ k < 100 * p + 100) → ¬ ((a = 688 ∨ a = 689) ∧ k = p) → s2 a k = σ a k := by
    intro a k h1 h2 h3 h4 h5 h6
    by_cases h : a < 682
    · rw [m0 a k h]; exact cf a k h h1 h2 h3
    · exact mf a k (by omega) h1 h4 h5 h6
  obtain ⟨h1, h2, h3, h4, h5, h6, h7, h8, h9⟩ := H
  exact ⟨WF_fr m0 w, Zl_fr (fun k => hoff _ _ (kp_12 rfl) (by omega) (by omega) (by omega) (by omega) (by omega)) h2, RT_fr (fun c k hc => hoff _ _ (kq_T hc) (by omega) (by omega) (by omega) (by omega) (by omega)) h3, RB_fr (fun c k hc => hoff _ _ (kq_B hc) (by omega) (by omega) (by omega) (by omega) (by omega)) h4, RP_new h5 hp h24 (by rw [m0 _ _ (by decide)]; exact c0) m3 (fun c k hc => hoff _ _ (kq_P2 h24 hc) (by omega) (by omega) (by omega) (by omega) (by omega)) n1 n2, RSt_fr2 (by omega) (fun c k hc => hoff _ _ (kq_S2 hc) (by omega) (by omega) (by omega) (by omega) (by omega)) h6, RU_fr (fun c k hc => hoff _ _ (kq_U hc) (by omega) (by omega) (by omega) (by omega) (by omega)) h7, RF_fr (fun c k hc => hoff _ _ (kq_F hc) (by omega) (by omega) (by omega) (by omega) (by omega)) h8, RD_fr (fun c k hc => hoff _ _ (kq_D hc) (by omega) (by omega) (by omega) (by omega) (by omega)) h9⟩
end
