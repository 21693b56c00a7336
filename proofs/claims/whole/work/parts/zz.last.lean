-- DRAFT 99.bld.lean
/-! A patch that is built line by line. -/
noncomputable section
theorem ga {l : List Int} {a v : Int} {i : Nat} (h : (l ++ [a])[i]? = some v) : (i < l.length ∧ l[i]? = some v) ∨ (i = l.length ∧ v = a) := by
  by_cases hi : i < l.length
  · rw [List.getElem?_append_left hi] at h
    exact Or.inl ⟨hi, h⟩
  · have hle : (l ++ [a]).length = l.length + 1 := by simp
    have hi2 := (List.getElem?_eq_some_iff.mp h).1
    have e : i = l.length := by omega
    rw [e, List.getElem?_append_right (Nat.le_refl _), Nat.sub_self] at h
    have h : a = v := by simpa using h
    exact Or.inr ⟨e, h.symm⟩
theorem ga_l {l : List Int} {a v : Int} {i : Nat} (h : l[i]? = some v) : (l ++ [a])[i]? = some v := by
  rw [List.getElem?_append_left (List.getElem?_eq_some_iff.mp h).1]
  exact h
theorem ga_r {l : List Int} {a : Int} {i : Nat} (h : i = l.length) : (l ++ [a])[i]? = some a := by
  rw [h, List.getElem?_append_right (Nat.le_refl _), Nat.sub_self]
  rfl
theorem g_lt {l : List Int} {v : Int} {i : Nat} (h : l[i]? = some v) : i < l.length := (List.getElem?_eq_some_iff.mp h).1
/-- old lines, new lines, and what is paired -/
def okW (bf af fo bk : List Int) : Prop := fo.length = bf.length ∧ bk.length = af.length ∧ (∀ (i : Nat) (v : Int), fo[i]? = some v → v = -1 ∨ ∃ j : Nat, v = (j : Int) ∧ bk[j]? = some (i : Int) ∧ ∃ y, bf[i]? = some y ∧ af[j]? = some y) ∧ (∀ (j : Nat) (v : Int), bk[j]? = some v → v = -1 ∨ ∃ i : Nat, v = (i : Int) ∧ fo[i]? = some (j : Int)) ∧ ∀ (i i' : Nat) (v v' : Int), i < i' → fo[i]? = some v → fo[i']? = some v' → ¬ v = -1 → ¬ v' = -1 → v < v'
theorem okW_0 : okW [] [] [] [] := ⟨rfl, rfl, fun i v h => by simp at h, fun i v h => by simp at h, fun i i' v v' _ h => by simp at h⟩
theorem okW_k {bf af fo bk : List Int} (x : Int) (H : okW bf af fo bk) : okW (bf ++ [x]) (af ++ [x]) (fo ++ [(af.length : Int)]) (bk ++ [(bf.length : Int)]) := by
  obtain ⟨h1, h2, h3, h4, h5⟩ := H
  refine ⟨by simp [h1], by simp [h2], fun i v h => ?_, fun j v h => ?_, fun i i' v v' hi h h' n n' => ?_⟩
  · rcases ga h with ⟨l1, g⟩ | ⟨e, g⟩
    · rcases h3 i v g with z | ⟨j, z1, z2, y, z3, z4⟩
      · exact Or.inl z
      · exact Or.inr ⟨j, z1, ga_l z2, y, ga_l z3, ga_l z4⟩
    · refine Or.inr ⟨af.length, g, ?_, x, ga_r (by omega), ga_r rfl⟩
      rw [e, h1]
      exact ga_r (by omega)
  · rcases ga h with ⟨l1, g⟩ | ⟨e, g⟩
    · rcases h4 j v g with z | ⟨i, z1, z2⟩
      · exact Or.inl z
      · exact Or.inr ⟨i, z1, ga_l z2⟩
    · refine Or.inr ⟨bf.length, g, ?_⟩
      rw [e, h2]
      exact ga_r (by omega)
  · rcases ga h with ⟨l1, g⟩ | ⟨e, g⟩
    · rcases ga h' with ⟨l2, g'⟩ | ⟨e', g'⟩
      · exact h5 i i' v v' hi g g' n n'
      · rcases h3 i v g with z | ⟨j, z1, z2, -⟩
        · exact absurd z n
        · have := g_lt z2
          omega
    · have := g_lt h'
      rw [List.length_append] at this
      simp at this
      omega
theorem okW_d {bf af fo bk : List Int} (x : Int) (H : okW bf af fo bk) : okW (bf ++ [x]) af (fo ++ [-1]) bk := by
  obtain ⟨h1, h2, h3, h4, h5⟩ := H
  refine ⟨by simp [h1], h2, fun i v h => ?_, fun j v h => ?_, fun i i' v v' hi h h' n n' => ?_⟩
  · rcases ga h with ⟨l1, g⟩ | ⟨e, g⟩
    · rcases h3 i v g with z | ⟨j, z1, z2, y, z3, z4⟩
      · exact Or.inl z
      · exact Or.inr ⟨j, z1, z2, y, ga_l z3, z4⟩
    · exact Or.inl g
  · rcases h4 j v h with z | ⟨i, z1, z2⟩
    · exact Or.inl z
    · exact Or.inr ⟨i, z1, ga_l z2⟩
  · rcases ga h with ⟨l1, g⟩ | ⟨e, g⟩
    · rcases ga h' with ⟨l2, g'⟩ | ⟨e', g'⟩
      · exact h5 i i' v v' hi g g' n n'
      · exact absurd g' n'
    · exact absurd g n
theorem okW_g {bf af fo bk : List Int} (x : Int) (H : okW bf af fo bk) : okW bf (af ++ [x]) fo (bk ++ [-1]) := by
  obtain ⟨h1, h2, h3, h4, h5⟩ := H
  refine ⟨h1, by simp [h2], fun i v h => ?_, fun j v h => ?_, h5⟩
  · rcases h3 i v h with z | ⟨j, z1, z2, y, z3, z4⟩
    · exact Or.inl z
    · exact Or.inr ⟨j, z1, ga_l z2, y, z3, ga_l z4⟩
  · rcases ga h with ⟨l1, g⟩ | ⟨e, g⟩
    · exact h4 j v g
    · exact Or.inl g
def BI (σ : Sg) (P : Nat) (bf af fo bk : List Int) : Prop := Rw σ (P + 1) bf ∧ Rw σ (P + 3) af ∧ Rw σ (P + 5) fo ∧ Rw σ (P + 7) bk
theorem BI_fr {σ s : Sg} {P : Nat} {bf af fo bk : List Int} (h : ∀ c k, P + 1 ≤ c ∧ c ≤ P + 8 → s c k = σ c k) (B : BI σ P bf af fo bk) : BI s P bf af fo bk := by
  obtain ⟨b1, b2, b3, b4⟩ := B
  exact ⟨Rw_fr (h _ _ (by omega)) (fun i => h _ _ (by omega)) b1, Rw_fr (h _ _ (by omega)) (fun i => h _ _ (by omega)) b2, Rw_fr (h _ _ (by omega)) (fun i => h _ _ (by omega)) b3, Rw_fr (h _ _ (by omega)) (fun i => h _ _ (by omega)) b4⟩
theorem Rw_ad2 {σ : Sg} {a b : Nat} {l : List Int} {v : Int} (h : ¬ b = a) (h2 : ¬ b = a + 1) (h3 : ¬ b + 1 = a) (H : Rw σ b l) : Rw (adS σ a v) b l := Rw_fr (ad_off h h2) (fun i => ad_off h3 (by omega)) H
/-- the capacities of a scratch patch -/
def WDp (P : Nat) : Prop := isPatch P = true ∧ cap (P + 1) = 96 ∧ cap (P + 3) = 96 ∧ cap (P + 5) = 96 ∧ cap (P + 7) = 96 ∧ cap (P + 9) = 388
theorem WDp351 : WDp 351 := cpS351
theorem WDp364 : WDp 364 := cpS364
/-- Patch.begin -/
theorem d90 {σ : Sg} {P : Nat} (hP : isPatch P = true) : ∃ s, Dd 90 [vA P] σ (rV s) ∧ BI s P [] [] [] [] ∧ ∀ c k, ¬ (P + 1 ≤ c ∧ c ≤ P + 8) → s c k = σ c k := by
  refine ⟨_, b90 hP ⟨_, d152 (pat_1 hP), _, d152 (pat_3 hP), _, d152 (pat_5 hP), _, d152 (pat_7 hP), rfl⟩, ⟨⟨?_, fun i v h => by simp at h⟩, ⟨?_, fun i v h => by simp at h⟩, ⟨?_, fun i v h => by simp at h⟩, ⟨?_, fun i v h => by simp at h⟩⟩, fun c k h => ?_⟩
  · rw [up_a (by omega), up_a (by omega), up_a (by omega), up_s]; rfl
  · rw [up_a (by omega), up_a (by omega), up_s]; rfl
  · rw [up_a (by omega), up_s]; rfl
  · rw [up_s]; rfl
  · rw [up_a (by omega), up_a (by omega), up_a (by omega), up_a (by omega)]
/-- Patch.keep -/
theorem d91 {σ : Sg} {P : Nat} {x : Int} {bf af fo bk : List Int} (W : WDp P) (B : BI σ P bf af fo bk) (h1 : bf.length < 96) (h2 : af.length < 96) (h3 : fo.length < 96) (h4 : bk.length < 96) : ∃ s, Dd 91 [vA P, vI x] σ (rV s) ∧ BI s P (bf ++ [x]) (af ++ [x]) (fo ++ [(af.length : Int)]) (bk ++ [(bf.length : Int)]) ∧ ∀ c k, ¬ (P + 1 ≤ c ∧ c ≤ P + 8) → s c k = σ c k := by
  obtain ⟨hP, c1, c3, c5, c7, -⟩ := W
  obtain ⟨B1, B3, B5, B7⟩ := B
  have p1 := pat_1 hP
  have p3 := pat_3 hP
  have p5 := pat_5 hP
  have p7 := pat_7 hP
  have q1 := d146 (σ := σ) p3
  rw [B3.1] at q1
  obtain ⟨s1, e1⟩ : ∃ s1, s1 = adS σ (P + 5) (af.length : Int) := ⟨_, rfl⟩
  have f1 : ∀ c k, ¬ c = P + 5 → ¬ c = P + 6 → s1 c k = σ c k := fun c k a b => by rw [e1]; exact ad_off a b
  have q2 := d149 (v := (af.length : Int)) (Rw_wR p5 B5 (by omega))
  rw [← e1] at q2
  have r5 := Rw_ad (v := (af.length : Int)) B5 (by omega)
  rw [← e1] at r5
  have q3 := d146 (σ := s1) p1
  rw [f1 _ _ (by omega) (by omega), B1.1] at q3
  have B7' : Rw s1 (P + 7) bk := Rw_fr (f1 _ _ (by omega) (by omega)) (fun i => f1 _ _ (by omega) (by omega)) B7
  obtain ⟨s2, e2⟩ : ∃ s2, s2 = adS s1 (P + 7) (bf.length : Int) := ⟨_, rfl⟩
  have f2 : ∀ c k, ¬ c = P + 7 → ¬ c = P + 8 → s2 c k = s1 c k := fun c k a b => by rw [e2]; exact ad_off a b
  have q4 := d149 (v := (bf.length : Int)) (Rw_wR p7 B7' (by omega))
  rw [← e2] at q4
  have r7 := Rw_ad (v := (bf.length : Int)) B7' (by omega)
  rw [← e2] at r7
  have B1' : Rw s2 (P + 1) bf := Rw_fr (by rw [f2 _ _ (by omega) (by omega), f1 _ _ (by omega) (by omega)]) (fun i => by rw [f2 _ _ (by omega) (by omega), f1 _ _ (by omega) (by omega)]) B1
  obtain ⟨s3, e3⟩ : ∃ s3, s3 = adS s2 (P + 1) x := ⟨_, rfl⟩
  have f3 : ∀ c k, ¬ c = P + 1 → ¬ c = P + 2 → s3 c k = s2 c k := fun c k a b => by rw [e3]; exact ad_off a b
  have q5 := d149 (v := x) (Rw_wR p1 B1' (by omega))
  rw [← e3] at q5
  have r1 := Rw_ad (v := x) B1' (by omega)
  rw [← e3] at r1
  have B3' : Rw s3 (P + 3) af := Rw_fr (by rw [f3 _ _ (by omega) (by omega), f2 _ _ (by omega) (by omega), f1 _ _ (by omega) (by omega)]) (fun i => by rw [f3 _ _ (by omega) (by omega), f2 _ _ (by omega) (by omega), f1 _ _ (by omega) (by omega)]) B3
  obtain ⟨s4, e4⟩ : ∃ s4, s4 = adS s3 (P + 3) x := ⟨_, rfl⟩
  have f4 : ∀ c k, ¬ c = P + 3 → ¬ c = P + 4 → s4 c k = s3 c k := fun c k a b => by rw [e4]; exact ad_off a b
  have q6 := d149 (v := x) (Rw_wR p3 B3' (by omega))
  rw [← e4] at q6
  have r3 := Rw_ad (v := x) B3' (by omega)
  rw [← e4] at r3
  refine ⟨s4, b91 hP ⟨_, _, q1, _, q2, _, _, q3, _, q4, _, q5, _, q6, rfl⟩, ⟨Rw_fr (f4 _ _ (by omega) (by omega)) (fun i => f4 _ _ (by omega) (by omega)) r1, r3, Rw_fr (by rw [f4 _ _ (by omega) (by omega), f3 _ _ (by omega) (by omega), f2 _ _ (by omega) (by omega)]) (fun i => by rw [f4 _ _ (by omega) (by omega), f3 _ _ (by omega) (by omega), f2 _ _ (by omega) (by omega)]) r5, Rw_fr (by rw [f4 _ _ (by omega) (by omega), f3 _ _ (by omega) (by omega)]) (fun i => by rw [f4 _ _ (by omega) (by omega), f3 _ _ (by omega) (by omega)]) r7⟩, fun c k h => by rw [f4 c k (by omega) (by omega), f3 c k (by omega) (by omega), f2 c k (by omega) (by omega), f1 c k (by omega) (by omega)]⟩
/-- Patch.drop -/
theorem d92 {σ : Sg} {P : Nat} {x : Int} {bf af fo bk : List Int} (W : WDp P) (B : BI σ P bf af fo bk) (h1 : bf.length < 96) (h3 : fo.length < 96) : ∃ s, Dd 92 [vA P, vI x] σ (rV s) ∧ BI s P (bf ++ [x]) af (fo ++ [-1]) bk ∧ ∀ c k, ¬ (P + 1 ≤ c ∧ c ≤ P + 8) → s c k = σ c k := by
  obtain ⟨hP, c1, c3, c5, c7, -⟩ := W
  obtain ⟨B1, B3, B5, B7⟩ := B
  have p1 := pat_1 hP
  have p5 := pat_5 hP
  obtain ⟨s1, e1⟩ : ∃ s1, s1 = adS σ (P + 5) (-1) := ⟨_, rfl⟩
  have f1 : ∀ c k, ¬ c = P + 5 → ¬ c = P + 6 → s1 c k = σ c k := fun c k a b => by rw [e1]; exact ad_off a b
  have q2 := d149 (v := -1) (Rw_wR p5 B5 (by omega))
  rw [← e1] at q2
  have r5 := Rw_ad (v := -1) B5 (by omega)
  rw [← e1] at r5
  have B1' : Rw s1 (P + 1) bf := Rw_fr (f1 _ _ (by omega) (by omega)) (fun i => f1 _ _ (by omega) (by omega)) B1
  obtain ⟨s3, e3⟩ : ∃ s3, s3 = adS s1 (P + 1) x := ⟨_, rfl⟩
  have f3 : ∀ c k, ¬ c = P + 1 → ¬ c = P + 2 → s3 c k = s1 c k := fun c k a b => by rw [e3]; exact ad_off a b
  have q5 := d149 (v := x) (Rw_wR p1 B1' (by omega))
  rw [← e3] at q5
  have r1 := Rw_ad (v := x) B1' (by omega)
  rw [← e3] at r1
  refine ⟨s3, b92 hP ⟨_, q2, _, q5, rfl⟩, ⟨r1, Rw_fr (by rw [f3 _ _ (by omega) (by omega), f1 _ _ (by omega) (by omega)]) (fun i => by rw [f3 _ _ (by omega) (by omega), f1 _ _ (by omega) (by omega)]) B3, Rw_fr (f3 _ _ (by omega) (by omega)) (fun i => f3 _ _ (by omega) (by omega)) r5, Rw_fr (by rw [f3 _ _ (by omega) (by omega), f1 _ _ (by omega) (by omega)]) (fun i => by rw [f3 _ _ (by omega) (by omega), f1 _ _ (by omega) (by omega)]) B7⟩, fun c k h => by rw [f3 c k (by omega) (by omega), f1 c k (by omega) (by omega)]⟩
/-- Patch.gain -/
theorem d93 {σ : Sg} {P : Nat} {x : Int} {bf af fo bk : List Int} (W : WDp P) (B : BI σ P bf af fo bk) (h2 : af.length < 96) (h4 : bk.length < 96) : ∃ s, Dd 93 [vA P, vI x] σ (rV s) ∧ BI s P bf (af ++ [x]) fo (bk ++ [-1]) ∧ ∀ c k, ¬ (P + 1 ≤ c ∧ c ≤ P + 8) → s c k = σ c k := by
  obtain ⟨hP, c1, c3, c5, c7, -⟩ := W
  obtain ⟨B1, B3, B5, B7⟩ := B
  have p3 := pat_3 hP
  have p7 := pat_7 hP
  obtain ⟨s1, e1⟩ : ∃ s1, s1 = adS σ (P + 7) (-1) := ⟨_, rfl⟩
  have f1 : ∀ c k, ¬ c = P + 7 → ¬ c = P + 8 → s1 c k = σ c k := fun c k a b => by rw [e1]; exact ad_off a b
  have q2 := d149 (v := -1) (Rw_wR p7 B7 (by omega))
  rw [← e1] at q2
  have r7 := Rw_ad (v := -1) B7 (by omega)
  rw [← e1] at r7
  have B3' : Rw s1 (P + 3) af := Rw_fr (f1 _ _ (by omega) (by omega)) (fun i => f1 _ _ (by omega) (by omega)) B3
  obtain ⟨s3, e3⟩ : ∃ s3, s3 = adS s1 (P + 3) x := ⟨_, rfl⟩
  have f3 : ∀ c k, ¬ c = P + 3 → ¬ c = P + 4 → s3 c k = s1 c k := fun c k a b => by rw [e3]; exact ad_off a b
  have q5 := d149 (v := x) (Rw_wR p3 B3' (by omega))
  rw [← e3] at q5
  have r3 := Rw_ad (v := x) B3' (by omega)
  rw [← e3] at r3
  refine ⟨s3, b93 hP ⟨_, q2, _, q5, rfl⟩, ⟨Rw_fr (by rw [f3 _ _ (by omega) (by omega), f1 _ _ (by omega) (by omega)]) (fun i => by rw [f3 _ _ (by omega) (by omega), f1 _ _ (by omega) (by omega)]) B1, r3, Rw_fr (by rw [f3 _ _ (by omega) (by omega), f1 _ _ (by omega) (by omega)]) (fun i => by rw [f3 _ _ (by omega) (by omega), f1 _ _ (by omega) (by omega)]) B5, Rw_fr (f3 _ _ (by omega) (by omega)) (fun i => f3 _ _ (by omega) (by omega)) r7⟩, fun c k h => by rw [f3 c k (by omega) (by omega), f1 c k (by omega) (by omega)]⟩
/-- a patch that was built, and finished -/
theorem d94_bi {σ : Sg} {P : Nat} {bf af fo bk : List Int} (W : WDp P) (B : BI σ P bf af fo bk) (K : okW bf af fo bk) (h1 : bf.length ≤ 96) (h2 : af.length ≤ 96) : ∃ s, Dd 94 [vA P] σ (rV s) ∧ NP s P bf.length af.length ∧ wR s (P + 9) ∧ (∀ i v, bf[i]? = some v → s (P + 2) i = v) ∧ (∀ i v, af[i]? = some v → s (P + 4) i = v) ∧ (∀ i v, fo[i]? = some v → s (P + 6) i = v) ∧ (∀ i, i < bf.length → ¬ s (P + 6) i = -1 → s (P + 2) i = s (P + 4) (s (P + 6) i).toNat) ∧ ∀ c k, ¬ c = P + 9 → ¬ c = P + 10 → s c k = σ c k := by
  obtain ⟨hP, c1, c3, c5, c7, c9⟩ := W
  obtain ⟨B1, B3, B5, B7⟩ := B
  obtain ⟨k1, k2, k3, k4, k5⟩ := K
  have v5 : ∀ i, i < bf.length → ∃ v, fo[i]? = some v ∧ σ (P + 6) i = v := fun i hi => ⟨_, List.getElem?_eq_getElem (by omega), B5.2 i _ (List.getElem?_eq_getElem (by omega))⟩
  have v7 : ∀ i, i < af.length → ∃ v, bk[i]? = some v ∧ σ (P + 8) i = v := fun i hi => ⟨_, List.getElem?_eq_getElem (by omega), B7.2 i _ (List.getElem?_eq_getElem (by omega))⟩
  have V : VF (σ (P + 6)) bf.length af.length := by
    refine ⟨fun i hi => ?_, fun i i' h1 h2 h3 h4 => ?_⟩
    · obtain ⟨v, g1, g2⟩ := v5 i hi
      rw [g2]
      rcases k3 i v g1 with z | ⟨j, z1, z2, -⟩
      · exact Or.inl z
      · have := g_lt z2
        right; omega
    · obtain ⟨v, g1, g2⟩ := v5 i (by omega)
      obtain ⟨v', g3, g4⟩ := v5 i' h2
      rw [g2] at h3 ⊢
      rw [g4] at h4 ⊢
      exact k5 i i' v v' h1 g1 g3 h3 h4
  have I : IV (σ (P + 6)) (σ (P + 8)) bf.length af.length := by
    refine ⟨fun j hj => ?_, fun i hi hne => ?_⟩
    · obtain ⟨v, g1, g2⟩ := v7 j hj
      rw [g2]
      rcases k4 j v g1 with z | ⟨i, z1, z2⟩
      · exact Or.inl z
      · have hl := g_lt z2
        refine Or.inr ⟨by omega, by omega, ?_⟩
        rw [z1, show ((i : Nat) : Int).toNat = i by omega]
        exact B5.2 i _ z2
    · obtain ⟨v, g1, g2⟩ := v5 i hi
      rw [g2] at hne ⊢
      rcases k3 i v g1 with z | ⟨j, z1, z2, -⟩
      · exact absurd z hne
      · rw [z1, show ((j : Nat) : Int).toNat = j by omega]
        exact B7.2 j _ z2
  have z5 : σ (P + 5) 1 = (bf.length : Nat) := by rw [B5.1]; omega
  have z7 : σ (P + 7) 1 = (af.length : Nat) := by rw [B7.1]; omega
  obtain ⟨s, a1, a2, a3, a4⟩ := d94 hP B1.1 B3.1 z5 z7 (Rw_wR (pat_5 hP) B5 (by omega)) (Rw_wR (pat_7 hP) B7 (by omega)) V I (by omega)
  have s6 : s (P + 6) = σ (P + 6) := funext fun k => a4 _ _ (by omega) (by omega)
  have s8 : s (P + 8) = σ (P + 8) := funext fun k => a4 _ _ (by omega) (by omega)
  refine ⟨s, a1, ⟨by rw [a4 _ _ (by omega) (by omega)]; exact B1.1, by rw [a4 _ _ (by omega) (by omega)]; exact B3.1, by rw [a4 _ _ (by omega) (by omega)]; exact z5, by rw [a4 _ _ (by omega) (by omega)]; exact z7, by rw [s6]; exact V, by rw [s6, s8]; exact I, a2⟩, a3, fun i v h => by rw [a4 _ _ (by omega) (by omega)]; exact B1.2 i v h, fun i v h => by rw [a4 _ _ (by omega) (by omega)]; exact B3.2 i v h, fun i v h => by rw [a4 _ _ (by omega) (by omega)]; exact B5.2 i v h, fun i hi hne => ?_, a4⟩
  obtain ⟨v, g1, g2⟩ := v5 i hi
  rw [s6, g2] at hne ⊢
  rcases k3 i v g1 with z | ⟨j, z1, z2, y, z3, z4⟩
  · exact absurd z hne
  · rw [z1, show ((j : Nat) : Int).toNat = j by omega, a4 _ _ (by omega) (by omega), a4 _ _ (by omega) (by omega)]
    have e1 : σ (P + 2) i = y := B1.2 i y z3
    have e2 : σ (P + 4) j = y := B3.2 j y z4
    rw [e1, e2]
end
-- DRAFT 99.cmp1.lean
/-! Beginnings and ends of a stretch, on both sides. -/
noncomputable section
def hd (f g : Nat → Int) (a ae b be : Nat) : Nat := mt (fun d => decide (f (a + d) = g (b + d))) (mn (ae - a) (be - b))
def tl (f g : Nat → Int) (a ae b be : Nat) : Nat := mt (fun d => decide (f (ae - 1 - d) = g (be - 1 - d))) (mn (ae - a) (be - b))
def pr (i j n : Nat) (G : Nat → Int) : Nat → Int := fun x => if i ≤ x ∧ x < i + n then ((j + (x - i) : Nat) : Int) else G x
theorem hd_b {f g : Nat → Int} {a ae b be : Nat} : hd f g a ae b be ≤ ae - a ∧ hd f g a ae b be ≤ be - b ∧ (∀ d, d < hd f g a ae b be → f (a + d) = g (b + d)) ∧ (hd f g a ae b be < ae - a → hd f g a ae b be < be - b → ¬ f (a + hd f g a ae b be) = g (b + hd f g a ae b be)) := by
  have h := mt_le (p := fun d => decide (f (a + d) = g (b + d))) (n := mn (ae - a) (be - b))
  have m := mn_1 (a := ae - a) (b := be - b)
  have e : mt (fun d => decide (f (a + d) = g (b + d))) (mn (ae - a) (be - b)) = hd f g a ae b be := rfl
  rw [e] at h
  refine ⟨by omega, by omega, fun d hd' => ?_, fun h1 h2 => ?_⟩
  · rw [← e] at hd'
    exact of_decide_eq_true (mt_m hd')
  · have z := mt_n (p := fun d => decide (f (a + d) = g (b + d))) (n := mn (ae - a) (be - b)) (by rw [e]; omega)
    rw [e] at z
    exact of_decide_eq_false z
theorem tl_b {f g : Nat → Int} {a ae b be : Nat} : tl f g a ae b be ≤ ae - a ∧ tl f g a ae b be ≤ be - b ∧ (∀ d, d < tl f g a ae b be → f (ae - 1 - d) = g (be - 1 - d)) ∧ (tl f g a ae b be < ae - a → tl f g a ae b be < be - b → ¬ f (ae - 1 - tl f g a ae b be) = g (be - 1 - tl f g a ae b be)) := by
  have h := mt_le (p := fun d => decide (f (ae - 1 - d) = g (be - 1 - d))) (n := mn (ae - a) (be - b))
  have m := mn_1 (a := ae - a) (b := be - b)
  have e : mt (fun d => decide (f (ae - 1 - d) = g (be - 1 - d))) (mn (ae - a) (be - b)) = tl f g a ae b be := rfl
  rw [e] at h
  refine ⟨by omega, by omega, fun d hd' => ?_, fun h1 h2 => ?_⟩
  · rw [← e] at hd'
    exact of_decide_eq_true (mt_m hd')
  · have z := mt_n (p := fun d => decide (f (ae - 1 - d) = g (be - 1 - d))) (n := mn (ae - a) (be - b)) (by rw [e]; omega)
    rw [e] at z
    exact of_decide_eq_false z
/-- the comparer's rows -/
def CR (σ : Sg) (f g : Nat → Int) (n1 n2 : Nat) : Prop := n1 ≤ 40 ∧ n2 ≤ 40 ∧ wR σ 333 ∧ wR σ 335 ∧ wR σ 337 ∧ σ 333 1 = (n1 : Nat) ∧ σ 335 1 = (n2 : Nat) ∧ σ 337 1 = (n1 : Nat) ∧ (∀ i, i < n1 → σ 334 i = f i) ∧ ∀ i, i < n2 → σ 336 i = g i
theorem CR_fr {σ s : Sg} {f g : Nat → Int} {n1 n2 : Nat} (h : ∀ c x, 333 ≤ c ∧ c ≤ 337 → s c x = σ c x) (C : CR σ f g n1 n2) : CR s f g n1 n2 := by
  obtain ⟨h1, h2, w1, w2, w3, z1, z2, z3, hf, hg⟩ := C
  exact ⟨h1, h2, ⟨w1.1, by rw [h _ _ (by decide)]; exact w1.2⟩, ⟨w2.1, by rw [h _ _ (by decide)]; exact w2.2⟩, ⟨w3.1, by rw [h _ _ (by decide)]; exact w3.2⟩, by rw [h _ _ (by decide)]; exact z1, by rw [h _ _ (by decide)]; exact z2, by rw [h _ _ (by decide)]; exact z3, fun i hi => by rw [h _ _ (by decide)]; exact hf i hi, fun i hi => by rw [h _ _ (by decide)]; exact hg i hi⟩
theorem CR_1 {σ : Sg} {f g : Nat → Int} {n1 n2 i : Nat} (C : CR σ f g n1 n2) (hi : i < n1) : Dd 147 [vA 333, vI i] σ (rI (f i) σ) := by
  obtain ⟨h1, h2, w1, w2, w3, z1, z2, z3, hf, hg⟩ := C
  have e := d147 (σ := σ) (a := 333) (i := (i : Int)) w1
  rw [at_on (n := n1) (f := f) z1 hf hi] at e
  exact e
theorem CR_2 {σ : Sg} {f g : Nat → Int} {n1 n2 i : Nat} (C : CR σ f g n1 n2) (hi : i < n2) : Dd 147 [vA 335, vI i] σ (rI (g i) σ) := by
  obtain ⟨h1, h2, w1, w2, w3, z1, z2, z3, hf, hg⟩ := C
  have e := d147 (σ := σ) (a := 335) (i := (i : Int)) w2
  rw [at_on (n := n2) (f := g) z2 hg hi] at e
  exact e
theorem CR_p {σ : Sg} {f g : Nat → Int} {n1 n2 i : Nat} {v : Int} (C : CR σ f g n1 n2) (hi : i < n1) : Dd 148 [vA 337, vI i, vI v] σ (rV (upS σ 338 i v)) := by
  obtain ⟨h1, h2, w1, w2, w3, z1, z2, z3, hf, hg⟩ := C
  have e := d148 (σ := σ) (a := 337) (i := (i : Int)) (v := v) w3
  rw [st_in (n := n1) z3 hi] at e
  exact e
/-- sameFrom -/
theorem d26 {σ : Sg} {f g : Nat → Int} {n1 n2 a ae b be : Nat} (C : CR σ f g n1 n2) (ha : a ≤ ae) (hb : b ≤ be) (h1 : ae ≤ n1) (h2 : be ≤ n2) : Dd 26 [vA 332, vI a, vI ae, vI b, vI be] σ (rI (hd f g a ae b be : Nat) σ) := by
  have c1 := C.1
  have c2 := C.2.1
  obtain ⟨q1, q2, q3, q4⟩ := hd_b (f := f) (g := g) (a := a) (ae := ae) (b := b) (be := be)
  have m := mn_1 (a := ae - a) (b := be - b)
  have L : ∀ (d k : Nat), k + d = hd f g a ae b be → C26_15 a (some (vI ae)) b (some (vI be)) (mn (ae - a) (be - b) : Nat) k σ (rI (hd f g a ae b be : Nat) σ) := by
    intro d
    induction d with
    | zero =>
      intro k hk
      have e : k = hd f g a ae b be := by omega
      subst e
      refine b26_15 ?_
      by_cases y : hd f g a ae b be < mn (ae - a) (be - b)
      · rw [if_pos (by omega), show (a : Int) + ((hd f g a ae b be : Nat) : Int) = ((a + hd f g a ae b be : Nat) : Int) by omega, show (b : Int) + ((hd f g a ae b be : Nat) : Int) = ((b + hd f g a ae b be : Nat) : Int) by omega]
        refine ⟨by omega, _, _, CR_1 C (by omega), by omega, _, _, CR_2 C (by omega), ?_⟩
        rw [if_neg (q4 (by omega) (by omega))]
      · rw [if_neg (by omega)]
    | succ d ih =>
      intro k hk
      have z := ih (k + 1) (by omega)
      refine b26_15 ?_
      rw [if_pos (by omega), show (a : Int) + (k : Int) = ((a + k : Nat) : Int) by omega, show (b : Int) + (k : Int) = ((b + k : Nat) : Int) by omega, show (k : Int) + 1 = ((k + 1 : Nat) : Int) by omega]
      refine ⟨by omega, _, _, CR_1 C (by omega), by omega, _, _, CR_2 C (by omega), ?_⟩
      rw [if_pos (q3 k (by omega))]
      exact ⟨by omega, z⟩
  refine b26 ⟨by omega, by omega, ?_⟩
  have e : (if (be : Int) - (b : Int) < (ae : Int) - (a : Int) then (be : Int) - (b : Int) else (ae : Int) - (a : Int)) = ((mn (ae - a) (be - b) : Nat) : Int) := by
    unfold mn
    by_cases y : (be : Int) - (b : Int) < (ae : Int) - (a : Int)
    · rw [if_pos y, if_neg (by omega)]; omega
    · rw [if_neg y]
      by_cases y2 : ae - a < be - b
      · rw [if_pos y2]; omega
      · rw [if_neg y2]; omega
  rw [e]
  exact L _ 0 (Nat.zero_add _)
/-- sameUpTo -/
theorem d27 {σ : Sg} {f g : Nat → Int} {n1 n2 a ae b be : Nat} (C : CR σ f g n1 n2) (ha : a ≤ ae) (hb : b ≤ be) (h1 : ae ≤ n1) (h2 : be ≤ n2) : Dd 27 [vA 332, vI a, vI ae, vI b, vI be] σ (rI (tl f g a ae b be : Nat) σ) := by
  have c1 := C.1
  have c2 := C.2.1
  obtain ⟨q1, q2, q3, q4⟩ := tl_b (f := f) (g := g) (a := a) (ae := ae) (b := b) (be := be)
  have m := mn_1 (a := ae - a) (b := be - b)
  have L : ∀ (d k : Nat), k + d = tl f g a ae b be → C27_15 (some (vI a)) ae (some (vI b)) be (mn (ae - a) (be - b) : Nat) k σ (rI (tl f g a ae b be : Nat) σ) := by
    intro d
    induction d with
    | zero =>
      intro k hk
      have e : k = tl f g a ae b be := by omega
      subst e
      refine b27_15 ?_
      by_cases y : tl f g a ae b be < mn (ae - a) (be - b)
      · rw [if_pos (by omega), show (ae : Int) - ((tl f g a ae b be : Nat) : Int) - 1 = ((ae - 1 - tl f g a ae b be : Nat) : Int) by omega, show (be : Int) - ((tl f g a ae b be : Nat) : Int) - 1 = ((be - 1 - tl f g a ae b be : Nat) : Int) by omega]
        refine ⟨by omega, by omega, _, _, CR_1 C (by omega), by omega, by omega, _, _, CR_2 C (by omega), ?_⟩
        rw [if_neg (q4 (by omega) (by omega))]
      · rw [if_neg (by omega)]
    | succ d ih =>
      intro k hk
      have z := ih (k + 1) (by omega)
      refine b27_15 ?_
      rw [if_pos (by omega), show (ae : Int) - (k : Int) - 1 = ((ae - 1 - k : Nat) : Int) by omega, show (be : Int) - (k : Int) - 1 = ((be - 1 - k : Nat) : Int) by omega, show (k : Int) + 1 = ((k + 1 : Nat) : Int) by omega]
      refine ⟨by omega, by omega, _, _, CR_1 C (by omega), by omega, by omega, _, _, CR_2 C (by omega), ?_⟩
      rw [if_pos (q3 k (by omega))]
      exact ⟨by omega, z⟩
  refine b27 ⟨by omega, by omega, ?_⟩
  have e : (if (be : Int) - (b : Int) < (ae : Int) - (a : Int) then (be : Int) - (b : Int) else (ae : Int) - (a : Int)) = ((mn (ae - a) (be - b) : Nat) : Int) := by
    unfold mn
    by_cases y : (be : Int) - (b : Int) < (ae : Int) - (a : Int)
    · rw [if_pos y, if_neg (by omega)]; omega
    · rw [if_neg y]
      by_cases y2 : ae - a < be - b
      · rw [if_pos y2]; omega
      · rw [if_neg y2]; omega
  rw [e]
  exact L _ 0 (Nat.zero_add _)
/-- pairRow -/
theorem d28 {σ0 : Sg} {f g G : Nat → Int} {n1 n2 i j n : Nat} (C : CR σ0 f g n1 n2) (hi : i + n ≤ n1) (hj : j + n ≤ n2) (hG : ∀ x, x < n1 → σ0 338 x = G x) : ∃ s, Dd 28 [vA 332, vI i, vI j, vI n] σ0 (rV s) ∧ (∀ x, x < n1 → s 338 x = pr i j n G x) ∧ ∀ c x, ¬ c = 338 → s c x = σ0 c x := by
  have c1 := C.1
  have c2 := C.2.1
  have L : ∀ (d k : Nat) (σ : Sg), k + d = n → (∀ c x, ¬ c = 338 → σ c x = σ0 c x) → (∀ x, x < n1 → σ 338 x = pr i j k G x) → ∃ s, C28_3 i j n k σ (rV s) ∧ (∀ x, x < n1 → s 338 x = pr i j n G x) ∧ ∀ c x, ¬ c = 338 → s c x = σ0 c x := by
    intro d
    induction d with
    | zero =>
      intro k σ hk hF hv
      have e : k = n := by omega
      subst e
      refine ⟨σ, b28_3 ?_, hv, hF⟩
      rw [if_neg (by omega)]
    | succ d ih =>
      intro k σ hk hF hv
      obtain ⟨s, a1, a2, a3⟩ := ih (k + 1) (upS σ 338 (i + k) ((j + k : Nat) : Int)) (by omega) (fun c x hc => by rw [up_a hc]; exact hF c x hc) (fun x hx => by
        unfold pr
        by_cases e : x = i + k
        · rw [e, up_s, if_pos (by omega)]
          congr 1
          omega
        · rw [up_k e, hv x hx]
          unfold pr
          by_cases y : i ≤ x ∧ x < i + k
          · rw [if_pos y, if_pos (by omega)]
          · rw [if_neg y, if_neg (show ¬ (i ≤ x ∧ x < i + (k + 1)) by omega)])
      have q := CR_p (v := ((j + k : Nat) : Int)) (CR_fr (fun c x hc => hF c x (by omega)) C) (show i + k < n1 by omega)
      refine ⟨s, b28_3 ?_, a2, a3⟩
      rw [if_pos (by omega), show (i : Int) + (k : Int) = ((i + k : Nat) : Int) by omega, show (j : Int) + (k : Int) = ((j + k : Nat) : Int) by omega, show (k : Int) + 1 = ((k + 1 : Nat) : Int) by omega]
      exact ⟨by omega, by omega, _, q, by omega, a1⟩
  obtain ⟨s, a1, a2, a3⟩ := L n 0 σ0 (by omega) (fun _ _ _ => rfl) (fun x hx => by
    unfold pr
    rw [if_neg (by omega)]
    exact hG x hx)
  exact ⟨s, b28 a1, a2, a3⟩
/-- the reference's rows -/
def MRw (σ : Sg) (f g : Nat → Int) (n1 n2 : Nat) : Prop := n1 ≤ 40 ∧ n2 ≤ 40 ∧ (∀ i, i < n1 → σ 691 i = f i) ∧ ∀ i, i < n2 → σ 692 i = g i
/-- the stretch at hand -/
def MS (σ : Sg) (a ae b be : Nat) : Prop := σ 682 17 = (a : Nat) ∧ σ 682 18 = (ae : Nat) ∧ σ 682 19 = (b : Nat) ∧ σ 682 20 = (be : Nat)
theorem tn (n : Nat) : ((n : Nat) : Int).toNat = n := by omega
theorem l268b {f g G : Nat → Int} {n1 n2 a ae b be : Nat} {σ0 : Sg} (R : MRw σ0 f g n1 n2) (ha : a ≤ ae) (hb : b ≤ be) (h1 : ae ≤ n1) (h2 : be ≤ n2) : ∀ (d k : Nat) (σ : Sg), k + d = tl f g a ae b be → MS σ a (ae - k) b (be - k) → (∀ c x, ¬ c = 693 → ¬ (c = 682 ∧ 17 ≤ x ∧ x ≤ 20) → σ c x = σ0 c x) → (∀ x, x < n1 → σ 693 x = pr (ae - k) (be - k) k G x) → ∃ s, C268_79 σ (rV s) ∧ MS s a (ae - tl f g a ae b be) b (be - tl f g a ae b be) ∧ (∀ x, x < n1 → s 693 x = pr (ae - tl f g a ae b be) (be - tl f g a ae b be) (tl f g a ae b be) G x) ∧ ∀ c x, ¬ c = 693 → ¬ (c = 682 ∧ 17 ≤ x ∧ x ≤ 20) → s c x = σ0 c x := by
  obtain ⟨r1, r2, r3, r4⟩ := R
  obtain ⟨q1, q2, q3, q4⟩ := tl_b (f := f) (g := g) (a := a) (ae := ae) (b := b) (be := be)
  intro d
  induction d with
  | zero =>
    intro k σ hk hM hF hv
    have e : k = tl f g a ae b be := by omega
    subst e
    obtain ⟨m17, m18, m19, m20⟩ := hM
    refine ⟨σ, b268_79 ?_, ⟨m17, m18, m19, m20⟩, hv, hF⟩
    by_cases y1 : tl f g a ae b be < ae - a
    · rw [if_pos (by omega)]
      by_cases y2 : tl f g a ae b be < be - b
      · rw [if_pos (by omega), m18, m20, show (((ae - tl f g a ae b be : Nat) : Int) - 1).toNat = ae - 1 - tl f g a ae b be by omega, show (((be - tl f g a ae b be : Nat) : Int) - 1).toNat = be - 1 - tl f g a ae b be by omega, hF 691 _ (by decide) (by omega), hF 692 _ (by decide) (by omega), r3 _ (by omega), r4 _ (by omega), if_neg (q4 y1 y2)]
        exact ⟨by omega, by omega, by omega, by omega, rfl⟩
      · rw [if_neg (by omega)]
    · rw [if_neg (by omega)]
  | succ d ih =>
    intro k σ hk hM hF hv
    obtain ⟨m17, m18, m19, m20⟩ := hM
    obtain ⟨s, a1, a2, a3, a4⟩ := ih (k + 1) (upS (upS (upS σ 682 18 ((ae - (k + 1) : Nat) : Int)) 682 20 ((be - (k + 1) : Nat) : Int)) 693 (ae - (k + 1)) ((be - (k + 1) : Nat) : Int)) (by omega) ⟨by rw [up_a (by decide), up_k (by decide), up_k (by decide)]; exact m17, by rw [up_a (by decide), up_k (by decide), up_s], by rw [up_a (by decide), up_k (by decide), up_k (by decide)]; exact m19, by rw [up_a (by decide), up_s]⟩ (fun c x y1 y2 => by
      rw [up_a y1]
      have : upS (upS σ 682 18 ((ae - (k + 1) : Nat) : Int)) 682 20 ((be - (k + 1) : Nat) : Int) c x = σ c x := by
        unfold upS
        rw [if_neg (by omega), if_neg (by omega)]
      rw [this]
      exact hF c x y1 y2) (fun x hx => by
      unfold pr
      by_cases y : x = ae - (k + 1)
      · rw [y, up_s, if_pos (by omega)]
        congr 1
        omega
      · rw [up_k y, up_a (by decide), up_a (by decide), hv x hx]
        unfold pr
        by_cases y2 : ae - k ≤ x ∧ x < ae - k + k
        · rw [if_pos y2, if_pos (by omega)]
          congr 1
          omega
        · rw [if_neg y2, if_neg (by omega)])
    refine ⟨s, b268_79 ?_, a2, a3, a4⟩
    have E1 : ((ae - k : Nat) : Int) - 1 = ((ae - (k + 1) : Nat) : Int) := by omega
    have E2 : ((be - k : Nat) : Int) - 1 = ((be - (k + 1) : Nat) : Int) := by omega
    have F1 : σ 691 (ae - (k + 1)) = f (ae - (k + 1)) := by rw [hF 691 _ (by decide) (by omega)]; exact r3 _ (by omega)
    have F2 : σ 692 (be - (k + 1)) = g (be - (k + 1)) := by rw [hF 692 _ (by decide) (by omega)]; exact r4 _ (by omega)
    have F3 : f (ae - (k + 1)) = g (be - (k + 1)) := by
      have := q3 k (by omega)
      rw [show ae - 1 - k = ae - (k + 1) by omega, show be - 1 - k = be - (k + 1) by omega] at this
      exact this
    simp only [m17, m18, m19, m20, up_k (show ¬ (20 : Nat) = 18 by decide), up_k (show ¬ (18 : Nat) = 20 by decide), up_s, E1, E2, tn, F1, F2]
    rw [if_pos (by omega), if_pos (by omega), if_pos F3]
    exact ⟨by omega, by omega, by omega, by omega, by omega, by omega, by omega, a1⟩
theorem l268a {f g G : Nat → Int} {n1 n2 a ae b be : Nat} {σ0 : Sg} (R : MRw σ0 f g n1 n2) (ha : a ≤ ae) (hb : b ≤ be) (h1 : ae ≤ n1) (h2 : be ≤ n2) : ∀ (d k : Nat) (σ : Sg), k + d = hd f g a ae b be → MS σ (a + k) ae (b + k) be → (∀ c x, ¬ c = 693 → ¬ (c = 682 ∧ 17 ≤ x ∧ x ≤ 20) → σ c x = σ0 c x) → (∀ x, x < n1 → σ 693 x = pr a b k G x) → ∃ s, (∀ {o : Rs}, C268_79 s o → C268_0 σ o) ∧ MS s (a + hd f g a ae b be) ae (b + hd f g a ae b be) be ∧ (∀ x, x < n1 → s 693 x = pr a b (hd f g a ae b be) G x) ∧ ∀ c x, ¬ c = 693 → ¬ (c = 682 ∧ 17 ≤ x ∧ x ≤ 20) → s c x = σ0 c x := by
  obtain ⟨r1, r2, r3, r4⟩ := R
  obtain ⟨q1, q2, q3, q4⟩ := hd_b (f := f) (g := g) (a := a) (ae := ae) (b := b) (be := be)
  intro d
  induction d with
  | zero =>
    intro k σ hk hM hF hv
    have e : k = hd f g a ae b be := by omega
    subst e
    obtain ⟨m17, m18, m19, m20⟩ := hM
    refine ⟨σ, fun {o} hh => b268_0 ?_, ⟨m17, m18, m19, m20⟩, hv, hF⟩
    by_cases y1 : hd f g a ae b be < ae - a
    · rw [if_pos (by omega)]
      by_cases y2 : hd f g a ae b be < be - b
      · rw [if_pos (by omega), m17, m19, tn, tn, hF 691 _ (by decide) (by omega), hF 692 _ (by decide) (by omega), r3 _ (by omega), r4 _ (by omega), if_neg (q4 y1 y2)]
        exact ⟨by omega, by omega, hh⟩
      · rw [if_neg (by omega)]
        exact hh
    · rw [if_neg (by omega)]
      exact hh
  | succ d ih =>
    intro k σ hk hM hF hv
    obtain ⟨m17, m18, m19, m20⟩ := hM
    obtain ⟨s, a1, a2, a3, a4⟩ := ih (k + 1) (upS (upS (upS σ 693 (a + k) ((b + k : Nat) : Int)) 682 17 ((a + (k + 1) : Nat) : Int)) 682 19 ((b + (k + 1) : Nat) : Int)) (by omega) ⟨by rw [up_k (by decide), up_s], by rw [up_k (by decide), up_k (by decide), up_a (by decide)]; exact m18, by rw [up_s], by rw [up_k (by decide), up_k (by decide), up_a (by decide)]; exact m20⟩ (fun c x y1 y2 => by
      have : upS (upS (upS σ 693 (a + k) ((b + k : Nat) : Int)) 682 17 ((a + (k + 1) : Nat) : Int)) 682 19 ((b + (k + 1) : Nat) : Int) c x = σ c x := by
        unfold upS
        rw [if_neg (by omega), if_neg (by omega), if_neg (by omega)]
      rw [this]
      exact hF c x y1 y2) (fun x hx => by
      rw [up_a (by decide), up_a (by decide)]
      unfold pr
      by_cases y : x = a + k
      · rw [y, up_s, if_pos (by omega)]
        congr 1
        omega
      · rw [up_k y, hv x hx]
        unfold pr
        by_cases y2 : a ≤ x ∧ x < a + k
        · rw [if_pos y2, if_pos (by omega)]
        · rw [if_neg y2, if_neg (by omega)])
    refine ⟨s, fun {o} hh => b268_0 ?_, a2, a3, a4⟩
    have E1 : ((a + k : Nat) : Int) + 1 = ((a + (k + 1) : Nat) : Int) := by omega
    have E2 : ((b + k : Nat) : Int) + 1 = ((b + (k + 1) : Nat) : Int) := by omega
    have F1 : σ 691 (a + k) = f (a + k) := by rw [hF 691 _ (by decide) (by omega)]; exact r3 _ (by omega)
    have F2 : σ 692 (b + k) = g (b + k) := by rw [hF 692 _ (by decide) (by omega)]; exact r4 _ (by omega)
    simp only [m17, m18, m19, m20, up_a (show ¬ (682 : Nat) = 693 by decide), up_k (show ¬ (19 : Nat) = 17 by decide), E1, E2, tn, F1, F2]
    rw [if_pos (by omega), if_pos (by omega), if_pos (q3 k (by omega))]
    exact ⟨by omega, by omega, by omega, by omega, by omega, a1 hh⟩
/-- the reference's trims -/
theorem d268 {f g G : Nat → Int} {n1 n2 a ae b be p q : Nat} {σ : Sg} (R : MRw σ f g n1 n2) (M : MS σ a ae b be) (ha : a ≤ ae) (hb : b ≤ be) (h1 : ae ≤ n1) (h2 : be ≤ n2) (hG : ∀ x, x < n1 → σ 693 x = G x) (hp : p = hd f g a ae b be) (hq : q = tl f g (a + p) ae (b + p) be) : ∃ s, Dd 268 [vA 682] σ (rV s) ∧ MS s (a + p) (ae - q) (b + p) (be - q) ∧ (∀ x, x < n1 → s 693 x = pr (ae - q) (be - q) q (pr a b p G) x) ∧ ∀ c x, ¬ c = 693 → ¬ (c = 682 ∧ 17 ≤ x ∧ x ≤ 20) → s c x = σ c x := by
  have hb1 := hd_b (f := f) (g := g) (a := a) (ae := ae) (b := b) (be := be)
  rw [← hp] at hb1
  obtain ⟨s1, a1, a2, a3, a4⟩ := l268a (G := G) R ha hb h1 h2 p 0 σ (by omega) M (fun _ _ _ _ => rfl) (fun x hx => by
    unfold pr
    rw [if_neg (by omega)]
    exact hG x hx)
  rw [← hp] at a2 a3
  obtain ⟨s, c1, c2, c3, c4⟩ := l268b (σ0 := s1) (G := pr a b p G) (f := f) (g := g) (n1 := n1) (n2 := n2) (a := a + p) (ae := ae) (b := b + p) (be := be) ⟨R.1, R.2.1, fun i hi => by rw [a4 _ _ (by decide) (by omega)]; exact R.2.2.1 i hi, fun i hi => by rw [a4 _ _ (by decide) (by omega)]; exact R.2.2.2 i hi⟩ (by omega) (by omega) h1 h2 q 0 s1 (by omega) a2 (fun _ _ _ _ => rfl) (fun x hx => by
    show s1 693 x = pr (ae - 0) (be - 0) 0 (pr a b p G) x
    unfold pr
    rw [if_neg (by omega)]
    exact a3 x hx)
  rw [← hq] at c2 c3
  exact ⟨s, b268 (a1 c1), c2, c3, fun c x y1 y2 => by rw [c4 c x y1 y2, a4 c x y1 y2]⟩
end
-- DRAFT 99.cmp2.lean
/-! Counts and places of a line in a stretch, on both sides. -/
noncomputable section
def cnt (f : Nat → Int) (x : Int) : Nat → Nat → Int
  | _, 0 => 0
  | a, d + 1 => (if f a = x then 1 else 0) + cnt f x (a + 1) d
theorem cnt_b {f : Nat → Int} {x : Int} : ∀ (d a : Nat), 0 ≤ cnt f x a d ∧ cnt f x a d ≤ (d : Int) := by
  intro d
  induction d with
  | zero =>
    intro a
    show 0 ≤ (0 : Int) ∧ (0 : Int) ≤ ((0 : Nat) : Int)
    omega
  | succ d ih =>
    intro a
    have := ih (a + 1)
    show 0 ≤ (if f a = x then (1 : Int) else 0) + cnt f x (a + 1) d ∧ (if f a = x then (1 : Int) else 0) + cnt f x (a + 1) d ≤ ((d + 1 : Nat) : Int)
    split <;> omega
theorem cnt_0 {f : Nat → Int} {x : Int} : ∀ (d a : Nat), (0 < cnt f x a d ↔ ∃ k, a ≤ k ∧ k < a + d ∧ f k = x) := by
  intro d
  induction d with
  | zero =>
    intro a
    refine ⟨fun h => ?_, fun ⟨k, h1, h2, _⟩ => by omega⟩
    have : (0 : Int) < 0 := h
    omega
  | succ d ih =>
    intro a
    have b := cnt_b (f := f) (x := x) d (a + 1)
    have e : cnt f x a (d + 1) = (if f a = x then (1 : Int) else 0) + cnt f x (a + 1) d := rfl
    rw [e]
    by_cases h : f a = x
    · rw [if_pos h]
      exact ⟨fun _ => ⟨a, Nat.le_refl a, by omega, h⟩, fun _ => by omega⟩
    · rw [if_neg h, Int.zero_add, ih (a + 1)]
      refine ⟨fun ⟨k, h1, h2, h3⟩ => ⟨k, by omega, by omega, h3⟩, fun ⟨k, h1, h2, h3⟩ => ?_⟩
      by_cases y : k = a
      · rw [y] at h3; exact absurd h3 h
      · exact ⟨k, by omega, by omega, h3⟩
def fnd (g : Nat → Int) (x : Int) : Nat → Nat → Int
  | _, 0 => -1
  | k, d + 1 => if g k = x then (k : Int) else fnd g x (k + 1) d
theorem fnd_in {g : Nat → Int} {x : Int} : ∀ (d b : Nat), (∃ k, b ≤ k ∧ k < b + d ∧ g k = x) → ∃ k : Nat, fnd g x b d = (k : Int) ∧ b ≤ k ∧ k < b + d ∧ g k = x := by
  intro d
  induction d with
  | zero =>
    rintro b ⟨k, h1, h2, -⟩
    omega
  | succ d ih =>
    rintro b ⟨k, h1, h2, h3⟩
    have e : fnd g x b (d + 1) = if g b = x then (b : Int) else fnd g x (b + 1) d := rfl
    rw [e]
    by_cases h : g b = x
    · rw [if_pos h]
      exact ⟨b, rfl, Nat.le_refl b, by omega, h⟩
    · rw [if_neg h]
      obtain ⟨k', e1, e2, e3, e4⟩ := ih (b + 1) ⟨k, by
        by_cases y : k = b
        · rw [y] at h3; exact absurd h3 h
        · omega, by omega, h3⟩
      exact ⟨k', e1, by omega, by omega, e4⟩
theorem fnd_ext {g : Nat → Int} {x : Int} : ∀ (d d' b : Nat), d ≤ d' → (∃ k, b ≤ k ∧ k < b + d ∧ g k = x) → fnd g x b d' = fnd g x b d := by
  intro d
  induction d with
  | zero =>
    rintro d' b _ ⟨k, h1, h2, -⟩
    omega
  | succ d ih =>
    rintro d' b hd ⟨k, h1, h2, h3⟩
    cases d' with
    | zero => omega
    | succ d' =>
      show (if g b = x then (b : Int) else fnd g x (b + 1) d') = if g b = x then (b : Int) else fnd g x (b + 1) d
      by_cases h : g b = x
      · rw [if_pos h, if_pos h]
      · rw [if_neg h, if_neg h]
        refine ih d' (b + 1) (by omega) ⟨k, ?_, by omega, h3⟩
        by_cases y : k = b
        · rw [y] at h3; exact absurd h3 h
        · omega
/-- Row.countOf -/
theorem d157 {σ : Sg} {R n a e : Nat} {f : Nat → Int} {x : Int} (w : wR σ R) (hn : σ R 1 = (n : Nat)) (hf : ∀ i, i < n → σ (R + 1) i = f i) (ha : a ≤ e) (he : e ≤ n) : Dd 157 [vA R, vI x, vI a, vI e] σ (rI (cnt f x a (e - a)) σ) := by
  have hc := cap_le w.1
  have w2 := w.2.2
  have L : ∀ (d k : Nat) (acc : Int) (d2 : Option AV), k + d = e → 0 ≤ acc → acc + (d : Int) ≤ 9000 → C157_10 R x d2 e acc k σ (rI (acc + cnt f x k d) σ) := by
    intro d
    induction d with
    | zero =>
      intro k acc d2 hk h0 h1
      refine b157_10 w.1 ?_
      rw [if_neg (by omega), show cnt f x k 0 = 0 from rfl, Int.add_zero]
    | succ d ih =>
      intro k acc d2 hk h0 h1
      refine b157_10 w.1 ?_
      rw [if_pos (by omega), if_pos (by omega), show ((k : Nat) : Int).toNat = k by omega, hf k (by omega)]
      have e1 : cnt f x k (d + 1) = (if f k = x then (1 : Int) else 0) + cnt f x (k + 1) d := rfl
      rw [e1]
      refine ⟨by omega, fun _ => by omega, b157_39 ⟨by omega, ?_⟩⟩
      rw [show (k : Int) + 1 = ((k + 1 : Nat) : Int) by omega]
      by_cases y : f k = x
      · rw [if_pos y, if_pos y, show acc + (1 + cnt f x (k + 1) d) = acc + 1 + cnt f x (k + 1) d by omega]
        exact ih (k + 1) (acc + 1) d2 (by omega) (by omega) (by omega)
      · rw [if_neg y, if_neg y, Int.zero_add]
        exact ih (k + 1) acc d2 (by omega) h0 (by omega)
  refine b157 ?_
  rw [show (if 0 < (a : Int) then (a : Int) else 0) = (a : Int) by split <;> omega]
  have z := L (e - a) a 0 (some (vI a)) (by omega) (by omega) (by omega)
  rw [Int.zero_add] at z
  exact z
/-- Row.find -/
theorem d160 {σ : Sg} {R n b : Nat} {g : Nat → Int} {x : Int} (w : wR σ R) (hn : σ R 1 = (n : Nat)) (hg : ∀ i, i < n → σ (R + 1) i = g i) (hb : b ≤ n) : Dd 160 [vA R, vI x, vI b] σ (rI (fnd g x b (n - b)) σ) := by
  have hc := cap_le w.1
  have w2 := w.2.2
  have L : ∀ (d k : Nat) (d2 : Option AV), k + d = n → C160_6 R x d2 k σ (rI (fnd g x k d) σ) := by
    intro d
    induction d with
    | zero =>
      intro k d2 hk
      refine b160_6 w.1 ?_
      rw [if_neg (by omega)]
      rfl
    | succ d ih =>
      intro k d2 hk
      refine b160_6 w.1 ?_
      have e1 : fnd g x k (d + 1) = if g k = x then (k : Int) else fnd g x (k + 1) d := rfl
      rw [if_pos (by omega), show ((k : Nat) : Int).toNat = k by omega, hg k (by omega), e1]
      refine ⟨by omega, ?_⟩
      by_cases y : g k = x
      · rw [if_pos y, if_pos y]
      · rw [if_neg y, if_neg y, show (k : Int) + 1 = ((k + 1 : Nat) : Int) by omega]
        exact ⟨by omega, ih (k + 1) d2 (by omega)⟩
  refine b160 ?_
  rw [show (if 0 < (b : Int) then (b : Int) else 0) = (b : Int) by split <;> omega]
  exact L (n - b) b _ (by omega)
/-- the reference's counts -/
theorem d269 {σ : Sg} {f g : Nat → Int} {n1 n2 a ae b be : Nat} {x : Int} (R : MRw σ f g n1 n2) (M : MS σ a ae b be) (ha : a ≤ ae) (h1 : ae ≤ n1) : Dd 269 [vA 682, vI x] σ (rI (cnt f x a (ae - a)) σ) := by
  obtain ⟨r1, r2, r3, r4⟩ := R
  obtain ⟨m17, m18, m19, m20⟩ := M
  have L : ∀ (d k : Nat) (acc : Int), k + d = ae → 0 ≤ acc → acc + (d : Int) ≤ 9000 → C269_7 x acc k σ (rI (acc + cnt f x k d) σ) := by
    intro d
    induction d with
    | zero =>
      intro k acc hk h0 h2
      refine b269_7 ?_
      rw [m18, if_neg (by omega), show cnt f x k 0 = 0 from rfl, Int.add_zero]
    | succ d ih =>
      intro k acc hk h0 h2
      refine b269_7 ?_
      have e1 : cnt f x k (d + 1) = (if f k = x then (1 : Int) else 0) + cnt f x (k + 1) d := rfl
      rw [m18, if_pos (by omega), tn, r3 k (by omega), e1]
      refine ⟨by omega, b269_31 ?_⟩
      rw [show (k : Int) + 1 = ((k + 1 : Nat) : Int) by omega]
      by_cases y : f k = x
      · rw [if_pos y, show acc + (1 + cnt f x (k + 1) d) = acc + 1 + cnt f x (k + 1) d by omega]
        exact ⟨by omega, by omega, ih (k + 1) (acc + 1) (by omega) (by omega) (by omega)⟩
      · rw [if_neg y, Int.zero_add, Int.add_zero]
        exact ⟨by omega, by omega, ih (k + 1) acc (by omega) h0 (by omega)⟩
  refine b269 ?_
  rw [m17]
  have z := L (ae - a) a 0 (by omega) (by omega) (by omega)
  rw [Int.zero_add] at z
  exact z
theorem d270 {σ : Sg} {f g : Nat → Int} {n1 n2 a ae b be : Nat} {x : Int} (R : MRw σ f g n1 n2) (M : MS σ a ae b be) (hb : b ≤ be) (h2' : be ≤ n2) : Dd 270 [vA 682, vI x] σ (rI (cnt g x b (be - b)) σ) := by
  obtain ⟨r1, r2, r3, r4⟩ := R
  obtain ⟨m17, m18, m19, m20⟩ := M
  have L : ∀ (d k : Nat) (acc : Int), k + d = be → 0 ≤ acc → acc + (d : Int) ≤ 9000 → C270_7 x acc k σ (rI (acc + cnt g x k d) σ) := by
    intro d
    induction d with
    | zero =>
      intro k acc hk h0 h2
      refine b270_7 ?_
      rw [m20, if_neg (by omega), show cnt g x k 0 = 0 from rfl, Int.add_zero]
    | succ d ih =>
      intro k acc hk h0 h2
      refine b270_7 ?_
      have e1 : cnt g x k (d + 1) = (if g k = x then (1 : Int) else 0) + cnt g x (k + 1) d := rfl
      rw [m20, if_pos (by omega), tn, r4 k (by omega), e1]
      refine ⟨by omega, b270_31 ?_⟩
      rw [show (k : Int) + 1 = ((k + 1 : Nat) : Int) by omega]
      by_cases y : g k = x
      · rw [if_pos y, show acc + (1 + cnt g x (k + 1) d) = acc + 1 + cnt g x (k + 1) d by omega]
        exact ⟨by omega, by omega, ih (k + 1) (acc + 1) (by omega) (by omega) (by omega)⟩
      · rw [if_neg y, Int.zero_add, Int.add_zero]
        exact ⟨by omega, by omega, ih (k + 1) acc (by omega) h0 (by omega)⟩
  refine b270 ?_
  rw [m19]
  have z := L (be - b) b 0 (by omega) (by omega) (by omega)
  rw [Int.zero_add] at z
  exact z
theorem d271 {σ : Sg} {f g : Nat → Int} {n1 n2 a ae b be : Nat} {x : Int} (R : MRw σ f g n1 n2) (M : MS σ a ae b be) (hb : b ≤ be) (h2' : be ≤ n2) : Dd 271 [vA 682, vI x] σ (rI (fnd g x b (be - b)) σ) := by
  obtain ⟨r1, r2, r3, r4⟩ := R
  obtain ⟨m17, m18, m19, m20⟩ := M
  have L : ∀ (d : Nat), b + d ≤ be → C271_9 x (fnd g x (b + d) (be - (b + d))) (((b + d : Nat) : Int) - 1) σ (rI (fnd g x b (be - b)) σ) := by
    intro d
    induction d with
    | zero =>
      intro hk
      refine b271_9 ?_
      rw [m19, if_neg (by omega), Nat.add_zero]
    | succ d ih =>
      intro hk
      refine b271_9 ?_
      have z := ih (by omega)
      have e1 : fnd g x (b + d) (be - (b + d)) = if g (b + d) = x then ((b + d : Nat) : Int) else fnd g x (b + (d + 1)) (be - (b + (d + 1))) := by
        rw [show be - (b + d) = (be - (b + (d + 1))) + 1 by omega]
        rfl
      rw [e1] at z
      rw [m19, show ((b + (d + 1) : Nat) : Int) - 1 = ((b + d : Nat) : Int) by omega, if_pos (by omega), tn, r4 _ (by omega)]
      refine ⟨by omega, b271_32 ⟨by omega, ?_⟩⟩
      rw [show ((b + d : Nat) : Int) + (-1) = ((b + d : Nat) : Int) - 1 by omega]
      exact z
  have z := L (be - b) (by omega)
  rw [show b + (be - b) = be by omega, Nat.sub_self] at z
  refine b271 ⟨by rw [m20]; omega, ?_⟩
  rw [m20]
  exact z
end
-- DRAFT 99.cmp3.lean
/-! UNIQUE, the class's side. -/
noncomputable section
def ptn (f g : Nat → Int) (a ae b be k : Nat) : Int := if cnt f (f k) a (ae - a) = 1 ∧ cnt g (f k) b (be - b) = 1 then fnd g (f k) b (be - b) else -1
theorem ptn_c {f g : Nat → Int} {a ae b be k : Nat} : ptn f g a ae b be k = -1 ∨ ∃ j : Nat, ptn f g a ae b be k = (j : Int) ∧ b ≤ j ∧ j < be ∧ g j = f k := by
  unfold ptn
  by_cases h : cnt f (f k) a (ae - a) = 1 ∧ cnt g (f k) b (be - b) = 1
  · rw [if_pos h]
    have h0 := (cnt_0 (f := g) (x := f k) (be - b) b).mp (by omega)
    obtain ⟨j, e1, e2, e3, e4⟩ := fnd_in _ _ h0
    exact Or.inr ⟨j, e1, e2, by omega, e4⟩
  · rw [if_neg h]
    exact Or.inl rfl
theorem cpC2 : isRow 339 = true ∧ cap 339 = 40 ∧ isRow 341 = true ∧ cap 341 = 40 := by decide +kernel
/-- findPartners -/
theorem d30 {σ0 : Sg} {f g : Nat → Int} {n1 n2 a ae b be : Nat} (C : CR σ0 f g n1 n2) (ha : a ≤ ae) (hb : b ≤ be) (h1 : ae ≤ n1) (h2 : be ≤ n2) : ∃ s, Dd 30 [vA 332, vI a, vI ae, vI b, vI be] σ0 (rV s) ∧ s 339 1 = (n1 : Nat) ∧ (∀ k, a ≤ k → k < ae → s 340 k = ptn f g a ae b be k) ∧ ∀ c x, ¬ c = 339 → ¬ c = 340 → s c x = σ0 c x := by
  obtain ⟨r339, c339, -, -⟩ := cpC2
  have C' := C
  obtain ⟨h40, h40', w1, w2, w3, z1, z2, z3, hf, hg⟩ := C'
  have q1 := d146 (σ := σ0) w1.1
  rw [z1] at q1
  have q2 := d153 (σ := σ0) (a := 339) (n := (n1 : Int)) (v := -1) r339
  have v1 : flS σ0 339 (n1 : Int) (-1) 339 1 = (n1 : Nat) := fl_sz (by omega) (by rw [c339]; omega)
  have v2 : ∀ k : Nat, k < n1 → flS σ0 339 (n1 : Int) (-1) 340 k = -1 := fun k hk => fl_val (a := 339) (by omega) (by rw [c339]; omega) (by omega)
  have v3 : ∀ c x, ¬ c = 339 → ¬ c = 340 → flS σ0 339 (n1 : Int) (-1) c x = σ0 c x := fun c x y1 y2 => fl_off y1 y2
  generalize flS σ0 339 (n1 : Int) (-1) = s0 at q2 v1 v2 v3
  have L : ∀ (d k : Nat) (σ : Sg), k + d = ae → a ≤ k → (∀ c x, ¬ c = 340 → σ c x = s0 c x) → (∀ x, a ≤ x → x < k → σ 340 x = ptn f g a ae b be x) → (∀ x, k ≤ x → x < ae → σ 340 x = -1) → ∃ s, (∀ d6, C30_18 a ae b be k d6 σ (rV s)) ∧ (∀ x, a ≤ x → x < ae → s 340 x = ptn f g a ae b be x) ∧ ∀ c x, ¬ c = 340 → s c x = s0 c x := by
    intro d
    induction d with
    | zero =>
      intro k σ hk hak hF h3 h4
      refine ⟨σ, fun d6 => b30_18 ?_, fun x y1 y2 => h3 x y1 (by omega), hF⟩
      rw [if_neg (by omega)]
    | succ d ih =>
      intro k σ hk hak hF h3 h4
      have CF : CR σ f g n1 n2 := CR_fr (fun c x hc => by rw [hF c x (by omega)]; exact v3 c x (by omega) (by omega)) C
      obtain ⟨-, -, W1, W2, -, Z1, Z2, -, HF, HG⟩ := CF
      have CF : CR σ f g n1 n2 := CR_fr (fun c x hc => by rw [hF c x (by omega)]; exact v3 c x (by omega) (by omega)) C
      have p1 := CR_1 CF (show k < n1 by omega)
      have p2 := d157 (x := f k) W1 Z1 HF ha h1
      have p3 := d157 (x := f k) W2 Z2 HG hb h2
      have p4 := d160 (x := f k) W2 Z2 HG (show b ≤ n2 by omega)
      have to : ∀ {σ1 : Sg} {o : Rs}, (∀ d6, C30_18 a ae b be ((k + 1 : Nat) : Int) d6 σ1 o) → ∀ d6, C30_85 a ae b be k d6 σ1 o := by
        intro σ1 o hh d6
        refine b30_85 ⟨by omega, ?_⟩
        rw [show (k : Int) + 1 = ((k + 1 : Nat) : Int) by omega]
        exact hh d6
      by_cases y : cnt f (f k) a (ae - a) = 1 ∧ cnt g (f k) b (be - b) = 1
      · have e1 : ptn f g a ae b be k = fnd g (f k) b (be - b) := by unfold ptn; rw [if_pos y]
        have h0 := (cnt_0 (f := g) (x := f k) (be - b) b).mp (by omega)
        rw [fnd_ext (be - b) (n2 - b) b (by omega) h0, ← e1] at p4
        have p5 := d148 (σ := σ) (a := 339) (i := (k : Int)) (v := ptn f g a ae b be k) ⟨r339, by rw [hF _ _ (by decide), v1, c339]; omega⟩
        rw [st_in (n := n1) (by rw [hF _ _ (by decide)]; exact v1) (by omega)] at p5
        obtain ⟨s, a1, a2, a3⟩ := ih (k + 1) (upS σ 340 k (ptn f g a ae b be k)) (by omega) (by omega) (fun c x hc => by rw [up_a hc]; exact hF c x hc) (fun x y1 y2 => by
          by_cases q : x = k
          · rw [q, up_s]
          · rw [up_k q]; exact h3 x y1 (by omega)) (fun x y1 y2 => by rw [up_k (by omega)]; exact h4 x (by omega) y2)
        refine ⟨s, fun d6 => b30_18 ?_, a2, a3⟩
        rw [if_pos (by omega)]
        refine ⟨_, _, p1, _, _, p2, ?_⟩
        rw [if_pos y.1]
        refine ⟨_, _, p3, ?_⟩
        rw [if_pos y.2]
        exact ⟨_, _, p4, _, p5, to a1 _⟩
      · have e1 : ptn f g a ae b be k = -1 := by unfold ptn; rw [if_neg y]
        obtain ⟨s, a1, a2, a3⟩ := ih (k + 1) σ (by omega) (by omega) hF (fun x y1 y2 => by
          by_cases q : x = k
          · rw [q, e1]; exact h4 k (Nat.le_refl k) (by omega)
          · exact h3 x y1 (by omega)) (fun x y1 y2 => h4 x (by omega) y2)
        refine ⟨s, fun d6 => b30_18 ?_, a2, a3⟩
        rw [if_pos (by omega)]
        refine ⟨_, _, p1, _, _, p2, ?_⟩
        by_cases y1 : cnt f (f k) a (ae - a) = 1
        · rw [if_pos y1]
          refine ⟨_, _, p3, ?_⟩
          rw [if_neg (fun e => y ⟨y1, e⟩)]
          exact to a1 _
        · rw [if_neg y1]
          exact to a1 _
  obtain ⟨s, a1, a2, a3⟩ := L (ae - a) a s0 (by omega) (Nat.le_refl a) (fun _ _ _ => rfl) (fun x y1 y2 => by omega) (fun x y1 y2 => v2 x (by omega))
  exact ⟨s, b30 ⟨_, _, q1, _, q2, a1 _⟩, by rw [a3 _ _ (by decide)]; exact v1, a2, fun c x y1 y2 => by rw [a3 c x y2]; exact v3 c x y1 y2⟩
/-- the longest tails -/
def mxt (P T : Nat → Int) (v : Int) : Nat → Nat → Int → Int
  | _, 0, acc => acc
  | k, d + 1, acc => mxt P T v (k + 1) d (if v < P k then mxI acc (T k) else acc)
def tls (P : Nat → Int) (ae : Nat) : Nat → (Nat → Int)
  | 0 => fun _ => 0
  | d + 1 => fun x => if x = ae - (d + 1) then (if P (ae - (d + 1)) = -1 then 0 else mxt P (tls P ae d) (P (ae - (d + 1))) (ae - d) d 0 + 1) else tls P ae d x
def lgs (P : Nat → Int) (ae : Nat) : Nat → Int
  | 0 => 0
  | d + 1 => if P (ae - (d + 1)) = -1 then lgs P ae d else mxI (lgs P ae d) (mxt P (tls P ae d) (P (ae - (d + 1))) (ae - d) d 0 + 1)
theorem mxt_b {P T : Nat → Int} {v B : Int} : ∀ (d k : Nat) (acc : Int), 0 ≤ acc → acc ≤ B → (∀ x, k ≤ x → x < k + d → T x ≤ B) → 0 ≤ mxt P T v k d acc ∧ mxt P T v k d acc ≤ B := by
  intro d
  induction d with
  | zero => intro k acc h0 h1 _; exact ⟨h0, h1⟩
  | succ d ih =>
    intro k acc h0 h1 h2
    have hk := h2 k (Nat.le_refl k) (by omega)
    show 0 ≤ mxt P T v (k + 1) d (if v < P k then mxI acc (T k) else acc) ∧ mxt P T v (k + 1) d (if v < P k then mxI acc (T k) else acc) ≤ B
    refine ih (k + 1) _ ?_ ?_ (fun x y1 y2 => h2 x (by omega) (by omega))
    · unfold mxI
      split
      · split <;> omega
      · exact h0
    · unfold mxI
      split
      · split <;> omega
      · exact h1
theorem tls_b {P : Nat → Int} {ae : Nat} : ∀ (d x : Nat), 0 ≤ tls P ae d x ∧ tls P ae d x ≤ (d : Int) := by
  intro d
  induction d with
  | zero =>
    intro x
    show 0 ≤ (0 : Int) ∧ (0 : Int) ≤ ((0 : Nat) : Int)
    omega
  | succ d ih =>
    intro x
    have m := mxt_b (P := P) (T := tls P ae d) (v := P (ae - (d + 1))) (B := (d : Int)) d (ae - d) 0 (by omega) (by omega) (fun x _ _ => (ih x).2)
    have i := ih x
    show 0 ≤ (if x = ae - (d + 1) then (if P (ae - (d + 1)) = -1 then (0 : Int) else mxt P (tls P ae d) (P (ae - (d + 1))) (ae - d) d 0 + 1) else tls P ae d x) ∧ (if x = ae - (d + 1) then (if P (ae - (d + 1)) = -1 then (0 : Int) else mxt P (tls P ae d) (P (ae - (d + 1))) (ae - d) d 0 + 1) else tls P ae d x) ≤ ((d + 1 : Nat) : Int)
    split
    · split <;> omega
    · omega
/-- longestTail -/
theorem d31 {σ0 : Sg} {f g P : Nat → Int} {n1 n2 a ae : Nat} (C : CR σ0 f g n1 n2) (ha : a ≤ ae) (h1 : ae ≤ n1) (z339 : σ0 339 1 = (n1 : Nat)) (hP : ∀ k, a ≤ k → k < ae → σ0 340 k = P k) : ∃ s, Dd 31 [vA 332, vI a, vI ae] σ0 (rI (lgs P ae (ae - a)) s) ∧ s 341 1 = (n1 : Nat) ∧ (∀ k, a ≤ k → k < ae → s 342 k = tls P ae (ae - a) k) ∧ ∀ c x, ¬ c = 341 → ¬ c = 342 → s c x = σ0 c x := by
  obtain ⟨r339, c339, r341, c341⟩ := cpC2
  obtain ⟨h40, h40', w1, w2, w3, z1, z2, z3, hf, hg⟩ := C
  have q1 := d146 (σ := σ0) w1.1
  rw [z1] at q1
  have q2 := d153 (σ := σ0) (a := 341) (n := (n1 : Int)) (v := 0) r341
  have v1 : flS σ0 341 (n1 : Int) 0 341 1 = (n1 : Nat) := fl_sz (by omega) (by rw [c341]; omega)
  have v2 : ∀ k : Nat, k < n1 → flS σ0 341 (n1 : Int) 0 342 k = 0 := fun k hk => fl_val (a := 341) (by omega) (by rw [c341]; omega) (by omega)
  have v3 : ∀ c x, ¬ c = 341 → ¬ c = 342 → flS σ0 341 (n1 : Int) 0 c x = σ0 c x := fun c x y1 y2 => fl_off y1 y2
  generalize flS σ0 341 (n1 : Int) 0 = s0 at q2 v1 v2 v3
  have rP : ∀ (σ : Sg) (k : Nat), (∀ c x, ¬ c = 342 → σ c x = s0 c x) → a ≤ k → k < ae → Dd 147 [vA 339, vI k] σ (rI (P k) σ) := by
    intro σ k hF y1 y2
    have e := d147 (σ := σ) (a := 339) (i := (k : Int)) ⟨r339, by rw [hF _ _ (by decide), v3 _ _ (by decide) (by decide), z339, c339]; omega⟩
    have e2 : atS σ 339 (k : Int) = P k := by
      unfold atS
      rw [hF _ _ (by decide), v3 _ _ (by decide) (by decide), z339, if_pos (by omega), tn, hF _ _ (by decide), v3 _ _ (by decide) (by decide)]
      exact hP k y1 y2
    rw [e2] at e
    exact e
  have L : ∀ (d : Nat) (σ : Sg), a + d ≤ ae → (∀ c x, ¬ c = 342 → σ c x = s0 c x) → (∀ x, a ≤ x → x < ae → σ 342 x = tls P ae (ae - (a + d)) x) → ∃ s, (∀ d5 d6, C31_22 a ae (lgs P ae (ae - (a + d))) (((a + d : Nat) : Int) - 1) d5 d6 σ (rI (lgs P ae (ae - a)) s)) ∧ (∀ x, a ≤ x → x < ae → s 342 x = tls P ae (ae - a) x) ∧ ∀ c x, ¬ c = 342 → s c x = s0 c x := by
    intro d
    induction d with
    | zero =>
      intro σ hd hF hT
      refine ⟨σ, fun d5 d6 => b31_22 ?_, hT, hF⟩
      rw [if_neg (by omega), Nat.add_zero]
    | succ d ih =>
      intro σ hd hF hT
      obtain ⟨i, hi⟩ : ∃ i, i = a + d := ⟨_, rfl⟩
      obtain ⟨e, he⟩ : ∃ e, e = ae - (a + (d + 1)) := ⟨_, rfl⟩
      have ee : ae - (a + d) = e + 1 := by omega
      have ei : ae - (e + 1) = i := by omega
      rw [← he] at hT ⊢
      rw [ee] at ih
      obtain ⟨m, hm⟩ : ∃ m, m = mxt P (tls P ae e) (P i) (ae - e) e 0 := ⟨_, rfl⟩
      have bm := mxt_b (P := P) (T := tls P ae e) (v := P i) (B := (e : Int)) e (ae - e) 0 (by omega) (by omega) (fun x _ _ => (tls_b e x).2)
      rw [← hm] at bm
      have t1 : ∀ x, tls P ae (e + 1) x = if x = i then (if P i = -1 then 0 else m + 1) else tls P ae e x := by
        intro x
        show (if x = ae - (e + 1) then (if P (ae - (e + 1)) = -1 then (0 : Int) else mxt P (tls P ae e) (P (ae - (e + 1))) (ae - e) e 0 + 1) else tls P ae e x) = _
        rw [ei, ← hm]
      have t2 : lgs P ae (e + 1) = if P i = -1 then lgs P ae e else mxI (lgs P ae e) (m + 1) := by
        show (if P (ae - (e + 1)) = -1 then lgs P ae e else mxI (lgs P ae e) (mxt P (tls P ae e) (P (ae - (e + 1))) (ae - e) e 0 + 1)) = _
        rw [ei, ← hm]
      -- the later lines
      have I : ∀ (q k : Nat) (acc : Int) {o : Rs}, k + q = ae → i < k → 0 ≤ acc → acc ≤ 100 → m = mxt P (tls P ae e) (P i) k q acc → C31_37 a ae (lgs P ae e) i m ae σ o → C31_37 a ae (lgs P ae e) i acc k σ o := by
        intro q
        induction q with
        | zero =>
          intro k acc o hk _ _ _ hmm hh
          have e1 : k = ae := by omega
          have e2 : m = acc := hmm
          rw [e1, ← e2]
          exact hh
        | succ q ihq =>
          intro k acc o hk hik h0 h100 hmm hh
          have e341 := d147 (σ := σ) (a := 341) (i := (k : Int)) ⟨r341, by rw [hF _ _ (by decide), v1, c341]; omega⟩
          have e2 : atS σ 341 (k : Int) = tls P ae e k := by
            unfold atS
            rw [hF _ _ (by decide), v1, if_pos (by omega), tn]
            exact hT k (by omega) (by omega)
          rw [e2] at e341
          have bt := tls_b (P := P) (ae := ae) e k
          have hm2 : m = mxt P (tls P ae e) (P i) (k + 1) q (if P i < P k then mxI acc (tls P ae e k) else acc) := hmm
          refine b31_37 ?_
          rw [if_pos (by omega)]
          refine ⟨_, _, rP σ k hF (by omega) (by omega), _, _, rP σ i hF (by omega) (by omega), ?_⟩
          have to : ∀ acc', acc' = (if P i < P k then mxI acc (tls P ae e k) else acc) → C31_80 a ae (lgs P ae e) i acc' k σ o := by
            intro acc' ha'
            refine b31_80 ⟨by omega, ?_⟩
            rw [show (k : Int) + 1 = ((k + 1 : Nat) : Int) by omega]
            refine ihq (k + 1) acc' (by omega) (by omega) ?_ ?_ (by rw [ha']; exact hm2) hh
            · rw [ha']
              unfold mxI
              split
              · split <;> omega
              · exact h0
            · rw [ha']
              unfold mxI
              split
              · split <;> omega
              · exact h100
          by_cases y : P i < P k
          · rw [if_pos y]
            refine ⟨_, _, e341, to _ ?_⟩
            rw [if_pos y]
            rfl
          · rw [if_neg y]
            refine to _ ?_
            rw [if_neg y]
      have e339 := rP σ i hF (by omega) (by omega)
      by_cases y : P i = -1
      · obtain ⟨s, a1, a2, a3⟩ := ih σ (by omega) hF (fun x y1 y2 => by
          rw [hT x y1 y2, t1]
          by_cases q : x = i
          · rw [if_pos q, if_pos y, q]
            have : ∀ (e' : Nat), ae - e' > i → e' ≤ ae → tls P ae e' i = 0 := by
              intro e'
              induction e' with
              | zero => intro _ _; rfl
              | succ e' ihe =>
                intro h1 h2
                show (if i = ae - (e' + 1) then _ else tls P ae e' i) = 0
                rw [if_neg (by omega)]
                exact ihe (by omega) (by omega)
            exact this e (by omega) (by omega)
          · rw [if_neg q])
        refine ⟨s, fun d5 d6 => b31_22 ?_, a2, a3⟩
        rw [show ((a + (d + 1) : Nat) : Int) - 1 = (i : Int) by omega, if_pos (by omega), show (i : Int) + 1 = ((i + 1 : Nat) : Int) by omega]
        refine ⟨by omega, I e (i + 1) 0 (by omega) (by omega) (by omega) (by omega) (by rw [show i + 1 = ae - e by omega]; exact hm) (b31_37 ?_)⟩
        rw [if_neg (by omega)]
        refine ⟨_, _, e339, ?_⟩
        rw [if_pos y]
        refine b31_121 ⟨by omega, ?_⟩
        have z := a1 (some (vI m)) (some (vI (ae : Nat)))
        rw [t2, if_pos y, ← hi] at z
        rw [show (i : Int) + (-1) = (i : Int) - 1 by omega]
        exact z
      · obtain ⟨s, a1, a2, a3⟩ := ih (upS σ 342 i (m + 1)) (by omega) (fun c x hc => by rw [up_a hc]; exact hF c x hc) (fun x y1 y2 => by
          rw [t1]
          by_cases q : x = i
          · rw [if_pos q, if_neg y, q, up_s]
          · rw [if_neg q, up_k q]; exact hT x y1 y2)
        have e148 := d148 (σ := σ) (a := 341) (i := (i : Int)) (v := m + 1) ⟨r341, by rw [hF _ _ (by decide), v1, c341]; omega⟩
        rw [st_in (n := n1) (by rw [hF _ _ (by decide)]; exact v1) (by omega)] at e148
        refine ⟨s, fun d5 d6 => b31_22 ?_, a2, a3⟩
        rw [show ((a + (d + 1) : Nat) : Int) - 1 = (i : Int) by omega, if_pos (by omega), show (i : Int) + 1 = ((i + 1 : Nat) : Int) by omega]
        refine ⟨by omega, I e (i + 1) 0 (by omega) (by omega) (by omega) (by omega) (by rw [show i + 1 = ae - e by omega]; exact hm) (b31_37 ?_)⟩
        rw [if_neg (by omega)]
        refine ⟨_, _, e339, ?_⟩
        rw [if_neg y]
        refine ⟨by omega, _, e148, by omega, b31_121 ⟨by omega, ?_⟩⟩
        have z := a1 (some (vI m)) (some (vI (ae : Nat)))
        rw [t2, if_neg y, ← hi] at z
        unfold mxI at z
        rw [show (i : Int) + (-1) = (i : Int) - 1 by omega]
        exact z
  obtain ⟨s, a1, a2, a3⟩ := L (ae - a) s0 (by omega) (fun _ _ _ => rfl) (fun x y1 y2 => by
    rw [show ae - (a + (ae - a)) = 0 by omega]
    exact v2 x (by omega))
  refine ⟨s, b31 ⟨_, _, q1, _, q2, by omega, ?_⟩, by rw [a3 _ _ (by decide)]; exact v1, a2, fun c x y1 y2 => by rw [a3 c x y2]; exact v3 c x y1 y2⟩
  have z := a1 none none
  rw [show ae - (a + (ae - a)) = 0 by omega, show a + (ae - a) = ae by omega] at z
  exact z
end
-- DRAFT 99.cmp4.lean
/-! UNIQUE: what is paired, the class's side. -/
noncomputable section
abbrev St := Nat × Nat × Nat × Nat
def ads (L : List St) (q : St) : List St := if q.1 < q.2.1 ∧ q.2.2.1 < q.2.2.2 then L ++ [q] else L
theorem ads_len {L : List St} {q : St} : (ads L q).length ≤ L.length + 1 ∧ L.length ≤ (ads L q).length := by
  unfold ads
  split
  · rw [List.length_append]
    show L.length + 1 ≤ L.length + 1 ∧ L.length ≤ L.length + 1
    omega
  · omega
theorem fl4_app : ∀ (L : List St) (q : St), fl4 (L ++ [q]) = fl4 L ++ [(q.1 : Int), (q.2.1 : Int), (q.2.2.1 : Int), (q.2.2.2 : Int)] := by
  intro L
  induction L with
  | nil => intro q; rfl
  | cons a t ih =>
    intro q
    show (a.1 : Int) :: (a.2.1 : Int) :: (a.2.2.1 : Int) :: (a.2.2.2 : Int) :: fl4 (t ++ [q]) = _
    rw [ih]
    rfl
/-- addStretch -/
theorem d20 {σ : Sg} {L : List St} {a k b j : Nat} (H : Rw σ 343 (fl4 L)) (hl : L.length < 160) : ∃ s, Dd 20 [vA 332, vI a, vI k, vI b, vI j] σ (rV s) ∧ Rw s 343 (fl4 (ads L (a, k, b, j))) ∧ ∀ c x, ¬ c = 343 → ¬ c = 344 → s c x = σ c x := by
  obtain ⟨-, -, -, -, -, -, r343, c343⟩ := cpC
  have hlen := fl4_len L
  by_cases y : a < k ∧ b < j
  · have e0 : ads L (a, k, b, j) = L ++ [(a, k, b, j)] := by
      unfold ads
      rw [if_pos y]
    have q1 := d149 (v := (a : Int)) (Rw_wR r343 H (by omega))
    have r1 := Rw_ad (v := (a : Int)) H (by omega)
    have q2 := d149 (v := (k : Int)) (Rw_wR r343 r1 (by rw [List.length_append]; simp; omega))
    have r2 := Rw_ad (v := (k : Int)) r1 (by rw [List.length_append]; simp; omega)
    have q3 := d149 (v := (b : Int)) (Rw_wR r343 r2 (by rw [List.length_append, List.length_append]; simp; omega))
    have r3 := Rw_ad (v := (b : Int)) r2 (by rw [List.length_append, List.length_append]; simp; omega)
    have q4 := d149 (v := (j : Int)) (Rw_wR r343 r3 (by rw [List.length_append, List.length_append, List.length_append]; simp; omega))
    have r4 := Rw_ad (v := (j : Int)) r3 (by rw [List.length_append, List.length_append, List.length_append]; simp; omega)
    refine ⟨adS (adS (adS (adS σ 343 (a : Int)) 343 (k : Int)) 343 (b : Int)) 343 (j : Int), b20 ?_, ?_, fun c x h h' => by rw [ad_off h h', ad_off h h', ad_off h h', ad_off h h']⟩
    · rw [if_pos (by omega), if_pos (by omega)]
      exact ⟨_, q1, _, q2, _, q3, _, q4, rfl⟩
    · rw [e0, fl4_app]
      rw [List.append_assoc, List.append_assoc, List.append_assoc] at r4
      exact r4
  · refine ⟨σ, b20 ?_, ?_, fun _ _ _ _ => rfl⟩
    · by_cases y1 : a < k
      · rw [if_pos (by omega), if_neg (by omega)]
      · rw [if_neg (by omega)]
    · unfold ads
      rw [if_neg y]
      exact H
def selF (ad : List St → St → List St) (P T : Nat → Int) (ae be : Nat) : Nat → Nat → Int → Nat → Nat → (Nat → Int) → List St → (Nat → Int) × List St
  | 0, _, _, i, j, G, L => (G, ad L (i, ae, j, be))
  | d + 1, k, w, i, j, G, L => if 0 < w then (if T k = w ∧ (j : Int) ≤ P k then selF ad P T ae be d (k + 1) (w - 1) (k + 1) ((P k).toNat + 1) (updG G k (P k)) (ad L (i, k, j, (P k).toNat)) else selF ad P T ae be d (k + 1) w i j G L) else (G, ad L (i, ae, j, be))
theorem selF_s {ad : List St → St → List St} {P T : Nat → Int} {ae be d k i j : Nat} {w : Int} {G : Nat → Int} {L : List St} : selF ad P T ae be (d + 1) k w i j G L = if 0 < w then (if T k = w ∧ (j : Int) ≤ P k then selF ad P T ae be d (k + 1) (w - 1) (k + 1) ((P k).toNat + 1) (updG G k (P k)) (ad L (i, k, j, (P k).toNat)) else selF ad P T ae be d (k + 1) w i j G L) else (G, ad L (i, ae, j, be)) := rfl
theorem l29 {σ0 : Sg} {f g P T : Nat → Int} {n1 n2 a ae be : Nat} {d1 d3 : Option AV} (C : CR σ0 f g n1 n2) (h1 : ae ≤ n1) (h2 : be ≤ n2) (z339 : σ0 339 1 = (n1 : Nat)) (z341 : σ0 341 1 = (n1 : Nat)) (hP : ∀ k, a ≤ k → k < ae → σ0 340 k = P k) (hT : ∀ k, a ≤ k → k < ae → σ0 342 k = T k) (hPb : ∀ k, a ≤ k → k < ae → P k < (be : Int)) : ∀ (d k : Nat) (w : Int) (i j : Nat) (G : Nat → Int) (L : List St) (σ : Sg), k + d = ae → a ≤ k → w ≤ 100 → L.length + d + 1 ≤ 160 → (∀ c x, ¬ c = 338 → ¬ c = 343 → ¬ c = 344 → σ c x = σ0 c x) → (∀ x, x < n1 → σ 338 x = G x) → Rw σ 343 (fl4 L) → ∃ s, C29_33 d1 ae d3 be w i j k σ (rI 1 s) ∧ (∀ x, x < n1 → s 338 x = (selF ads P T ae be d k w i j G L).1 x) ∧ Rw s 343 (fl4 (selF ads P T ae be d k w i j G L).2) ∧ ∀ c x, ¬ c = 338 → ¬ c = 343 → ¬ c = 344 → s c x = σ0 c x := by
  obtain ⟨r339, c339, r341, c341⟩ := cpC2
  have h40 := C.1
  have h40' := C.2.1
  have fin : ∀ (k : Nat) (w : Int) (i j : Nat) (G : Nat → Int) (L : List St) (σ : Sg), L.length < 160 → (∀ c x, ¬ c = 338 → ¬ c = 343 → ¬ c = 344 → σ c x = σ0 c x) → (∀ x, x < n1 → σ 338 x = G x) → Rw σ 343 (fl4 L) → (¬ (k : Int) < (ae : Int) ∨ ¬ 0 < w) → ∃ s, C29_33 d1 ae d3 be w i j k σ (rI 1 s) ∧ (∀ x, x < n1 → s 338 x = G x) ∧ Rw s 343 (fl4 (ads L (i, ae, j, be))) ∧ ∀ c x, ¬ c = 338 → ¬ c = 343 → ¬ c = 344 → s c x = σ0 c x := by
    intro k w i j G L σ hl hF hG hR hx
    obtain ⟨s, e1, e2, e3⟩ := d20 (a := i) (k := ae) (b := j) (j := be) hR hl
    have z : ∀ d5 d8, C29_137 d1 ae d3 be d5 i j d8 σ (rI 1 s) := fun d5 d8 => b29_137 ⟨_, e1, rfl⟩
    refine ⟨s, b29_33 ?_, fun x hx => by rw [e3 _ _ (by decide) (by decide)]; exact hG x hx, e2, fun c x y1 y2 y3 => by rw [e3 c x y2 y3]; exact hF c x y1 y2 y3⟩
    by_cases y : (k : Int) < (ae : Int)
    · rw [if_pos y, if_neg (by
        rcases hx with h | h
        · exact absurd y h
        · exact h)]
      exact z _ _
    · rw [if_neg y]
      exact z _ _
  intro d
  induction d with
  | zero =>
    intro k w i j G L σ hk hak hw hl hF hG hR
    exact fin k w i j G L σ (by omega) hF hG hR (Or.inl (by omega))
  | succ d ih =>
    intro k w i j G L σ hk hak hw hl hF hG hR
    rw [selF_s]
    by_cases y0 : 0 < w
    · rw [if_pos y0]
      have e341 := d147 (σ := σ) (a := 341) (i := (k : Int)) ⟨r341, by rw [hF _ _ (by decide) (by decide) (by decide), z341, c341]; omega⟩
      have t341 : atS σ 341 (k : Int) = T k := by
        unfold atS
        rw [hF _ _ (by decide) (by decide) (by decide), z341, if_pos (by omega), tn, hF _ _ (by decide) (by decide) (by decide)]
        exact hT k hak (by omega)
      rw [t341] at e341
      have rP : ∀ (σ : Sg), (∀ c x, ¬ c = 338 → ¬ c = 343 → ¬ c = 344 → σ c x = σ0 c x) → Dd 147 [vA 339, vI k] σ (rI (P k) σ) := by
        intro σ hF
        have e := d147 (σ := σ) (a := 339) (i := (k : Int)) ⟨r339, by rw [hF _ _ (by decide) (by decide) (by decide), z339, c339]; omega⟩
        have e2 : atS σ 339 (k : Int) = P k := by
          unfold atS
          rw [hF _ _ (by decide) (by decide) (by decide), z339, if_pos (by omega), tn, hF _ _ (by decide) (by decide) (by decide)]
          exact hP k hak (by omega)
        rw [e2] at e
        exact e
      have pb := hPb k hak (by omega)
      have no : ¬ (T k = w ∧ (j : Int) ≤ P k) → ∃ s, C29_33 d1 ae d3 be w i j k σ (rI 1 s) ∧ (∀ x, x < n1 → s 338 x = (selF ads P T ae be d (k + 1) w i j G L).1 x) ∧ Rw s 343 (fl4 (selF ads P T ae be d (k + 1) w i j G L).2) ∧ ∀ c x, ¬ c = 338 → ¬ c = 343 → ¬ c = 344 → s c x = σ0 c x := by
        intro hn
        obtain ⟨s, a1, a2, a3, a4⟩ := ih (k + 1) w i j G L σ (by omega) (by omega) hw (by omega) hF hG hR
        refine ⟨s, b29_33 ?_, a2, a3, a4⟩
        rw [show ((k + 1 : Nat) : Int) = (k : Int) + 1 by omega] at a1
        have z : C29_131 d1 ae d3 be w i j k σ (rI 1 s) := b29_131 ⟨by omega, a1⟩
        rw [if_pos (by omega), if_pos y0]
        refine ⟨_, _, e341, ?_⟩
        by_cases y1 : T k = w
        · rw [if_pos y1]
          refine ⟨_, _, rP σ hF, ?_⟩
          rw [if_neg (fun e => hn ⟨y1, e⟩)]
          exact z
        · rw [if_neg y1]
          exact z
      by_cases y : T k = w ∧ (j : Int) ≤ P k
      · rw [if_pos y]
        obtain ⟨p, hp⟩ := Int.eq_ofNat_of_zero_le (show 0 ≤ P k by omega)
        have CF : CR σ f g n1 n2 := CR_fr (fun c x hc => hF c x (by omega) (by omega) (by omega)) C
        have e148 := CR_p (v := P k) CF (show k < n1 by omega)
        have hF1 : ∀ c x, ¬ c = 338 → ¬ c = 343 → ¬ c = 344 → upS σ 338 k (P k) c x = σ0 c x := fun c x y1 y2 y3 => by rw [up_a y1]; exact hF c x y1 y2 y3
        obtain ⟨s1, c1, c2, c3⟩ := d20 (σ := upS σ 338 k (P k)) (L := L) (a := i) (k := k) (b := j) (j := p) (Rw_fr (up_a (by decide)) (fun x => up_a (by decide)) hR) (by omega)
        have hF2 : ∀ c x, ¬ c = 338 → ¬ c = 343 → ¬ c = 344 → s1 c x = σ0 c x := fun c x y1 y2 y3 => by rw [c3 c x y2 y3]; exact hF1 c x y1 y2 y3
        have al := ads_len (L := L) (q := (i, k, j, p))
        have ptn' : (P k).toNat = p := by omega
        rw [ptn']
        obtain ⟨s, a1, a2, a3, a4⟩ := ih (k + 1) (w - 1) (k + 1) (p + 1) (updG G k (P k)) (ads L (i, k, j, p)) s1 (by omega) (by omega) (by omega) (by omega) hF2 (fun x hx => by
          rw [c3 _ _ (by decide) (by decide)]
          unfold updG
          by_cases q : x = k
          · rw [if_pos q, q, up_s]
          · rw [if_neg q, up_k q]; exact hG x hx) c2
        refine ⟨s, b29_33 ?_, a2, a3, a4⟩
        rw [if_pos (by omega), if_pos y0]
        refine ⟨_, _, e341, ?_⟩
        rw [if_pos y.1]
        refine ⟨_, _, rP σ hF, ?_⟩
        rw [if_pos y.2]
        have c1' : Dd 20 [vA 332, vI i, vI k, vI j, vI (P k)] (upS σ 338 k (P k)) (rV s1) := by
          have z := c1
          rw [hp] at z ⊢
          exact z
        refine ⟨_, _, rP σ hF, _, e148, _, _, rP _ hF1, _, c1', by omega, _, _, rP _ hF2, by omega, by omega, b29_131 ⟨by omega, ?_⟩⟩
        rw [show w + (-1) = w - 1 by omega, hp, show ((p : Nat) : Int) + 1 = ((p + 1 : Nat) : Int) by omega, show (k : Int) + 1 = ((k + 1 : Nat) : Int) by omega]
        exact a1
      · rw [if_neg y]
        exact no y
    · rw [if_neg y0]
      exact fin k w i j G L σ (by omega) hF hG hR (Or.inr y0)
/-- pairUnique -/
def unq (ad : List St → St → List St) (f g : Nat → Int) (a ae b be : Nat) (G : Nat → Int) (L : List St) : (Nat → Int) × List St := selF ad (ptn f g a ae b be) (tls (ptn f g a ae b be) ae (ae - a)) ae be (ae - a) a (lgs (ptn f g a ae b be) ae (ae - a)) a b G L
theorem d29 {σ0 : Sg} {f g G : Nat → Int} {n1 n2 a ae b be : Nat} {L : List St} (C : CR σ0 f g n1 n2) (ha : a ≤ ae) (hb : b ≤ be) (h1 : ae ≤ n1) (h2 : be ≤ n2) (hG : ∀ x, x < n1 → σ0 338 x = G x) (hR : Rw σ0 343 (fl4 L)) (hl : L.length + (ae - a) + 1 ≤ 160) : ∃ s, Dd 29 [vA 332, vI a, vI ae, vI b, vI be] σ0 (rI (if lgs (ptn f g a ae b be) ae (ae - a) = 0 then 0 else 1) s) ∧ (∀ x, x < n1 → s 338 x = if lgs (ptn f g a ae b be) ae (ae - a) = 0 then G x else (unq ads f g a ae b be G L).1 x) ∧ Rw s 343 (fl4 (if lgs (ptn f g a ae b be) ae (ae - a) = 0 then L else (unq ads f g a ae b be G L).2)) ∧ (s 339 1 = (n1 : Nat) ∧ s 341 1 = (n1 : Nat)) ∧ ∀ c x, ¬ (338 ≤ c ∧ c ≤ 344) → s c x = σ0 c x := by
  have h40 := C.1
  obtain ⟨s1, a1, a2, a3, a4⟩ := d30 C ha hb h1 h2
  have C1 : CR s1 f g n1 n2 := CR_fr (fun c x hc => a4 c x (by omega) (by omega)) C
  obtain ⟨s2, c1, c2, c3, c4⟩ := d31 (P := ptn f g a ae b be) C1 ha h1 a2 a3
  have C2 : CR s2 f g n1 n2 := CR_fr (fun c x hc => c4 c x (by omega) (by omega)) C1
  have F2 : ∀ c x, ¬ (339 ≤ c ∧ c ≤ 342) → s2 c x = σ0 c x := fun c x y => by rw [c4 c x (by omega) (by omega), a4 c x (by omega) (by omega)]
  have hR2 : Rw s2 343 (fl4 L) := Rw_fr (F2 _ _ (by decide)) (fun x => F2 _ _ (by decide)) hR
  have hG2 : ∀ x, x < n1 → s2 338 x = G x := fun x hx => by rw [F2 _ _ (by decide)]; exact hG x hx
  by_cases y : lgs (ptn f g a ae b be) ae (ae - a) = 0
  · rw [if_pos y, if_pos y]
    refine ⟨s2, b29 ⟨_, a1, _, _, c1, ?_⟩, fun x hx => by rw [if_pos y]; exact hG2 x hx, hR2, ⟨by rw [c4 _ _ (by decide) (by decide)]; exact a2, c2⟩, fun c x h => F2 c x (by omega)⟩
    rw [if_pos y]
  · rw [if_neg y, if_neg y]
    have lb : lgs (ptn f g a ae b be) ae (ae - a) ≤ 100 := by
      have : ∀ d, lgs (ptn f g a ae b be) ae d ≤ (d : Int) := by
        intro d
        induction d with
        | zero => exact Int.le_refl 0
        | succ d ih =>
          have m := mxt_b (P := ptn f g a ae b be) (T := tls (ptn f g a ae b be) ae d) (v := ptn f g a ae b be (ae - (d + 1))) (B := (d : Int)) d (ae - d) 0 (by omega) (by omega) (fun x _ _ => (tls_b d x).2)
          show (if ptn f g a ae b be (ae - (d + 1)) = -1 then lgs (ptn f g a ae b be) ae d else mxI (lgs (ptn f g a ae b be) ae d) (mxt (ptn f g a ae b be) (tls (ptn f g a ae b be) ae d) (ptn f g a ae b be (ae - (d + 1))) (ae - d) d 0 + 1)) ≤ ((d + 1 : Nat) : Int)
          unfold mxI
          split
          · omega
          · split <;> omega
      have := this (ae - a)
      omega
    obtain ⟨s, e1, e2, e3, e4⟩ := l29 (d1 := some (vI a)) (d3 := some (vI b)) (P := ptn f g a ae b be) (T := tls (ptn f g a ae b be) ae (ae - a)) (a := a) C2 h1 h2 (by rw [c4 _ _ (by decide) (by decide)]; exact a2) c2 (fun k y1 y2 => by rw [c4 _ _ (by decide) (by decide)]; exact a3 k y1 y2) c3 (fun k y1 y2 => by
      rcases ptn_c (f := f) (g := g) (a := a) (ae := ae) (b := b) (be := be) (k := k) with z | ⟨j, z1, z2, z3, z4⟩
      · omega
      · omega) (ae - a) a (lgs (ptn f g a ae b be) ae (ae - a)) a b G L s2 (by omega) (Nat.le_refl a) lb (by omega) (fun _ _ _ _ _ => rfl) hG2 hR2
    refine ⟨s, b29 ⟨_, a1, _, _, c1, ?_⟩, fun x hx => by rw [if_neg y]; exact e2 x hx, e3, ⟨by rw [e4 _ _ (by decide) (by decide) (by decide), c4 _ _ (by decide) (by decide)]; exact a2, by rw [e4 _ _ (by decide) (by decide) (by decide)]; exact c2⟩, fun c x h => by rw [e4 c x (by omega) (by omega) (by omega)]; exact F2 c x (by omega)⟩
    rw [if_neg y]
    exact e1
end
-- DRAFT 99.cmp5.lean
/-! UNIQUE, the reference's side. -/
noncomputable section
/-- the stretches that wait -/
def Wt (σ : Sg) (L : List St) : Prop := σ 682 22 = (L.length : Nat) ∧ ∀ h : Nat, ∀ q, L[h]? = some q → σ 696 (4 * h) = (q.1 : Nat) ∧ σ 696 (4 * h + 1) = (q.2.1 : Nat) ∧ σ 696 (4 * h + 2) = (q.2.2.1 : Nat) ∧ σ 696 (4 * h + 3) = (q.2.2.2 : Nat)
theorem Wt_fr {σ s : Sg} {L : List St} (h1 : s 682 22 = σ 682 22) (h2 : ∀ x, s 696 x = σ 696 x) (H : Wt σ L) : Wt s L := ⟨by rw [h1]; exact H.1, fun h q hq => by rw [h2, h2, h2, h2]; exact H.2 h q hq⟩
theorem d267 {σ : Sg} {L : List St} {a k b j : Nat} (H : Wt σ L) (hl : L.length < 128) : ∃ s, Dd 267 [vA 682, vI a, vI k, vI b, vI j] σ (rV s) ∧ Wt s (L ++ [(a, k, b, j)]) ∧ ∀ c x, ¬ c = 696 → ¬ (c = 682 ∧ x = 22) → s c x = σ c x := by
  obtain ⟨hw, hv'⟩ := H
  obtain ⟨n, hn⟩ : ∃ n, n = L.length := ⟨_, rfl⟩
  rw [← hn] at hw hl
  have T0 : (4 * ((n : Nat) : Int)).toNat = 4 * n := by omega
  have T1 : ((4 * ((n : Nat) : Int)) + 1).toNat = 4 * n + 1 := by omega
  have T2 : ((4 * ((n : Nat) : Int)) + 2).toNat = 4 * n + 2 := by omega
  have T3 : ((4 * ((n : Nat) : Int)) + 3).toNat = 4 * n + 3 := by omega
  refine ⟨upS (upS (upS (upS (upS σ 696 (4 * n) a) 696 (4 * n + 1) k) 696 (4 * n + 2) b) 696 (4 * n + 3) j) 682 22 ((n : Int) + 1), b267 ?_, ⟨?_, fun h q hq => ?_⟩, fun c x h1 h2 => ?_⟩
  · simp only [up_a (show ¬ (682 : Nat) = 696 by decide), hw, T0, T1, T2, T3]
    refine ⟨by omega, by omega, by omega, by omega, by omega, by omega, by omega, by omega, by omega, by omega, by omega, by omega, ?_⟩
    first
      | rfl
      | trivial
  · rw [up_s, List.length_append, ← hn]
    show (n : Int) + 1 = ((n + 1 : Nat) : Int)
    omega
  · by_cases y : h < n
    · rw [List.getElem?_append_left (by omega)] at hq
      have z := hv' h q hq
      rw [up_a (by decide), up_k (by omega), up_k (by omega), up_k (by omega), up_k (by omega), up_a (by decide), up_k (by omega), up_k (by omega), up_k (by omega), up_k (by omega), up_a (by decide), up_k (by omega), up_k (by omega), up_k (by omega), up_k (by omega), up_a (by decide), up_k (by omega), up_k (by omega), up_k (by omega), up_k (by omega)]
      exact z
    · have h2 := (List.getElem?_eq_some_iff.mp hq).1
      rw [List.length_append, ← hn] at h2
      have e : h = n := by
        have : h < n + 1 := h2
        omega
      subst e
      rw [List.getElem?_append_right (by omega), show h - L.length = 0 by omega] at hq
      have hq : (a, k, b, j) = q := by simpa using hq
      rw [← hq]
      refine ⟨?_, ?_, ?_, ?_⟩
      · rw [up_a (by decide), up_k (by omega), up_k (by omega), up_k (by omega), up_s]
      · rw [up_a (by decide), up_k (by omega), up_k (by omega), up_s]
      · rw [up_a (by decide), up_k (by omega), up_s]
      · rw [up_a (by decide), up_s]
  · have : upS (upS (upS (upS (upS σ 696 (4 * n) a) 696 (4 * n + 1) k) 696 (4 * n + 2) b) 696 (4 * n + 3) j) 682 22 ((n : Int) + 1) c x = upS (upS (upS (upS σ 696 (4 * n) a) 696 (4 * n + 1) k) 696 (4 * n + 2) b) 696 (4 * n + 3) j c x := by
      unfold upS
      rw [if_neg h2]
    rw [this, up_a h1, up_a h1, up_a h1, up_a h1]
/-- the lines that are just once in each -/
def lsP (P : Nat → Int) : Nat → Nat → List Nat
  | _, 0 => []
  | k, d + 1 => if P k = -1 then lsP P (k + 1) d else k :: lsP P (k + 1) d
theorem lsP_in {P : Nat → Int} : ∀ (d k x : Nat), x ∈ lsP P k d → k ≤ x ∧ x < k + d ∧ ¬ P x = -1 := by
  intro d
  induction d with
  | zero => intro k x h; cases h
  | succ d ih =>
    intro k x h
    have h' : x ∈ (if P k = -1 then lsP P (k + 1) d else k :: lsP P (k + 1) d) := h
    by_cases y : P k = -1
    · rw [if_pos y] at h'
      have := ih _ _ h'
      exact ⟨by omega, by omega, this.2.2⟩
    · rw [if_neg y] at h'
      rcases List.mem_cons.mp h' with e | e
      · rw [e]; exact ⟨Nat.le_refl k, by omega, y⟩
      · have := ih _ _ e
        exact ⟨by omega, by omega, this.2.2⟩
theorem lsP_len {P : Nat → Int} : ∀ (d k : Nat), (lsP P k d).length ≤ d := by
  intro d
  induction d with
  | zero => intro k; exact Nat.le_refl 0
  | succ d ih =>
    intro k
    show (if P k = -1 then lsP P (k + 1) d else k :: lsP P (k + 1) d).length ≤ d + 1
    have := ih (k + 1)
    split
    · omega
    · rw [List.length_cons]; omega
theorem lsP_app {P : Nat → Int} : ∀ (d k e : Nat), lsP P k (d + e) = lsP P k d ++ lsP P (k + d) e := by
  intro d
  induction d with
  | zero => intro k e; rw [Nat.zero_add, Nat.add_zero]; rfl
  | succ d ih =>
    intro k e
    rw [show d + 1 + e = (d + e) + 1 by omega]
    show (if P k = -1 then lsP P (k + 1) (d + e) else k :: lsP P (k + 1) (d + e)) = (if P k = -1 then lsP P (k + 1) d else k :: lsP P (k + 1) d) ++ lsP P (k + (d + 1)) e
    rw [ih, show k + 1 + d = k + (d + 1) by omega]
    split <;> rfl
/-- the reference's rows of them -/
def OT (σ : Sg) (P : Nat → Int) (ks : List Nat) : Prop := ∀ i k, ks[i]? = some k → σ 697 i = (k : Nat) ∧ σ 698 i = P k
theorem ptn_i {f g : Nat → Int} {a ae b be k : Nat} : ptn f g a ae b be k = -1 ↔ ¬ (cnt f (f k) a (ae - a) = 1 ∧ cnt g (f k) b (be - b) = 1) := by
  refine ⟨fun h y => ?_, fun y => by unfold ptn; rw [if_neg y]⟩
  unfold ptn at h
  rw [if_pos y] at h
  have h0 := (cnt_0 (f := g) (x := f k) (be - b) b).mp (by omega)
  obtain ⟨j, e1, e2, e3, e4⟩ := fnd_in _ _ h0
  omega
theorem l272a {σ0 : Sg} {f g : Nat → Int} {n1 n2 a ae b be : Nat} {d3 d4 d5 : Option AV} (R : MRw σ0 f g n1 n2) (M : MS σ0 a ae b be) (ha : a ≤ ae) (hb : b ≤ be) (h1 : ae ≤ n1) (h2 : be ≤ n2) : ∀ (d k : Nat) (ks : List Nat) (σ : Sg), k + d = ae → a ≤ k → ks.length ≤ k - a → (∀ c x, ¬ c = 697 → ¬ c = 698 → σ c x = σ0 c x) → OT σ (ptn f g a ae b be) ks → ∃ s, (∀ {o : Rs}, C272_7 ((ks ++ lsP (ptn f g a ae b be) k d).length : Nat) ae d3 d4 d5 s o → C272_7 (ks.length : Nat) k d3 d4 d5 σ o) ∧ OT s (ptn f g a ae b be) (ks ++ lsP (ptn f g a ae b be) k d) ∧ ∀ c x, ¬ c = 697 → ¬ c = 698 → s c x = σ0 c x := by
  have n40 := R.1
  intro d
  induction d with
  | zero =>
    intro k ks σ hk hak hks hF hO
    have e : lsP (ptn f g a ae b be) k 0 = [] := rfl
    rw [e, List.append_nil]
    refine ⟨σ, fun {o} hh => ?_, hO, hF⟩
    rw [show k = ae by omega]
    exact hh
  | succ d ih =>
    intro k ks σ hk hak hks hF hO
    have R' : ∀ {σ1 : Sg}, (∀ c x, ¬ c = 697 → ¬ c = 698 → σ1 c x = σ0 c x) → MRw σ1 f g n1 n2 ∧ MS σ1 a ae b be := fun hF1 => ⟨⟨R.1, R.2.1, fun i hi => by rw [hF1 _ _ (by decide) (by decide)]; exact R.2.2.1 i hi, fun i hi => by rw [hF1 _ _ (by decide) (by decide)]; exact R.2.2.2 i hi⟩, ⟨by rw [hF1 _ _ (by decide) (by decide)]; exact M.1, by rw [hF1 _ _ (by decide) (by decide)]; exact M.2.1, by rw [hF1 _ _ (by decide) (by decide)]; exact M.2.2.1, by rw [hF1 _ _ (by decide) (by decide)]; exact M.2.2.2⟩⟩
    obtain ⟨R1, M1⟩ := R' hF
    have fk : σ 691 k = f k := R1.2.2.1 k (by omega)
    have q1 := d269 (x := f k) R1 M1 ha h1
    have q2 := d270 (x := f k) R1 M1 hb h2
    have un : lsP (ptn f g a ae b be) k (d + 1) = if ptn f g a ae b be k = -1 then lsP (ptn f g a ae b be) (k + 1) d else k :: lsP (ptn f g a ae b be) (k + 1) d := rfl
    by_cases y : cnt f (f k) a (ae - a) = 1 ∧ cnt g (f k) b (be - b) = 1
    · have hp : ¬ ptn f g a ae b be k = -1 := fun e => ptn_i.mp e y
      have ep : ptn f g a ae b be k = fnd g (f k) b (be - b) := by unfold ptn; rw [if_pos y]
      rw [un, if_neg hp]
      have hF1 : ∀ c x, ¬ c = 697 → ¬ c = 698 → upS σ 697 ks.length (k : Int) c x = σ0 c x := fun c x y1 y2 => by rw [up_a y1]; exact hF c x y1 y2
      obtain ⟨R2, M2⟩ := R' hF1
      have q3 := d271 (x := f k) R2 M2 hb h2
      rw [← ep] at q3
      obtain ⟨s, a1, a2, a3⟩ := ih (k + 1) (ks ++ [k]) (upS (upS σ 697 ks.length (k : Int)) 698 ks.length (ptn f g a ae b be k)) (by omega) (by omega) (by rw [List.length_append]; show ks.length + 1 ≤ _; omega) (fun c x y1 y2 => by rw [up_a y2, up_a y1]; exact hF c x y1 y2) (fun i x hi => by
        by_cases q : i < ks.length
        · rw [List.getElem?_append_left q] at hi
          rw [up_a (by decide), up_k (by omega), up_k (by omega), up_a (by decide)]
          exact hO i x hi
        · have h3 := (List.getElem?_eq_some_iff.mp hi).1
          rw [List.length_append] at h3
          have h4 : i < ks.length + 1 := h3
          have e : i = ks.length := by omega
          rw [e, List.getElem?_append_right (Nat.le_refl _), Nat.sub_self] at hi
          have hi : k = x := by simpa using hi
          rw [e, ← hi, up_a (by decide), up_s, up_s]
          exact ⟨rfl, rfl⟩)
      rw [List.append_assoc] at a1 a2
      refine ⟨s, fun {o} hh => b272_7 ?_, a2, a3⟩
      have z := a1 hh
      rw [List.length_append] at z
      have z : C272_7 ((ks.length + 1 : Nat) : Int) ((k + 1 : Nat) : Int) d3 d4 d5 (upS (upS σ 697 ks.length (k : Int)) 698 ks.length (ptn f g a ae b be k)) o := z
      rw [M1.2.1, if_pos (by omega), tn, fk]
      refine ⟨by omega, _, _, q1, ?_⟩
      rw [if_pos y.1, tn, fk]
      refine ⟨by omega, _, _, q2, ?_⟩
      rw [if_pos y.2]
      have e691 : upS σ 697 ks.length (k : Int) 691 k = f k := by rw [up_a (by decide)]; exact fk
      rw [e691]
      refine ⟨by omega, by omega, _, _, q3, by omega, by omega, b272_69 ⟨by omega, ?_⟩⟩
      rw [show (k : Int) + 1 = ((k + 1 : Nat) : Int) by omega, show ((ks.length : Nat) : Int) + 1 = ((ks.length + 1 : Nat) : Int) by omega]
      exact z
    · have hp : ptn f g a ae b be k = -1 := ptn_i.mpr y
      rw [un, if_pos hp]
      obtain ⟨s, a1, a2, a3⟩ := ih (k + 1) ks σ (by omega) (by omega) (by omega) hF hO
      refine ⟨s, fun {o} hh => b272_7 ?_, a2, a3⟩
      have z69 : C272_69 (ks.length : Nat) k d3 d4 d5 σ o := b272_69 ⟨by omega, by
        rw [show (k : Int) + 1 = ((k + 1 : Nat) : Int) by omega]
        exact a1 hh⟩
      rw [M1.2.1, if_pos (by omega), tn, fk]
      refine ⟨by omega, _, _, q1, ?_⟩
      by_cases y1 : cnt f (f k) a (ae - a) = 1
      · rw [if_pos y1, tn, fk]
        refine ⟨by omega, _, _, q2, ?_⟩
        rw [if_neg (fun e => y ⟨y1, e⟩)]
        exact z69
      · rw [if_neg y1]
        exact z69
end
-- DRAFT 99.cmp6.lean
/-! UNIQUE, the reference's tails and choice. -/
noncomputable section
def mxl (P T : Nat → Int) (v : Int) : List Nat → Int → Int
  | [], acc => acc
  | k :: t, acc => mxl P T v t (if v < P k then mxI acc (T k) else acc)
theorem mxl_mxt {P T T' : Nat → Int} {v : Int} (hv : -1 ≤ v) : ∀ (d k : Nat) (acc : Int), (∀ x, k ≤ x → x < k + d → T' x = T x) → mxt P T v k d acc = mxl P T' v (lsP P k d) acc := by
  intro d
  induction d with
  | zero => intro k acc _; rfl
  | succ d ih =>
    intro k acc hT
    show mxt P T v (k + 1) d (if v < P k then mxI acc (T k) else acc) = mxl P T' v (if P k = -1 then lsP P (k + 1) d else k :: lsP P (k + 1) d) acc
    by_cases y : P k = -1
    · rw [if_pos y, if_neg (by omega)]
      exact ih _ _ (fun x h1 h2 => hT x (by omega) (by omega))
    · rw [if_neg y]
      show _ = mxl P T' v (lsP P (k + 1) d) (if v < P k then mxI acc (T' k) else acc)
      rw [hT k (Nat.le_refl k) (by omega)]
      exact ih _ _ (fun x h1 h2 => hT x (by omega) (by omega))
theorem tls_ge {P : Nat → Int} {ae : Nat} : ∀ (d d' x : Nat), ae ≤ x + d → d ≤ d' → d' ≤ ae → tls P ae d' x = tls P ae d x := by
  intro d d' x hx hd hle
  obtain ⟨e, rfl⟩ : ∃ e, d' = d + e := ⟨d' - d, by omega⟩
  induction e with
  | zero => rfl
  | succ e ih =>
    show (if x = ae - (d + e + 1) then _ else tls P ae (d + e) x) = tls P ae d x
    rw [if_neg (by omega)]
    exact ih (by omega) (by omega)
/-- the tail of a line that is just once in each -/
theorem tls_k {P : Nat → Int} {a ae k : Nat} (ha : a ≤ k) (hk : k < ae) (hp : ¬ P k = -1) (hv : -1 ≤ P k) : tls P ae (ae - a) k = mxl P (tls P ae (ae - a)) (P k) (lsP P (k + 1) (ae - (k + 1))) 0 + 1 := by
  rw [tls_ge (ae - k) (ae - a) k (by omega) (by omega) (by omega), show ae - k = (ae - (k + 1)) + 1 by omega]
  show (if k = ae - (ae - (k + 1) + 1) then (if P (ae - (ae - (k + 1) + 1)) = -1 then (0 : Int) else mxt P (tls P ae (ae - (k + 1))) (P (ae - (ae - (k + 1) + 1))) (ae - (ae - (k + 1))) (ae - (k + 1)) 0 + 1) else tls P ae (ae - (k + 1)) k) = _
  rw [show ae - (ae - (k + 1) + 1) = k by omega, if_pos rfl, if_neg hp, show ae - (ae - (k + 1)) = k + 1 by omega, mxl_mxt (T' := tls P ae (ae - a)) hv _ _ _ (fun x h1 h2 => tls_ge _ _ x (by omega) (by omega) (by omega))]
theorem tls_n {P : Nat → Int} {a ae k : Nat} (ha : a ≤ k) (hk : k < ae) (hp : P k = -1) : tls P ae (ae - a) k = 0 := by
  rw [tls_ge (ae - k) (ae - a) k (by omega) (by omega) (by omega), show ae - k = (ae - (k + 1)) + 1 by omega]
  show (if k = ae - (ae - (k + 1) + 1) then (if P (ae - (ae - (k + 1) + 1)) = -1 then (0 : Int) else mxt P (tls P ae (ae - (k + 1))) (P (ae - (ae - (k + 1) + 1))) (ae - (ae - (k + 1))) (ae - (k + 1)) 0 + 1) else tls P ae (ae - (k + 1)) k) = _
  rw [show ae - (ae - (k + 1) + 1) = k by omega, if_pos rfl, if_pos hp]
theorem lgs_s {P : Nat → Int} {a ae k : Nat} (ha : a ≤ k) (hk : k < ae) (hv : -1 ≤ P k) : lgs P ae (ae - k) = if P k = -1 then lgs P ae (ae - (k + 1)) else mxI (lgs P ae (ae - (k + 1))) (tls P ae (ae - a) k) := by
  by_cases hp : P k = -1
  · rw [if_pos hp, show ae - k = (ae - (k + 1)) + 1 by omega]
    show (if P (ae - (ae - (k + 1) + 1)) = -1 then lgs P ae (ae - (k + 1)) else _) = _
    rw [show ae - (ae - (k + 1) + 1) = k by omega, if_pos hp]
  · rw [if_neg hp, tls_k ha hk hp hv, show ae - k = (ae - (k + 1)) + 1 by omega]
    show (if P (ae - (ae - (k + 1) + 1)) = -1 then lgs P ae (ae - (k + 1)) else mxI (lgs P ae (ae - (k + 1))) (mxt P (tls P ae (ae - (k + 1))) (P (ae - (ae - (k + 1) + 1))) (ae - (ae - (k + 1))) (ae - (k + 1)) 0 + 1)) = _
    rw [show ae - (ae - (k + 1) + 1) = k by omega, if_neg hp, show ae - (ae - (k + 1)) = k + 1 by omega, mxl_mxt (T' := tls P ae (ae - a)) hv _ _ _ (fun x h1 h2 => tls_ge _ _ x (by omega) (by omega) (by omega))]
/-- one best -/
theorem l272b {P T : Nat → Int} {ks : List Nat} {n idx : Nat} {need : Int} {d5 : Option AV} {o : Rs} {σ0 : Sg} (hn : n = ks.length) (h40 : n ≤ 40) (hidx : idx < n) (O : OT σ0 P ks) {k : Nat} (hk : ks[idx]? = some k) (hT : ∀ h x, idx < h → ks[h]? = some x → σ0 699 h = T x) (bT : ∀ x, 0 ≤ T x ∧ T x ≤ 50) : ∀ (d later : Nat) (acc : Int) (σ : Sg), later + d = n → idx < later → 0 ≤ acc → acc ≤ 50 → (∀ c x, ¬ (c = 699 ∧ x = idx) → σ c x = σ0 c x) → σ 699 idx = acc + 1 → ∃ s, (∀ {o : Rs}, C272_106 n need idx n d5 s o → C272_106 n need idx later d5 σ o) ∧ s 699 idx = mxl P T (P k) (ks.drop later) acc + 1 ∧ ∀ c x, ¬ (c = 699 ∧ x = idx) → s c x = σ0 c x := by
  intro d
  induction d with
  | zero =>
    intro later acc σ hd hl h0 h1 hF hv
    refine ⟨σ, fun {o} hh => ?_, ?_, hF⟩
    · rw [show later = n by omega]
      exact hh
    · rw [List.drop_eq_nil_of_le (by omega)]
      exact hv
  | succ d ih =>
    intro later acc σ hd hl h0 h1 hF hv
    have hlt : later < ks.length := by omega
    obtain ⟨x, hx⟩ : ∃ x, x = ks[later] := ⟨_, rfl⟩
    have hx2 : ks[later]? = some x := by rw [hx]; exact List.getElem?_eq_getElem hlt
    obtain ⟨o1, o2⟩ := O later x hx2
    obtain ⟨p1, p2⟩ := O idx k hk
    have t1 := hT later x hl hx2
    have bt := bT x
    have e698 : σ 698 later = P x := by rw [hF _ _ (by omega)]; exact o2
    have e698' : σ 698 idx = P k := by rw [hF _ _ (by omega)]; exact p2
    have e699 : σ 699 later = T x := by rw [hF _ _ (by omega)]; exact t1
    have bd : ks.drop later = x :: ks.drop (later + 1) := by rw [List.drop_eq_getElem_cons hlt, ← hx]
    rw [bd]
    show ∃ s : Sg, _ ∧ s 699 idx = mxl P T (P k) (ks.drop (later + 1)) (if P k < P x then mxI acc (T x) else acc) + 1 ∧ _
    obtain ⟨acc', ha'⟩ : ∃ acc', acc' = if P k < P x then mxI acc (T x) else acc := ⟨_, rfl⟩
    have hb' : 0 ≤ acc' ∧ acc' ≤ 50 := by
      rw [ha']
      unfold mxI
      split
      · split <;> omega
      · omega
    rw [← ha']
    obtain ⟨s, a1, a2, a3⟩ := ih (later + 1) acc' (upS σ 699 idx (acc' + 1)) (by omega) (by omega) hb'.1 hb'.2 (fun c x hc => by
      unfold upS
      rw [if_neg hc]
      exact hF c x hc) up_s
    refine ⟨s, fun {o} hh => b272_106 ?_, a2, a3⟩
    have z : ∀ v, v = acc' + 1 → C272_167 n need idx later d5 idx v σ o := by
      intro v hv'
      refine b272_167 ⟨by omega, by omega, ?_⟩
      rw [hv', tn, show (later : Int) + 1 = ((later + 1 : Nat) : Int) by omega]
      exact a1 hh
    rw [if_pos (by omega), tn, tn, e698, e698', e699, hv]
    refine ⟨by omega, by omega, ?_⟩
    by_cases y : P k < P x
    · rw [if_pos y] at ha' ⊢
      refine ⟨by omega, by omega, ?_⟩
      unfold mxI at ha'
      by_cases y2 : acc + 1 ≤ T x
      · rw [if_pos y2]
        rw [if_pos (by omega)] at ha'
        exact ⟨by omega, by omega, z _ (by omega)⟩
      · rw [if_neg y2]
        rw [if_neg (by omega)] at ha'
        refine b272_161 ⟨by omega, ?_⟩
        rw [tn, hv]
        exact z _ (by omega)
    · rw [if_neg y] at ha' ⊢
      refine b272_161 ⟨by omega, ?_⟩
      rw [tn, hv]
      exact z _ (by omega)
/-- all the bests, and the longest -/
theorem l272c {P : Nat → Int} {a ae : Nat} {ks : List Nat} {d5 : Option AV} {σ0 : Sg} (ha : a ≤ ae) (h40 : ae ≤ 40) (hks : ks = lsP P a (ae - a)) (hP : ∀ k, -1 ≤ P k) (O : OT σ0 P ks) : ∀ (d : Nat) (σ : Sg), a + d ≤ ae → (∀ c x, ¬ c = 699 → σ c x = σ0 c x) → (∀ h x, (lsP P a d).length ≤ h → ks[h]? = some x → σ 699 h = tls P ae (ae - a) x) → ∃ s, (∀ {o : Rs}, (∀ d4 : Option AV, C272_90 (ks.length : Nat) (lgs P ae (ae - a)) (-1) d4 d5 s o) → ∀ d4 : Option AV, C272_90 (ks.length : Nat) (lgs P ae (ae - (a + d))) (((lsP P a d).length : Nat) - 1) d4 d5 σ o) ∧ (∀ h x, ks[h]? = some x → s 699 h = tls P ae (ae - a) x) ∧ ∀ c x, ¬ c = 699 → s c x = σ0 c x := by
  intro d
  induction d with
  | zero =>
    intro σ hd hF hv
    refine ⟨σ, fun {o} hh => hh, fun h x hx => hv h x (Nat.zero_le h) hx, hF⟩
  | succ d ih =>
    intro σ hd hF hv
    have e1 : lsP P a (d + 1) = lsP P a d ++ lsP P (a + d) 1 := lsP_app d a 1
    have e2 : lsP P (a + d) 1 = if P (a + d) = -1 then [] else [a + d] := rfl
    have lg := lgs_s (P := P) (a := a) (ae := ae) (k := a + d) (by omega) (by omega) (hP _)
    rw [show a + (d + 1) = a + d + 1 by omega]
    by_cases y : P (a + d) = -1
    · rw [if_pos y] at e2 lg
      rw [e2, List.append_nil] at e1
      rw [e1] at hv ⊢
      rw [← lg]
      exact ih σ (by omega) hF hv
    · rw [if_neg y] at e2 lg
      rw [e2] at e1
      have hl : (lsP P a (d + 1)).length = (lsP P a d).length + 1 := by
        rw [e1, List.length_append]
        rfl
      obtain ⟨idx, hidx⟩ : ∃ idx, idx = (lsP P a d).length := ⟨_, rfl⟩
      rw [← hidx] at hl ih
      rw [hl] at hv
      have hspl : ks = lsP P a d ++ (a + d) :: lsP P (a + d + 1) (ae - (a + d + 1)) := by
        rw [hks, show ae - a = d + (ae - (a + d)) by omega, lsP_app d a, show ae - (a + d) = (ae - (a + d + 1)) + 1 by omega]
        show lsP P a d ++ (if P (a + d) = -1 then lsP P (a + d + 1) (ae - (a + d + 1)) else (a + d) :: lsP P (a + d + 1) (ae - (a + d + 1))) = _
        rw [if_neg y]
      have hk : ks[idx]? = some (a + d) := by
        rw [hspl, List.getElem?_append_right (by omega), hidx, Nat.sub_self]
        rfl
      have hdr : ks.drop (idx + 1) = lsP P (a + d + 1) (ae - (a + d + 1)) := by
        rw [hspl, List.drop_append, hidx]
        rw [List.drop_eq_nil_of_le (by omega), show (lsP P a d).length + 1 - (lsP P a d).length = 1 by omega]
        rfl
      have hlt := (List.getElem?_eq_some_iff.mp hk).1
      have hlen : ks.length ≤ 40 := by
        have := lsP_len (P := P) (ae - a) a
        rw [← hks] at this
        omega
      have bT : ∀ x, 0 ≤ tls P ae (ae - a) x ∧ tls P ae (ae - a) x ≤ 50 := fun x => by
        have := tls_b (P := P) (ae := ae) (ae - a) x
        omega
      have O' : OT (upS σ 699 idx 1) P ks := fun i k hi => by
        rw [up_a (by decide), up_a (by decide), hF _ _ (by decide), hF _ _ (by decide)]
        exact O i k hi
      obtain ⟨s1, a1, a2, a3⟩ := l272b (P := P) (T := tls P ae (ae - a)) (ks := ks) (n := ks.length) (idx := idx) (need := lgs P ae (ae - (a + d + 1))) (d5 := d5) (o := rV σ) (σ0 := upS σ 699 idx 1) rfl hlen hlt O' hk (fun h x h1 h2 => by
        rw [up_k (by omega)]
        exact hv h x (by omega) h2) bT (ks.length - (idx + 1)) (idx + 1) 0 (upS σ 699 idx 1) (by omega) (by omega) (by omega) (by omega) (fun _ _ _ => rfl) (by rw [up_s]; rfl)
      rw [hdr] at a2
      have tk := tls_k (P := P) (a := a) (ae := ae) (k := a + d) (by omega) (by omega) y (hP _)
      rw [← tk] at a2
      obtain ⟨s, c1, c2, c3⟩ := ih s1 (by omega) (fun c x hc => by rw [a3 c x (by omega), up_a hc]; exact hF c x hc) (fun h x h1 h2 => by
        by_cases q : h = idx
        · rw [q] at h2 ⊢
          rw [hk] at h2
          cases h2
          exact a2
        · rw [a3 _ _ (by omega), up_k q]
          exact hv h x (by omega) h2)
      refine ⟨s, fun {o} hh d4 => b272_90 ?_, c2, c3⟩
      rw [hl, show ((idx + 1 : Nat) : Int) - 1 = (idx : Int) by omega, if_pos (by omega), tn, show (idx : Int) + 1 = ((idx + 1 : Nat) : Int) by omega]
      refine ⟨by omega, by omega, a1 (b272_106 ?_)⟩
      have bt := bT (a + d)
      rw [if_neg (Int.lt_irrefl _), tn, a2]
      refine ⟨by omega, fun _ => by omega, b272_194 ⟨by omega, ?_⟩⟩
      have z := c1 hh (some (vI ((ks.length : Nat) : Int)))
      rw [lg] at z
      unfold mxI at z
      rw [show (idx : Int) + (-1) = (idx : Int) - 1 by omega]
      exact z
/-- the choice, over the lines that are just once in each -/
def selL (ad : List St → St → List St) (P T : Nat → Int) (ae be : Nat) : List Nat → Int → Nat → Nat → (Nat → Int) → List St → (Nat → Int) × List St
  | [], _, i, j, G, L => (G, ad L (i, ae, j, be))
  | k :: t, w, i, j, G, L => if 0 < w ∧ T k = w ∧ (j : Int) ≤ P k then selL ad P T ae be t (w - 1) (k + 1) ((P k).toNat + 1) (updG G k (P k)) (ad L (i, k, j, (P k).toNat)) else selL ad P T ae be t w i j G L
theorem selL_0 {ad : List St → St → List St} {P T : Nat → Int} {ae be : Nat} {w : Int} (hw : ¬ 0 < w) : ∀ (ks : List Nat) (i j : Nat) (G : Nat → Int) (L : List St), selL ad P T ae be ks w i j G L = (G, ad L (i, ae, j, be)) := by
  intro ks
  induction ks with
  | nil => intro i j G L; rfl
  | cons k t ih =>
    intro i j G L
    show (if 0 < w ∧ T k = w ∧ (j : Int) ≤ P k then _ else selL ad P T ae be t w i j G L) = _
    rw [if_neg (fun h => hw h.1)]
    exact ih i j G L
theorem selF_L {ad : List St → St → List St} {P T : Nat → Int} {ae be : Nat} : ∀ (d k : Nat) (w : Int) (i j : Nat) (G : Nat → Int) (L : List St), (∀ x, k ≤ x → x < k + d → P x = -1 → T x = 0) → selF ad P T ae be d k w i j G L = selL ad P T ae be (lsP P k d) w i j G L := by
  intro d
  induction d with
  | zero => intro k w i j G L _; rfl
  | succ d ih =>
    intro k w i j G L hT
    rw [selF_s]
    show _ = selL ad P T ae be (if P k = -1 then lsP P (k + 1) d else k :: lsP P (k + 1) d) w i j G L
    have hT' : ∀ x, k + 1 ≤ x → x < k + 1 + d → P x = -1 → T x = 0 := fun x h1 h2 => hT x (by omega) (by omega)
    by_cases y0 : 0 < w
    · rw [if_pos y0]
      by_cases hp : P k = -1
      · rw [if_pos hp, if_neg (fun e => by have := hT k (Nat.le_refl k) (by omega) hp; omega)]
        exact ih _ _ _ _ _ _ hT'
      · rw [if_neg hp]
        show _ = if 0 < w ∧ T k = w ∧ (j : Int) ≤ P k then selL ad P T ae be (lsP P (k + 1) d) (w - 1) (k + 1) ((P k).toNat + 1) (updG G k (P k)) (ad L (i, k, j, (P k).toNat)) else selL ad P T ae be (lsP P (k + 1) d) w i j G L
        by_cases y : T k = w ∧ (j : Int) ≤ P k
        · rw [if_pos y, if_pos ⟨y0, y⟩]
          exact ih _ _ _ _ _ _ hT'
        · rw [if_neg y, if_neg (fun e => y e.2)]
          exact ih _ _ _ _ _ _ hT'
    · rw [if_neg y0, selL_0 y0]
end
-- DRAFT 99.cmp7.lean
/-! UNIQUE, the reference as a whole. -/
noncomputable section
def adm (L : List St) (q : St) : List St := L ++ [q]
theorem l272e {σ0 : Sg} {P T : Nat → Int} {a ae b be n1 : Nat} {ks : List Nat} (h40 : ae ≤ 40) (hb40 : be ≤ 40) (h1 : ae ≤ n1) (q18 : σ0 682 18 = (ae : Nat)) (q20 : σ0 682 20 = (be : Nat)) (hin : ∀ (h k : Nat), ks[h]? = some k → k < ae ∧ -1 ≤ P k ∧ P k < (be : Int)) (O : OT σ0 P ks) (hT : ∀ (h k : Nat), ks[h]? = some k → σ0 699 h = T k) (hn : ks.length ≤ 40) : ∀ (d x : Nat) (w : Int) (i j : Nat) (G : Nat → Int) (L : List St) (σ : Sg), x + d = ks.length → w ≤ 100 → i ≤ 40 → j ≤ 41 → L.length + d + 1 ≤ 128 → (∀ c y, ¬ c = 693 → ¬ c = 696 → ¬ (c = 682 ∧ y = 22) → σ c y = σ0 c y) → (∀ y, y < n1 → σ 693 y = G y) → Wt σ L → ∃ s, C272_215 (ks.length : Nat) w i j x σ (rV s) ∧ (∀ y, y < n1 → s 693 y = (selL adm P T ae be (ks.drop x) w i j G L).1 y) ∧ Wt s (selL adm P T ae be (ks.drop x) w i j G L).2 ∧ ∀ c y, ¬ c = 693 → ¬ c = 696 → ¬ (c = 682 ∧ y = 22) → s c y = σ0 c y := by
  intro d
  induction d with
  | zero =>
    intro x w i j G L σ hx hw hi hj hl hF hG hW
    have hd : ks.drop x = [] := List.drop_eq_nil_of_le (by omega)
    rw [hd]
    obtain ⟨s, e1, e2, e3⟩ := d267 (a := i) (k := ae) (b := j) (j := be) hW (by omega)
    refine ⟨s, b272_215 ?_, fun y hy => by rw [e3 _ _ (by decide) (by omega)]; exact hG y hy, e2, fun c y y1 y2 y3 => by rw [e3 c y y2 y3]; exact hF c y y1 y2 y3⟩
    rw [if_neg (by omega), hF 682 18 (by decide) (by decide) (by decide), q18, hF 682 20 (by decide) (by decide) (by decide), q20]
    exact ⟨_, e1, rfl⟩
  | succ d ih =>
    intro x w i j G L σ hx hw hi hj hl hF hG hW
    have hlt : x < ks.length := by omega
    obtain ⟨k, hk⟩ : ∃ k, k = ks[x] := ⟨_, rfl⟩
    have hk2 : ks[x]? = some k := by rw [hk]; exact List.getElem?_eq_getElem hlt
    rw [List.drop_eq_getElem_cons hlt, ← hk]
    obtain ⟨i1, i2, i3⟩ := hin x k hk2
    obtain ⟨o1, o2⟩ := O x k hk2
    have t1 := hT x k hk2
    have e697 : σ 697 x = (k : Nat) := by rw [hF _ _ (by decide) (by decide) (by omega)]; exact o1
    have e698 : σ 698 x = P k := by rw [hF _ _ (by decide) (by decide) (by omega)]; exact o2
    have e699 : σ 699 x = T k := by rw [hF _ _ (by decide) (by decide) (by omega)]; exact t1
    have un : selL adm P T ae be (k :: ks.drop (x + 1)) w i j G L = if 0 < w ∧ T k = w ∧ (j : Int) ≤ P k then selL adm P T ae be (ks.drop (x + 1)) (w - 1) (k + 1) ((P k).toNat + 1) (updG G k (P k)) (adm L (i, k, j, (P k).toNat)) else selL adm P T ae be (ks.drop (x + 1)) w i j G L := rfl
    rw [un]
    by_cases y : 0 < w ∧ T k = w ∧ (j : Int) ≤ P k
    · rw [if_pos y]
      obtain ⟨p, hp⟩ := Int.eq_ofNat_of_zero_le (show 0 ≤ P k by omega)
      have hp2 : (P k).toNat = p := by omega
      rw [hp2]
      have hW1 : Wt (upS σ 693 k (P k)) L := Wt_fr (up_a (by decide)) (fun y => up_a (by decide)) hW
      obtain ⟨s1, c1, c2, c3⟩ := d267 (a := i) (k := k) (b := j) (j := p) hW1 (by omega)
      have hF1 : ∀ c z, ¬ c = 693 → ¬ c = 696 → ¬ (c = 682 ∧ z = 22) → s1 c z = σ0 c z := fun c z y1 y2 y3 => by rw [c3 c z y2 y3, up_a y1]; exact hF c z y1 y2 y3
      obtain ⟨s, a1, a2, a3, a4⟩ := ih (x + 1) (w - 1) (k + 1) (p + 1) (updG G k (P k)) (adm L (i, k, j, p)) s1 (by omega) (by omega) (by omega) (by omega) (by
        unfold adm
        rw [List.length_append]
        show L.length + 1 + d + 1 ≤ 128
        omega) hF1 (fun z hz => by
        rw [c3 _ _ (by decide) (by omega)]
        unfold updG
        by_cases q : z = k
        · rw [if_pos q, q, up_s]
        · rw [if_neg q, up_k q]; exact hG z hz) c2
      refine ⟨s, b272_215 ?_, a2, a3, a4⟩
      have e1 : s1 697 x = (k : Nat) := by rw [hF1 _ _ (by decide) (by decide) (by omega)]; exact o1
      have e2 : s1 698 x = P k := by rw [hF1 _ _ (by decide) (by decide) (by omega)]; exact o2
      rw [if_pos (by omega), if_pos y.1]
      simp only [tn, e697, e698, e699, up_a (show ¬ (697 : Nat) = 693 by decide), up_a (show ¬ (698 : Nat) = 693 by decide)]
      refine ⟨by omega, ?_⟩
      rw [if_pos y.2.1]
      refine ⟨by omega, ?_⟩
      rw [if_pos y.2.2]
      refine ⟨by omega, by omega, by omega, by omega, by omega, s1, ?_, ?_⟩
      · rw [hp] at c1 ⊢
        exact c1
      · rw [e1, e2, hp, show ((k : Nat) : Int) + 1 = ((k + 1 : Nat) : Int) by omega, show ((p : Nat) : Int) + 1 = ((p + 1 : Nat) : Int) by omega, show w + (-1) = w - 1 by omega]
        refine ⟨by omega, by omega, by omega, by omega, by omega, b272_312 ⟨by omega, ?_⟩⟩
        rw [show (x : Int) + 1 = ((x + 1 : Nat) : Int) by omega]
        exact a1
    · rw [if_neg y]
      obtain ⟨s, a1, a2, a3, a4⟩ := ih (x + 1) w i j G L σ (by omega) hw hi hj (by omega) hF hG hW
      refine ⟨s, b272_215 ?_, a2, a3, a4⟩
      have z : C272_312 (ks.length : Nat) w i j x σ (rV s) := b272_312 ⟨by omega, by
        rw [show (x : Int) + 1 = ((x + 1 : Nat) : Int) by omega]
        exact a1⟩
      rw [if_pos (by omega), tn, e699, e698]
      by_cases y0 : 0 < w
      · rw [if_pos y0]
        refine ⟨by omega, ?_⟩
        by_cases y1 : T k = w
        · rw [if_pos y1]
          refine ⟨by omega, ?_⟩
          rw [if_neg (fun e => y ⟨y0, y1, e⟩)]
          exact z
        · rw [if_neg y1]
          exact z
      · rw [if_neg y0]
        exact z
theorem lgs_0 {P : Nat → Int} {ae : Nat} (hP : ∀ k, -1 ≤ P k) : ∀ (d k : Nat), k + d = ae → 0 ≤ lgs P ae d ∧ (lgs P ae d = 0 ↔ lsP P k d = []) := by
  intro d
  induction d with
  | zero =>
    intro k hk
    exact ⟨Int.le_refl 0, ⟨fun _ => rfl, fun _ => rfl⟩⟩
  | succ d ih =>
    intro k hk
    obtain ⟨i0, i1⟩ := ih (k + 1) (by omega)
    have lg := lgs_s (P := P) (a := k) (ae := ae) (k := k) (Nat.le_refl k) (by omega) (hP k)
    rw [show ae - k = d + 1 by omega, show ae - (k + 1) = d by omega] at lg
    have e : lsP P k (d + 1) = if P k = -1 then lsP P (k + 1) d else k :: lsP P (k + 1) d := rfl
    rw [lg, e]
    by_cases y : P k = -1
    · rw [if_pos y, if_pos y]
      exact ⟨i0, i1⟩
    · rw [if_neg y, if_neg y]
      have tk := tls_k (P := P) (a := k) (ae := ae) (k := k) (Nat.le_refl k) (by omega) y (hP k)
      rw [show ae - k = d + 1 by omega, show ae - (k + 1) = d by omega, ← mxl_mxt (T := tls P ae (d + 1)) (hP k) d (k + 1) 0 (fun _ _ _ => rfl)] at tk
      have bm := mxt_b (P := P) (T := tls P ae (d + 1)) (v := P k) (B := ((d + 1 : Nat) : Int)) d (k + 1) 0 (by omega) (by omega) (fun x _ _ => (tls_b (d + 1) x).2)
      have h1 : 1 ≤ mxI (lgs P ae d) (tls P ae (d + 1) k) := by
        unfold mxI
        split <;> omega
      refine ⟨by omega, ⟨fun h => by omega, fun h => by cases h⟩⟩
theorem d272 {f g G : Nat → Int} {n1 n2 a ae b be : Nat} {L : List St} {σ : Sg} (R : MRw σ f g n1 n2) (M : MS σ a ae b be) (ha : a ≤ ae) (hb : b ≤ be) (h1 : ae ≤ n1) (h2 : be ≤ n2) (hG : ∀ x, x < n1 → σ 693 x = G x) (hW : Wt σ L) (hl : L.length + (ae - a) + 1 ≤ 128) : ∃ s, Dd 272 [vA 682] σ (rV s) ∧ (∀ x, x < n1 → s 693 x = if lgs (ptn f g a ae b be) ae (ae - a) = 0 then wk f g ae be ((ae - a) + (be - b)) a b G x else (unq adm f g a ae b be G L).1 x) ∧ Wt s (if lgs (ptn f g a ae b be) ae (ae - a) = 0 then L else (unq adm f g a ae b be G L).2) ∧ ∀ c x, ¬ (693 ≤ c ∧ c ≤ 694) → ¬ (696 ≤ c ∧ c ≤ 699) → ¬ (c = 682 ∧ x = 22) → s c x = σ c x := by
  have n40 := R.1
  have n40' := R.2.1
  have hP : ∀ k, -1 ≤ ptn f g a ae b be k := fun k => by
    rcases ptn_c (f := f) (g := g) (a := a) (ae := ae) (b := b) (be := be) (k := k) with z | ⟨j, z1, -⟩
    · omega
    · omega
  obtain ⟨P, hPd⟩ : ∃ P, P = ptn f g a ae b be := ⟨_, rfl⟩
  obtain ⟨ks, hks⟩ : ∃ ks, ks = lsP P a (ae - a) := ⟨_, rfl⟩
  obtain ⟨s1, a1, a2, a3⟩ := l272a (d3 := none) (d4 := none) (d5 := none) R M ha hb h1 h2 (ae - a) a [] σ (by omega) (Nat.le_refl a) (Nat.zero_le _) (fun _ _ _ _ => rfl) (fun i k h => by simp at h)
  unfold unq
  rw [← hPd] at hP a1 a2 ⊢
  rw [List.nil_append, ← hks] at a1 a2
  have L0 := (lgs_0 (ae := ae) hP (ae - a) a (by omega)).2
  rw [← hks] at L0
  have hkl : ks.length ≤ 40 := by
    have := lsP_len (P := P) (ae - a) a
    rw [← hks] at this
    omega
  have m18 : s1 682 18 = (ae : Nat) := by rw [a3 _ _ (by decide) (by decide)]; exact M.2.1
  by_cases y : lgs P ae (ae - a) = 0
  · have hn : ks = [] := L0.mp y
    have hn2 : ks.length = 0 := by rw [hn]; rfl
    obtain ⟨s, e1, e2, e3⟩ := d266 (σ0 := s1) (G := G) (f := f) (g := g) ha hb h1 h2 (by omega) (by omega) (by rw [a3 _ _ (by decide) (by decide)]; exact M.1) m18 (by rw [a3 _ _ (by decide) (by decide)]; exact M.2.2.1) (by rw [a3 _ _ (by decide) (by decide)]; exact M.2.2.2) (fun i hi => by rw [a3 _ _ (by decide) (by decide)]; exact R.2.2.1 i hi) (fun i hi => by rw [a3 _ _ (by decide) (by decide)]; exact R.2.2.2 i hi) (fun x hx => by rw [a3 _ _ (by decide) (by decide)]; exact hG x hx)
    rw [if_pos y]
    refine ⟨s, b272 ?_, fun x hx => by rw [if_pos y]; exact e2 x hx, Wt_fr (by rw [e3 _ _ (by decide) (by decide), a3 _ _ (by decide) (by decide)]) (fun x => by rw [e3 _ _ (by decide) (by decide), a3 _ _ (by decide) (by decide)]) hW, fun c x y1 y2 y3 => by rw [e3 c x (by omega) (by omega), a3 c x (by omega) (by omega)]⟩
    rw [M.1]
    refine a1 (b272_7 ?_)
    rw [m18, if_neg (by omega), if_pos (by omega)]
    exact ⟨_, e1, rfl⟩
  · have hne : ¬ ks = [] := fun h => y (L0.mpr h)
    have hn0 : ¬ ks.length = 0 := fun h => hne (List.eq_nil_of_length_eq_zero h)
    obtain ⟨s2, c1, c2, c3⟩ := l272c (P := P) (a := a) (ae := ae) (ks := ks) (d5 := none) (σ0 := s1) ha (by omega) hks hP a2 (ae - a) s1 (by omega) (fun _ _ _ => rfl) (fun h x h3 h4 => by
      have := (List.getElem?_eq_some_iff.mp h4).1
      rw [← hks] at h3
      omega)
    rw [← hks, show ae - (a + (ae - a)) = 0 by omega, show lgs P ae 0 = 0 from rfl] at c1
    have lb : lgs P ae (ae - a) ≤ 100 := by
      have : ∀ d, lgs P ae d ≤ (d : Int) := by
        intro d
        induction d with
        | zero => exact Int.le_refl 0
        | succ d ih =>
          have m := mxt_b (P := P) (T := tls P ae d) (v := P (ae - (d + 1))) (B := (d : Int)) d (ae - d) 0 (by omega) (by omega) (fun x _ _ => (tls_b d x).2)
          show (if P (ae - (d + 1)) = -1 then lgs P ae d else mxI (lgs P ae d) (mxt P (tls P ae d) (P (ae - (d + 1))) (ae - d) d 0 + 1)) ≤ ((d + 1 : Nat) : Int)
          unfold mxI
          split
          · omega
          · split <;> omega
      have := this (ae - a)
      omega
    have F2 : ∀ c x, ¬ (697 ≤ c ∧ c ≤ 699) → s2 c x = σ c x := fun c x h => by rw [c3 c x (by omega), a3 c x (by omega) (by omega)]
    obtain ⟨s, e1, e2, e3, e4⟩ := l272e (σ0 := s2) (P := P) (T := tls P ae (ae - a)) (a := a) (ae := ae) (b := b) (be := be) (n1 := n1) (ks := ks) (by omega) (by omega) h1 (by rw [F2 _ _ (by decide)]; exact M.2.1) (by rw [F2 _ _ (by decide)]; exact M.2.2.2) (fun h k hk => by
      have hm := List.mem_of_getElem? hk
      rw [hks] at hm
      have := lsP_in _ _ _ hm
      refine ⟨by omega, hP k, ?_⟩
      rw [hPd]
      rcases ptn_c (f := f) (g := g) (a := a) (ae := ae) (b := b) (be := be) (k := k) with z | ⟨j, z1, z2, z3, z4⟩
      · omega
      · omega) (fun i k hk => by rw [c3 _ _ (by decide), c3 _ _ (by decide)]; exact a2 i k hk) c2 hkl ks.length 0 (lgs P ae (ae - a)) a b G L s2 (by omega) lb (by omega) (by omega) (by
      have := lsP_len (P := P) (ae - a) a
      rw [← hks] at this
      omega) (fun _ _ _ _ _ => rfl) (fun x hx => by rw [F2 _ _ (by decide)]; exact hG x hx) (Wt_fr (F2 _ _ (by decide)) (fun x => F2 _ _ (by decide)) hW)
    have es : selF adm P (tls P ae (ae - a)) ae be (ae - a) a (lgs P ae (ae - a)) a b G L = selL adm P (tls P ae (ae - a)) ae be (ks.drop 0) (lgs P ae (ae - a)) a b G L := by
      rw [selF_L (ae - a) a _ _ _ _ _ (fun x h3 h4 h5 => tls_n h3 (by omega) h5), ← hks]
      rfl
    rw [if_neg y, es]
    refine ⟨s, b272 ?_, fun x hx => by rw [if_neg y]; exact e2 x hx, e3, fun c x y1 y2 y3 => by rw [e4 c x (by omega) (by omega) (by omega)]; exact F2 c x (by omega)⟩
    rw [M.1]
    refine a1 (b272_7 ?_)
    rw [m18, if_neg (by omega), if_neg (by omega)]
    refine ⟨by omega, c1 (fun d4 => b272_90 ?_) _⟩
    rw [if_neg (by decide), F2 682 17 (by decide), M.1, F2 682 19 (by decide), M.2.2.1]
    exact e1
end
-- DRAFT 99.cmp8.lean
/-! RARE, on both sides. -/
noncomputable section
def rrF (f g : Nat → Int) (a ae b be : Nat) : Nat → Nat → Int → Int → Int
  | 0, _, x, _ => x
  | d + 1, k, x, w => if cnt f (f k) a (ae - a) < w ∧ 0 < cnt g (f k) b (be - b) then rrF f g a ae b be d (k + 1) k (cnt f (f k) a (ae - a)) else rrF f g a ae b be d (k + 1) x w
theorem rrF_s {f g : Nat → Int} {a ae b be d k : Nat} {x w : Int} : rrF f g a ae b be (d + 1) k x w = if cnt f (f k) a (ae - a) < w ∧ 0 < cnt g (f k) b (be - b) then rrF f g a ae b be d (k + 1) k (cnt f (f k) a (ae - a)) else rrF f g a ae b be d (k + 1) x w := rfl
def rst (f g : Nat → Int) (a ae b be : Nat) : Int := rrF f g a ae b be (ae - a) a (-1) 4
theorem rrF_c {f g : Nat → Int} {a ae b be : Nat} : ∀ (d k : Nat) (x w : Int), (x = -1 ∨ ∃ i : Nat, x = (i : Int) ∧ a ≤ i ∧ i < ae ∧ 0 < cnt g (f i) b (be - b)) → a ≤ k → k + d ≤ ae → (rrF f g a ae b be d k x w = -1 ∨ ∃ i : Nat, rrF f g a ae b be d k x w = (i : Int) ∧ a ≤ i ∧ i < ae ∧ 0 < cnt g (f i) b (be - b)) := by
  intro d
  induction d with
  | zero => intro k x w h _ _; exact h
  | succ d ih =>
    intro k x w h h1 h2
    rw [rrF_s]
    by_cases y : cnt f (f k) a (ae - a) < w ∧ 0 < cnt g (f k) b (be - b)
    · rw [if_pos y]
      exact ih _ _ _ (Or.inr ⟨k, rfl, h1, by omega, y.2⟩) (by omega) (by omega)
    · rw [if_neg y]
      exact ih _ _ _ h (by omega) (by omega)
theorem rst_c {f g : Nat → Int} {a ae b be : Nat} (ha : a ≤ ae) : rst f g a ae b be = -1 ∨ ∃ k j : Nat, rst f g a ae b be = (k : Int) ∧ a ≤ k ∧ k < ae ∧ fnd g (f k) b (be - b) = (j : Int) ∧ b ≤ j ∧ j < be ∧ g j = f k := by
  rcases rrF_c (f := f) (g := g) (b := b) (be := be) (ae - a) a (-1) 4 (Or.inl rfl) (Nat.le_refl a) (show a + (ae - a) ≤ ae by omega) with e | ⟨k, e, h1, h2, h3⟩
  · exact Or.inl e
  · obtain ⟨j, e1, e2, e3, e4⟩ := fnd_in _ _ ((cnt_0 (f := g) (x := f k) (be - b) b).mp h3)
    exact Or.inr ⟨k, j, e, h1, h2, e1, e2, by omega, e4⟩
/-- rarestLine -/
theorem d33 {σ : Sg} {f g : Nat → Int} {n1 n2 a ae b be : Nat} (C : CR σ f g n1 n2) (ha : a ≤ ae) (hb : b ≤ be) (h1 : ae ≤ n1) (h2 : be ≤ n2) : Dd 33 [vA 332, vI a, vI ae, vI b, vI be] σ (rI (rst f g a ae b be) σ) := by
  have c1 := C.1
  have L : ∀ (d k : Nat) (x w : Int) (d8 : Option AV), k + d = ae → C33_9 a ae b be x w k d8 σ (rI (rrF f g a ae b be d k x w) σ) := by
    intro d
    induction d with
    | zero =>
      intro k x w d8 hk
      refine b33_9 ?_
      rw [if_neg (by omega), show rrF f g a ae b be 0 k x w = x from rfl]
    | succ d ih =>
      intro k x w d8 hk
      have C' := C
      obtain ⟨-, -, W1, W2, -, Z1, Z2, -, HF, HG⟩ := C'
      have p1 := CR_1 C (show k < n1 by omega)
      have p2 := d157 (x := f k) W1 Z1 HF ha h1
      have p3 := d157 (x := f k) W2 Z2 HG hb h2
      refine b33_9 ?_
      rw [if_pos (by omega), rrF_s]
      refine ⟨_, _, p1, _, _, p2, ?_⟩
      by_cases y1 : cnt f (f k) a (ae - a) < w
      · rw [if_pos y1]
        refine ⟨_, _, p1, _, _, p3, b33_72 ⟨by omega, ?_⟩⟩
        rw [show (k : Int) + 1 = ((k + 1 : Nat) : Int) by omega]
        by_cases y2 : 0 < cnt g (f k) b (be - b)
        · rw [if_pos y2, if_pos y2, if_pos ⟨y1, y2⟩]
          exact ih _ _ _ _ (by omega)
        · rw [if_neg y2, if_neg y2, if_neg (fun e => y2 e.2)]
          exact ih _ _ _ _ (by omega)
      · rw [if_neg y1, if_neg (fun e => y1 e.1)]
        refine b33_72 ⟨by omega, ?_⟩
        rw [show (k : Int) + 1 = ((k + 1 : Nat) : Int) by omega]
        exact ih _ _ _ _ (by omega)
  exact b33 (L (ae - a) a (-1) 4 none (by omega))
def rre (ad : List St → St → List St) (f g : Nat → Int) (a ae b be : Nat) (G : Nat → Int) (L : List St) (k j : Nat) : (Nat → Int) × List St := (pr (k - tl f g a k b j) (j - tl f g a k b j) (tl f g a k b j + hd f g k ae j be) G, ad (ad L (a, k - tl f g a k b j, b, j - tl f g a k b j)) (k + hd f g k ae j be, ae, j + hd f g k ae j be, be))
def rrr (ad : List St → St → List St) (f g : Nat → Int) (a ae b be : Nat) (G : Nat → Int) (L : List St) : (Nat → Int) × List St := rre ad f g a ae b be G L (rst f g a ae b be).toNat (fnd g (f (rst f g a ae b be).toNat) b (be - b)).toNat
/-- pairRarest -/
theorem d32 {σ0 : Sg} {f g G : Nat → Int} {n1 n2 a ae b be : Nat} {L : List St} (C : CR σ0 f g n1 n2) (ha : a ≤ ae) (hb : b ≤ be) (h1 : ae ≤ n1) (h2 : be ≤ n2) (hG : ∀ x, x < n1 → σ0 338 x = G x) (hR : Rw σ0 343 (fl4 L)) (hl : L.length + 2 ≤ 160) : ∃ s, Dd 32 [vA 332, vI a, vI ae, vI b, vI be] σ0 (rI (if rst f g a ae b be = -1 then 0 else 1) s) ∧ (∀ x, x < n1 → s 338 x = if rst f g a ae b be = -1 then G x else (rrr ads f g a ae b be G L).1 x) ∧ Rw s 343 (fl4 (if rst f g a ae b be = -1 then L else (rrr ads f g a ae b be G L).2)) ∧ ∀ c x, ¬ c = 338 → ¬ c = 343 → ¬ c = 344 → s c x = σ0 c x := by
  have c1 := C.1
  have c2 := C.2.1
  have q1 := d33 C ha hb h1 h2
  rcases rst_c (f := f) (g := g) (b := b) (be := be) ha with e | ⟨k, j, e, k1, k2, e2, j1, j2, e3⟩
  · rw [if_pos e, if_pos e]
    refine ⟨σ0, b32 ⟨_, _, q1, ?_⟩, fun x hx => by rw [if_pos e]; exact hG x hx, hR, fun _ _ _ _ _ => rfl⟩
    rw [if_pos e]
  · have hne : ¬ rst f g a ae b be = -1 := by omega
    have ek : (rst f g a ae b be).toNat = k := by omega
    have ej : (fnd g (f k) b (be - b)).toNat = j := by omega
    have er : rrr ads f g a ae b be G L = rre ads f g a ae b be G L k j := by
      unfold rrr
      rw [ek, ej]
    rw [if_neg hne, if_neg hne, er]
    obtain ⟨t, ht⟩ : ∃ t, t = tl f g a k b j := ⟨_, rfl⟩
    obtain ⟨u, hu⟩ : ∃ u, u = hd f g k ae j be := ⟨_, rfl⟩
    have bt := tl_b (f := f) (g := g) (a := a) (ae := k) (b := b) (be := j)
    have bu := hd_b (f := f) (g := g) (a := k) (ae := ae) (b := j) (be := be)
    rw [← ht] at bt
    rw [← hu] at bu
    have p1 := CR_1 C (show k < n1 by omega)
    have C' := C
    obtain ⟨-, -, W1, W2, -, Z1, Z2, -, HF, HG⟩ := C'
    have p2 := d160 (x := f k) W2 Z2 HG (show b ≤ n2 by omega)
    rw [fnd_ext (be - b) (n2 - b) b (by omega) ⟨j, j1, by omega, e3⟩, e2] at p2
    have p3 := d27 C k1 j1 (show k ≤ n1 by omega) (show j ≤ n2 by omega)
    rw [← ht] at p3
    have p4 := d26 C (show k ≤ ae by omega) (show j ≤ be by omega) h1 h2
    rw [← hu] at p4
    obtain ⟨s1, p5, v1, f1⟩ := d28 (i := k - t) (j := j - t) (n := t + u) C (by omega) (by omega) hG
    obtain ⟨s2, p6, r2, f2⟩ := d20 (σ := s1) (L := L) (a := a) (k := k - t) (b := b) (j := j - t) (Rw_fr (f1 _ _ (by decide)) (fun x => f1 _ _ (by decide)) hR) (by omega)
    have al := ads_len (L := L) (q := (a, k - t, b, j - t))
    obtain ⟨s3, p7, r3, f3⟩ := d20 (a := k + u) (k := ae) (b := j + u) (j := be) r2 (by omega)
    refine ⟨s3, b32 ⟨_, _, q1, ?_⟩, fun x hx => ?_, ?_, fun c x h h' h'' => ?_⟩
    · rw [if_neg hne, e]
      refine ⟨_, _, p1, _, _, p2, _, _, p3, _, _, p4, by omega, by omega, by omega, ?_⟩
      rw [show (k : Int) - (t : Int) = ((k - t : Nat) : Int) by omega, show (j : Int) - (t : Int) = ((j - t : Nat) : Int) by omega, show (t : Int) + (u : Int) = ((t + u : Nat) : Int) by omega]
      refine ⟨_, p5, _, p6, by omega, by omega, ?_⟩
      rw [show ((k - t : Nat) : Int) + ((t + u : Nat) : Int) = ((k + u : Nat) : Int) by omega, show ((j - t : Nat) : Int) + ((t + u : Nat) : Int) = ((j + u : Nat) : Int) by omega]
      exact ⟨_, p7, rfl⟩
    · rw [if_neg hne, f3 _ _ (by decide) (by decide), f2 _ _ (by decide) (by decide), v1 x hx]
      show _ = pr (k - tl f g a k b j) (j - tl f g a k b j) (tl f g a k b j + hd f g k ae j be) G x
      rw [← ht, ← hu]
    · show Rw s3 343 (fl4 (ads (ads L (a, k - tl f g a k b j, b, j - tl f g a k b j)) (k + hd f g k ae j be, ae, j + hd f g k ae j be, be)))
      rw [← ht, ← hu]
      exact r3
    · rw [f3 c x h' h'', f2 c x h' h'', f1 c x h]
/-- the reference's search for the rarest line -/
theorem l273a {σ0 : Sg} {f g : Nat → Int} {n1 n2 a ae b be : Nat} {d4 d5 : Option AV} (R : MRw σ0 f g n1 n2) (M : MS σ0 a ae b be) (ha : a ≤ ae) (hb : b ≤ be) (h1 : ae ≤ n1) (h2 : be ≤ n2) {o : Rs} : ∀ (d k : Nat) (x w : Int), k + d = ae → a ≤ k → (∀ (w' : Int) (d4 d5 : Option AV), C273_9 (rrF f g a ae b be d k x w) w' ae d4 d5 σ0 o) → ∀ (d4 d5 : Option AV), C273_9 x w k d4 d5 σ0 o := by
  have n40 := R.1
  intro d
  induction d with
  | zero =>
    intro k x w hk hak hh d4 d5
    rw [show k = ae by omega]
    exact hh w d4 d5
  | succ d ih =>
    intro k x w hk hak hh d4 d5
    have fk : σ0 691 k = f k := R.2.2.1 k (by omega)
    have q1 := d269 (x := f k) R M ha h1
    have q2 := d270 (x := f k) R M hb h2
    rw [rrF_s] at hh
    have to : ∀ (x' w' : Int) (d1 d2 d4 d5 : Option AV), (∀ (w'' : Int) (d4 d5 : Option AV), C273_9 (rrF f g a ae b be d (k + 1) x' w') w'' ae d4 d5 σ0 o) → C273_77 x' d1 k d4 d5 w' σ0 o := by
      intro x' w' d1 d2 d4 d5 h3
      refine b273_77 ⟨by omega, ?_⟩
      rw [show (k : Int) + 1 = ((k + 1 : Nat) : Int) by omega]
      exact ih (k + 1) x' w' (by omega) (by omega) h3 d4 d5
    refine b273_9 ?_
    rw [M.2.1, if_pos (by omega), tn, fk]
    refine ⟨by omega, _, _, q1, ?_⟩
    by_cases y1 : cnt f (f k) a (ae - a) < w
    · rw [if_pos y1, fk]
      refine ⟨by omega, _, _, q2, ?_⟩
      by_cases y2 : 0 < cnt g (f k) b (be - b)
      · rw [if_pos ⟨y1, y2⟩] at hh
        rw [if_pos y2]
        refine b273_53 ?_
        rw [if_neg (by decide)]
        refine b273_65 ?_
        rw [if_neg (by decide)]
        exact to _ _ _ none _ _ hh
      · rw [if_neg (fun e => y2 e.2)] at hh
        rw [if_neg y2]
        refine b273_52 (b273_53 ?_)
        rw [if_pos rfl]
        refine b273_65 ?_
        rw [if_pos rfl]
        exact to _ _ _ none _ _ hh
    · rw [if_neg (fun e => y1 e.1)] at hh
      rw [if_neg y1]
      refine b273_52 (b273_53 ?_)
      rw [if_pos rfl]
      refine b273_65 ?_
      rw [if_pos rfl]
      exact to _ _ _ none _ _ hh
/-- on from the rarest line -/
theorem l273c {σ0 : Sg} {f g G : Nat → Int} {n1 n2 a ae b be k j t u : Nat} {Q : Sg → Prop} (R : MRw σ0 f g n1 n2) (M : MS σ0 a ae b be) (hk : k < ae) (hj : j < be) (h1 : ae ≤ n1) (h2 : be ≤ n2) (ht : t ≤ k ∧ t ≤ j) (hu : u = hd f g k ae j be) (hh : ∀ s : Sg, (∀ c x, ¬ c = 693 → s c x = σ0 c x) → (∀ x, x < n1 → s 693 x = pr (k - t) (j - t) (t + u) G x) → ∃ s', (∀ d2, C273_226 ((k - t : Nat) : Int) d2 ((j - t : Nat) : Int) ((k + u : Nat) : Int) ((j + u : Nat) : Int) s (rV s')) ∧ Q s') : ∀ (d e : Nat) (σ : Sg), e + d = u → 1 ≤ e → (∀ c x, ¬ c = 693 → σ c x = σ0 c x) → (∀ x, x < n1 → σ 693 x = pr (k - t) (j - t) (t + e) G x) → ∃ s', (∀ d2, C273_173 ((k - t : Nat) : Int) d2 ((j - t : Nat) : Int) ((k + e : Nat) : Int) ((j + e : Nat) : Int) σ (rV s')) ∧ Q s' := by
  have n40 := R.1
  have n40' := R.2.1
  have bu := hd_b (f := f) (g := g) (a := k) (ae := ae) (b := j) (be := be)
  rw [← hu] at bu
  intro d
  induction d with
  | zero =>
    intro e σ he h0 hF hv
    have e1 : e = u := by omega
    subst e1
    obtain ⟨s', z, hq⟩ := hh σ hF hv
    refine ⟨s', fun d2 => b273_173 ?_, hq⟩
    rw [hF 682 18 (by decide), M.2.1, hF 682 20 (by decide), M.2.2.2]
    by_cases y1 : k + e < ae
    · rw [if_pos (by omega)]
      by_cases y2 : j + e < be
      · rw [if_pos (by omega), tn, tn, hF 691 _ (by decide), hF 692 _ (by decide), R.2.2.1 _ (by omega), R.2.2.2 _ (by omega), if_neg (bu.2.2.2 (by omega) (by omega))]
        exact ⟨by omega, by omega, z d2⟩
      · rw [if_neg (by omega)]
        exact z d2
    · rw [if_neg (by omega)]
      exact z d2
  | succ d ih =>
    intro e σ he h0 hF hv
    obtain ⟨s', z, hq⟩ := ih (e + 1) (upS σ 693 (k + e) ((j + e : Nat) : Int)) (by omega) (by omega) (fun c x hc => by rw [up_a hc]; exact hF c x hc) (fun x hx => by
      unfold pr
      by_cases y : x = k + e
      · rw [y, up_s, if_pos (by omega)]
        congr 1
        omega
      · rw [up_k y, hv x hx]
        unfold pr
        by_cases y2 : k - t ≤ x ∧ x < k - t + (t + e)
        · rw [if_pos y2, if_pos (by omega)]
        · rw [if_neg y2, if_neg (by omega)])
    refine ⟨s', fun d2 => b273_173 ?_, hq⟩
    rw [hF 682 18 (by decide), M.2.1, hF 682 20 (by decide), M.2.2.2, if_pos (by omega), if_pos (by omega), tn, tn, hF 691 _ (by decide), hF 692 _ (by decide), R.2.2.1 _ (by omega), R.2.2.2 _ (by omega), if_pos (bu.2.2.1 e (by omega)), show ((k + e : Nat) : Int) + 1 = ((k + (e + 1) : Nat) : Int) by omega, show ((j + e : Nat) : Int) + 1 = ((j + (e + 1) : Nat) : Int) by omega]
    exact ⟨by omega, by omega, by omega, by omega, by omega, z d2⟩
/-- back from the rarest line -/
theorem l273b {σ0 : Sg} {f g G : Nat → Int} {n1 n2 a ae b be k j t : Nat} {Q : Sg → Prop} (R : MRw σ0 f g n1 n2) (M : MS σ0 a ae b be) (ak : a ≤ k) (bj : b ≤ j) (hk : k < n1) (hj : j < n2) (ht : t = tl f g a k b j) (hh : ∀ s : Sg, (∀ c x, ¬ c = 693 → s c x = σ0 c x) → (∀ x, x < n1 → s 693 x = pr (k - t) (j - t) (t + 1) G x) → ∃ s', (∀ d2, C273_173 ((k - t : Nat) : Int) d2 ((j - t : Nat) : Int) ((k + 1 : Nat) : Int) ((j + 1 : Nat) : Int) s (rV s')) ∧ Q s') : ∀ (d e : Nat) (σ : Sg), e + d = t → (∀ c x, ¬ c = 693 → σ c x = σ0 c x) → (∀ x, x < n1 → σ 693 x = pr (k - e) (j - e) (e + 1) G x) → ∃ s', (∀ d2, C273_122 ((k - e : Nat) : Int) d2 ((j - e : Nat) : Int) ((k + 1 : Nat) : Int) ((j + 1 : Nat) : Int) σ (rV s')) ∧ Q s' := by
  have n40 := R.1
  have n40' := R.2.1
  have bt := tl_b (f := f) (g := g) (a := a) (ae := k) (b := b) (be := j)
  rw [← ht] at bt
  intro d
  induction d with
  | zero =>
    intro e σ he hF hv
    have e1 : e = t := by omega
    subst e1
    obtain ⟨s', z, hq⟩ := hh σ hF hv
    refine ⟨s', fun d2 => b273_122 ?_, hq⟩
    rw [hF 682 17 (by decide), M.1, hF 682 19 (by decide), M.2.2.1]
    by_cases y1 : a < k - e
    · rw [if_pos (by omega)]
      by_cases y2 : b < j - e
      · rw [if_pos (by omega), show ((k - e : Nat) : Int) - 1 = ((k - 1 - e : Nat) : Int) by omega, show ((j - e : Nat) : Int) - 1 = ((j - 1 - e : Nat) : Int) by omega, tn, tn, hF 691 _ (by decide), hF 692 _ (by decide), R.2.2.1 _ (by omega), R.2.2.2 _ (by omega), if_neg (bt.2.2.2 (by omega) (by omega))]
        exact ⟨by omega, by omega, by omega, by omega, z d2⟩
      · rw [if_neg (by omega)]
        exact z d2
    · rw [if_neg (by omega)]
      exact z d2
  | succ d ih =>
    intro e σ he hF hv
    obtain ⟨s', z, hq⟩ := ih (e + 1) (upS σ 693 (k - (e + 1)) ((j - (e + 1) : Nat) : Int)) (by omega) (fun c x hc => by rw [up_a hc]; exact hF c x hc) (fun x hx => by
      unfold pr
      by_cases y : x = k - (e + 1)
      · rw [y, up_s, if_pos (by omega)]
        congr 1
        omega
      · rw [up_k y, hv x hx]
        unfold pr
        by_cases y2 : k - e ≤ x ∧ x < k - e + (e + 1)
        · rw [if_pos y2, if_pos (by omega)]
          congr 1
          omega
        · rw [if_neg y2, if_neg (by omega)])
    have q3 := bt.2.2.1 e (by omega)
    refine ⟨s', fun d2 => b273_122 ?_, hq⟩
    rw [hF 682 17 (by decide), M.1, hF 682 19 (by decide), M.2.2.1, if_pos (by omega), if_pos (by omega), show ((k - e : Nat) : Int) - 1 = ((k - 1 - e : Nat) : Int) by omega, show ((j - e : Nat) : Int) - 1 = ((j - 1 - e : Nat) : Int) by omega, tn, tn, hF 691 _ (by decide), hF 692 _ (by decide), R.2.2.1 _ (by omega), R.2.2.2 _ (by omega), if_pos q3, show ((k - e : Nat) : Int) + (-1) = ((k - (e + 1) : Nat) : Int) by omega, show ((j - e : Nat) : Int) + (-1) = ((j - (e + 1) : Nat) : Int) by omega, tn]
    exact ⟨by omega, by omega, by omega, by omega, by omega, by omega, by omega, z d2⟩
/-- the reference's rare -/
theorem d273 {f g G : Nat → Int} {n1 n2 a ae b be : Nat} {L : List St} {σ : Sg} (R : MRw σ f g n1 n2) (M : MS σ a ae b be) (ha : a ≤ ae) (hb : b ≤ be) (h1 : ae ≤ n1) (h2 : be ≤ n2) (hG : ∀ x, x < n1 → σ 693 x = G x) (hW : Wt σ L) (hl : L.length + 2 ≤ 128) : ∃ s, Dd 273 [vA 682] σ (rV s) ∧ (∀ x, x < n1 → s 693 x = if rst f g a ae b be = -1 then wk f g ae be ((ae - a) + (be - b)) a b G x else (rrr adm f g a ae b be G L).1 x) ∧ Wt s (if rst f g a ae b be = -1 then L else (rrr adm f g a ae b be G L).2) ∧ ∀ c x, ¬ (693 ≤ c ∧ c ≤ 694) → ¬ c = 696 → ¬ (c = 682 ∧ x = 22) → s c x = σ c x := by
  have n40 := R.1
  have n40' := R.2.1
  have st : ∀ (o : Rs), (∀ (w' : Int) (d4 d5 : Option AV), C273_9 (rst f g a ae b be) w' ae d4 d5 σ o) → Dd 273 [vA 682] σ o := by
    intro o hh
    refine b273 ?_
    rw [M.1]
    exact l273a (d4 := none) (d5 := none) R M ha hb h1 h2 (ae - a) a (-1) 4 (by omega) (Nat.le_refl a) hh none none
  rcases rst_c (f := f) (g := g) (b := b) (be := be) ha with e | ⟨k, j, e, k1, k2, e2, j1, j2, e3⟩
  · obtain ⟨s, e1, e2, e3⟩ := d266 (σ0 := σ) (G := G) (f := f) (g := g) ha hb h1 h2 (by omega) (by omega) M.1 M.2.1 M.2.2.1 M.2.2.2 R.2.2.1 R.2.2.2 hG
    rw [if_pos e]
    refine ⟨s, st _ (fun w' d4 d5 => b273_9 ?_), fun x hx => by rw [if_pos e]; exact e2 x hx, Wt_fr (e3 _ _ (by decide) (by decide)) (fun x => e3 _ _ (by decide) (by decide)) hW, fun c x y1 y2 y3 => e3 c x (by omega) (by omega)⟩
    rw [M.2.1, if_neg (by omega), if_pos e]
    exact ⟨_, e1, rfl⟩
  · have hne : ¬ rst f g a ae b be = -1 := by omega
    have ek : (rst f g a ae b be).toNat = k := by omega
    have ej : (fnd g (f k) b (be - b)).toNat = j := by omega
    have er : rrr adm f g a ae b be G L = rre adm f g a ae b be G L k j := by
      unfold rrr
      rw [ek, ej]
    rw [if_neg hne, er]
    obtain ⟨t, ht⟩ : ∃ t, t = tl f g a k b j := ⟨_, rfl⟩
    obtain ⟨u, hu⟩ : ∃ u, u = hd f g k ae j be := ⟨_, rfl⟩
    have bt := tl_b (f := f) (g := g) (a := a) (ae := k) (b := b) (be := j)
    have bu := hd_b (f := f) (g := g) (a := k) (ae := ae) (b := j) (be := be)
    rw [← ht] at bt
    rw [← hu] at bu
    have hu1 : 1 ≤ u := by
      by_cases y : 1 ≤ u
      · exact y
      · exfalso
        have z := bu.2.2.2 (by omega) (by omega)
        rw [show u = 0 by omega, Nat.add_zero, Nat.add_zero] at z
        exact z e3.symm
    have q1 := d271 (x := f k) R M hb h2
    rw [e2] at q1
    have fk : σ 691 k = f k := R.2.2.1 k (by omega)
    obtain ⟨s, z, v, w, fr⟩ := l273b (G := G) (Q := fun s => (∀ x, x < n1 → s 693 x = pr (k - t) (j - t) (t + u) G x) ∧ Wt s ((L ++ [(a, k - t, b, j - t)]) ++ [(k + u, ae, j + u, be)]) ∧ ∀ c x, ¬ c = 693 → ¬ c = 696 → ¬ (c = 682 ∧ x = 22) → s c x = σ c x) R M k1 j1 (by omega) (by omega) ht (fun s1 hF hv => l273c (σ0 := σ) R M k2 j2 h1 h2 (by omega) hu (fun s2 hF2 hv2 => by
      obtain ⟨s3, p1, w1, f1⟩ := d267 (σ := s2) (L := L) (a := a) (k := k - t) (b := b) (j := j - t) (Wt_fr (hF2 _ _ (by decide)) (fun x => hF2 _ _ (by decide)) hW) (by omega)
      obtain ⟨s4, p2, w2, f2⟩ := d267 (σ := s3) (a := k + u) (k := ae) (b := j + u) (j := be) w1 (by rw [List.length_append]; show L.length + 1 < 128; omega)
      refine ⟨s4, fun d2 => b273_226 ?_, fun x hx => by rw [f2 _ _ (by decide) (by omega), f1 _ _ (by decide) (by omega), hv2 x hx], w2, fun c x y1 y2 y3 => by rw [f2 c x y2 y3, f1 c x y2 y3]; exact hF2 c x y1⟩
      rw [hF2 682 17 (by decide), M.1, hF2 682 19 (by decide), M.2.2.1]
      refine ⟨_, p1, ?_⟩
      rw [f1 682 18 (by decide) (by decide), hF2 682 18 (by decide), M.2.1, f1 682 20 (by decide) (by decide), hF2 682 20 (by decide), M.2.2.2]
      exact ⟨_, p2, rfl⟩) (u - 1) 1 s1 (by omega) (Nat.le_refl 1) hF hv) t 0 (upS σ 693 k (j : Int)) (by omega) (fun c x hc => up_a hc) (fun x hx => by
      unfold pr
      by_cases y : x = k
      · rw [y, up_s, if_pos (by omega)]
        congr 1
        omega
      · rw [up_k y, hG x hx, if_neg (by omega)])
    refine ⟨s, st _ (fun w' d4 d5 => b273_9 ?_), fun x hx => ?_, ?_, fun c x y1 y2 y3 => fr c x (by omega) y2 y3⟩
    · rw [M.2.1, if_neg (by omega), if_neg hne, e, tn, fk]
      refine ⟨by omega, _, _, q1, by omega, by omega, by omega, ?_⟩
      rw [show (k : Int) + 1 = ((k + 1 : Nat) : Int) by omega, show (j : Int) + 1 = ((j + 1 : Nat) : Int) by omega]
      exact z _
    · rw [if_neg hne, v x hx]
      show _ = pr (k - tl f g a k b j) (j - tl f g a k b j) (tl f g a k b j + hd f g k ae j be) G x
      rw [← ht, ← hu]
    · show Wt s ((L ++ [(a, k - tl f g a k b j, b, j - tl f g a k b j)]) ++ [(k + hd f g k ae j be, ae, j + hd f g k ae j be, be)])
      rw [← ht, ← hu]
      exact w
end
-- DRAFT 99.cmp9.lean
/-! One stretch, on both sides. -/
noncomputable section
/-- what a stretch pairs, and the stretches that it leaves; not by LEAST -/
def mid (ad : List St → St → List St) (way : Int) (f g : Nat → Int) (a ae b be : Nat) (G : Nat → Int) (L : List St) : (Nat → Int) × List St :=
  if way = 1 then (if lgs (ptn f g a ae b be) ae (ae - a) = 0 then (wk f g ae be ((ae - a) + (be - b)) a b G, L) else unq ad f g a ae b be G L)
  else (if rst f g a ae b be = -1 then (wk f g ae be ((ae - a) + (be - b)) a b G, L) else rrr ad f g a ae b be G L)
def stpS (ad : List St → St → List St) (way : Int) (f g : Nat → Int) (q : St) (G : Nat → Int) (L : List St) : (Nat → Int) × List St :=
  if way = 0 then (wk f g q.2.1 q.2.2.2 ((q.2.1 - q.1) + (q.2.2.2 - q.2.2.1)) q.1 q.2.2.1 G, L)
  else mid ad way f g (q.1 + hd f g q.1 q.2.1 q.2.2.1 q.2.2.2) (q.2.1 - tl f g (q.1 + hd f g q.1 q.2.1 q.2.2.1 q.2.2.2) q.2.1 (q.2.2.1 + hd f g q.1 q.2.1 q.2.2.1 q.2.2.2) q.2.2.2) (q.2.2.1 + hd f g q.1 q.2.1 q.2.2.1 q.2.2.2) (q.2.2.2 - tl f g (q.1 + hd f g q.1 q.2.1 q.2.2.1 q.2.2.2) q.2.1 (q.2.2.1 + hd f g q.1 q.2.1 q.2.2.1 q.2.2.2) q.2.2.2)
    (pr (q.2.1 - tl f g (q.1 + hd f g q.1 q.2.1 q.2.2.1 q.2.2.2) q.2.1 (q.2.2.1 + hd f g q.1 q.2.1 q.2.2.1 q.2.2.2) q.2.2.2) (q.2.2.2 - tl f g (q.1 + hd f g q.1 q.2.1 q.2.2.1 q.2.2.2) q.2.1 (q.2.2.1 + hd f g q.1 q.2.1 q.2.2.1 q.2.2.2) q.2.2.2) (tl f g (q.1 + hd f g q.1 q.2.1 q.2.2.1 q.2.2.2) q.2.1 (q.2.2.1 + hd f g q.1 q.2.1 q.2.2.1 q.2.2.2) q.2.2.2) (pr q.1 q.2.2.1 (hd f g q.1 q.2.1 q.2.2.1 q.2.2.2) G)) L
theorem stp_m {ad : List St → St → List St} {way : Int} {f g : Nat → Int} {a ae b be p q : Nat} {G : Nat → Int} {L : List St} (hw : ¬ way = 0) (hp : p = hd f g a ae b be) (hq : q = tl f g (a + p) ae (b + p) be) : stpS ad way f g (a, ae, b, be) G L = mid ad way f g (a + p) (ae - q) (b + p) (be - q) (pr (ae - q) (be - q) q (pr a b p G)) L := by
  unfold stpS
  rw [if_neg hw]
  dsimp only
  rw [← hp, ← hq]
theorem stp_0 {ad : List St → St → List St} {f g : Nat → Int} {a ae b be : Nat} {G : Nat → Int} {L : List St} : stpS ad 0 f g (a, ae, b, be) G L = (wk f g ae be ((ae - a) + (be - b)) a b G, L) := by
  unfold stpS
  rw [if_pos rfl]
def WC (σ : Sg) : Prop := (0 ≤ σ 339 1 ∧ σ 339 1 ≤ 40) ∧ (0 ≤ σ 341 1 ∧ σ 341 1 ≤ 40)
theorem WC_fr {σ s : Sg} (h1 : s 339 1 = σ 339 1) (h2 : s 341 1 = σ 341 1) (H : WC σ) : WC s := by
  unfold WC
  rw [h1, h2]
  exact H
/-- the class: a stretch by LEAST -/
theorem d24s {σ0 : Sg} {f g G : Nat → Int} {n1 n2 a ae b be : Nat} {L : List St} (C : CR σ0 f g n1 n2) (ha : a ≤ ae) (hb : b ≤ be) (h1 : ae ≤ n1) (h2 : be ≤ n2) (hG : ∀ x, x < n1 → σ0 338 x = G x) (hR : Rw σ0 343 (fl4 L)) : ∃ s, Dd 24 [vA 332, vI a, vI ae, vI b, vI be] σ0 (rV s) ∧ (∀ x, x < n1 → s 338 x = wk f g ae be ((ae - a) + (be - b)) a b G x) ∧ Rw s 343 (fl4 L) ∧ ∀ c x, ¬ c = 338 → ¬ c = 349 → s c x = σ0 c x := by
  obtain ⟨c1, c2, w1, w2, w3, z1, z2, z3, hf, hg⟩ := C
  obtain ⟨s, e1, e2, e3⟩ := d24 (G := G) ha hb h1 h2 c1 c2 w1 w2 w3 z1 z2 z3 hf hg hG
  exact ⟨s, e1, e2, Rw_fr (e3 _ _ (by decide) (by decide)) (fun x => e3 _ _ (by decide) (by decide)) hR, fun c x h h' => e3 c x h h'⟩
/-- pairByEnds -/
theorem d25 {σ0 : Sg} {f g G : Nat → Int} {n1 n2 a ae b be : Nat} {L : List St} {way : Int} (C : CR σ0 f g n1 n2) (ha : a ≤ ae) (hb : b ≤ be) (h1 : ae ≤ n1) (h2 : be ≤ n2) (hG : ∀ x, x < n1 → σ0 338 x = G x) (hR : Rw σ0 343 (fl4 L)) (hl : L.length + (ae - a) + 2 ≤ 160) (hw : ¬ way = 0) : ∃ s, Dd 25 [vA 332, vI a, vI ae, vI b, vI be, vI way] σ0 (rV s) ∧ (∀ x, x < n1 → s 338 x = (stpS ads way f g (a, ae, b, be) G L).1 x) ∧ Rw s 343 (fl4 (stpS ads way f g (a, ae, b, be) G L).2) ∧ (WC σ0 → WC s) ∧ ∀ c x, ¬ (338 ≤ c ∧ c ≤ 344) → ¬ c = 349 → s c x = σ0 c x := by
  have c1 := C.1
  have c2 := C.2.1
  obtain ⟨p, hp⟩ : ∃ p, p = hd f g a ae b be := ⟨_, rfl⟩
  obtain ⟨q, hq⟩ : ∃ q, q = tl f g (a + p) ae (b + p) be := ⟨_, rfl⟩
  rw [stp_m hw hp hq]
  have bp := hd_b (f := f) (g := g) (a := a) (ae := ae) (b := b) (be := be)
  rw [← hp] at bp
  have bq := tl_b (f := f) (g := g) (a := a + p) (ae := ae) (b := b + p) (be := be)
  rw [← hq] at bq
  have p1 := d26 C ha hb h1 h2
  rw [← hp] at p1
  obtain ⟨s1, p2, v1, f1⟩ := d28 (i := a) (j := b) (n := p) C (by omega) (by omega) hG
  have C1 : CR s1 f g n1 n2 := CR_fr (fun c x hc => f1 c x (by omega)) C
  have p3 := d27 C1 (show a + p ≤ ae by omega) (show b + p ≤ be by omega) h1 h2
  rw [← hq] at p3
  obtain ⟨s2, p4, v2, f2⟩ := d28 (i := ae - q) (j := be - q) (n := q) C1 (by omega) (by omega) v1
  have C2 : CR s2 f g n1 n2 := CR_fr (fun c x hc => f2 c x (by omega)) C1
  have F2 : ∀ c x, ¬ c = 338 → s2 c x = σ0 c x := fun c x h => by rw [f2 c x h, f1 c x h]
  have hR2 : Rw s2 343 (fl4 L) := Rw_fr (F2 _ _ (by decide)) (fun x => F2 _ _ (by decide)) hR
  obtain ⟨i, hi⟩ : ∃ i, i = a + p := ⟨_, rfl⟩
  obtain ⟨j, hj⟩ : ∃ j, j = b + p := ⟨_, rfl⟩
  obtain ⟨ie, hie⟩ : ∃ ie, ie = ae - q := ⟨_, rfl⟩
  obtain ⟨je, hje⟩ : ∃ je, je = be - q := ⟨_, rfl⟩
  rw [← hie, ← hje] at v2
  rw [← hi, ← hj, ← hie, ← hje]
  generalize pr ie je q (pr a b p G) = G1 at v2 ⊢
  have E1 : (a : Int) + (p : Int) = (i : Int) := by omega
  have E2 : (b : Int) + (p : Int) = (j : Int) := by omega
  have E3 : (ae : Int) - (q : Int) = (ie : Int) := by omega
  have E4 : (be : Int) - (q : Int) = (je : Int) := by omega
  rw [← hi, ← hj] at p3
  rw [← hie, ← hje] at p4
  have fin : ∀ (s : Sg) (z : Int) (d1 d2 d3 d4 d5 d6 d9 d12 : Option AV) (G2 : Nat → Int) (L2 : List St) (R : (Nat → Int) × List St), (∀ c x, ¬ (338 ≤ c ∧ c ≤ 344) → s c x = s2 c x) → (WC σ0 → WC s) → (∀ x, x < n1 → s 338 x = G2 x) → Rw s 343 (fl4 L2) → (R = if z = 0 then (wk f g ie je ((ie - i) + (je - j)) i j G2, L2) else (G2, L2)) → ∃ s', C25_105 d1 d2 d3 d4 d5 d6 i j d9 ie je d12 z s (rV s') ∧ (∀ x, x < n1 → s' 338 x = R.1 x) ∧ Rw s' 343 (fl4 R.2) ∧ (WC σ0 → WC s') ∧ ∀ c x, ¬ (338 ≤ c ∧ c ≤ 344) → ¬ c = 349 → s' c x = σ0 c x := by
    intro s z d1 d2 d3 d4 d5 d6 d9 d12 G2 L2 R hF hWC hv hr hRR
    by_cases y : z = 0
    · rw [if_pos y] at hRR
      obtain ⟨s', e1, e2, e3, e4⟩ := d24s (σ0 := s) (f := f) (g := g) (n1 := n1) (n2 := n2) (G := G2) (L := L2) (CR_fr (fun c x hc => hF c x (by omega)) C2) (show i ≤ ie by omega) (show j ≤ je by omega) (by omega) (by omega) hv hr
      refine ⟨s', b25_105 ?_, fun x hx => by rw [e2 x hx, hRR], by rw [hRR]; exact e3, fun hc => WC_fr (e4 _ _ (by decide) (by decide)) (e4 _ _ (by decide) (by decide)) (hWC hc), fun c x h h' => by rw [e4 c x (by omega) h', hF c x h]; exact F2 c x (by omega)⟩
      rw [if_pos y]
      exact ⟨_, e1, rfl⟩
    · rw [if_neg y] at hRR
      refine ⟨s, b25_105 ?_, fun x hx => by rw [hv x hx, hRR], by rw [hRR]; exact hr, hWC, fun c x h h' => by rw [hF c x h]; exact F2 c x (by omega)⟩
      rw [if_neg y]
  have go : (∃ s', (if way = 1 then (∃ (v : Int) (s : Sg), Dd 29 [vA 332, vI i, vI ie, vI j, vI je] s2 (rI v s) ∧ C25_105 (some (vI a)) (some (vI ae)) (some (vI b)) (some (vI be)) (some (vI way)) (some (vI p)) i j (some (vI q)) ie je none v s (rV s')) else (∃ (v : Int) (s : Sg), Dd 32 [vA 332, vI i, vI ie, vI j, vI je] s2 (rI v s) ∧ C25_105 (some (vI a)) (some (vI ae)) (some (vI b)) (some (vI be)) (some (vI way)) (some (vI p)) i j (some (vI q)) ie je none v s (rV s'))) ∧ (∀ x, x < n1 → s' 338 x = (mid ads way f g i ie j je G1 L).1 x) ∧ Rw s' 343 (fl4 (mid ads way f g i ie j je G1 L).2) ∧ (WC σ0 → WC s') ∧ ∀ c x, ¬ (338 ≤ c ∧ c ≤ 344) → ¬ c = 349 → s' c x = σ0 c x) := by
    by_cases y1 : way = 1
    · obtain ⟨s3, e1, e2, e3, ew, e4⟩ := d29 (σ0 := s2) (G := G1) (L := L) C2 (show i ≤ ie by omega) (show j ≤ je by omega) (by omega) (by omega) v2 hR2 (by omega)
      have hm : mid ads way f g i ie j je G1 L = if lgs (ptn f g i ie j je) ie (ie - i) = 0 then (wk f g ie je ((ie - i) + (je - j)) i j G1, L) else unq ads f g i ie j je G1 L := by
        unfold mid
        rw [if_pos y1]
      by_cases y2 : lgs (ptn f g i ie j je) ie (ie - i) = 0
      · rw [if_pos y2] at e1 e3 hm
        obtain ⟨s', g1, g2, g3, g5, g4⟩ := fin s3 0 (some (vI a)) (some (vI ae)) (some (vI b)) (some (vI be)) (some (vI way)) (some (vI p)) (some (vI q)) none G1 L (mid ads way f g i ie j je G1 L) e4 (fun _ => ⟨by rw [ew.1]; omega, by rw [ew.2]; omega⟩) (fun x hx => by rw [e2 x hx, if_pos y2]) e3 (by rw [hm, if_pos rfl])
        refine ⟨s', ?_, g2, g3, g5, g4⟩
        rw [if_pos y1]
        exact ⟨_, _, e1, g1⟩
      · rw [if_neg y2] at e1 e3 hm
        obtain ⟨s', g1, g2, g3, g5, g4⟩ := fin s3 1 (some (vI a)) (some (vI ae)) (some (vI b)) (some (vI be)) (some (vI way)) (some (vI p)) (some (vI q)) none (unq ads f g i ie j je G1 L).1 (unq ads f g i ie j je G1 L).2 (mid ads way f g i ie j je G1 L) e4 (fun _ => ⟨by rw [ew.1]; omega, by rw [ew.2]; omega⟩) (fun x hx => by rw [e2 x hx, if_neg y2]) e3 (by rw [hm, if_neg (show ¬ (1 : Int) = 0 by decide)])
        refine ⟨s', ?_, g2, g3, g5, g4⟩
        rw [if_pos y1]
        exact ⟨_, _, e1, g1⟩
    · obtain ⟨s3, e1, e2, e3, e4⟩ := d32 (σ0 := s2) (G := G1) (L := L) C2 (show i ≤ ie by omega) (show j ≤ je by omega) (by omega) (by omega) v2 hR2 (by omega)
      have hm : mid ads way f g i ie j je G1 L = if rst f g i ie j je = -1 then (wk f g ie je ((ie - i) + (je - j)) i j G1, L) else rrr ads f g i ie j je G1 L := by
        unfold mid
        rw [if_neg y1]
      by_cases y2 : rst f g i ie j je = -1
      · rw [if_pos y2] at e1 e3 hm
        obtain ⟨s', g1, g2, g3, g5, g4⟩ := fin s3 0 (some (vI a)) (some (vI ae)) (some (vI b)) (some (vI be)) (some (vI way)) (some (vI p)) (some (vI q)) none G1 L (mid ads way f g i ie j je G1 L) (fun c x h => e4 c x (by omega) (by omega) (by omega)) (fun hc => WC_fr (e4 _ _ (by decide) (by decide) (by decide)) (e4 _ _ (by decide) (by decide) (by decide)) (WC_fr (F2 _ _ (by decide)) (F2 _ _ (by decide)) hc)) (fun x hx => by rw [e2 x hx, if_pos y2]) e3 (by rw [hm, if_pos rfl])
        refine ⟨s', ?_, g2, g3, g5, g4⟩
        rw [if_neg y1]
        exact ⟨_, _, e1, g1⟩
      · rw [if_neg y2] at e1 e3 hm
        obtain ⟨s', g1, g2, g3, g5, g4⟩ := fin s3 1 (some (vI a)) (some (vI ae)) (some (vI b)) (some (vI be)) (some (vI way)) (some (vI p)) (some (vI q)) none (rrr ads f g i ie j je G1 L).1 (rrr ads f g i ie j je G1 L).2 (mid ads way f g i ie j je G1 L) (fun c x h => e4 c x (by omega) (by omega) (by omega)) (fun hc => WC_fr (e4 _ _ (by decide) (by decide) (by decide)) (e4 _ _ (by decide) (by decide) (by decide)) (WC_fr (F2 _ _ (by decide)) (F2 _ _ (by decide)) hc)) (fun x hx => by rw [e2 x hx, if_neg y2]) e3 (by rw [hm, if_neg (show ¬ (1 : Int) = 0 by decide)])
        refine ⟨s', ?_, g2, g3, g5, g4⟩
        rw [if_neg y1]
        exact ⟨_, _, e1, g1⟩
  obtain ⟨s', g1, g2, g3, g5, g4⟩ := go
  refine ⟨s', b25 ?_, g2, g3, g5, g4⟩
  refine ⟨_, _, p1, _, p2, by omega, by omega, ?_⟩
  rw [E1, E2]
  refine ⟨_, _, p3, by omega, by omega, ?_⟩
  rw [E3, E4]
  exact ⟨_, p4, by omega, by omega, g1⟩
/-- the reference: a stretch -/
theorem d268s {f g G : Nat → Int} {n1 n2 a ae b be : Nat} {L : List St} {way : Int} {σ : Sg} (R : MRw σ f g n1 n2) (M : MS σ a ae b be) (ha : a ≤ ae) (hb : b ≤ be) (h1 : ae ≤ n1) (h2 : be ≤ n2) (hG : ∀ x, x < n1 → σ 693 x = G x) (hW : Wt σ L) (hl : L.length + (ae - a) + 2 ≤ 128) (hw : ¬ way = 0) : ∃ s', (∃ s1, Dd 268 [vA 682] σ (rV s1) ∧ (if way = 1 then (∃ s2, Dd 272 [vA 682] s1 (rV s2) ∧ s2 = s') else (∃ s2, Dd 273 [vA 682] s1 (rV s2) ∧ s2 = s'))) ∧ (∀ x, x < n1 → s' 693 x = (stpS adm way f g (a, ae, b, be) G L).1 x) ∧ Wt s' (stpS adm way f g (a, ae, b, be) G L).2 ∧ ∀ c x, ¬ (693 ≤ c ∧ c ≤ 694) → ¬ (696 ≤ c ∧ c ≤ 699) → ¬ (c = 682 ∧ 17 ≤ x ∧ x ≤ 22) → s' c x = σ c x := by
  have c1 := R.1
  have c2 := R.2.1
  obtain ⟨p, hp⟩ : ∃ p, p = hd f g a ae b be := ⟨_, rfl⟩
  obtain ⟨q, hq⟩ : ∃ q, q = tl f g (a + p) ae (b + p) be := ⟨_, rfl⟩
  rw [stp_m hw hp hq]
  have bp := hd_b (f := f) (g := g) (a := a) (ae := ae) (b := b) (be := be)
  rw [← hp] at bp
  have bq := tl_b (f := f) (g := g) (a := a + p) (ae := ae) (b := b + p) (be := be)
  rw [← hq] at bq
  obtain ⟨s1, p1, M1, v1, f1⟩ := d268 R M ha hb h1 h2 hG hp hq
  obtain ⟨i, hi⟩ : ∃ i, i = a + p := ⟨_, rfl⟩
  obtain ⟨j, hj⟩ : ∃ j, j = b + p := ⟨_, rfl⟩
  obtain ⟨ie, hie⟩ : ∃ ie, ie = ae - q := ⟨_, rfl⟩
  obtain ⟨je, hje⟩ : ∃ je, je = be - q := ⟨_, rfl⟩
  rw [← hie, ← hje] at v1
  rw [← hi, ← hj, ← hie, ← hje] at M1
  rw [← hi, ← hj, ← hie, ← hje]
  generalize pr ie je q (pr a b p G) = G1 at v1 ⊢
  have R1 : MRw s1 f g n1 n2 := ⟨R.1, R.2.1, fun x hx => by rw [f1 _ _ (by omega) (by omega)]; exact R.2.2.1 x hx, fun x hx => by rw [f1 _ _ (by omega) (by omega)]; exact R.2.2.2 x hx⟩
  have W1 : Wt s1 L := Wt_fr (f1 _ _ (by omega) (by omega)) (fun x => f1 _ _ (by omega) (by omega)) hW
  by_cases y1 : way = 1
  · obtain ⟨s2, e1, e2, e3, e4⟩ := d272 (G := G1) (L := L) R1 M1 (show i ≤ ie by omega) (show j ≤ je by omega) (by omega) (by omega) v1 W1 (by omega)
    have hm : mid adm way f g i ie j je G1 L = if lgs (ptn f g i ie j je) ie (ie - i) = 0 then (wk f g ie je ((ie - i) + (je - j)) i j G1, L) else unq adm f g i ie j je G1 L := by
      unfold mid
      rw [if_pos y1]
    refine ⟨s2, ⟨s1, p1, by rw [if_pos y1]; exact ⟨_, e1, rfl⟩⟩, fun x hx => ?_, ?_, fun c x h h' h'' => by rw [e4 c x h h' (by omega), f1 c x (by omega) (by omega)]⟩
    · rw [e2 x hx, hm]
      by_cases y2 : lgs (ptn f g i ie j je) ie (ie - i) = 0
      · rw [if_pos y2, if_pos y2]
      · rw [if_neg y2, if_neg y2]
    · rw [hm]
      by_cases y2 : lgs (ptn f g i ie j je) ie (ie - i) = 0
      · rw [if_pos y2] at e3 ⊢
        exact e3
      · rw [if_neg y2] at e3 ⊢
        exact e3
  · obtain ⟨s2, e1, e2, e3, e4⟩ := d273 (G := G1) (L := L) R1 M1 (show i ≤ ie by omega) (show j ≤ je by omega) (by omega) (by omega) v1 W1 (by omega)
    have hm : mid adm way f g i ie j je G1 L = if rst f g i ie j je = -1 then (wk f g ie je ((ie - i) + (je - j)) i j G1, L) else rrr adm f g i ie j je G1 L := by
      unfold mid
      rw [if_neg y1]
    refine ⟨s2, ⟨s1, p1, by rw [if_neg y1]; exact ⟨_, e1, rfl⟩⟩, fun x hx => ?_, ?_, fun c x h h' h'' => by rw [e4 c x h (by omega) (by omega), f1 c x (by omega) (by omega)]⟩
    · rw [e2 x hx, hm]
      by_cases y2 : rst f g i ie j je = -1
      · rw [if_pos y2, if_pos y2]
      · rw [if_neg y2, if_neg y2]
    · rw [hm]
      by_cases y2 : rst f g i ie j je = -1
      · rw [if_pos y2] at e3 ⊢
        exact e3
      · rw [if_neg y2] at e3 ⊢
        exact e3
end
-- DRAFT 99.cmpa.lean
/-! One stretch: what it pairs and what it leaves, apart. -/
noncomputable section
def selG (P T : Nat → Int) : Nat → Nat → Int → Nat → (Nat → Int) → (Nat → Int)
  | 0, _, _, _, G => G
  | d + 1, k, w, j, G => if 0 < w then (if T k = w ∧ (j : Int) ≤ P k then selG P T d (k + 1) (w - 1) ((P k).toNat + 1) (updG G k (P k)) else selG P T d (k + 1) w j G) else G
theorem selG_s {P T : Nat → Int} {d k j : Nat} {w : Int} {G : Nat → Int} : selG P T (d + 1) k w j G = if 0 < w then (if T k = w ∧ (j : Int) ≤ P k then selG P T d (k + 1) (w - 1) ((P k).toNat + 1) (updG G k (P k)) else selG P T d (k + 1) w j G) else G := rfl
def selK (P T : Nat → Int) (ae be : Nat) : Nat → Nat → Int → Nat → Nat → List St
  | 0, _, _, i, j => [(i, ae, j, be)]
  | d + 1, k, w, i, j => if 0 < w then (if T k = w ∧ (j : Int) ≤ P k then (i, k, j, (P k).toNat) :: selK P T ae be d (k + 1) (w - 1) (k + 1) ((P k).toNat + 1) else selK P T ae be d (k + 1) w i j) else [(i, ae, j, be)]
theorem selK_s {P T : Nat → Int} {ae be d k i j : Nat} {w : Int} : selK P T ae be (d + 1) k w i j = if 0 < w then (if T k = w ∧ (j : Int) ≤ P k then (i, k, j, (P k).toNat) :: selK P T ae be d (k + 1) (w - 1) (k + 1) ((P k).toNat + 1) else selK P T ae be d (k + 1) w i j) else [(i, ae, j, be)] := rfl
theorem selF_e {ad : List St → St → List St} {P T : Nat → Int} {ae be : Nat} : ∀ (d k : Nat) (w : Int) (i j : Nat) (G : Nat → Int) (L : List St), selF ad P T ae be d k w i j G L = (selG P T d k w j G, (selK P T ae be d k w i j).foldl ad L) := by
  intro d
  induction d with
  | zero => intro k w i j G L; rfl
  | succ d ih =>
    intro k w i j G L
    rw [selF_s, selG_s, selK_s]
    by_cases y0 : 0 < w
    · rw [if_pos y0, if_pos y0, if_pos y0]
      by_cases y : T k = w ∧ (j : Int) ≤ P k
      · rw [if_pos y, if_pos y, if_pos y, ih, List.foldl_cons]
      · rw [if_neg y, if_neg y, if_neg y, ih]
    · rw [if_neg y0, if_neg y0, if_neg y0]
      rfl
def mkG (way : Int) (f g : Nat → Int) (a ae b be : Nat) (G : Nat → Int) : Nat → Int :=
  if way = 1 then (if lgs (ptn f g a ae b be) ae (ae - a) = 0 then wk f g ae be ((ae - a) + (be - b)) a b G else selG (ptn f g a ae b be) (tls (ptn f g a ae b be) ae (ae - a)) (ae - a) a (lgs (ptn f g a ae b be) ae (ae - a)) b G)
  else (if rst f g a ae b be = -1 then wk f g ae be ((ae - a) + (be - b)) a b G else (rrr adm f g a ae b be G []).1)
def mkK (way : Int) (f g : Nat → Int) (a ae b be : Nat) : List St :=
  if way = 1 then (if lgs (ptn f g a ae b be) ae (ae - a) = 0 then [] else selK (ptn f g a ae b be) (tls (ptn f g a ae b be) ae (ae - a)) ae be (ae - a) a (lgs (ptn f g a ae b be) ae (ae - a)) a b)
  else (if rst f g a ae b be = -1 then [] else (rrr adm f g a ae b be (fun _ => -1) []).2)
theorem mid_e {ad : List St → St → List St} {way : Int} {f g : Nat → Int} {a ae b be : Nat} {G : Nat → Int} {L : List St} : mid ad way f g a ae b be G L = (mkG way f g a ae b be G, (mkK way f g a ae b be).foldl ad L) := by
  unfold mid mkG mkK
  by_cases y1 : way = 1
  · rw [if_pos y1, if_pos y1, if_pos y1]
    by_cases y2 : lgs (ptn f g a ae b be) ae (ae - a) = 0
    · rw [if_pos y2, if_pos y2, if_pos y2]
      rfl
    · rw [if_neg y2, if_neg y2, if_neg y2]
      unfold unq
      rw [selF_e]
  · rw [if_neg y1, if_neg y1, if_neg y1]
    by_cases y2 : rst f g a ae b be = -1
    · rw [if_pos y2, if_pos y2, if_pos y2]
      rfl
    · rw [if_neg y2, if_neg y2, if_neg y2]
      rfl
def hq (f g : Nat → Int) (q : St) : Nat := hd f g q.1 q.2.1 q.2.2.1 q.2.2.2
def tq (f g : Nat → Int) (q : St) : Nat := tl f g (q.1 + hq f g q) q.2.1 (q.2.2.1 + hq f g q) q.2.2.2
def stG (way : Int) (f g : Nat → Int) (q : St) (G : Nat → Int) : Nat → Int :=
  if way = 0 then wk f g q.2.1 q.2.2.2 ((q.2.1 - q.1) + (q.2.2.2 - q.2.2.1)) q.1 q.2.2.1 G
  else mkG way f g (q.1 + hq f g q) (q.2.1 - tq f g q) (q.2.2.1 + hq f g q) (q.2.2.2 - tq f g q) (pr (q.2.1 - tq f g q) (q.2.2.2 - tq f g q) (tq f g q) (pr q.1 q.2.2.1 (hq f g q) G))
def stK (way : Int) (f g : Nat → Int) (q : St) : List St :=
  if way = 0 then [] else mkK way f g (q.1 + hq f g q) (q.2.1 - tq f g q) (q.2.2.1 + hq f g q) (q.2.2.2 - tq f g q)
theorem stp_e {ad : List St → St → List St} {way : Int} {f g : Nat → Int} {q : St} {G : Nat → Int} {L : List St} : stpS ad way f g q G L = (stG way f g q G, (stK way f g q).foldl ad L) := by
  unfold stG stK
  by_cases y : way = 0
  · unfold stpS
    rw [if_pos y, if_pos y, if_pos y]
    rfl
  · rw [if_neg y, if_neg y, ← mid_e]
    obtain ⟨a, ae, b, be⟩ := q
    exact stp_m y rfl rfl
/-- changes a stretch alone, place by place -/
def LOC (R : (Nat → Int) → (Nat → Int)) (lo hi : Nat) : Prop := (∀ G x, ¬ (lo ≤ x ∧ x < hi) → R G x = G x) ∧ ∀ G G' x, G x = G' x → R G x = R G' x
theorem LOC_id {lo hi : Nat} : LOC (fun G => G) lo hi := ⟨fun _ _ _ => rfl, fun _ _ _ h => h⟩
theorem LOC_c {R S : (Nat → Int) → (Nat → Int)} {lo hi : Nat} (h1 : LOC R lo hi) (h2 : LOC S lo hi) : LOC (fun G => S (R G)) lo hi := ⟨fun G x h => by
  show S (R G) x = G x
  rw [h2.1 _ x h, h1.1 _ x h], fun G G' x h => h2.2 _ _ x (h1.2 _ _ x h)⟩
theorem LOC_m {R : (Nat → Int) → (Nat → Int)} {lo hi lo' hi' : Nat} (h : LOC R lo hi) (h1 : lo' ≤ lo) (h2 : hi ≤ hi') : LOC R lo' hi' := ⟨fun G x h3 => h.1 G x (by omega), h.2⟩
theorem LOC_x {R S : (Nat → Int) → (Nat → Int)} {lo hi lo' hi' : Nat} (h1 : LOC R lo hi) (h2 : LOC S lo' hi') (h : hi ≤ lo' ∨ hi' ≤ lo) (G : Nat → Int) : R (S G) = S (R G) := by
  funext x
  by_cases y : lo ≤ x ∧ x < hi
  · rw [h2.1 (R G) x (by omega)]
    exact h1.2 _ _ x (h2.1 G x (by omega))
  · rw [h1.1 (S G) x y]
    exact (h2.2 _ _ x (h1.1 G x y)).symm
theorem LOC_upd {i lo hi : Nat} {v : Int} (h1 : lo ≤ i) (h2 : i < hi) : LOC (fun G => updG G i v) lo hi := ⟨fun G x h => by
  show updG G i v x = G x
  unfold updG
  rw [if_neg (by omega)], fun G G' x h => by
  show updG G i v x = updG G' i v x
  unfold updG
  rw [h]⟩
theorem LOC_pr {i j n : Nat} : LOC (pr i j n) i (i + n) := ⟨fun G x h => by
  unfold pr
  rw [if_neg h], fun G G' x h => by
  unfold pr
  rw [h]⟩
theorem LOC_wk {f g : Nat → Int} {ae be : Nat} : ∀ (w i j : Nat), LOC (wk f g ae be w i j) i ae := by
  intro w
  induction w with
  | zero => intro i j; exact LOC_id
  | succ w ih =>
    intro i j
    have e : wk f g ae be (w + 1) i j = fun G => if i < ae ∧ j < be then (if f i = g j then wk f g ae be w (i + 1) (j + 1) (updG G i j) else (if lt f g ae be (ae - (i + 1)) (be - j) = lt f g ae be (ae - i) (be - j) then wk f g ae be w (i + 1) j G else wk f g ae be w i (j + 1) G)) else G := rfl
    rw [e]
    by_cases y : i < ae ∧ j < be
    · simp only [if_pos y]
      by_cases y1 : f i = g j
      · simp only [if_pos y1]
        exact LOC_c (LOC_upd (Nat.le_refl i) y.1) (LOC_m (ih (i + 1) (j + 1)) (by omega) (Nat.le_refl ae))
      · simp only [if_neg y1]
        by_cases y2 : lt f g ae be (ae - (i + 1)) (be - j) = lt f g ae be (ae - i) (be - j)
        · simp only [if_pos y2]
          exact LOC_m (ih (i + 1) j) (by omega) (Nat.le_refl ae)
        · simp only [if_neg y2]
          exact ih i (j + 1)
    · simp only [if_neg y]
      exact LOC_id
theorem LOC_selG {P T : Nat → Int} : ∀ (d k : Nat) (w : Int) (j : Nat), LOC (selG P T d k w j) k (k + d) := by
  intro d
  induction d with
  | zero => intro k w j; exact LOC_id
  | succ d ih =>
    intro k w j
    have e : selG P T (d + 1) k w j = fun G => if 0 < w then (if T k = w ∧ (j : Int) ≤ P k then selG P T d (k + 1) (w - 1) ((P k).toNat + 1) (updG G k (P k)) else selG P T d (k + 1) w j G) else G := rfl
    rw [e]
    by_cases y0 : 0 < w
    · simp only [if_pos y0]
      by_cases y : T k = w ∧ (j : Int) ≤ P k
      · simp only [if_pos y]
        exact LOC_c (LOC_upd (Nat.le_refl k) (by omega)) (LOC_m (ih (k + 1) _ _) (by omega) (by omega))
      · simp only [if_neg y]
        exact LOC_m (ih (k + 1) _ _) (by omega) (by omega)
    · simp only [if_neg y0]
      exact LOC_id
theorem LOC_mkG {way : Int} {f g : Nat → Int} {a ae b be : Nat} (ha : a ≤ ae) : LOC (mkG way f g a ae b be) a ae := by
  by_cases y1 : way = 1
  · by_cases y2 : lgs (ptn f g a ae b be) ae (ae - a) = 0
    · have e : mkG way f g a ae b be = wk f g ae be ((ae - a) + (be - b)) a b := by
        funext G
        unfold mkG
        rw [if_pos y1, if_pos y2]
      rw [e]
      exact LOC_wk _ _ _
    · have e : mkG way f g a ae b be = selG (ptn f g a ae b be) (tls (ptn f g a ae b be) ae (ae - a)) (ae - a) a (lgs (ptn f g a ae b be) ae (ae - a)) b := by
        funext G
        unfold mkG
        rw [if_pos y1, if_neg y2]
      rw [e]
      exact LOC_m (LOC_selG _ _ _ _) (Nat.le_refl a) (by omega)
  · by_cases y2 : rst f g a ae b be = -1
    · have e : mkG way f g a ae b be = wk f g ae be ((ae - a) + (be - b)) a b := by
        funext G
        unfold mkG
        rw [if_neg y1, if_pos y2]
      rw [e]
      exact LOC_wk _ _ _
    · rcases rst_c (f := f) (g := g) (b := b) (be := be) ha with h | ⟨k, j, e0, k1, k2, e2, j1, j2, e3⟩
      · exact absurd h y2
      · have ek : (rst f g a ae b be).toNat = k := by omega
        have ej : (fnd g (f k) b (be - b)).toNat = j := by omega
        have bt := tl_b (f := f) (g := g) (a := a) (ae := k) (b := b) (be := j)
        have bu := hd_b (f := f) (g := g) (a := k) (ae := ae) (b := j) (be := be)
        have e : mkG way f g a ae b be = pr (k - tl f g a k b j) (j - tl f g a k b j) (tl f g a k b j + hd f g k ae j be) := by
          funext G
          unfold mkG rrr
          rw [if_neg y1, if_neg y2, ek, ej]
          rfl
        rw [e]
        exact LOC_m LOC_pr (by omega) (by omega)
theorem LOC_stG {way : Int} {f g : Nat → Int} {q : St} (ha : q.1 ≤ q.2.1) : LOC (stG way f g q) q.1 q.2.1 := by
  obtain ⟨a, ae, b, be⟩ := q
  by_cases y : way = 0
  · have e : stG way f g (a, ae, b, be) = wk f g ae be ((ae - a) + (be - b)) a b := by
      funext G
      unfold stG
      rw [if_pos y]
    rw [e]
    exact LOC_wk _ _ _
  · have bp := hd_b (f := f) (g := g) (a := a) (ae := ae) (b := b) (be := be)
    have bq := tl_b (f := f) (g := g) (a := a + hd f g a ae b be) (ae := ae) (b := b + hd f g a ae b be) (be := be)
    have e : stG way f g (a, ae, b, be) = fun G => mkG way f g (a + hd f g a ae b be) (ae - tl f g (a + hd f g a ae b be) ae (b + hd f g a ae b be) be) (b + hd f g a ae b be) (be - tl f g (a + hd f g a ae b be) ae (b + hd f g a ae b be) be) (pr (ae - tl f g (a + hd f g a ae b be) ae (b + hd f g a ae b be) be) (be - tl f g (a + hd f g a ae b be) ae (b + hd f g a ae b be) be) (tl f g (a + hd f g a ae b be) ae (b + hd f g a ae b be) be) (pr a b (hd f g a ae b be) G)) := by
      funext G
      unfold stG
      rw [if_neg y]
      rfl
    rw [e]
    have ha' : a ≤ ae := ha
    exact LOC_c (LOC_m LOC_pr (Nat.le_refl a) (by omega)) (LOC_c (LOC_m LOC_pr (by omega) (by omega)) (LOC_m (LOC_mkG (by omega)) (by omega) (by omega)))
/-- stretches one behind another -/
def CHN (ae be : Nat) : List St → Nat → Nat → Prop
  | [], _, _ => False
  | q :: t, i, j => q.1 = i ∧ q.2.2.1 = j ∧ i ≤ q.2.1 ∧ j ≤ q.2.2.2 ∧ ((t = [] ∧ q.2.1 = ae ∧ q.2.2.2 = be) ∨ ∃ i' j', q.2.1 < i' ∧ q.2.2.2 < j' ∧ CHN ae be t i' j')
/-- twice the widths, and one for each -/
def ms : List St → Nat
  | [] => 0
  | q :: t => (2 * (q.2.1 - q.1) + 1) + ms t
def DJ (q r : St) : Prop := q.2.1 ≤ r.1 ∨ r.2.1 ≤ q.1
def wfS (q : St) : Prop := q.1 ≤ q.2.1 ∧ q.2.2.1 ≤ q.2.2.2
theorem CHN_p {ae be : Nat} : ∀ (l : List St) (i j : Nat), CHN ae be l i j → i ≤ ae ∧ j ≤ be ∧ (∀ q, q ∈ l → i ≤ q.1 ∧ q.1 ≤ q.2.1 ∧ q.2.1 ≤ ae ∧ j ≤ q.2.2.1 ∧ q.2.2.1 ≤ q.2.2.2 ∧ q.2.2.2 ≤ be) ∧ l.Pairwise DJ ∧ ms l + l.length ≤ 2 * (ae - i) + 2 := by
  intro l
  induction l with
  | nil => intro i j h; exact absurd h id
  | cons q t ih =>
    intro i j h
    obtain ⟨h1, h2, h3, h4, h5⟩ := h
    rcases h5 with ⟨h6, h7, h8⟩ | ⟨i', j', h6, h7, h8⟩
    · subst h6
      refine ⟨by omega, by omega, fun r hr => ?_, List.pairwise_cons.mpr ⟨fun r hr => by cases hr, List.Pairwise.nil⟩, ?_⟩
      · have e : r = q := by simpa using hr
        rw [e]
        omega
      · show (2 * (q.2.1 - q.1) + 1) + 0 + 1 ≤ _
        omega
    · obtain ⟨i1, i2, i3, i4, i5⟩ := ih i' j' h8
      refine ⟨by omega, by omega, fun r hr => ?_, List.pairwise_cons.mpr ⟨fun r hr => ?_, i4⟩, ?_⟩
      · rcases List.mem_cons.mp hr with e | e
        · rw [e]
          omega
        · have := i3 r e
          omega
      · have := i3 r hr
        exact Or.inl (by omega)
      · rw [List.length_cons]
        show (2 * (q.2.1 - q.1) + 1) + ms t + (t.length + 1) ≤ _
        omega
theorem ms_in {l : List St} {q : St} (h : q ∈ l) : 2 * (q.2.1 - q.1) + 1 ≤ ms l := by
  induction l with
  | nil => cases h
  | cons r t ih =>
    show _ ≤ (2 * (r.2.1 - r.1) + 1) + ms t
    rcases List.mem_cons.mp h with e | e
    · rw [e]
      omega
    · have := ih e
      omega
theorem ms_app : ∀ (l m : List St), ms (l ++ m) = ms l + ms m := by
  intro l
  induction l with
  | nil => intro m; show ms m = 0 + ms m; omega
  | cons q t ih =>
    intro m
    show (2 * (q.2.1 - q.1) + 1) + ms (t ++ m) = (2 * (q.2.1 - q.1) + 1) + ms t + ms m
    rw [ih]
    omega
theorem ms_len : ∀ (l : List St), l.length ≤ ms l := by
  intro l
  induction l with
  | nil => exact Nat.le_refl 0
  | cons q t ih =>
    show t.length + 1 ≤ (2 * (q.2.1 - q.1) + 1) + ms t
    omega
theorem selK_c {P T : Nat → Int} {ae be : Nat} (hP : ∀ x, P x < (be : Int)) : ∀ (d k : Nat) (w : Int) (i j : Nat), k + d = ae → i ≤ k → j ≤ be → CHN ae be (selK P T ae be d k w i j) i j := by
  intro d
  induction d with
  | zero =>
    intro k w i j hk hi hj
    exact ⟨rfl, rfl, by show i ≤ ae; omega, hj, Or.inl ⟨rfl, rfl, rfl⟩⟩
  | succ d ih =>
    intro k w i j hk hi hj
    rw [selK_s]
    by_cases y0 : 0 < w
    · rw [if_pos y0]
      by_cases y : T k = w ∧ (j : Int) ≤ P k
      · rw [if_pos y]
        have := hP k
        exact ⟨rfl, rfl, hi, by show j ≤ (P k).toNat; omega, Or.inr ⟨k + 1, (P k).toNat + 1, by show k < k + 1; omega, by show (P k).toNat < (P k).toNat + 1; omega, ih (k + 1) (w - 1) (k + 1) ((P k).toNat + 1) (by omega) (Nat.le_refl _) (by omega)⟩⟩
      · rw [if_neg y]
        exact ih (k + 1) w i j (by omega) (by omega) hj
    · rw [if_neg y0]
      exact ⟨rfl, rfl, by show i ≤ ae; omega, hj, Or.inl ⟨rfl, rfl, rfl⟩⟩
theorem selK_1 {P T : Nat → Int} {ae be : Nat} : ∀ (d k : Nat) (w : Int) (i j : Nat), 1 ≤ (selK P T ae be d k w i j).length := by
  intro d
  induction d with
  | zero => intro k w i j; exact Nat.le_refl 1
  | succ d ih =>
    intro k w i j
    rw [selK_s]
    split
    · split
      · rw [List.length_cons]; omega
      · exact ih _ _ _ _
    · exact Nat.le_refl 1
theorem selK_2 {P T : Nat → Int} {ae be : Nat} : ∀ (d k : Nat) (w : Int) (i j : Nat), 0 < w → (∃ x, k ≤ x ∧ x < k + d ∧ T x = w ∧ (j : Int) ≤ P x) → 2 ≤ (selK P T ae be d k w i j).length := by
  intro d
  induction d with
  | zero =>
    rintro k w i j hw ⟨x, h1, h2, -⟩
    omega
  | succ d ih =>
    rintro k w i j hw ⟨x, h1, h2, h3, h4⟩
    rw [selK_s, if_pos hw]
    by_cases y : T k = w ∧ (j : Int) ≤ P k
    · rw [if_pos y, List.length_cons]
      have := selK_1 (P := P) (T := T) (ae := ae) (be := be) d (k + 1) (w - 1) (k + 1) ((P k).toNat + 1)
      omega
    · rw [if_neg y]
      refine ih (k + 1) w i j hw ⟨x, ?_, by omega, h3, h4⟩
      by_cases e : x = k
      · rw [e] at h3 h4
        exact absurd ⟨h3, h4⟩ y
      · omega
theorem lgs_m {P : Nat → Int} {ae : Nat} (hP : ∀ k, -1 ≤ P k) : ∀ (d a : Nat), a + d = ae → 0 < lgs P ae d → ∃ x, a ≤ x ∧ x < ae ∧ tls P ae (ae - a) x = lgs P ae d ∧ ¬ P x = -1 := by
  intro d
  induction d with
  | zero =>
    intro a _ h
    exact absurd h (Int.lt_irrefl 0)
  | succ d ih =>
    intro a ha h
    have lg := lgs_s (P := P) (a := a) (ae := ae) (k := a) (Nat.le_refl a) (by omega) (hP a)
    rw [show ae - a = d + 1 by omega, show ae - (a + 1) = d by omega] at lg
    rw [lg] at h ⊢
    have up : ∀ x, a + 1 ≤ x → x < ae → tls P ae (ae - a) x = tls P ae (ae - (a + 1)) x := fun x h1 h2 => tls_ge (ae - (a + 1)) (ae - a) x (by omega) (by omega) (by omega)
    by_cases y : P a = -1
    · rw [if_pos y] at h ⊢
      obtain ⟨x, x1, x2, x3, x4⟩ := ih (a + 1) (by omega) h
      exact ⟨x, by omega, x2, by rw [up x x1 x2]; exact x3, x4⟩
    · rw [if_neg y] at h ⊢
      unfold mxI at h ⊢
      by_cases y2 : lgs P ae d < tls P ae (d + 1) a
      · rw [if_pos y2]
        exact ⟨a, Nat.le_refl a, by omega, by rw [show ae - a = d + 1 by omega], y⟩
      · rw [if_neg y2] at h ⊢
        obtain ⟨x, x1, x2, x3, x4⟩ := ih (a + 1) (by omega) h
        exact ⟨x, by omega, x2, by rw [up x x1 x2]; exact x3, x4⟩
/-- what a stretch leaves -/
theorem mkK_c {way : Int} {f g : Nat → Int} {a ae b be : Nat} (ha : a ≤ ae) (hb : b ≤ be) : mkK way f g a ae b be = [] ∨ (2 ≤ (mkK way f g a ae b be).length ∧ CHN ae be (mkK way f g a ae b be) a b) := by
  have hP : ∀ k, -1 ≤ ptn f g a ae b be k ∧ ptn f g a ae b be k < (be : Int) ∧ (¬ ptn f g a ae b be k = -1 → (b : Int) ≤ ptn f g a ae b be k) := fun k => by
    rcases ptn_c (f := f) (g := g) (a := a) (ae := ae) (b := b) (be := be) (k := k) with z | ⟨j, z1, z2, z3, z4⟩
    · omega
    · omega
  by_cases y1 : way = 1
  · by_cases y2 : lgs (ptn f g a ae b be) ae (ae - a) = 0
    · have e : mkK way f g a ae b be = [] := by
        unfold mkK
        rw [if_pos y1, if_pos y2]
      exact Or.inl e
    · have e : mkK way f g a ae b be = selK (ptn f g a ae b be) (tls (ptn f g a ae b be) ae (ae - a)) ae be (ae - a) a (lgs (ptn f g a ae b be) ae (ae - a)) a b := by
        unfold mkK
        rw [if_pos y1, if_neg y2]
      rw [e]
      have l0 := (lgs_0 (P := ptn f g a ae b be) (ae := ae) (fun k => (hP k).1) (ae - a) a (by omega)).1
      obtain ⟨x, x1, x2, x3, x4⟩ := lgs_m (P := ptn f g a ae b be) (ae := ae) (fun k => (hP k).1) (ae - a) a (by omega) (by omega)
      exact Or.inr ⟨selK_2 _ _ _ _ _ (by omega) ⟨x, x1, by omega, x3, (hP x).2.2 x4⟩, selK_c (fun k => (hP k).2.1) _ _ _ _ _ (by omega) (Nat.le_refl a) hb⟩
  · by_cases y2 : rst f g a ae b be = -1
    · have e : mkK way f g a ae b be = [] := by
        unfold mkK
        rw [if_neg y1, if_pos y2]
      exact Or.inl e
    · rcases rst_c (f := f) (g := g) (b := b) (be := be) ha with h | ⟨k, j, e0, k1, k2, e2, j1, j2, e3⟩
      · exact absurd h y2
      · have ek : (rst f g a ae b be).toNat = k := by omega
        have ej : (fnd g (f k) b (be - b)).toNat = j := by omega
        obtain ⟨t, ht⟩ : ∃ t, t = tl f g a k b j := ⟨_, rfl⟩
        obtain ⟨u, hu⟩ : ∃ u, u = hd f g k ae j be := ⟨_, rfl⟩
        have bt := tl_b (f := f) (g := g) (a := a) (ae := k) (b := b) (be := j)
        have bu := hd_b (f := f) (g := g) (a := k) (ae := ae) (b := j) (be := be)
        rw [← ht] at bt
        rw [← hu] at bu
        have hu1 : 1 ≤ u := by
          by_cases y : 1 ≤ u
          · exact y
          · exfalso
            have z := bu.2.2.2 (by omega) (by omega)
            rw [show u = 0 by omega, Nat.add_zero, Nat.add_zero] at z
            exact z e3.symm
        have e : mkK way f g a ae b be = [(a, k - t, b, j - t), (k + u, ae, j + u, be)] := by
          unfold mkK rrr
          rw [if_neg y1, if_neg y2, ek, ej, ht, hu]
          rfl
        rw [e]
        exact Or.inr ⟨Nat.le_refl 2, rfl, rfl, by show a ≤ k - t; omega, by show b ≤ j - t; omega, Or.inr ⟨k + u, j + u, by show k - t < k + u; omega, by show j - t < j + u; omega, rfl, rfl, by show k + u ≤ ae; omega, by show j + u ≤ be; omega, Or.inl ⟨rfl, rfl, rfl⟩⟩⟩
theorem stK_c {way : Int} {f g : Nat → Int} {q : St} (hq' : wfS q) : stK way f g q = [] ∨ (2 ≤ (stK way f g q).length ∧ ∃ ae be i j, q.1 ≤ i ∧ ae ≤ q.2.1 ∧ q.2.2.1 ≤ j ∧ be ≤ q.2.2.2 ∧ CHN ae be (stK way f g q) i j) := by
  obtain ⟨a, ae, b, be⟩ := q
  obtain ⟨ha, hb⟩ := hq'
  have ha : a ≤ ae := ha
  have hb : b ≤ be := hb
  by_cases y : way = 0
  · left
    unfold stK
    rw [if_pos y]
  · have bp := hd_b (f := f) (g := g) (a := a) (ae := ae) (b := b) (be := be)
    have bq := tl_b (f := f) (g := g) (a := a + hd f g a ae b be) (ae := ae) (b := b + hd f g a ae b be) (be := be)
    have e : stK way f g (a, ae, b, be) = mkK way f g (a + hd f g a ae b be) (ae - tl f g (a + hd f g a ae b be) ae (b + hd f g a ae b be) be) (b + hd f g a ae b be) (be - tl f g (a + hd f g a ae b be) ae (b + hd f g a ae b be) be) := by
      unfold stK
      rw [if_neg y]
      rfl
    rw [e]
    rcases mkK_c (way := way) (f := f) (g := g) (a := a + hd f g a ae b be) (ae := ae - tl f g (a + hd f g a ae b be) ae (b + hd f g a ae b be) be) (b := b + hd f g a ae b be) (be := be - tl f g (a + hd f g a ae b be) ae (b + hd f g a ae b be) be) (by omega) (by omega) with z | ⟨z1, z2⟩
    · exact Or.inl z
    · exact Or.inr ⟨z1, _, _, _, _, by show a ≤ _; omega, by show _ ≤ ae; omega, by show b ≤ _; omega, by show _ ≤ be; omega, z2⟩
end
-- DRAFT 99.cmpb.lean
/-! All stretches: the order does not matter, and what comes out is in order. -/
noncomputable section
def fnl (way : Int) (f g : Nat → Int) : Nat → St → (Nat → Int) → (Nat → Int)
  | 0, _, G => G
  | n + 1, q, G => if q.1 < q.2.1 ∧ q.2.2.1 < q.2.2.2 then (stK way f g q).foldl (fun G r => fnl way f g n r G) (stG way f g q G) else G
theorem fnl_s {way : Int} {f g : Nat → Int} {n : Nat} {q : St} {G : Nat → Int} : fnl way f g (n + 1) q G = if q.1 < q.2.1 ∧ q.2.2.1 < q.2.2.2 then (stK way f g q).foldl (fun G r => fnl way f g n r G) (stG way f g q G) else G := rfl
theorem LOC_fld {F : St → (Nat → Int) → (Nat → Int)} {lo hi : Nat} : ∀ (l : List St), (∀ r, r ∈ l → LOC (F r) lo hi) → LOC (fun G => l.foldl (fun G r => F r G) G) lo hi := by
  intro l
  induction l with
  | nil => intro _; exact LOC_id
  | cons q t ih =>
    intro h
    exact LOC_c (h q List.mem_cons_self) (ih (fun r hr => h r (List.mem_cons_of_mem _ hr)))
theorem fld_cg {F F' : St → (Nat → Int) → (Nat → Int)} : ∀ (l : List St) (G : Nat → Int), (∀ r, r ∈ l → ∀ G, F r G = F' r G) → l.foldl (fun G r => F r G) G = l.foldl (fun G r => F' r G) G := by
  intro l
  induction l with
  | nil => intro G _; rfl
  | cons q t ih =>
    intro G h
    rw [List.foldl_cons, List.foldl_cons, h q List.mem_cons_self]
    exact ih _ (fun r hr => h r (List.mem_cons_of_mem _ hr))
theorem kid_f {way : Int} {f g : Nat → Int} {q : St} (hw : wfS q) : (∀ r, r ∈ stK way f g q → wfS r ∧ q.1 ≤ r.1 ∧ r.2.1 ≤ q.2.1 ∧ q.2.2.1 ≤ r.2.2.1 ∧ r.2.2.2 ≤ q.2.2.2 ∧ r.2.1 - r.1 < q.2.1 - q.1) ∧ (stK way f g q).Pairwise DJ ∧ ms (stK way f g q) ≤ 2 * (q.2.1 - q.1) := by
  rcases stK_c (way := way) (f := f) (g := g) hw with e | ⟨h2, ae, be, i, j, g1, g2, g3, g4, c⟩
  · rw [e]
    exact ⟨fun r hr => by cases hr, List.Pairwise.nil, Nat.zero_le _⟩
  · obtain ⟨c1, c2, c3, c4, c5⟩ := CHN_p _ _ _ c
    refine ⟨fun r hr => ?_, c4, by omega⟩
    have m := ms_in hr
    have z := c3 r hr
    exact ⟨⟨by omega, by omega⟩, by omega, by omega, by omega, by omega, by omega⟩
theorem LOC_fnl {way : Int} {f g : Nat → Int} : ∀ (n : Nat) (q : St), wfS q → LOC (fnl way f g n q) q.1 q.2.1 := by
  intro n
  induction n with
  | zero => intro q _; exact LOC_id
  | succ n ih =>
    intro q hw
    have e : fnl way f g (n + 1) q = fun G => if q.1 < q.2.1 ∧ q.2.2.1 < q.2.2.2 then (stK way f g q).foldl (fun G r => fnl way f g n r G) (stG way f g q G) else G := rfl
    rw [e]
    by_cases y : q.1 < q.2.1 ∧ q.2.2.1 < q.2.2.2
    · simp only [if_pos y]
      exact LOC_c (LOC_stG hw.1) (LOC_fld (F := fun r G => fnl way f g n r G) _ (fun r hr => by
        have z := (kid_f (way := way) (f := f) (g := g) hw).1 r hr
        exact LOC_m (ih r z.1) z.2.1 z.2.2.1))
    · simp only [if_neg y]
      exact LOC_id
theorem fnl_e {way : Int} {f g : Nat → Int} {n : Nat} {q : St} {G : Nat → Int} (h : ¬ (q.1 < q.2.1 ∧ q.2.2.1 < q.2.2.2)) : fnl way f g n q G = G := by
  cases n with
  | zero => rfl
  | succ n => rw [fnl_s, if_neg h]
theorem fnl_u {way : Int} {f g : Nat → Int} : ∀ (n : Nat) (q : St) (G : Nat → Int), wfS q → q.2.1 - q.1 ≤ n → fnl way f g (n + 1) q G = fnl way f g n q G := by
  intro n
  induction n with
  | zero =>
    intro q G _ h
    rw [fnl_e (by omega), fnl_e (by omega)]
  | succ n ih =>
    intro q G hw h
    by_cases y : q.1 < q.2.1 ∧ q.2.2.1 < q.2.2.2
    · rw [fnl_s, if_pos y, fnl_s, if_pos y]
      exact fld_cg (F := fun r G => fnl way f g (n + 1) r G) (F' := fun r G => fnl way f g n r G) _ _ (fun r hr G => by
        have z := (kid_f (way := way) (f := f) (g := g) hw).1 r hr
        exact ih r G z.1 (by omega))
    · rw [fnl_e y, fnl_e y]
theorem fnl_k {way : Int} {f g : Nat → Int} {n : Nat} {q : St} {G : Nat → Int} (hw : wfS q) (h : q.2.1 - q.1 ≤ n) (y : q.1 < q.2.1 ∧ q.2.2.1 < q.2.2.2) : fnl way f g n q G = (stK way f g q).foldl (fun G r => fnl way f g n r G) (stG way f g q G) := by
  rw [← fnl_u n q G hw h, fnl_s, if_pos y]
theorem fld_x {way : Int} {f g : Nat → Int} {n : Nat} {q : St} (hw : wfS q) : ∀ (T : List St) (G : Nat → Int), (∀ r, r ∈ T → wfS r ∧ DJ q r) → T.foldl (fun G r => fnl way f g n r G) (fnl way f g n q G) = fnl way f g n q (T.foldl (fun G r => fnl way f g n r G) G) := by
  intro T
  induction T with
  | nil => intro G _; rfl
  | cons r t ih =>
    intro G h
    have z := h r List.mem_cons_self
    rw [List.foldl_cons, List.foldl_cons, ← LOC_x (LOC_fnl n q hw) (LOC_fnl n r z.1) z.2 G]
    exact ih _ (fun r hr => h r (List.mem_cons_of_mem _ hr))
theorem fld_xx {way : Int} {f g : Nat → Int} {n : Nat} : ∀ (K T : List St) (G : Nat → Int), (∀ q, q ∈ K → wfS q) → (∀ r, r ∈ T → wfS r) → (∀ q r, q ∈ K → r ∈ T → DJ q r) → T.foldl (fun G r => fnl way f g n r G) (K.foldl (fun G r => fnl way f g n r G) G) = K.foldl (fun G r => fnl way f g n r G) (T.foldl (fun G r => fnl way f g n r G) G) := by
  intro K
  induction K with
  | nil => intro T G _ _ _; rfl
  | cons q t ih =>
    intro T G h1 h2 h3
    rw [List.foldl_cons, List.foldl_cons, ih T _ (fun q hq => h1 q (List.mem_cons_of_mem _ hq)) h2 (fun q r hq hr => h3 q r (List.mem_cons_of_mem _ hq) hr), fld_x (h1 q List.mem_cons_self) T G (fun r hr => ⟨h2 r hr, h3 q r List.mem_cons_self hr⟩)]
def nef (q : St) : Bool := decide (q.1 < q.2.1 ∧ q.2.2.1 < q.2.2.2)
theorem fld_flt {way : Int} {f g : Nat → Int} {n : Nat} : ∀ (K : List St) (G : Nat → Int), (K.filter nef).foldl (fun G r => fnl way f g n r G) G = K.foldl (fun G r => fnl way f g n r G) G := by
  intro K
  induction K with
  | nil => intro G; rfl
  | cons q t ih =>
    intro G
    rw [List.foldl_cons]
    by_cases y : q.1 < q.2.1 ∧ q.2.2.1 < q.2.2.2
    · rw [List.filter_cons_of_pos (show nef q = true from decide_eq_true y), List.foldl_cons]
      exact ih _
    · rw [List.filter_cons_of_neg (show ¬ nef q = true from fun e => y (of_decide_eq_true e)), fnl_e y]
      exact ih _
theorem foldl_ads : ∀ (K L : List St), K.foldl ads L = L ++ K.filter nef := by
  intro K
  induction K with
  | nil => intro L; exact (List.append_nil L).symm
  | cons q t ih =>
    intro L
    rw [List.foldl_cons, ih]
    unfold ads
    by_cases y : q.1 < q.2.1 ∧ q.2.2.1 < q.2.2.2
    · rw [if_pos y, List.filter_cons_of_pos (show nef q = true from decide_eq_true y), List.append_assoc]
      rfl
    · rw [if_neg y, List.filter_cons_of_neg (show ¬ nef q = true from fun e => y (of_decide_eq_true e))]
theorem foldl_adm : ∀ (K L : List St), K.foldl adm L = L ++ K := by
  intro K
  induction K with
  | nil => intro L; exact (List.append_nil L).symm
  | cons q t ih =>
    intro L
    rw [List.foldl_cons, ih]
    unfold adm
    rw [List.append_assoc]
    rfl
/-- stretches that wait -/
def PS (n : Nat) (l : List St) : Prop := (∀ r, r ∈ l → wfS r ∧ r.2.1 - r.1 ≤ n) ∧ l.Pairwise DJ
theorem DJ_s {q r : St} (h : DJ q r) : DJ r q := h.symm
theorem PS_kids {way : Int} {f g : Nat → Int} {n : Nat} {q : St} {T : List St} (hq : wfS q) (hn : q.2.1 - q.1 ≤ n) (hT : PS n T) (hd : ∀ r, r ∈ T → DJ q r) : PS n (T ++ stK way f g q) := by
  obtain ⟨k1, k2, k3⟩ := kid_f (way := way) (f := f) (g := g) hq
  refine ⟨fun r hr => ?_, List.pairwise_append.mpr ⟨hT.2, k2, fun t ht r hr => ?_⟩⟩
  · rcases List.mem_append.mp hr with h | h
    · exact hT.1 r h
    · have z := k1 r h
      exact ⟨z.1, by omega⟩
  · have z := k1 r hr
    have d := hd t ht
    unfold DJ at d ⊢
    omega
theorem ms_flt : ∀ (K : List St), ms (K.filter nef) ≤ ms K := by
  intro K
  induction K with
  | nil => exact Nat.le_refl _
  | cons q t ih =>
    by_cases y : nef q = true
    · rw [List.filter_cons_of_pos y]
      show (2 * (q.2.1 - q.1) + 1) + ms (t.filter nef) ≤ (2 * (q.2.1 - q.1) + 1) + ms t
      omega
    · rw [List.filter_cons_of_neg y]
      show ms (t.filter nef) ≤ (2 * (q.2.1 - q.1) + 1) + ms t
      omega
theorem cls_step {way : Int} {f g : Nat → Int} {n : Nat} {q : St} {T : List St} {G : Nat → Int} (H : PS n (q :: T)) (y : q.1 < q.2.1 ∧ q.2.2.1 < q.2.2.2) : (q :: T).foldl (fun G r => fnl way f g n r G) G = (T ++ (stK way f g q).filter nef).foldl (fun G r => fnl way f g n r G) (stG way f g q G) ∧ PS n (T ++ (stK way f g q).filter nef) ∧ ms (T ++ (stK way f g q).filter nef) < ms (q :: T) := by
  obtain ⟨h1, h2⟩ := H
  obtain ⟨h3, h4⟩ := List.pairwise_cons.mp h2
  have hq := h1 q List.mem_cons_self
  have hT : PS n T := ⟨fun r hr => h1 r (List.mem_cons_of_mem _ hr), h4⟩
  obtain ⟨k1, k2, k3⟩ := kid_f (way := way) (f := f) (g := g) hq.1
  have P := PS_kids (way := way) (f := f) (g := g) hq.1 hq.2 hT h3
  refine ⟨?_, ⟨fun r hr => ?_, ?_⟩, ?_⟩
  · rw [List.foldl_cons, fnl_k hq.1 hq.2 y, fld_xx _ _ _ (fun r hr => (k1 r hr).1) (fun r hr => (hT.1 r hr).1) (fun r t hr ht => by
      have z := k1 r hr
      have d := h3 t ht
      unfold DJ at d ⊢
      omega), List.foldl_append, fld_flt]
  · rcases List.mem_append.mp hr with h | h
    · exact hT.1 r h
    · exact P.1 r (List.mem_append.mpr (Or.inr (List.mem_of_mem_filter h)))
  · obtain ⟨p1, p2, p3⟩ := List.pairwise_append.mp P.2
    exact List.pairwise_append.mpr ⟨p1, List.Pairwise.sublist List.filter_sublist p2, fun a ha b hb => p3 a ha b (List.mem_of_mem_filter hb)⟩
  · rw [ms_app]
    have := ms_flt (stK way f g q)
    show _ < (2 * (q.2.1 - q.1) + 1) + ms T
    omega
/-- a stretch without lines on one side -/
theorem emp_s {way : Int} {f g : Nat → Int} {q : St} {G : Nat → Int} (hw : wfS q) (y : ¬ (q.1 < q.2.1 ∧ q.2.2.1 < q.2.2.2)) : stG way f g q G = G ∧ stK way f g q = [] := by
  obtain ⟨a, ae, b, be⟩ := q
  obtain ⟨ha, hb⟩ := hw
  have ha : a ≤ ae := ha
  have hb : b ≤ be := hb
  have y : ¬ (a < ae ∧ b < be) := y
  have bp := hd_b (f := f) (g := g) (a := a) (ae := ae) (b := b) (be := be)
  have p0 : hq f g (a, ae, b, be) = 0 := by
    show hd f g a ae b be = 0
    omega
  have q0 : tq f g (a, ae, b, be) = 0 := by
    have bq := tl_b (f := f) (g := g) (a := a + hq f g (a, ae, b, be)) (ae := ae) (b := b + hq f g (a, ae, b, be)) (be := be)
    show tl f g (a + hq f g (a, ae, b, be)) ae (b + hq f g (a, ae, b, be)) be = 0
    omega
  have pz : ∀ (i j : Nat) (G : Nat → Int), pr i j 0 G = G := fun i j G => by
    funext x
    unfold pr
    rw [if_neg (by omega)]
  have hP : ∀ k, -1 ≤ ptn f g a ae b be k := fun k => by
    rcases ptn_c (f := f) (g := g) (a := a) (ae := ae) (b := b) (be := be) (k := k) with z | ⟨j, z1, z2, z3, z4⟩
    · omega
    · omega
  have l0 : lgs (ptn f g a ae b be) ae (ae - a) = 0 := by
    refine ((lgs_0 hP (ae - a) a (by omega)).2).mpr ?_
    cases hl : lsP (ptn f g a ae b be) a (ae - a) with
    | nil => rfl
    | cons k t =>
      exfalso
      have z := lsP_in (ae - a) a k (by rw [hl]; exact List.mem_cons_self)
      rcases ptn_c (f := f) (g := g) (a := a) (ae := ae) (b := b) (be := be) (k := k) with z' | ⟨j, z1, z2, z3, z4⟩
      · exact z.2.2 z'
      · omega
  have r0 : rst f g a ae b be = -1 := by
    rcases rst_c (f := f) (g := g) (b := b) (be := be) ha with z | ⟨k, j, e0, k1, k2, e2, j1, j2, e3⟩
    · exact z
    · omega
  have m0 : mkG way f g a ae b be G = G ∧ mkK way f g a ae b be = [] := by
    unfold mkG mkK
    by_cases y1 : way = 1
    · rw [if_pos y1, if_pos y1, if_pos l0, if_pos l0]
      exact ⟨wk_e y _, rfl⟩
    · rw [if_neg y1, if_neg y1, if_pos r0, if_pos r0]
      exact ⟨wk_e y _, rfl⟩
  unfold stG stK
  rw [p0, q0]
  dsimp only
  rw [pz, pz, Nat.add_zero, Nat.add_zero, Nat.sub_zero, Nat.sub_zero]
  by_cases y0 : way = 0
  · rw [if_pos y0, if_pos y0]
    exact ⟨wk_e y _, rfl⟩
  · rw [if_neg y0, if_neg y0]
    exact m0
theorem ref_step {way : Int} {f g : Nat → Int} {n : Nat} {q : St} {T : List St} {G : Nat → Int} (H : PS n (T ++ [q])) : (T ++ [q]).foldl (fun G r => fnl way f g n r G) G = (T ++ stK way f g q).foldl (fun G r => fnl way f g n r G) (stG way f g q G) ∧ PS n (T ++ stK way f g q) ∧ ms (T ++ stK way f g q) < ms (T ++ [q]) := by
  obtain ⟨h1, h2⟩ := H
  obtain ⟨h4, -, h3⟩ := List.pairwise_append.mp h2
  have hq := h1 q (List.mem_append.mpr (Or.inr List.mem_cons_self))
  have hT : PS n T := ⟨fun r hr => h1 r (List.mem_append.mpr (Or.inl hr)), h4⟩
  have hd : ∀ r, r ∈ T → DJ q r := fun r hr => DJ_s (h3 r hr q List.mem_cons_self)
  obtain ⟨k1, k2, k3⟩ := kid_f (way := way) (f := f) (g := g) hq.1
  refine ⟨?_, PS_kids hq.1 hq.2 hT hd, ?_⟩
  · rw [List.foldl_append, List.foldl_append]
    show fnl way f g n q (T.foldl (fun G r => fnl way f g n r G) G) = _
    rw [← fld_x hq.1 T G (fun r hr => ⟨(hT.1 r hr).1, hd r hr⟩)]
    by_cases y : q.1 < q.2.1 ∧ q.2.2.1 < q.2.2.2
    · rw [fnl_k hq.1 hq.2 y, fld_xx _ _ _ (fun r hr => (k1 r hr).1) (fun r hr => (hT.1 r hr).1) (fun r t hr ht => by
        have z := k1 r hr
        have d := hd t ht
        unfold DJ at d ⊢
        omega)]
    · obtain ⟨e1, e2⟩ := emp_s (way := way) (f := f) (g := g) (G := G) hq.1 y
      rw [fnl_e y, e1, e2]
      rfl
  · rw [ms_app, ms_app]
    show ms T + ms (stK way f g q) < ms T + ((2 * (q.2.1 - q.1) + 1) + 0)
    omega
/-- pairs in order -/
def IR (f g : Nat → Int) (a ae b be : Nat) (F : Nat → Int) : Prop := (∀ x, a ≤ x → x < ae → F x = -1 ∨ ∃ y : Nat, F x = (y : Int) ∧ b ≤ y ∧ y < be ∧ f x = g y) ∧ ∀ x x', a ≤ x → x < x' → x' < ae → ¬ F x = -1 → ¬ F x' = -1 → F x < F x'
theorem IR_n {f g F : Nat → Int} {a ae b be : Nat} (h : ∀ x, a ≤ x → x < ae → F x = -1) : IR f g a ae b be F := ⟨fun x h1 h2 => Or.inl (h x h1 h2), fun x x' h1 h2 h3 h4 _ => absurd (h x h1 (by omega)) h4⟩
theorem IR_w {f g F : Nat → Int} {a ae b be b' be' : Nat} (H : IR f g a ae b be F) (h1 : b' ≤ b) (h2 : be ≤ be') : IR f g a ae b' be' F := ⟨fun x y1 y2 => by
  rcases H.1 x y1 y2 with z | ⟨y, z1, z2, z3, z4⟩
  · exact Or.inl z
  · exact Or.inr ⟨y, z1, by omega, by omega, z4⟩, H.2⟩
theorem IR_cg {f g F F' : Nat → Int} {a ae b be : Nat} (H : IR f g a ae b be F) (h : ∀ x, a ≤ x → x < ae → F' x = F x) : IR f g a ae b be F' := ⟨fun x y1 y2 => by rw [h x y1 y2]; exact H.1 x y1 y2, fun x x' y1 y2 y3 => by rw [h x y1 (by omega), h x' (by omega) y3]; exact H.2 x x' y1 y2 y3⟩
theorem IR_glue {f g F : Nat → Int} {a m ae b p be : Nat} (H1 : IR f g a m b p F) (H2 : IR f g m ae p be F) (h1 : b ≤ p) (h2 : p ≤ be) : IR f g a ae b be F := by
  refine ⟨fun x y1 y2 => ?_, fun x x' y1 y2 y3 n1 n2 => ?_⟩
  · by_cases y : x < m
    · rcases H1.1 x y1 y with z | ⟨w, z1, z2, z3, z4⟩
      · exact Or.inl z
      · exact Or.inr ⟨w, z1, z2, by omega, z4⟩
    · rcases H2.1 x (by omega) y2 with z | ⟨w, z1, z2, z3, z4⟩
      · exact Or.inl z
      · exact Or.inr ⟨w, z1, by omega, z3, z4⟩
  · by_cases y : x' < m
    · exact H1.2 x x' y1 y2 y n1 n2
    · by_cases y4 : x < m
      · rcases H1.1 x y1 y4 with z | ⟨w, z1, z2, z3, z4⟩
        · exact absurd z n1
        · rcases H2.1 x' (by omega) y3 with z' | ⟨w', z1', z2', z3', z4'⟩
          · exact absurd z' n2
          · omega
      · exact H2.2 x x' (by omega) y2 y3 n1 n2
theorem IR_run {f g F : Nat → Int} {i j n : Nat} (h : ∀ d, d < n → F (i + d) = ((j + d : Nat) : Int) ∧ f (i + d) = g (j + d)) : IR f g i (i + n) j (j + n) F := by
  refine ⟨fun x y1 y2 => ?_, fun x x' y1 y2 y3 n1 n2 => ?_⟩
  · have z := h (x - i) (by omega)
    rw [show i + (x - i) = x by omega] at z
    exact Or.inr ⟨j + (x - i), z.1, by omega, by omega, z.2⟩
  · have z := h (x - i) (by omega)
    rw [show i + (x - i) = x by omega] at z
    have z' := h (x' - i) (by omega)
    rw [show i + (x' - i) = x' by omega] at z'
    rw [z.1, z'.1]
    omega
theorem IR_wk {f g : Nat → Int} {ae be : Nat} : ∀ (w i j : Nat) (G : Nat → Int), j ≤ be → (∀ x, i ≤ x → x < ae → G x = -1) → IR f g i ae j be (wk f g ae be w i j G) := by
  intro w
  induction w with
  | zero => intro i j G _ h; exact IR_n h
  | succ w ih =>
    intro i j G hj h
    rw [wk_s]
    by_cases y : i < ae ∧ j < be
    · rw [if_pos y]
      by_cases y1 : f i = g j
      · rw [if_pos y1]
        have z := ih (i + 1) (j + 1) (updG G i j) (by omega) (fun x h1 h2 => by unfold updG; rw [if_neg (by omega)]; exact h x (by omega) h2)
        have e : wk f g ae be w (i + 1) (j + 1) (updG G i j) i = (j : Int) := by
          rw [(LOC_wk w (i + 1) (j + 1)).1 _ i (by omega)]
          unfold updG
          rw [if_pos rfl]
        refine IR_glue (m := i + 1) (p := j + 1) (IR_run (n := 1) (fun d hd => ?_)) z (by omega) (by omega)
        rw [show d = 0 by omega, Nat.add_zero, Nat.add_zero]
        exact ⟨e, y1⟩
      · rw [if_neg y1]
        by_cases y2 : lt f g ae be (ae - (i + 1)) (be - j) = lt f g ae be (ae - i) (be - j)
        · rw [if_pos y2]
          have z := ih (i + 1) j G hj (fun x h1 h2 => h x (by omega) h2)
          refine IR_glue (m := i + 1) (p := j) (IR_n (fun x h1 h2 => ?_)) z (Nat.le_refl j) hj
          rw [(LOC_wk w (i + 1) j).1 _ x (by omega)]
          exact h x h1 (by omega)
        · rw [if_neg y2]
          exact IR_w (ih i (j + 1) G (by omega) h) (by omega) (Nat.le_refl be)
    · rw [if_neg y]
      exact IR_n h
theorem IR_sel {way : Int} {f g P T : Nat → Int} {n ae be : Nat} (hP : ∀ k, P k = -1 ∨ ∃ p : Nat, P k = (p : Int) ∧ p < be ∧ g p = f k) (IHn : ∀ (q : St) (G : Nat → Int), wfS q → (∀ x, q.1 ≤ x → x < q.2.1 → G x = -1) → IR f g q.1 q.2.1 q.2.2.1 q.2.2.2 (fnl way f g n q G)) : ∀ (d k : Nat) (w : Int) (i j : Nat) (G : Nat → Int), k + d = ae → i ≤ k → j ≤ be → (∀ x, i ≤ x → x < ae → G x = -1) → IR f g i ae j be ((selK P T ae be d k w i j).foldl (fun G r => fnl way f g n r G) (selG P T d k w j G)) := by
  have hPb : ∀ x, P x < (be : Int) := fun x => by
    rcases hP x with z | ⟨p, z1, z2, -⟩
    · omega
    · omega
  intro d
  induction d with
  | zero =>
    intro k w i j G hk hi hj h
    exact IHn (i, ae, j, be) G ⟨by show i ≤ ae; omega, hj⟩ h
  | succ d ih =>
    intro k w i j G hk hi hj h
    rw [selK_s, selG_s]
    by_cases y0 : 0 < w
    · rw [if_pos y0, if_pos y0]
      by_cases y : T k = w ∧ (j : Int) ≤ P k
      · rw [if_pos y, if_pos y, List.foldl_cons]
        rcases hP k with z | ⟨p, z1, z2, z3⟩
        · omega
        · have hp : (P k).toNat = p := by omega
          rw [hp, LOC_x (LOC_fnl n (i, k, j, p) ⟨hi, by show j ≤ p; omega⟩) (LOC_selG d (k + 1) (w - 1) (p + 1)) (Or.inl (by show k ≤ k + 1; omega))]
          have L0 := LOC_fnl (way := way) (f := f) (g := g) n (i, k, j, p) ⟨hi, by show j ≤ p; omega⟩
          have I0 := IHn (i, k, j, p) (updG G k (P k)) ⟨hi, by show j ≤ p; omega⟩ (fun x h1 h2 => by
            have h2 : x < k := h2
            unfold updG
            rw [if_neg (by omega)]
            exact h x h1 (by omega))
          have gk : fnl way f g n (i, k, j, p) (updG G k (P k)) k = (p : Int) := by
            rw [L0.1 _ k (by show ¬ (i ≤ k ∧ k < k); omega)]
            unfold updG
            rw [if_pos rfl]
            exact z1
          have gr : ∀ x, k + 1 ≤ x → x < ae → fnl way f g n (i, k, j, p) (updG G k (P k)) x = -1 := fun x h1 h2 => by
            rw [L0.1 _ x (by show ¬ (i ≤ x ∧ x < k); omega)]
            unfold updG
            rw [if_neg (by omega)]
            exact h x (by omega) h2
          have I0 : IR f g i k j p (fnl way f g n (i, k, j, p) (updG G k (P k))) := I0
          generalize fnl way f g n (i, k, j, p) (updG G k (P k)) = G2 at I0 gk gr ⊢
          have I1 := ih (k + 1) (w - 1) (k + 1) (p + 1) G2 (by omega) (Nat.le_refl _) (by omega) gr
          have c := CHN_p _ _ _ (selK_c (T := T) hPb d (k + 1) (w - 1) (k + 1) (p + 1) (by omega) (Nat.le_refl _) (by omega))
          have LL : LOC (fun G => (selK P T ae be d (k + 1) (w - 1) (k + 1) (p + 1)).foldl (fun G r => fnl way f g n r G) (selG P T d (k + 1) (w - 1) (p + 1) G)) (k + 1) ae := LOC_c (LOC_m (LOC_selG d (k + 1) (w - 1) (p + 1)) (Nat.le_refl _) (by omega)) (LOC_fld (F := fun r G => fnl way f g n r G) _ (fun r hr => by
            have z := c.2.2.1 r hr
            exact LOC_m (LOC_fnl n r ⟨by omega, by omega⟩) (by omega) (by omega)))
          refine IR_glue (m := k) (p := p) (IR_cg I0 (fun x h1 h2 => LL.1 G2 x (by omega))) (IR_glue (m := k + 1) (p := p + 1) (IR_run (n := 1) (fun e he => ?_)) I1 (by omega) (by omega)) (by omega) (by omega)
          rw [show e = 0 by omega, Nat.add_zero, Nat.add_zero]
          exact ⟨by rw [← gk]; exact LL.1 G2 k (by omega), z3.symm⟩
      · rw [if_neg y, if_neg y]
        exact ih (k + 1) w i j G (by omega) (by omega) hj h
    · rw [if_neg y0, if_neg y0]
      exact IHn (i, ae, j, be) G ⟨by show i ≤ ae; omega, hj⟩ h
theorem IR_mid {way : Int} {f g : Nat → Int} {n a ae b be : Nat} {G : Nat → Int} (IHn : ∀ (q : St) (G : Nat → Int), wfS q → (∀ x, q.1 ≤ x → x < q.2.1 → G x = -1) → IR f g q.1 q.2.1 q.2.2.1 q.2.2.2 (fnl way f g n q G)) (ha : a ≤ ae) (hb : b ≤ be) (h : ∀ x, a ≤ x → x < ae → G x = -1) : IR f g a ae b be ((mkK way f g a ae b be).foldl (fun G r => fnl way f g n r G) (mkG way f g a ae b be G)) := by
  by_cases y1 : way = 1
  · by_cases y2 : lgs (ptn f g a ae b be) ae (ae - a) = 0
    · unfold mkK mkG
      rw [if_pos y1, if_pos y1, if_pos y2, if_pos y2]
      exact IR_wk _ _ _ _ hb h
    · unfold mkK mkG
      rw [if_pos y1, if_pos y1, if_neg y2, if_neg y2]
      exact IR_sel (fun k => by
        rcases ptn_c (f := f) (g := g) (a := a) (ae := ae) (b := b) (be := be) (k := k) with z | ⟨j, z1, z2, z3, z4⟩
        · exact Or.inl z
        · exact Or.inr ⟨j, z1, z3, z4⟩) IHn _ _ _ _ _ _ (by omega) (Nat.le_refl a) hb h
  · by_cases y2 : rst f g a ae b be = -1
    · unfold mkK mkG
      rw [if_neg y1, if_neg y1, if_pos y2, if_pos y2]
      exact IR_wk _ _ _ _ hb h
    · rcases rst_c (f := f) (g := g) (b := b) (be := be) ha with h' | ⟨k, j, e0, k1, k2, e2, j1, j2, e3⟩
      · exact absurd h' y2
      · have ek : (rst f g a ae b be).toNat = k := by omega
        have ej : (fnd g (f k) b (be - b)).toNat = j := by omega
        obtain ⟨t, ht⟩ : ∃ t, t = tl f g a k b j := ⟨_, rfl⟩
        obtain ⟨u, hu⟩ : ∃ u, u = hd f g k ae j be := ⟨_, rfl⟩
        have bt := tl_b (f := f) (g := g) (a := a) (ae := k) (b := b) (be := j)
        have bu := hd_b (f := f) (g := g) (a := k) (ae := ae) (b := j) (be := be)
        rw [← ht] at bt
        rw [← hu] at bu
        have eK : mkK way f g a ae b be = [(a, k - t, b, j - t), (k + u, ae, j + u, be)] := by
          unfold mkK rrr
          rw [if_neg y1, if_neg y2, ek, ej, ht, hu]
          rfl
        have eG : mkG way f g a ae b be G = pr (k - t) (j - t) (t + u) G := by
          unfold mkG rrr
          rw [if_neg y1, if_neg y2, ek, ej, ht, hu]
          rfl
        rw [eK, eG]
        show IR f g a ae b be (fnl way f g n (k + u, ae, j + u, be) (fnl way f g n (a, k - t, b, j - t) (pr (k - t) (j - t) (t + u) G)))
        have w1 : wfS (a, k - t, b, j - t) := ⟨by show a ≤ k - t; omega, by show b ≤ j - t; omega⟩
        have w2 : wfS (k + u, ae, j + u, be) := ⟨by show k + u ≤ ae; omega, by show j + u ≤ be; omega⟩
        have L1 := LOC_fnl (way := way) (f := f) (g := g) n _ w1
        have L2 := LOC_fnl (way := way) (f := f) (g := g) n _ w2
        have x1 : ∀ G x, ¬ (a ≤ x ∧ x < k - t) → fnl way f g n (a, k - t, b, j - t) G x = G x := fun G x hx => L1.1 G x hx
        have x2 : ∀ G x, ¬ (k + u ≤ x ∧ x < ae) → fnl way f g n (k + u, ae, j + u, be) G x = G x := fun G x hx => L2.1 G x hx
        have I1 : IR f g a (k - t) b (j - t) (fnl way f g n (a, k - t, b, j - t) (pr (k - t) (j - t) (t + u) G)) := IHn _ _ w1 (fun x h1 h2 => by
          have h1 : a ≤ x := h1
          have h2 : x < k - t := h2
          unfold pr
          rw [if_neg (by omega)]
          exact h x h1 (by omega))
        have I2 : IR f g (k + u) ae (j + u) be (fnl way f g n (k + u, ae, j + u, be) (fnl way f g n (a, k - t, b, j - t) (pr (k - t) (j - t) (t + u) G))) := IHn _ _ w2 (fun x h1 h2 => by
          have h1 : k + u ≤ x := h1
          have h2 : x < ae := h2
          rw [x1 _ x (by omega)]
          unfold pr
          rw [if_neg (by omega)]
          exact h x (by omega) h2)
        refine IR_glue (m := k - t) (p := j - t) (IR_cg I1 (fun x h1 h2 => x2 _ x (by omega))) (IR_glue (m := k + u) (p := j + u) ?_ I2 (by omega) (by omega)) (by omega) (by omega)
        have R := IR_run (f := f) (g := g) (F := fnl way f g n (k + u, ae, j + u, be) (fnl way f g n (a, k - t, b, j - t) (pr (k - t) (j - t) (t + u) G))) (i := k - t) (j := j - t) (n := t + u) (fun d hd => by
          refine ⟨?_, ?_⟩
          · rw [x2 _ _ (by omega), x1 _ _ (by omega)]
            unfold pr
            rw [if_pos (by omega)]
            congr 1
            omega
          · by_cases y : d < t
            · have z := bt.2.2.1 (t - 1 - d) (by omega)
              rw [show k - 1 - (t - 1 - d) = k - t + d by omega, show j - 1 - (t - 1 - d) = j - t + d by omega] at z
              exact z
            · have z := bu.2.2.1 (d - t) (by omega)
              rw [show k + (d - t) = k - t + d by omega, show j + (d - t) = j - t + d by omega] at z
              exact z)
        rw [show k - t + (t + u) = k + u by omega, show j - t + (t + u) = j + u by omega] at R
        exact R
theorem IR_fnl {way : Int} {f g : Nat → Int} : ∀ (n : Nat) (q : St) (G : Nat → Int), wfS q → (∀ x, q.1 ≤ x → x < q.2.1 → G x = -1) → IR f g q.1 q.2.1 q.2.2.1 q.2.2.2 (fnl way f g n q G) := by
  intro n
  induction n with
  | zero => intro q G _ h; exact IR_n h
  | succ n ih =>
    intro q G hw h
    by_cases y : q.1 < q.2.1 ∧ q.2.2.1 < q.2.2.2
    · rw [fnl_s, if_pos y]
      obtain ⟨a, ae, b, be⟩ := q
      have ha : a < ae := y.1
      have hb : b < be := y.2
      have h : ∀ x, a ≤ x → x < ae → G x = -1 := h
      show IR f g a ae b be ((stK way f g (a, ae, b, be)).foldl (fun G r => fnl way f g n r G) (stG way f g (a, ae, b, be) G))
      by_cases y0 : way = 0
      · unfold stK stG
        rw [if_pos y0, if_pos y0]
        exact IR_wk _ _ _ _ (by omega) h
      · obtain ⟨p, hp⟩ : ∃ p, p = hd f g a ae b be := ⟨_, rfl⟩
        obtain ⟨t, ht⟩ : ∃ t, t = tl f g (a + p) ae (b + p) be := ⟨_, rfl⟩
        have bp := hd_b (f := f) (g := g) (a := a) (ae := ae) (b := b) (be := be)
        rw [← hp] at bp
        have bq := tl_b (f := f) (g := g) (a := a + p) (ae := ae) (b := b + p) (be := be)
        rw [← ht] at bq
        have eK : stK way f g (a, ae, b, be) = mkK way f g (a + p) (ae - t) (b + p) (be - t) := by
          unfold stK
          rw [if_neg y0, ht, hp]
          rfl
        have eG : stG way f g (a, ae, b, be) G = mkG way f g (a + p) (ae - t) (b + p) (be - t) (pr (ae - t) (be - t) t (pr a b p G)) := by
          unfold stG
          rw [if_neg y0, ht, hp]
          rfl
        rw [eK, eG]
        have g0 : ∀ x, a + p ≤ x → x < ae - t → pr (ae - t) (be - t) t (pr a b p G) x = -1 := fun x h1 h2 => by
          unfold pr
          rw [if_neg (by omega), if_neg (by omega)]
          exact h x (by omega) (by omega)
        have g1 : ∀ d, d < p → pr (ae - t) (be - t) t (pr a b p G) (a + d) = ((b + d : Nat) : Int) := fun d hd => by
          unfold pr
          rw [if_neg (by omega), if_pos (by omega)]
          congr 1
          omega
        have g2 : ∀ d, d < t → pr (ae - t) (be - t) t (pr a b p G) (ae - t + d) = ((be - t + d : Nat) : Int) := fun d hd => by
          unfold pr
          rw [if_pos (by omega)]
          congr 1
          omega
        generalize pr (ae - t) (be - t) t (pr a b p G) = G1 at g0 g1 g2 ⊢
        have I := IR_mid (way := way) (n := n) (G := G1) ih (show a + p ≤ ae - t by omega) (show b + p ≤ be - t by omega) g0
        have LL : LOC (fun G => (mkK way f g (a + p) (ae - t) (b + p) (be - t)).foldl (fun G r => fnl way f g n r G) (mkG way f g (a + p) (ae - t) (b + p) (be - t) G)) (a + p) (ae - t) := by
          refine LOC_c (LOC_mkG (by omega)) (LOC_fld (F := fun r G => fnl way f g n r G) _ (fun r hr => ?_))
          rcases mkK_c (way := way) (f := f) (g := g) (show a + p ≤ ae - t by omega) (show b + p ≤ be - t by omega) with z | ⟨-, z⟩
          · rw [z] at hr
            cases hr
          · have c := (CHN_p _ _ _ z).2.2.1 r hr
            exact LOC_m (LOC_fnl n r ⟨by omega, by omega⟩) (by omega) (by omega)
        have out : ∀ x, ¬ (a + p ≤ x ∧ x < ae - t) → ((mkK way f g (a + p) (ae - t) (b + p) (be - t)).foldl (fun G r => fnl way f g n r G) (mkG way f g (a + p) (ae - t) (b + p) (be - t) G1)) x = G1 x := fun x hx => LL.1 G1 x hx
        generalize ((mkK way f g (a + p) (ae - t) (b + p) (be - t)).foldl (fun G r => fnl way f g n r G) (mkG way f g (a + p) (ae - t) (b + p) (be - t) G1)) = F at I out ⊢
        refine IR_glue (m := a + p) (p := b + p) (IR_run (fun d hd => ⟨by rw [out _ (by omega)]; exact g1 d hd, bp.2.2.1 d hd⟩)) (IR_glue (m := ae - t) (p := be - t) I ?_ (by omega) (by omega)) (by omega) (by omega)
        have R := IR_run (f := f) (g := g) (F := F) (i := ae - t) (j := be - t) (n := t) (fun d hd => ⟨by rw [out _ (by omega)]; exact g2 d hd, by
          have z := bq.2.2.1 (t - 1 - d) (by omega)
          rw [show ae - 1 - (t - 1 - d) = ae - t + d by omega, show be - 1 - (t - 1 - d) = be - t + d by omega] at z
          exact z⟩)
        rw [show ae - t + t = ae by omega, show be - t + t = be by omega] at R
        exact R
    · rw [fnl_e y]
      exact IR_n h
/-- what is paired with what -/
def mtc (way : Int) (f g : Nat → Int) (n1 n2 : Nat) : Nat → Int := fnl way f g 40 (0, n1, 0, n2) (fun _ => -1)
theorem mtc_GD {way : Int} {f g : Nat → Int} {n1 n2 : Nat} : GD f g n1 n2 (mtc way f g n1 n2) := by
  have I : IR f g 0 n1 0 n2 (mtc way f g n1 n2) := IR_fnl 40 (0, n1, 0, n2) (fun _ => -1) ⟨Nat.zero_le _, Nat.zero_le _⟩ (fun _ _ _ => rfl)
  refine ⟨⟨fun i hi => ?_, fun i i' h1 h2 n1 n2 => I.2 i i' (Nat.zero_le _) h1 h2 n1 n2⟩, fun x hx hn => ?_⟩
  · rcases I.1 i (Nat.zero_le _) hi with z | ⟨y, z1, z2, z3, z4⟩
    · exact Or.inl z
    · exact Or.inr (by omega)
  · rcases I.1 x (Nat.zero_le _) hx with z | ⟨y, z1, z2, z3, z4⟩
    · exact absurd z hn
    · rw [z1, tn]
      exact z4
end
-- DRAFT 99.cmpc.lean
/-! All stretches, on both sides. -/
noncomputable section
theorem fl4_at {l : List St} {h : Nat} {q : St} (hq : l[h]? = some q) : lat (fl4 l) ((4 * h : Nat) : Int) = (q.1 : Int) ∧ lat (fl4 l) ((4 * h + 1 : Nat) : Int) = (q.2.1 : Int) ∧ lat (fl4 l) ((4 * h + 2 : Nat) : Int) = (q.2.2.1 : Int) ∧ lat (fl4 l) ((4 * h + 3 : Nat) : Int) = (q.2.2.2 : Int) := by
  obtain ⟨e1, e2, e3, e4⟩ := fl4_get l h q hq
  have up : ∀ n : Nat, lat (fl4 l) (n : Int) = ((fl4 l)[n]?).getD (-1) := fun n => by
    unfold lat
    rw [if_pos (by omega), tn]
  rw [up, up, up, up, e1, e2, e3, e4]
  exact ⟨rfl, rfl, rfl, rfl⟩
/-- the class: a stretch, by any way -/
theorem d2x {σ0 : Sg} {f g G : Nat → Int} {n1 n2 a ae b be : Nat} {L : List St} {way : Int} (C : CR σ0 f g n1 n2) (ha : a ≤ ae) (hb : b ≤ be) (h1 : ae ≤ n1) (h2 : be ≤ n2) (hG : ∀ x, x < n1 → σ0 338 x = G x) (hR : Rw σ0 343 (fl4 L)) (hl : L.length + (ae - a) + 2 ≤ 160) : ∃ s, (if way = 0 then Dd 24 [vA 332, vI a, vI ae, vI b, vI be] σ0 (rV s) else Dd 25 [vA 332, vI a, vI ae, vI b, vI be, vI way] σ0 (rV s)) ∧ (∀ x, x < n1 → s 338 x = (stpS ads way f g (a, ae, b, be) G L).1 x) ∧ Rw s 343 (fl4 (stpS ads way f g (a, ae, b, be) G L).2) ∧ (WC σ0 → WC s) ∧ ∀ c x, ¬ (338 ≤ c ∧ c ≤ 344) → ¬ c = 349 → s c x = σ0 c x := by
  by_cases y : way = 0
  · subst y
    rw [stp_0]
    obtain ⟨s, e1, e2, e3, e4⟩ := d24s (G := G) (L := L) C ha hb h1 h2 hG hR
    exact ⟨s, by rw [if_pos rfl]; exact e1, e2, e3, fun hc => WC_fr (e4 _ _ (by decide) (by decide)) (e4 _ _ (by decide) (by decide)) hc, fun c x h h' => e4 c x (by omega) h'⟩
  · obtain ⟨s, e1, e2, e3, e4, e5⟩ := d25 (G := G) (L := L) C ha hb h1 h2 hG hR hl y
    exact ⟨s, by rw [if_neg y]; exact e1, e2, e3, e4, e5⟩
theorem l15 {σ0 : Sg} {f g : Nat → Int} {n1 n2 : Nat} {way : Int} {d1 d2 : Option AV} (C0 : CR σ0 f g n1 n2) : ∀ (m : Nat) (D T : List St) (G : Nat → Int) (σ : Sg), ms T ≤ m → D.length + ms T ≤ 81 → PS 40 T → (∀ r, r ∈ T → nef r = true ∧ r.2.1 ≤ n1 ∧ r.2.2.2 ≤ n2) → WC σ → (∀ x, x < n1 → σ 338 x = G x) → Rw σ 343 (fl4 (D ++ T)) → (∀ c x, ¬ (338 ≤ c ∧ c ≤ 344) → ¬ c = 349 → σ c x = σ0 c x) → ∃ s, (∀ d5 d6 d7 d8, C15_29 d1 d2 way (D.length : Nat) d5 d6 d7 d8 σ (rA 337 s)) ∧ (∀ x, x < n1 → s 338 x = (T.foldl (fun G r => fnl way f g 40 r G) G) x) ∧ WC s ∧ (∃ L, Rw s 343 (fl4 L) ∧ L.length ≤ 160) ∧ ∀ c x, ¬ (338 ≤ c ∧ c ≤ 344) → ¬ c = 349 → s c x = σ0 c x := by
  obtain ⟨-, -, -, -, -, -, r343, c343⟩ := cpC
  have stop : ∀ (D : List St) (G : Nat → Int) (σ : Sg), D.length ≤ 81 → WC σ → (∀ x, x < n1 → σ 338 x = G x) → Rw σ 343 (fl4 (D ++ [])) → (∀ c x, ¬ (338 ≤ c ∧ c ≤ 344) → ¬ c = 349 → σ c x = σ0 c x) → ∃ s, (∀ d5 d6 d7 d8, C15_29 d1 d2 way (D.length : Nat) d5 d6 d7 d8 σ (rA 337 s)) ∧ (∀ x, x < n1 → s 338 x = (([] : List St).foldl (fun G r => fnl way f g 40 r G) G) x) ∧ WC s ∧ (∃ L, Rw s 343 (fl4 L) ∧ L.length ≤ 160) ∧ ∀ c x, ¬ (338 ≤ c ∧ c ≤ 344) → ¬ c = 349 → s c x = σ0 c x := by
    intro D G σ hD hw hG hR hF
    have e146 := d146 (σ := σ) r343
    rw [hR.1, fl4_len, List.append_nil] at e146
    refine ⟨σ, fun d5 d6 d7 d8 => b15_29 ?_, hG, hw, ⟨_, hR, by rw [List.append_nil]; omega⟩, hF⟩
    rw [if_pos (by omega)]
    refine ⟨by omega, _, _, e146, ?_⟩
    rw [if_neg (by omega)]
    exact b15_147 rfl
  intro m
  induction m with
  | zero =>
    intro D T G σ hm h81 P hn hw hG hR hF
    cases T with
    | nil => exact stop D G σ (by omega) hw hG hR hF
    | cons q T =>
      exfalso
      have : 2 * (q.2.1 - q.1) + 1 + ms T ≤ 0 := hm
      omega
  | succ m ih =>
    intro D T G σ hm h81 P hn hw hG hR hF
    cases T with
    | nil => exact stop D G σ (by omega) hw hG hR hF
    | cons q T =>
      obtain ⟨q1, q2, q3⟩ := hn q List.mem_cons_self
      have hne := of_decide_eq_true q1
      obtain ⟨s1', s2', s3'⟩ := cls_step (way := way) (f := f) (g := g) (G := G) P hne
      have hq0 : (D ++ q :: T)[D.length]? = some q := by
        rw [List.getElem?_append_right (Nat.le_refl _), Nat.sub_self]
        rfl
      have hmq : ms (q :: T) = 2 * (q.2.1 - q.1) + 1 + ms T := rfl
      have hTl := ms_len T
      have hlen : (D ++ q :: T).length = D.length + (T.length + 1) := by rw [List.length_append, List.length_cons]
      obtain ⟨a, ae, b, be⟩ := q
      have y1 : a < ae := hne.1
      have y2 : b < be := hne.2
      have q2 : ae ≤ n1 := q2
      have q3 : be ≤ n2 := q3
      have n40 := C0.1
      have n40' := C0.2.1
      have hmq : ms ((a, ae, b, be) :: T) = 2 * (ae - a) + 1 + ms T := hmq
      have C : CR σ f g n1 n2 := by
        obtain ⟨h1, h2, w1, w2, w3, z1, z2, z3, hf, hg⟩ := C0
        exact ⟨h1, h2, ⟨w1.1, by rw [hF _ _ (by decide) (by decide)]; exact w1.2⟩, ⟨w2.1, by rw [hF _ _ (by decide) (by decide)]; exact w2.2⟩, ⟨w3.1, by rw [hF _ _ (by decide) (by decide)]; exact w3.2⟩, by rw [hF _ _ (by decide) (by decide)]; exact z1, by rw [hF _ _ (by decide) (by decide)]; exact z2, by rw [hF _ _ (by decide) (by decide)]; exact z3, fun i hi => by rw [hF _ _ (by decide) (by decide)]; exact hf i hi, fun i hi => by rw [hF _ _ (by decide) (by decide)]; exact hg i hi⟩
      obtain ⟨v1, v2, v3, v4⟩ := fl4_at hq0
      have v1 : lat (fl4 (D ++ (a, ae, b, be) :: T)) ((4 * D.length : Nat) : Int) = (a : Int) := v1
      have v2 : lat (fl4 (D ++ (a, ae, b, be) :: T)) ((4 * D.length + 1 : Nat) : Int) = (ae : Int) := v2
      have v3 : lat (fl4 (D ++ (a, ae, b, be) :: T)) ((4 * D.length + 2 : Nat) : Int) = (b : Int) := v3
      have v4 : lat (fl4 (D ++ (a, ae, b, be) :: T)) ((4 * D.length + 3 : Nat) : Int) = (be : Int) := v4
      have wr := Rw_wR r343 hR (by rw [fl4_len, c343]; omega)
      have p1 := d147 (i := ((4 * D.length : Nat) : Int)) wr
      rw [atS_l hR, v1] at p1
      have p2 := d147 (i := ((4 * D.length + 1 : Nat) : Int)) wr
      rw [atS_l hR, v2] at p2
      have p3 := d147 (i := ((4 * D.length + 2 : Nat) : Int)) wr
      rw [atS_l hR, v3] at p3
      have p4 := d147 (i := ((4 * D.length + 3 : Nat) : Int)) wr
      rw [atS_l hR, v4] at p4
      have e146 := d146 (σ := σ) r343
      rw [hR.1, fl4_len] at e146
      obtain ⟨s1, e1, e2, e3, ew, e4⟩ := d2x (way := way) (L := D ++ (a, ae, b, be) :: T) (G := G) C (by omega) (by omega) q2 q3 hG hR (by omega)
      rw [stp_e, foldl_ads] at e3
      rw [stp_e] at e2
      have eL : (D ++ (a, ae, b, be) :: T) ++ (stK way f g (a, ae, b, be)).filter nef = (D ++ [(a, ae, b, be)]) ++ (T ++ (stK way f g (a, ae, b, be)).filter nef) := by simp
      have e3 : Rw s1 343 (fl4 ((D ++ (a, ae, b, be) :: T) ++ (stK way f g (a, ae, b, be)).filter nef)) := e3
      rw [eL] at e3
      have hD1 : (D ++ [(a, ae, b, be)]).length = D.length + 1 := by simp
      have hkf := (kid_f (way := way) (f := f) (g := g) (q := (a, ae, b, be)) ⟨by show a ≤ ae; omega, by show b ≤ be; omega⟩).1
      obtain ⟨s, z1, z2, z3, z4, z5⟩ := ih (D ++ [(a, ae, b, be)]) (T ++ (stK way f g (a, ae, b, be)).filter nef) (stG way f g (a, ae, b, be) G) s1 (by omega) (by omega) s2' (fun r hr => by
        rcases List.mem_append.mp hr with h | h
        · exact hn r (List.mem_cons_of_mem _ h)
        · obtain ⟨h1, h2⟩ := List.mem_filter.mp h
          have k := hkf r h1
          have k3 : r.2.1 ≤ ae := k.2.2.1
          have k5 : r.2.2.2 ≤ be := k.2.2.2.2.1
          exact ⟨h2, by omega, by omega⟩) (ew hw) e2 e3 (fun c x h h' => by rw [e4 c x h h']; exact hF c x h h')
      refine ⟨s, fun d5 d6 d7 d8 => b15_29 ?_, fun x hx => by rw [z2 x hx, s1'], z3, z4, z5⟩
      have E0 : 4 * ((D.length : Nat) : Int) = ((4 * D.length : Nat) : Int) := by omega
      have E1 : ((4 * D.length : Nat) : Int) + 1 = ((4 * D.length + 1 : Nat) : Int) := by omega
      have E2 : ((4 * D.length : Nat) : Int) + 2 = ((4 * D.length + 2 : Nat) : Int) := by omega
      have E3 : ((4 * D.length : Nat) : Int) + 3 = ((4 * D.length + 3 : Nat) : Int) := by omega
      rw [if_pos (by omega), E0, E1, E2, E3]
      refine ⟨by omega, _, _, e146, ?_⟩
      rw [if_pos (by omega)]
      refine ⟨by omega, _, _, p1, by omega, by omega, _, _, p2, by omega, by omega, _, _, p3, by omega, by omega, _, _, p4, ?_⟩
      have go : ∀ d5 d6 d7 d8, C15_141 d1 d2 way (D.length : Nat) d5 d6 d7 d8 s1 (rA 337 s) := fun d5 d6 d7 d8 => b15_141 ⟨by omega, by
        rw [show ((D.length : Nat) : Int) + 1 = (((D ++ [(a, ae, b, be)]).length : Nat) : Int) by omega]
        exact z1 d5 d6 d7 d8⟩
      by_cases y0 : way = 0
      · rw [if_pos y0] at e1 ⊢
        exact ⟨_, e1, go _ _ _ _⟩
      · rw [if_neg y0] at e1 ⊢
        exact ⟨_, e1, go _ _ _ _⟩
theorem rows_33 : ∀ a, a < 350 → 333 ≤ a → isRow a = true → a = 333 ∨ a = 335 ∨ a = 337 ∨ a = 339 ∨ a = 341 ∨ a = 343 ∨ a = 345 ∨ a = 347 := by decide +kernel
theorem cpC3 : isRow 333 = true ∧ isRow 335 = true ∧ isRow 337 = true := by decide +kernel
/-- match -/
theorem d15 {σ : Sg} {x1 x2 n1 n2 : Nat} {way : Int} (w : WF σ) (w1 : isRow x1 = true) (w2 : isRow x2 = true) (z1 : σ x1 1 = (n1 : Nat)) (z2 : σ x2 1 = (n2 : Nat)) (h1 : n1 ≤ 40) (h2 : n2 ≤ 40) (e1 : x1 < 332 ∨ 344 < x1) (e2 : x2 < 332 ∨ 344 < x2) : ∃ s, Dd 15 [vA 332, vA x1, vA x2, vI way] σ (rA 337 s) ∧ WF s ∧ s 337 1 = (n1 : Nat) ∧ (∀ i, i < n1 → s 338 i = mtc way (σ (x1 + 1)) (σ (x2 + 1)) n1 n2 i) ∧ ∀ c k, ¬ (333 ≤ c ∧ c ≤ 344) → ¬ c = 349 → s c k = σ c k := by
  obtain ⟨r333, c333, r335, c335, r337, c337, r343, c343⟩ := cpC
  obtain ⟨r339, c339, r341, c341⟩ := cpC2
  obtain ⟨s1, a1, W, a2, a3, a4, a5, a6, a7, a8, a9⟩ := d19 w w1 w2 z1 z2 h1 h2 e1 e2
  have q1 := d146 (σ := s1) r333
  rw [a2] at q1
  have q2 := d146 (σ := s1) r335
  rw [a3] at q2
  obtain ⟨s2, p1, p2, p3⟩ := d20 (σ := s1) (L := []) (a := 0) (k := n1) (b := 0) (j := n2) ⟨by rw [a5]; rfl, fun i v h => by cases h⟩ (by decide)
  have hT : ads [] (0, n1, 0, n2) = [] ++ [((0, n1, 0, n2) : St)].filter nef := foldl_ads [(0, n1, 0, n2)] []
  rw [hT] at p2
  have C : CR s2 (σ (x1 + 1)) (σ (x2 + 1)) n1 n2 := ⟨h1, h2, ⟨r333, by rw [p3 _ _ (by decide) (by decide), a2, c333]; omega⟩, ⟨r335, by rw [p3 _ _ (by decide) (by decide), a3, c335]; omega⟩, ⟨r337, by rw [p3 _ _ (by decide) (by decide), a4, c337]; omega⟩, by rw [p3 _ _ (by decide) (by decide)]; exact a2, by rw [p3 _ _ (by decide) (by decide)]; exact a3, by rw [p3 _ _ (by decide) (by decide)]; exact a4, fun i hi => by rw [p3 _ _ (by decide) (by decide)]; exact a6 i hi, fun i hi => by rw [p3 _ _ (by decide) (by decide)]; exact a7 i hi⟩
  have hWC : WC s2 := by
    have u1 := W 339 r339
    have u2 := W 341 r341
    rw [c339] at u1
    rw [c341] at u2
    refine WC_fr (σ := s1) (p3 _ _ (by decide) (by decide)) (p3 _ _ (by decide) (by decide)) ⟨?_, ?_⟩
    · omega
    · omega
  have inF : ∀ r, r ∈ [((0, n1, 0, n2) : St)].filter nef → r = (0, n1, 0, n2) ∧ nef r = true := fun r hr => by
    obtain ⟨h1, h2⟩ := List.mem_filter.mp hr
    exact ⟨by simpa using h1, h2⟩
  have hms : ms ([((0, n1, 0, n2) : St)].filter nef) ≤ 81 := by
    have := ms_flt [((0, n1, 0, n2) : St)]
    have e : ms [((0, n1, 0, n2) : St)] = 2 * (n1 - 0) + 1 + 0 := rfl
    omega
  obtain ⟨s, g1, g2, g3, ⟨L, g4, g5⟩, g6⟩ := l15 (d1 := some (vA x1)) (d2 := some (vA x2)) (way := way) C 81 [] ([((0, n1, 0, n2) : St)].filter nef) (fun _ => -1) s2 hms (by show 0 + _ ≤ 81; omega) ⟨fun r hr => by
    rw [(inF r hr).1]
    exact ⟨⟨Nat.zero_le _, Nat.zero_le _⟩, by show n1 - 0 ≤ 40; omega⟩, List.Pairwise.sublist List.filter_sublist (List.pairwise_singleton _ _)⟩ (fun r hr => by
    obtain ⟨e, e'⟩ := inF r hr
    refine ⟨e', ?_⟩
    rw [e]
    exact ⟨Nat.le_refl _, Nat.le_refl _⟩) hWC (fun x hx => by rw [p3 _ _ (by decide) (by decide)]; exact a8 x hx) p2 (fun _ _ _ _ => rfl)
  have F : ∀ c k, ¬ (333 ≤ c ∧ c ≤ 344) → ¬ c = 349 → s c k = σ c k := fun c k y1 y2 => by rw [g6 c k (by omega) y2, p3 c k (by omega) (by omega), a9 c k (by omega) (by omega)]
  have F3 : ∀ c k, 333 ≤ c → c ≤ 337 → s c k = s1 c k := fun c k y1 y2 => by rw [g6 c k (by omega) (by omega), p3 c k (by omega) (by omega)]
  refine ⟨s, b15 ⟨_, a1, _, _, q1, _, _, q2, _, p1, g1 _ _ _ _⟩, fun a ha => ?_, by rw [F3 _ _ (by decide) (by decide)]; exact a4, fun i hi => ?_, F⟩
  · by_cases y : 333 ≤ a ∧ a < 350
    · rcases rows_33 a y.2 y.1 ha with e | e | e | e | e | e | e | e
      · subst e; rw [F3 _ _ (by decide) (by decide)]; exact W _ ha
      · subst e; rw [F3 _ _ (by decide) (by decide)]; exact W _ ha
      · subst e; rw [F3 _ _ (by decide) (by decide)]; exact W _ ha
      · subst e; rw [c339]; exact g3.1
      · subst e; rw [c341]; exact g3.2
      · subst e
        rw [c343, g4.1, fl4_len]
        omega
      · subst e; rw [F _ _ (by decide) (by decide)]; exact w _ ha
      · subst e; rw [F _ _ (by decide) (by decide)]; exact w _ ha
    · rw [F _ _ (by omega) (by omega)]
      exact w a ha
  · rw [g2 i hi, fld_flt]
    rfl
/-- how many are paired -/
theorem cnt_np {F : Nat → Int} : ∀ (d k : Nat), cnt F (-1) k d ≤ (d : Int) := fun d k => (cnt_b d k).2
theorem nil_or_snoc : ∀ l : List St, l = [] ∨ ∃ T q, l = T ++ [q] := by
  intro l
  induction l with
  | nil => exact Or.inl rfl
  | cons a t ih =>
    right
    rcases ih with e | ⟨T, q, e⟩
    · exact ⟨[], a, by rw [e]; rfl⟩
    · exact ⟨a :: T, q, by rw [e]; rfl⟩
/-- the reference: all stretches that wait -/
theorem l274 {σ0 : Sg} {f g : Nat → Int} {n1 n2 : Nat} {way : Int} {d2 d3 : Option AV} (R0 : MRw σ0 f g n1 n2) : ∀ (m : Nat) (T : List St) (G : Nat → Int) (σ : Sg), ms T ≤ m → ms T ≤ 81 → PS 40 T → (∀ r, r ∈ T → r.2.1 ≤ n1 ∧ r.2.2.2 ≤ n2) → (∀ x, x < n1 → σ 693 x = G x) → Wt σ T → (∀ c x, ¬ (693 ≤ c ∧ c ≤ 694) → ¬ (696 ≤ c ∧ c ≤ 699) → ¬ (c = 682 ∧ 17 ≤ x ∧ x ≤ 22) → σ c x = σ0 c x) → ∃ s, (∀ {o : Rs}, C274_163 (some (vI way)) 0 0 s o → C274_42 way d2 d3 σ o) ∧ (∀ x, x < n1 → s 693 x = (T.foldl (fun G r => fnl way f g 40 r G) G) x) ∧ ∀ c x, ¬ (693 ≤ c ∧ c ≤ 694) → ¬ (696 ≤ c ∧ c ≤ 699) → ¬ (c = 682 ∧ 17 ≤ x ∧ x ≤ 22) → s c x = σ0 c x := by
  intro m
  induction m with
  | zero =>
    intro T G σ hm h81 P hn hG hW hF
    have hl := ms_len T
    have e : T = [] := List.eq_nil_of_length_eq_zero (by omega)
    subst e
    refine ⟨σ, fun {o} hh => b274_42 ?_, hG, hF⟩
    rw [hW.1]
    rw [if_neg (by show ¬ (0 : Int) < ((0 : Nat) : Int); omega)]
    exact hh
  | succ m ih =>
    intro T G σ hm h81 P hn hG hW hF
    rcases nil_or_snoc T with e | ⟨T', q, e⟩
    · subst e
      refine ⟨σ, fun {o} hh => b274_42 ?_, hG, hF⟩
      rw [hW.1]
      rw [if_neg (by show ¬ (0 : Int) < ((0 : Nat) : Int); omega)]
      exact hh
    · subst e
      obtain ⟨s1', s2', s3'⟩ := ref_step (way := way) (f := f) (g := g) (G := G) P
      have hq := (P.1 q (List.mem_append.mpr (Or.inr List.mem_cons_self))).1
      have hr := hn q (List.mem_append.mpr (Or.inr List.mem_cons_self))
      obtain ⟨hW1, hW2⟩ := hW
      have hlen : (T' ++ [q]).length = T'.length + 1 := by simp
      have hT'l := ms_len T'
      have hmq : ms (T' ++ [q]) = ms T' + (2 * (q.2.1 - q.1) + 1 + 0) := ms_app T' [q]
      have hkf := (kid_f (way := way) (f := f) (g := g) hq).1
      have hlast := hW2 T'.length q (by rw [List.getElem?_append_right (Nat.le_refl _), Nat.sub_self]; rfl)
      have hpre : ∀ h r, T'[h]? = some r → σ 696 (4 * h) = (r.1 : Nat) ∧ σ 696 (4 * h + 1) = (r.2.1 : Nat) ∧ σ 696 (4 * h + 2) = (r.2.2.1 : Nat) ∧ σ 696 (4 * h + 3) = (r.2.2.2 : Nat) := fun h r hh => hW2 h r (by rw [List.getElem?_append_left (List.getElem?_eq_some_iff.mp hh).1]; exact hh)
      rw [hlen] at hW1
      obtain ⟨a, ae, b, be⟩ := q
      obtain ⟨ha, hb⟩ := hq
      have ha : a ≤ ae := ha
      have hb : b ≤ be := hb
      obtain ⟨hr1, hr2⟩ := hr
      have hr1 : ae ≤ n1 := hr1
      have hr2 : be ≤ n2 := hr2
      have hmq : ms (T' ++ [(a, ae, b, be)]) = ms T' + (2 * (ae - a) + 1 + 0) := hmq
      obtain ⟨v1, v2, v3, v4⟩ := hlast
      have v1 : σ 696 (4 * T'.length) = (a : Int) := v1
      have v2 : σ 696 (4 * T'.length + 1) = (ae : Int) := v2
      have v3 : σ 696 (4 * T'.length + 2) = (b : Int) := v3
      have v4 : σ 696 (4 * T'.length + 3) = (be : Int) := v4
      obtain ⟨k, hk⟩ : ∃ k, k = T'.length := ⟨_, rfl⟩
      rw [← hk] at v1 v2 v3 v4 hW1
      have n40 := R0.1
      have n40' := R0.2.1
      obtain ⟨S5, hS5⟩ : ∃ S5 : Sg, S5 = upS (upS (upS (upS (upS σ 682 22 ((k : Nat) : Int)) 682 17 ((a : Nat) : Int)) 682 18 ((ae : Nat) : Int)) 682 19 ((b : Nat) : Int)) 682 20 ((be : Nat) : Int) := ⟨_, rfl⟩
      have S5o : ∀ c x, ¬ (c = 682 ∧ 17 ≤ x ∧ x ≤ 22) → S5 c x = σ c x := fun c x h => by
        rw [hS5]
        unfold upS
        rw [if_neg (by omega), if_neg (by omega), if_neg (by omega), if_neg (by omega), if_neg (by omega)]
      have M5 : MS S5 a ae b be := by
        rw [hS5]
        exact ⟨by rw [up_k (by decide), up_k (by decide), up_k (by decide), up_s], by rw [up_k (by decide), up_k (by decide), up_s], by rw [up_k (by decide), up_s], by rw [up_s]⟩
      have W5 : Wt S5 T' := ⟨by rw [hS5, up_k (by decide), up_k (by decide), up_k (by decide), up_k (by decide), up_s, hk], fun h r hh => by rw [S5o _ _ (by omega), S5o _ _ (by omega), S5o _ _ (by omega), S5o _ _ (by omega)]; exact hpre h r hh⟩
      have R5 : MRw S5 f g n1 n2 := ⟨n40, n40', fun i hi => by rw [S5o _ _ (by omega), hF _ _ (by decide) (by decide) (by omega)]; exact R0.2.2.1 i hi, fun i hi => by rw [S5o _ _ (by omega), hF _ _ (by decide) (by decide) (by omega)]; exact R0.2.2.2 i hi⟩
      have G5 : ∀ x, x < n1 → S5 693 x = G x := fun x hx => by rw [S5o _ _ (by omega)]; exact hG x hx
      -- one stretch
      have one : ∃ s', (∀ {o : Rs}, C274_42 way d2 d3 s' o → (if way = 0 then (∃ (s13 : Sg), Dd 266 [vA 682] S5 (rV s13) ∧ C274_42 way d2 d3 s13 o) else (∃ (s15 : Sg), Dd 268 [vA 682] S5 (rV s15) ∧ (if way = 1 then (∃ (s17 : Sg), Dd 272 [vA 682] s15 (rV s17) ∧ C274_42 way d2 d3 s17 o) else (∃ (s19 : Sg), Dd 273 [vA 682] s15 (rV s19) ∧ C274_42 way d2 d3 s19 o))))) ∧ (∀ x, x < n1 → s' 693 x = stG way f g (a, ae, b, be) G x) ∧ Wt s' (T' ++ stK way f g (a, ae, b, be)) ∧ ∀ c x, ¬ (693 ≤ c ∧ c ≤ 694) → ¬ (696 ≤ c ∧ c ≤ 699) → ¬ (c = 682 ∧ 17 ≤ x ∧ x ≤ 22) → s' c x = S5 c x := by
        by_cases y0 : way = 0
        · obtain ⟨s', e1, e2, e3⟩ := d266 (σ0 := S5) (G := G) (f := f) (g := g) ha hb hr1 hr2 (by omega) (by omega) M5.1 M5.2.1 M5.2.2.1 M5.2.2.2 R5.2.2.1 R5.2.2.2 G5
          have eK : stK way f g (a, ae, b, be) = [] := by
            unfold stK
            rw [if_pos y0]
          have eG : stG way f g (a, ae, b, be) G = wk f g ae be ((ae - a) + (be - b)) a b G := by
            unfold stG
            rw [if_pos y0]
          rw [eK, eG, List.append_nil]
          refine ⟨s', fun {o} hh => ?_, e2, Wt_fr (e3 _ _ (by decide) (by decide)) (fun x => e3 _ _ (by decide) (by decide)) W5, fun c x h _ _ => e3 c x (by omega) (by omega)⟩
          rw [if_pos y0]
          exact ⟨_, e1, hh⟩
        · obtain ⟨s', ⟨s1, e0, e1⟩, e2, e3, e4⟩ := d268s (way := way) (L := T') R5 M5 ha hb hr1 hr2 G5 W5 (by omega) y0
          rw [stp_e] at e2
          rw [stp_e, foldl_adm] at e3
          refine ⟨s', fun {o} hh => ?_, e2, e3, e4⟩
          rw [if_neg y0]
          refine ⟨_, e0, ?_⟩
          by_cases y1 : way = 1
          · rw [if_pos y1] at e1 ⊢
            obtain ⟨s2, e5, e6⟩ := e1
            subst e6
            exact ⟨_, e5, hh⟩
          · rw [if_neg y1] at e1 ⊢
            obtain ⟨s2, e5, e6⟩ := e1
            subst e6
            exact ⟨_, e5, hh⟩
      obtain ⟨s', o1, o2, o3, o4⟩ := one
      obtain ⟨s, g1, g2, g3⟩ := ih (T' ++ stK way f g (a, ae, b, be)) (stG way f g (a, ae, b, be) G) s' (by omega) (by omega) s2' (fun r hr => by
        rcases List.mem_append.mp hr with h | h
        · exact hn r (List.mem_append.mpr (Or.inl h))
        · have z := hkf r h
          have k3 : r.2.1 ≤ ae := z.2.2.1
          have k5 : r.2.2.2 ≤ be := z.2.2.2.2.1
          omega) o2 o3 (fun c x h h' h'' => by rw [o4 c x h h' h'', S5o c x h'']; exact hF c x h h' h'')
      refine ⟨s, fun {o} hh => b274_42 ?_, fun x hx => by rw [g2 x hx, s1'], g3⟩
      have T0 : (4 * ((k : Nat) : Int)).toNat = 4 * k := by omega
      have T1 : ((4 * ((k : Nat) : Int)) + 1).toNat = 4 * k + 1 := by omega
      have T2 : ((4 * ((k : Nat) : Int)) + 2).toNat = 4 * k + 2 := by omega
      have T3 : ((4 * ((k : Nat) : Int)) + 3).toNat = 4 * k + 3 := by omega
      have Em : ((k + 1 : Nat) : Int) - 1 = ((k : Nat) : Int) := by omega
      rw [hW1, if_pos (by omega), Em]
      simp only [up_s, up_k (show ¬ (22 : Nat) = 17 by decide), up_k (show ¬ (22 : Nat) = 18 by decide), up_k (show ¬ (22 : Nat) = 19 by decide), up_a (show ¬ (696 : Nat) = 682 by decide), T0, T1, T2, T3, v1, v2, v3, v4]
      rw [← hS5]
      exact ⟨by omega, by omega, by omega, by omega, by omega, by omega, by omega, by omega, by omega, by omega, by omega, by omega, o1 (g1 hh)⟩
theorem l274a {way : Int} {n1 : Nat} {d3 : Option AV} {o : Rs} (h40 : n1 ≤ 40) : ∀ (d i : Nat) (σ : Sg), i + d = n1 → σ 682 12 = (n1 : Nat) → (∀ x, x < i → σ 693 x = -1) → (∀ s : Sg, (∀ c x, ¬ c = 693 → s c x = σ c x) → (∀ x, x < n1 → s 693 x = -1) → C274_2 way n1 d3 s o) → C274_2 way i d3 σ o := by
  intro d
  induction d with
  | zero =>
    intro i σ hi hn hv hh
    have z := hh σ (fun _ _ _ => rfl) (fun x hx => hv x (by omega))
    rw [show i = n1 by omega]
    exact z
  | succ d ih =>
    intro i σ hi hn hv hh
    refine b274_2 ?_
    rw [hn, if_pos (by omega), tn, show (i : Int) + 1 = ((i + 1 : Nat) : Int) by omega]
    refine ⟨by omega, by omega, ih (i + 1) (upS σ 693 i (-1)) (by omega) (by rw [up_a (by decide)]; exact hn) (fun x hx => ?_) (fun s h1 h2 => hh s (fun c x hc => by rw [h1 c x hc, up_a hc]) h2)⟩
    by_cases y : x = i
    · rw [y, up_s]
    · rw [up_k y]
      exact hv x (by omega)
theorem l274c {n1 : Nat} {d1 : Option AV} {F : Nat → Int} {σ : Sg} (h40 : n1 ≤ 40) (hn : σ 682 12 = (n1 : Nat)) (hF : ∀ x, x < n1 → σ 693 x = F x) : ∀ (d k : Nat) (acc : Int), k + d = n1 → 0 ≤ acc → acc ≤ (k : Int) → C274_163 d1 acc k σ (rI (acc + ((d : Int) - cnt F (-1) k d)) σ) := by
  intro d
  induction d with
  | zero =>
    intro k acc hk h0 h1
    refine b274_163 ?_
    rw [hn, if_neg (by omega), show cnt F (-1) k 0 = 0 from rfl, show acc + (((0 : Nat) : Int) - 0) = acc by omega]
  | succ d ih =>
    intro k acc hk h0 h1
    have e : cnt F (-1) k (d + 1) = (if F k = -1 then (1 : Int) else 0) + cnt F (-1) (k + 1) d := rfl
    refine b274_163 ?_
    rw [hn, if_pos (by omega), tn, hF k (by omega), e]
    refine ⟨by omega, b274_187 ?_⟩
    rw [show (k : Int) + 1 = ((k + 1 : Nat) : Int) by omega]
    by_cases y : F k = -1
    · rw [if_pos y, if_pos y, Int.add_zero, show acc + (((d + 1 : Nat) : Int) - (1 + cnt F (-1) (k + 1) d)) = acc + ((d : Int) - cnt F (-1) (k + 1) d) by omega]
      exact ⟨by omega, by omega, ih (k + 1) acc (by omega) h0 (by omega)⟩
    · rw [if_neg y, if_neg y, show acc + (((d + 1 : Nat) : Int) - (0 + cnt F (-1) (k + 1) d)) = acc + 1 + ((d : Int) - cnt F (-1) (k + 1) d) by omega]
      exact ⟨by omega, by omega, ih (k + 1) (acc + 1) (by omega) (by omega) (by omega)⟩
/-- compares -/
theorem d274 {σ : Sg} {f g : Nat → Int} {n1 n2 : Nat} {way : Int} (R : MRw σ f g n1 n2) (m12 : σ 682 12 = (n1 : Nat)) (m13 : σ 682 13 = (n2 : Nat)) : ∃ s, Dd 274 [vA 682, vI way] σ (rI ((n1 : Int) - cnt (mtc way f g n1 n2) (-1) 0 n1) s) ∧ (∀ x, x < n1 → s 693 x = mtc way f g n1 n2 x) ∧ ∀ c x, ¬ (693 ≤ c ∧ c ≤ 694) → ¬ (696 ≤ c ∧ c ≤ 699) → ¬ (c = 682 ∧ 17 ≤ x ∧ x ≤ 22) → s c x = σ c x := by
  have n40 := R.1
  have n40' := R.2.1
  obtain ⟨sA, hA⟩ : ∃ sA : Sg, sA = fun c x => if c = 693 ∧ x < n1 then -1 else σ c x := ⟨_, rfl⟩
  have main : ∀ s : Sg, (∀ c x, ¬ c = 693 → s c x = σ c x) → (∀ x, x < n1 → s 693 x = -1) → ∃ s', C274_2 way n1 none s (rI ((n1 : Int) - cnt (mtc way f g n1 n2) (-1) 0 n1) s') ∧ (∀ x, x < n1 → s' 693 x = mtc way f g n1 n2 x) ∧ ∀ c x, ¬ (693 ≤ c ∧ c ≤ 694) → ¬ (696 ≤ c ∧ c ≤ 699) → ¬ (c = 682 ∧ 17 ≤ x ∧ x ≤ 22) → s' c x = σ c x := by
    intro s h1 h2
    have u1 : upS s 682 22 0 682 12 = (n1 : Nat) := by rw [up_k (by decide), h1 _ _ (by decide)]; exact m12
    have u2 : upS s 682 22 0 682 13 = (n2 : Nat) := by rw [up_k (by decide), h1 _ _ (by decide)]; exact m13
    obtain ⟨s1, p1, w1, f1⟩ := d267 (σ := upS s 682 22 0) (L := []) (a := 0) (k := n1) (b := 0) (j := n2) ⟨by rw [up_s]; rfl, fun h q hq => by cases hq⟩ (by decide)
    have F1 : ∀ c x, ¬ c = 693 → ¬ c = 696 → ¬ (c = 682 ∧ x = 22) → s1 c x = σ c x := fun c x y1 y2 y3 => by
      rw [f1 c x y2 y3]
      have : upS s 682 22 0 c x = s c x := by
        unfold upS
        rw [if_neg y3]
      rw [this]
      exact h1 c x y1
    have R1 : MRw s1 f g n1 n2 := ⟨n40, n40', fun i hi => by rw [F1 _ _ (by decide) (by decide) (by omega)]; exact R.2.2.1 i hi, fun i hi => by rw [F1 _ _ (by decide) (by decide) (by omega)]; exact R.2.2.2 i hi⟩
    have hms : ms ([] ++ [((0, n1, 0, n2) : St)]) = 2 * (n1 - 0) + 1 + 0 := rfl
    obtain ⟨s2, g1, g2, g3⟩ := l274 (way := way) (d2 := some (vI (n1 : Nat))) (d3 := none) R1 81 ([] ++ [((0, n1, 0, n2) : St)]) (fun _ => -1) s1 (by omega) (by omega) ⟨fun r hr => by
      have e : r = (0, n1, 0, n2) := by simpa using hr
      rw [e]
      exact ⟨⟨Nat.zero_le _, Nat.zero_le _⟩, by show n1 - 0 ≤ 40; omega⟩, List.pairwise_singleton _ _⟩ (fun r hr => by
      have e : r = (0, n1, 0, n2) := by simpa using hr
      rw [e]
      exact ⟨Nat.le_refl _, Nat.le_refl _⟩) (fun x hx => by rw [f1 _ _ (by decide) (by omega), up_a (by decide)]; exact h2 x hx) w1 (fun _ _ _ _ _ => rfl)
    have g2 : ∀ x, x < n1 → s2 693 x = mtc way f g n1 n2 x := g2
    have cc := l274c (d1 := some (vI way)) (F := mtc way f g n1 n2) (σ := s2) n40 (by rw [g3 _ _ (by decide) (by decide) (by omega), F1 _ _ (by decide) (by decide) (by omega)]; exact m12) g2 n1 0 0 (by omega) (by omega) (by omega)
    rw [Int.zero_add] at cc
    refine ⟨s2, b274_2 ?_, g2, fun c x y1 y2 y3 => by rw [g3 c x y1 y2 y3]; exact F1 c x (by omega) (by omega) (by omega)⟩
    rw [h1 _ _ (by decide), m12, if_neg (by omega), u1, u2]
    exact ⟨_, p1, g1 cc⟩
  obtain ⟨s', b1, b2, b3⟩ := main sA (fun c x hc => by rw [hA]; show (if c = 693 ∧ x < n1 then (-1 : Int) else σ c x) = σ c x; rw [if_neg (fun e => hc e.1)]) (fun x hx => by rw [hA]; show (if 693 = 693 ∧ x < n1 then (-1 : Int) else σ 693 x) = -1; rw [if_pos ⟨rfl, hx⟩])
  refine ⟨s', b274 ?_, b2, b3⟩
  have key : ∀ (d i : Nat) (s : Sg), i + d = n1 → (∀ c x, s c x = if c = 693 ∧ x < i then -1 else σ c x) → C274_2 way i none s (rI ((n1 : Int) - cnt (mtc way f g n1 n2) (-1) 0 n1) s') := by
    intro d
    induction d with
    | zero =>
      intro i s hi hs
      have e : s = sA := by
        funext c x
        rw [hs, hA, show i = n1 by omega]
      rw [e, show i = n1 by omega]
      exact b1
    | succ d ih =>
      intro i s hi hs
      refine b274_2 ?_
      rw [hs 682 12, if_neg (show ¬ (682 = 693 ∧ 12 < i) by omega), m12, if_pos (by omega), tn, show (i : Int) + 1 = ((i + 1 : Nat) : Int) by omega]
      refine ⟨by omega, by omega, ih (i + 1) _ (by omega) (fun c x => ?_)⟩
      by_cases y : c = 693
      · subst y
        by_cases y2 : x = i
        · rw [y2, up_s, if_pos (by omega)]
        · rw [up_k y2, hs]
          by_cases y3 : x < i
          · rw [if_pos ⟨rfl, y3⟩, if_pos (by omega)]
          · rw [if_neg (by omega), if_neg (by omega)]
      · rw [up_a y, hs, if_neg (by omega), if_neg (by omega)]
  exact key n1 0 σ (by omega) (fun c x => by rw [if_neg (by omega)])
end
-- DRAFT 99.cmpd.lean
/-! pairOf, kept. -/
noncomputable section
theorem d236_ok {w : Int} {σ : Sg} (h : 0 ≤ w ∧ w < 3) : Dd 236 [vA 0, vI w] σ (rV σ) := by
  refine b236 ?_
  by_cases y0 : w = 0
  · rw [if_pos y0]
  · rw [if_neg y0]
    by_cases y1 : w = 1
    · rw [if_pos y1]
    · rw [if_neg y1, if_pos (by omega)]
theorem d236_x {w : Int} {σ : Sg} (h : ¬ (0 ≤ w ∧ w < 3)) : Dd 236 [vA 0, vI w] σ (rX 1 σ) := by
  refine b236 ?_
  rw [if_neg (by omega), if_neg (by omega), if_neg (by omega)]
theorem d275 {w : Int} {σ : Sg} : Dd 275 [vI w] σ (rI (if 0 ≤ w ∧ w < 3 then 1 else 0) σ) := by
  refine b275 ⟨_, _, d246, ?_, rfl⟩
  by_cases y : 0 ≤ w ∧ w < 3
  · rw [if_pos y]; exact Or.inr rfl
  · rw [if_neg y]; exact Or.inl rfl
/-- the reference: two texts compared -/
theorem d276c {t u n1 n2 : Nat} {way : Int} {σ : Sg} {f g : Nat → Int} (ht : t < 4) (hu : u < 4) (h1 : σ 684 t = (n1 : Nat)) (h2 : σ 684 u = (n2 : Nat)) (h3 : n1 ≤ 16) (h4 : n2 ≤ 16) (hf : ∀ i, i < n1 → σ 683 (16 * t + i) = f i) (hg : ∀ i, i < n2 → σ 683 (16 * u + i) = g i) : ∃ s1 s2, Dd 276 [vA 682, vI t, vI u] σ (rV s1) ∧ Dd 274 [vA 682, vI way] s1 (rI ((n1 : Int) - cnt (mtc way f g n1 n2) (-1) 0 n1) s2) ∧ (∀ x, x < n1 → s2 693 x = mtc way f g n1 n2 x) ∧ MRw s1 f g n1 n2 ∧ s1 682 12 = (n1 : Nat) ∧ s1 682 13 = (n2 : Nat) ∧ (∀ c x, ¬ c = 691 → ¬ c = 692 → ¬ (c = 682 ∧ (x = 12 ∨ x = 13)) → s1 c x = σ c x) ∧ ∀ c x, ¬ (691 ≤ c ∧ c ≤ 694) → ¬ (696 ≤ c ∧ c ≤ 699) → ¬ (c = 682 ∧ 12 ≤ x ∧ x ≤ 22) → s2 c x = σ c x := by
  obtain ⟨s1, a1, a2, a3, a4, a5, a6⟩ := d276 ht hu h1 h2 h3 h4
  have R : MRw s1 f g n1 n2 := ⟨by omega, by omega, fun i hi => by rw [a2 i hi]; exact hf i hi, fun i hi => by rw [a3 i hi]; exact hg i hi⟩
  obtain ⟨s2, e1, e2, e3⟩ := d274 (way := way) R a4 a5
  exact ⟨s1, s2, a1, e1, e2, R, a4, a5, a6, fun c x y1 y2 y3 => by rw [e3 c x (by omega) y2 (by omega), a6 c x (by omega) (by omega) (by omega)]⟩
theorem o6 {σ : Sg} {c a1 a2 a3 a4 : Int} (H : Rel c σ) : OpR 396 277 [vA 0, vI a1, vI a2, vI a3, vI a4, vA 726] [vA 682, vI a1, vI a2, vI a3, vI a4] σ (c + 1) := by
  by_cases g1 : a1 < 0
  · exact x6_0 H g1
  by_cases g2 : 4 ≤ a1
  · exact x6_1 H g2
  by_cases g3 : a2 < 0
  · exact x6_2 H (by omega) g3
  by_cases g4 : 4 ≤ a2
  · exact x6_3 H (by omega) g4
  by_cases g5 : a4 < 0
  · exact x6_4 H (by omega) (by omega) g5
  by_cases g6 : σ (2 + 2 * a1.toNat) 1 ≤ a4
  · exact x6_5 H (by omega) (by omega) g6
  obtain ⟨t, rfl⟩ := Int.eq_ofNat_of_zero_le (show 0 ≤ a1 by omega)
  obtain ⟨u, rfl⟩ := Int.eq_ofNat_of_zero_le (show 0 ≤ a2 by omega)
  obtain ⟨p, rfl⟩ := Int.eq_ofNat_of_zero_le (show 0 ≤ a4 by omega)
  rw [tn] at g6
  obtain ⟨n1, b1, r1, z1, m1, v1, -⟩ := rt_two H (t := t) (by omega)
  obtain ⟨n2, b2, r2, z2, m2, v2, -⟩ := rt_two H (t := u) (by omega)
  have e227 := d227_ok (σ := σ) (t := (t : Int)) (by omega)
  have f227 := d227_ok (σ := σ) (t := (u : Int)) (by omega)
  rw [tn] at e227 f227
  have e146 := d146 (σ := σ) r1
  rw [z1] at e146
  have e232 := d232_ok (σ := σ) (i := (p : Int)) (n := (n1 : Int)) (by omega)
  have k277 : ∀ {σ' : Sg} {o : Rs}, σ' 684 t = (n1 : Nat) → C277_33 (t : Int) (u : Int) a3 (p : Int) none none 1 σ' o → Dd 277 [vA 682, vI t, vI u, vI a3, vI p] σ' o := by
    intro σ' o hs hh
    refine b277 ⟨_, _, d247_ok (by omega), ?_⟩
    rw [if_neg (show ¬ (1 : Int) = 0 by decide)]
    refine ⟨_, _, d247_ok (by omega), ?_⟩
    rw [if_neg (show ¬ (1 : Int) = 0 by decide), tn, hs]
    refine ⟨by omega, _, _, d246, ?_⟩
    rw [if_pos (show 0 ≤ (p : Int) ∧ (p : Int) < (n1 : Nat) by omega), if_neg (show ¬ (1 : Int) = 0 by decide)]
    exact hh
  by_cases g7 : 0 ≤ a3 ∧ a3 < 3
  · obtain ⟨s1, a1', W1, a4', a5', a6'⟩ := d15 (way := a3) H.1 r1 r2 z1 z2 (by omega) (by omega) (by omega) (by omega)
    obtain ⟨M, hM⟩ : ∃ M, M = mtc a3 (σ (2 + 2 * t + 1)) (σ (2 + 2 * u + 1)) n1 n2 := ⟨_, rfl⟩
    rw [← hM] at a5'
    have q147 := d147 (σ := s1) (a := 337) (i := (p : Int)) (WF_w W1 (by decide +kernel))
    rw [at_on (n := n1) (f := M) a4' a5' (by omega)] at q147
    have hA := b396 (Or.inl ⟨_, _, b178 (Or.inl ⟨_, _, e227, r1, Or.inl ⟨_, _, f227, r2, _, _, e146, Or.inl ⟨_, e232, Or.inl ⟨_, d236_ok g7, _, _, a1', by decide +kernel, _, _, q147, rfl⟩⟩⟩⟩), rfl⟩)
    have s2m : ∀ a x, 682 ≤ a → ¬ a = 726 → ¬ (a = 682 ∧ x = 0) → upS (upS s1 726 ((0 : Int).toNat) (M p)) 682 0 0 a x = σ a x := by
      intro a x y1 y2 y3
      have : upS (upS s1 726 ((0 : Int).toNat) (M p)) 682 0 0 a x = upS s1 726 ((0 : Int).toNat) (M p) a x := by
        unfold upS
        rw [if_neg y3]
      rw [this, up_a y2]
      exact a6' a x (by omega) (by omega)
    have s1m : ∀ a x, 682 ≤ a → ¬ a = 726 → upS s1 726 ((0 : Int).toNat) (M p) a x = σ a x := fun a x y1 y2 => by
      rw [up_a y2]
      exact a6' a x (by omega) (by omega)
    obtain ⟨s3, s4, c1, c2, c3, -, -, -, -, c4⟩ := d276c (t := t) (u := u) (n1 := n1) (n2 := n2) (way := a3) (σ := upS (upS s1 726 ((0 : Int).toNat) (M p)) 682 0 0) (f := σ (2 + 2 * t + 1)) (g := σ (2 + 2 * u + 1)) (by omega) (by omega) (by rw [s2m _ _ (by decide) (by decide) (by decide)]; exact m1) (by rw [s2m _ _ (by decide) (by decide) (by decide)]; exact m2) b1 b2 (fun i hi => by rw [s2m _ _ (by decide) (by decide) (by omega)]; exact v1 i hi) (fun i hi => by rw [s2m _ _ (by decide) (by decide) (by omega)]; exact v2 i hi)
    rw [← hM] at c3
    have hoff : ∀ a x, 682 ≤ a → ¬ a = 726 → ¬ (a = 682 ∧ (x = 0 ∨ (12 ≤ x ∧ x ≤ 22))) → ¬ (691 ≤ a ∧ a ≤ 694) → ¬ (696 ≤ a ∧ a ≤ 699) → s4 a x = σ a x := by
      intro a x y1 y2 y3 y4 y5
      rw [c4 a x y4 y5 (by omega)]
      exact s2m a x y1 y2 (by omega)
    have hlo : ∀ a x, a < 682 → s4 a x = s1 a x := fun a x y => by rw [c4 a x (by omega) (by omega) (by omega), up_a (by omega), up_a (by omega)]
    refine op_fin hA (b := M p) (s2 := s4) ?_ ?_ (fun _ => ?_) (fun a x ha => ?_) (fun a x ha => hoff a x (by omega) (by omega) (by omega) (by omega) (by omega)) (Rel_sc (by omega) (WF_fr (fun a x ha => hlo a x ha) W1) (fun a x hk => ?_) H)
    · refine k277 (by rw [s1m _ _ (by decide) (by decide)]; exact m1) (b277_33 ?_)
      rw [if_neg (show ¬ (1 : Int) = 0 by decide)]
      refine ⟨_, _, d275, ?_⟩
      rw [if_pos g7, if_neg (show ¬ (1 : Int) = 0 by decide)]
      refine b277_57 ⟨_, _, d245, ?_⟩
      rw [if_pos rfl, if_neg (show ¬ (1 : Int) = 0 by decide)]
      refine ⟨s3, c1, _, s4, c2, by omega, ?_⟩
      rw [tn, c3 p (by omega)]
    · rw [c4 _ _ (by decide) (by decide) (by decide), up_s]
    · rw [c4 _ _ (by decide) (by decide) (by decide), up_a (by decide)]
      exact up_s
    · rw [up_a (by omega)]
      exact a6' a x (by omega) (by omega)
    · by_cases y : a < 682
      · rw [hlo a x y]
        exact a6' a x (by omega) (by omega)
      · exact hoff a x (by omega) (by omega) (by omega) (by omega) (by omega)
  · have hA := b396 (Or.inr (Or.inr ⟨_, b178 (Or.inl ⟨_, _, e227, r1, Or.inl ⟨_, _, f227, r2, _, _, e146, Or.inl ⟨_, e232, Or.inr ⟨_, _, d236_x g7, rfl⟩⟩⟩⟩), rfl⟩))
    refine op_x H (kx := 2) (b := 0) (by decide) hA (k277 m1 (b277_33 ?_))
    rw [if_neg (show ¬ (1 : Int) = 0 by decide)]
    refine ⟨_, _, d275, ?_⟩
    rw [if_neg g7, if_pos rfl]
    refine b277_57 ⟨_, _, d245, ?_⟩
    rw [if_neg (show ¬ (2 : Int) = 0 by decide), if_pos rfl]
theorem o7 {σ : Sg} {c a1 a2 a3 : Int} (H : Rel c σ) : OpR 397 278 [vA 0, vI a1, vI a2, vI a3, vA 726] [vA 682, vI a1, vI a2, vI a3] σ (c + 1) := by
  by_cases g1 : a1 < 0
  · exact x7_0 H g1
  by_cases g2 : 4 ≤ a1
  · exact x7_1 H g2
  by_cases g3 : a2 < 0
  · exact x7_2 H (by omega) g3
  by_cases g4 : 4 ≤ a2
  · exact x7_3 H (by omega) g4
  by_cases g5 : a3 < 0
  · exact x7_4 H (by omega) (by omega) g5
  by_cases g6 : 2 < a3
  · exact x7_5 H (by omega) (by omega) g6
  have g7 : 0 ≤ a3 ∧ a3 < 3 := by omega
  obtain ⟨t, rfl⟩ := Int.eq_ofNat_of_zero_le (show 0 ≤ a1 by omega)
  obtain ⟨u, rfl⟩ := Int.eq_ofNat_of_zero_le (show 0 ≤ a2 by omega)
  obtain ⟨n1, b1, r1, z1, m1, v1, -⟩ := rt_two H (t := t) (by omega)
  obtain ⟨n2, b2, r2, z2, m2, v2, -⟩ := rt_two H (t := u) (by omega)
  have e227 := d227_ok (σ := σ) (t := (t : Int)) (by omega)
  have f227 := d227_ok (σ := σ) (t := (u : Int)) (by omega)
  rw [tn] at e227 f227
  obtain ⟨s1, a1', W1, a4', a5', a6'⟩ := d15 (way := a3) H.1 r1 r2 z1 z2 (by omega) (by omega) (by omega) (by omega)
  obtain ⟨M, hM⟩ : ∃ M, M = mtc a3 (σ (2 + 2 * t + 1)) (σ (2 + 2 * u + 1)) n1 n2 := ⟨_, rfl⟩
  rw [← hM] at a5'
  have w337 := WF_w W1 (a := 337) (by decide +kernel)
  have q146 := d146 (σ := s1) w337.1
  rw [a4'] at q146
  have q157 := d157 (σ := s1) (R := 337) (n := n1) (a := 0) (e := n1) (f := M) (x := -1) w337 a4' a5' (Nat.zero_le _) (Nat.le_refl _)
  have q157 : Dd 157 [vA 337, vI (-1), vI 0, vI (n1 : Nat)] s1 (rI (cnt M (-1) 0 n1) s1) := q157
  have bc := cnt_b (f := M) (x := -1) n1 0
  obtain ⟨V, hV⟩ : ∃ V, V = (n1 : Int) - cnt M (-1) 0 n1 := ⟨_, rfl⟩
  have hA := b397 (Or.inl ⟨_, _, b179 (Or.inl ⟨_, _, e227, r1, Or.inl ⟨_, _, f227, r2, Or.inl ⟨_, d236_ok g7, _, _, a1', w337.1, _, _, q146, _, _, q146, _, _, q157, by omega, rfl⟩⟩⟩), rfl⟩)
  rw [← hV] at hA
  have s2m : ∀ a x, 682 ≤ a → ¬ a = 726 → ¬ (a = 682 ∧ x = 0) → upS (upS s1 726 ((0 : Int).toNat) V) 682 0 0 a x = σ a x := by
    intro a x y1 y2 y3
    have : upS (upS s1 726 ((0 : Int).toNat) V) 682 0 0 a x = upS s1 726 ((0 : Int).toNat) V a x := by
      unfold upS
      rw [if_neg y3]
    rw [this, up_a y2]
    exact a6' a x (by omega) (by omega)
  obtain ⟨s3, s4, c1, c2, c3, -, -, -, -, c4⟩ := d276c (t := t) (u := u) (n1 := n1) (n2 := n2) (way := a3) (σ := upS (upS s1 726 ((0 : Int).toNat) V) 682 0 0) (f := σ (2 + 2 * t + 1)) (g := σ (2 + 2 * u + 1)) (by omega) (by omega) (by rw [s2m _ _ (by decide) (by decide) (by decide)]; exact m1) (by rw [s2m _ _ (by decide) (by decide) (by decide)]; exact m2) b1 b2 (fun i hi => by rw [s2m _ _ (by decide) (by decide) (by omega)]; exact v1 i hi) (fun i hi => by rw [s2m _ _ (by decide) (by decide) (by omega)]; exact v2 i hi)
  rw [← hM, ← hV] at c2
  have hoff : ∀ a x, 682 ≤ a → ¬ a = 726 → ¬ (a = 682 ∧ (x = 0 ∨ (12 ≤ x ∧ x ≤ 22))) → ¬ (691 ≤ a ∧ a ≤ 694) → ¬ (696 ≤ a ∧ a ≤ 699) → s4 a x = σ a x := by
    intro a x y1 y2 y3 y4 y5
    rw [c4 a x y4 y5 (by omega)]
    exact s2m a x y1 y2 (by omega)
  have hlo : ∀ a x, a < 682 → s4 a x = s1 a x := fun a x y => by rw [c4 a x (by omega) (by omega) (by omega), up_a (by omega), up_a (by omega)]
  refine op_fin hA (b := V) (s2 := s4) ?_ ?_ (fun _ => ?_) (fun a x ha => ?_) (fun a x ha => hoff a x (by omega) (by omega) (by omega) (by omega) (by omega)) (Rel_sc (by omega) (WF_fr (fun a x ha => hlo a x ha) W1) (fun a x hk => ?_) H)
  · refine b278 ⟨_, _, d247_ok (by omega), ?_⟩
    rw [if_neg (show ¬ (1 : Int) = 0 by decide)]
    refine ⟨_, _, d247_ok (by omega), ?_⟩
    rw [if_neg (show ¬ (1 : Int) = 0 by decide)]
    refine ⟨_, _, d275, ?_⟩
    rw [if_pos g7, if_neg (show ¬ (1 : Int) = 0 by decide)]
    refine b278_31 ⟨_, _, d245, ?_⟩
    rw [if_pos rfl, if_neg (show ¬ (1 : Int) = 0 by decide)]
    exact ⟨s3, c1, _, s4, c2, rfl⟩
  · rw [c4 _ _ (by decide) (by decide) (by decide), up_s]
  · rw [c4 _ _ (by decide) (by decide) (by decide), up_a (by decide)]
    exact up_s
  · rw [up_a (by omega)]
    exact a6' a x (by omega) (by omega)
  · by_cases y : a < 682
    · rw [hlo a x y]
      exact a6' a x (by omega) (by omega)
    · exact hoff a x (by omega) (by omega) (by omega) (by omega) (by omega)
end
