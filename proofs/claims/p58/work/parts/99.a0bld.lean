/-! A patch that is built line by line. -/
noncomputable section
theorem ga {l : List Int} {a v : Int} {i : Nat} (h : (l ++ [a])[i]? = some v) : (i < l.length ∧ l[i]? = some v) ∨ (i = l.length ∧ v = a) := by
  by_cases hi : i < l.length
  · rw [List.getElem?_append_left hi] at h
    exact Or.inl ⟨hi, h⟩
  · have hle : (l ++ [a]).length = l.length + 1 := by simp
    have hi2 := (List.getElem?_eq_some_iff.mp h).1
    have e : i = l.length := by omega
    rw [e, List.getElem?_append_right (Nat.le_refl _), Nat.sub_self] at h
    have h : a = v := by simpa using h
    exact Or.inr ⟨e, h.symm⟩
theorem ga_l {l : List Int} {a v : Int} {i : Nat} (h : l[i]? = some v) : (l ++ [a])[i]? = some v := by
  rw [List.getElem?_append_left (List.getElem?_eq_some_iff.mp h).1]
  exact h
theorem ga_r {l : List Int} {a : Int} {i : Nat} (h : i = l.length) : (l ++ [a])[i]? = some a := by
  rw [h, List.getElem?_append_right (Nat.le_refl _), Nat.sub_self]
  rfl
theorem g_lt {l : List Int} {v : Int} {i : Nat} (h : l[i]? = some v) : i < l.length := (List.getElem?_eq_some_iff.mp h).1
/-- old lines, new lines, and what is paired -/
def okW (bf af fo bk : List Int) : Prop := fo.length = bf.length ∧ bk.length = af.length ∧ (∀ (i : Nat) (v : Int), fo[i]? = some v → v = -1 ∨ ∃ j : Nat, v = (j : Int) ∧ bk[j]? = some (i : Int) ∧ ∃ y, bf[i]? = some y ∧ af[j]? = some y) ∧ (∀ (j : Nat) (v : Int), bk[j]? = some v → v = -1 ∨ ∃ i : Nat, v = (i : Int) ∧ fo[i]? = some (j : Int)) ∧ ∀ (i i' : Nat) (v v' : Int), i < i' → fo[i]? = some v → fo[i']? = some v' → ¬ v = -1 → ¬ v' = -1 → v < v'
theorem okW_0 : okW [] [] [] [] := ⟨rfl, rfl, fun i v h => by simp at h, fun i v h => by simp at h, fun i i' v v' _ h => by simp at h⟩
theorem okW_k {bf af fo bk : List Int} (x : Int) (H : okW bf af fo bk) : okW (bf ++ [x]) (af ++ [x]) (fo ++ [(af.length : Int)]) (bk ++ [(bf.length : Int)]) := by
  obtain ⟨h1, h2, h3, h4, h5⟩ := H
  refine ⟨by simp [h1], by simp [h2], fun i v h => ?_, fun j v h => ?_, fun i i' v v' hi h h' n n' => ?_⟩
  · rcases ga h with ⟨l1, g⟩ | ⟨e, g⟩
    · rcases h3 i v g with z | ⟨j, z1, z2, y, z3, z4⟩
      · exact Or.inl z
      · exact Or.inr ⟨j, z1, ga_l z2, y, ga_l z3, ga_l z4⟩
    · refine Or.inr ⟨af.length, g, ?_, x, ga_r (by omega), ga_r rfl⟩
      rw [e, h1]
      exact ga_r (by omega)
  · rcases ga h with ⟨l1, g⟩ | ⟨e, g⟩
    · rcases h4 j v g with z | ⟨i, z1, z2⟩
      · exact Or.inl z
      · exact Or.inr ⟨i, z1, ga_l z2⟩
    · refine Or.inr ⟨bf.length, g, ?_⟩
      rw [e, h2]
      exact ga_r (by omega)
  · rcases ga h with ⟨l1, g⟩ | ⟨e, g⟩
    · rcases ga h' with ⟨l2, g'⟩ | ⟨e', g'⟩
      · exact h5 i i' v v' hi g g' n n'
      · rcases h3 i v g with z | ⟨j, z1, z2, -⟩
        · exact absurd z n
        · have := g_lt z2
          omega
    · have := g_lt h'
      rw [List.length_append] at this
      simp at this
      omega
theorem okW_d {bf af fo bk : List Int} (x : Int) (H : okW bf af fo bk) : okW (bf ++ [x]) af (fo ++ [-1]) bk := by
  obtain ⟨h1, h2, h3, h4, h5⟩ := H
  refine ⟨by simp [h1], h2, fun i v h => ?_, fun j v h => ?_, fun i i' v v' hi h h' n n' => ?_⟩
  · rcases ga h with ⟨l1, g⟩ | ⟨e, g⟩
    · rcases h3 i v g with z | ⟨j, z1, z2, y, z3, z4⟩
      · exact Or.inl z
      · exact Or.inr ⟨j, z1, z2, y, ga_l z3, z4⟩
    · exact Or.inl g
  · rcases h4 j v h with z | ⟨i, z1, z2⟩
    · exact Or.inl z
    · exact Or.inr ⟨i, z1, ga_l z2⟩
  · rcases ga h with ⟨l1, g⟩ | ⟨e, g⟩
    · rcases ga h' with ⟨l2, g'⟩ | ⟨e', g'⟩
      · exact h5 i i' v v' hi g g' n n'
      · exact absurd g' n'
    · exact absurd g n
theorem okW_g {bf af fo bk : List Int} (x : Int) (H : okW bf af fo bk) : okW bf (af ++ [x]) fo (bk ++ [-1]) := by
  obtain ⟨h1, h2, h3, h4, h5⟩ := H
  refine ⟨h1, by simp [h2], fun i v h => ?_, fun j v h => ?_, h5⟩
  · rcases h3 i v h with z | ⟨j, z1, z2, y, z3, z4⟩
    · exact Or.inl z
    · exact Or.inr ⟨j, z1, ga_l z2, y, z3, ga_l z4⟩
  · rcases ga h with ⟨l1, g⟩ | ⟨e, g⟩
    · exact h4 j v g
    · exact Or.inl g
def BI (σ : Sg) (P : Nat) (bf af fo bk : List Int) : Prop := Rw σ (P + 1) bf ∧ Rw σ (P + 3) af ∧ Rw σ (P + 5) fo ∧ Rw σ (P + 7) bk
theorem BI_fr {σ s : Sg} {P : Nat} {bf af fo bk : List Int} (h : ∀ c k, P + 1 ≤ c ∧ c ≤ P + 8 → s c k = σ c k) (B : BI σ P bf af fo bk) : BI s P bf af fo bk := by
  obtain ⟨b1, b2, b3, b4⟩ := B
  exact ⟨Rw_fr (h _ _ (by omega)) (fun i => h _ _ (by omega)) b1, Rw_fr (h _ _ (by omega)) (fun i => h _ _ (by omega)) b2, Rw_fr (h _ _ (by omega)) (fun i => h _ _ (by omega)) b3, Rw_fr (h _ _ (by omega)) (fun i => h _ _ (by omega)) b4⟩
theorem Rw_ad2 {σ : Sg} {a b : Nat} {l : List Int} {v : Int} (h : ¬ b = a) (h2 : ¬ b = a + 1) (h3 : ¬ b + 1 = a) (H : Rw σ b l) : Rw (adS σ a v) b l := Rw_fr (ad_off h h2) (fun i => ad_off h3 (by omega)) H
/-- the capacities of a scratch patch -/
def WDp (P : Nat) : Prop := isPatch P = true ∧ cap (P + 1) = 96 ∧ cap (P + 3) = 96 ∧ cap (P + 5) = 96 ∧ cap (P + 7) = 96 ∧ cap (P + 9) = 388
theorem WDp351 : WDp 351 := cpS351
theorem WDp364 : WDp 364 := cpS364
/-- Patch.begin -/
theorem d90 {σ : Sg} {P : Nat} (hP : isPatch P = true) : ∃ s, Dd 90 [vA P] σ (rV s) ∧ BI s P [] [] [] [] ∧ ∀ c k, ¬ (P + 1 ≤ c ∧ c ≤ P + 8) → s c k = σ c k := by
  refine ⟨_, b90 hP ⟨_, d152 (pat_1 hP), _, d152 (pat_3 hP), _, d152 (pat_5 hP), _, d152 (pat_7 hP), rfl⟩, ⟨⟨?_, fun i v h => by simp at h⟩, ⟨?_, fun i v h => by simp at h⟩, ⟨?_, fun i v h => by simp at h⟩, ⟨?_, fun i v h => by simp at h⟩⟩, fun c k h => ?_⟩
  · rw [up_a (by omega), up_a (by omega), up_a (by omega), up_s]; rfl
  · rw [up_a (by omega), up_a (by omega), up_s]; rfl
  · rw [up_a (by omega), up_s]; rfl
  · rw [up_s]; rfl
  · rw [up_a (by omega), up_a (by omega), up_a (by omega), up_a (by omega)]
/-- Patch.keep -/
theorem d91 {σ : Sg} {P : Nat} {x : Int} {bf af fo bk : List Int} (W : WDp P) (B : BI σ P bf af fo bk) (h1 : bf.length < 96) (h2 : af.length < 96) (h3 : fo.length < 96) (h4 : bk.length < 96) : ∃ s, Dd 91 [vA P, vI x] σ (rV s) ∧ BI s P (bf ++ [x]) (af ++ [x]) (fo ++ [(af.length : Int)]) (bk ++ [(bf.length : Int)]) ∧ ∀ c k, ¬ (P + 1 ≤ c ∧ c ≤ P + 8) → s c k = σ c k := by
  obtain ⟨hP, c1, c3, c5, c7, -⟩ := W
  obtain ⟨B1, B3, B5, B7⟩ := B
  have p1 := pat_1 hP
  have p3 := pat_3 hP
  have p5 := pat_5 hP
  have p7 := pat_7 hP
  have q1 := d146 (σ := σ) p3
  rw [B3.1] at q1
  obtain ⟨s1, e1⟩ : ∃ s1, s1 = adS σ (P + 5) (af.length : Int) := ⟨_, rfl⟩
  have f1 : ∀ c k, ¬ c = P + 5 → ¬ c = P + 6 → s1 c k = σ c k := fun c k a b => by rw [e1]; exact ad_off a b
  have q2 := d149 (v := (af.length : Int)) (Rw_wR p5 B5 (by omega))
  rw [← e1] at q2
  have r5 := Rw_ad (v := (af.length : Int)) B5 (by omega)
  rw [← e1] at r5
  have q3 := d146 (σ := s1) p1
  rw [f1 _ _ (by omega) (by omega), B1.1] at q3
  have B7' : Rw s1 (P + 7) bk := Rw_fr (f1 _ _ (by omega) (by omega)) (fun i => f1 _ _ (by omega) (by omega)) B7
  obtain ⟨s2, e2⟩ : ∃ s2, s2 = adS s1 (P + 7) (bf.length : Int) := ⟨_, rfl⟩
  have f2 : ∀ c k, ¬ c = P + 7 → ¬ c = P + 8 → s2 c k = s1 c k := fun c k a b => by rw [e2]; exact ad_off a b
  have q4 := d149 (v := (bf.length : Int)) (Rw_wR p7 B7' (by omega))
  rw [← e2] at q4
  have r7 := Rw_ad (v := (bf.length : Int)) B7' (by omega)
  rw [← e2] at r7
  have B1' : Rw s2 (P + 1) bf := Rw_fr (by rw [f2 _ _ (by omega) (by omega), f1 _ _ (by omega) (by omega)]) (fun i => by rw [f2 _ _ (by omega) (by omega), f1 _ _ (by omega) (by omega)]) B1
  obtain ⟨s3, e3⟩ : ∃ s3, s3 = adS s2 (P + 1) x := ⟨_, rfl⟩
  have f3 : ∀ c k, ¬ c = P + 1 → ¬ c = P + 2 → s3 c k = s2 c k := fun c k a b => by rw [e3]; exact ad_off a b
  have q5 := d149 (v := x) (Rw_wR p1 B1' (by omega))
  rw [← e3] at q5
  have r1 := Rw_ad (v := x) B1' (by omega)
  rw [← e3] at r1
  have B3' : Rw s3 (P + 3) af := Rw_fr (by rw [f3 _ _ (by omega) (by omega), f2 _ _ (by omega) (by omega), f1 _ _ (by omega) (by omega)]) (fun i => by rw [f3 _ _ (by omega) (by omega), f2 _ _ (by omega) (by omega), f1 _ _ (by omega) (by omega)]) B3
  obtain ⟨s4, e4⟩ : ∃ s4, s4 = adS s3 (P + 3) x := ⟨_, rfl⟩
  have f4 : ∀ c k, ¬ c = P + 3 → ¬ c = P + 4 → s4 c k = s3 c k := fun c k a b => by rw [e4]; exact ad_off a b
  have q6 := d149 (v := x) (Rw_wR p3 B3' (by omega))
  rw [← e4] at q6
  have r3 := Rw_ad (v := x) B3' (by omega)
  rw [← e4] at r3
  refine ⟨s4, b91 hP ⟨_, _, q1, _, q2, _, _, q3, _, q4, _, q5, _, q6, rfl⟩, ⟨Rw_fr (f4 _ _ (by omega) (by omega)) (fun i => f4 _ _ (by omega) (by omega)) r1, r3, Rw_fr (by rw [f4 _ _ (by omega) (by omega), f3 _ _ (by omega) (by omega), f2 _ _ (by omega) (by omega)]) (fun i => by rw [f4 _ _ (by omega) (by omega), f3 _ _ (by omega) (by omega), f2 _ _ (by omega) (by omega)]) r5, Rw_fr (by rw [f4 _ _ (by omega) (by omega), f3 _ _ (by omega) (by omega)]) (fun i => by rw [f4 _ _ (by omega) (by omega), f3 _ _ (by omega) (by omega)]) r7⟩, fun c k h => by rw [f4 c k (by omega) (by omega), f3 c k (by omega) (by omega), f2 c k (by omega) (by omega), f1 c k (by omega) (by omega)]⟩
/-- Patch.drop -/
theorem d92 {σ : Sg} {P : Nat} {x : Int} {bf af fo bk : List Int} (W : WDp P) (B : BI σ P bf af fo bk) (h1 : bf.length < 96) (h3 : fo.length < 96) : ∃ s, Dd 92 [vA P, vI x] σ (rV s) ∧ BI s P (bf ++ [x]) af (fo ++ [-1]) bk ∧ ∀ c k, ¬ (P + 1 ≤ c ∧ c ≤ P + 8) → s c k = σ c k := by
  obtain ⟨hP, c1, c3, c5, c7, -⟩ := W
  obtain ⟨B1, B3, B5, B7⟩ := B
  have p1 := pat_1 hP
  have p5 := pat_5 hP
  obtain ⟨s1, e1⟩ : ∃ s1, s1 = adS σ (P + 5) (-1) := ⟨_, rfl⟩
  have f1 : ∀ c k, ¬ c = P + 5 → ¬ c = P + 6 → s1 c k = σ c k := fun c k a b => by rw [e1]; exact ad_off a b
  have q2 := d149 (v := -1) (Rw_wR p5 B5 (by omega))
  rw [← e1] at q2
  have r5 := Rw_ad (v := -1) B5 (by omega)
  rw [← e1] at r5
  have B1' : Rw s1 (P + 1) bf := Rw_fr (f1 _ _ (by omega) (by omega)) (fun i => f1 _ _ (by omega) (by omega)) B1
  obtain ⟨s3, e3⟩ : ∃ s3, s3 = adS s1 (P + 1) x := ⟨_, rfl⟩
  have f3 : ∀ c k, ¬ c = P + 1 → ¬ c = P + 2 → s3 c k = s1 c k := fun c k a b => by rw [e3]; exact ad_off a b
  have q5 := d149 (v := x) (Rw_wR p1 B1' (by omega))
  rw [← e3] at q5
  have r1 := Rw_ad (v := x) B1' (by omega)
  rw [← e3] at r1
  refine ⟨s3, b92 hP ⟨_, q2, _, q5, rfl⟩, ⟨r1, Rw_fr (by rw [f3 _ _ (by omega) (by omega), f1 _ _ (by omega) (by omega)]) (fun i => by rw [f3 _ _ (by omega) (by omega), f1 _ _ (by omega) (by omega)]) B3, Rw_fr (f3 _ _ (by omega) (by omega)) (fun i => f3 _ _ (by omega) (by omega)) r5, Rw_fr (by rw [f3 _ _ (by omega) (by omega), f1 _ _ (by omega) (by omega)]) (fun i => by rw [f3 _ _ (by omega) (by omega), f1 _ _ (by omega) (by omega)]) B7⟩, fun c k h => by rw [f3 c k (by omega) (by omega), f1 c k (by omega) (by omega)]⟩
/-- Patch.gain -/
theorem d93 {σ : Sg} {P : Nat} {x : Int} {bf af fo bk : List Int} (W : WDp P) (B : BI σ P bf af fo bk) (h2 : af.length < 96) (h4 : bk.length < 96) : ∃ s, Dd 93 [vA P, vI x] σ (rV s) ∧ BI s P bf (af ++ [x]) fo (bk ++ [-1]) ∧ ∀ c k, ¬ (P + 1 ≤ c ∧ c ≤ P + 8) → s c k = σ c k := by
  obtain ⟨hP, c1, c3, c5, c7, -⟩ := W
  obtain ⟨B1, B3, B5, B7⟩ := B
  have p3 := pat_3 hP
  have p7 := pat_7 hP
  obtain ⟨s1, e1⟩ : ∃ s1, s1 = adS σ (P + 7) (-1) := ⟨_, rfl⟩
  have f1 : ∀ c k, ¬ c = P + 7 → ¬ c = P + 8 → s1 c k = σ c k := fun c k a b => by rw [e1]; exact ad_off a b
  have q2 := d149 (v := -1) (Rw_wR p7 B7 (by omega))
  rw [← e1] at q2
  have r7 := Rw_ad (v := -1) B7 (by omega)
  rw [← e1] at r7
  have B3' : Rw s1 (P + 3) af := Rw_fr (f1 _ _ (by omega) (by omega)) (fun i => f1 _ _ (by omega) (by omega)) B3
  obtain ⟨s3, e3⟩ : ∃ s3, s3 = adS s1 (P + 3) x := ⟨_, rfl⟩
  have f3 : ∀ c k, ¬ c = P + 3 → ¬ c = P + 4 → s3 c k = s1 c k := fun c k a b => by rw [e3]; exact ad_off a b
  have q5 := d149 (v := x) (Rw_wR p3 B3' (by omega))
  rw [← e3] at q5
  have r3 := Rw_ad (v := x) B3' (by omega)
  rw [← e3] at r3
  refine ⟨s3, b93 hP ⟨_, q2, _, q5, rfl⟩, ⟨Rw_fr (by rw [f3 _ _ (by omega) (by omega), f1 _ _ (by omega) (by omega)]) (fun i => by rw [f3 _ _ (by omega) (by omega), f1 _ _ (by omega) (by omega)]) B1, r3, Rw_fr (by rw [f3 _ _ (by omega) (by omega), f1 _ _ (by omega) (by omega)]) (fun i => by rw [f3 _ _ (by omega) (by omega), f1 _ _ (by omega) (by omega)]) B5, Rw_fr (f3 _ _ (by omega) (by omega)) (fun i => f3 _ _ (by omega) (by omega)) r7⟩, fun c k h => by rw [f3 c k (by omega) (by omega), f1 c k (by omega) (by omega)]⟩
/-- a patch that was built, and finished -/
theorem d94_bi {σ : Sg} {P : Nat} {bf af fo bk : List Int} (W : WDp P) (B : BI σ P bf af fo bk) (K : okW bf af fo bk) (h1 : bf.length ≤ 96) (h2 : af.length ≤ 96) : ∃ s, Dd 94 [vA P] σ (rV s) ∧ NP s P bf.length af.length ∧ wR s (P + 9) ∧ (∀ i v, bf[i]? = some v → s (P + 2) i = v) ∧ (∀ i v, af[i]? = some v → s (P + 4) i = v) ∧ (∀ i v, fo[i]? = some v → s (P + 6) i = v) ∧ (∀ i, i < bf.length → ¬ s (P + 6) i = -1 → s (P + 2) i = s (P + 4) (s (P + 6) i).toNat) ∧ ∀ c k, ¬ c = P + 9 → ¬ c = P + 10 → s c k = σ c k := by
  obtain ⟨hP, c1, c3, c5, c7, c9⟩ := W
  obtain ⟨B1, B3, B5, B7⟩ := B
  obtain ⟨k1, k2, k3, k4, k5⟩ := K
  have v5 : ∀ i, i < bf.length → ∃ v, fo[i]? = some v ∧ σ (P + 6) i = v := fun i hi => ⟨_, List.getElem?_eq_getElem (by omega), B5.2 i _ (List.getElem?_eq_getElem (by omega))⟩
  have v7 : ∀ i, i < af.length → ∃ v, bk[i]? = some v ∧ σ (P + 8) i = v := fun i hi => ⟨_, List.getElem?_eq_getElem (by omega), B7.2 i _ (List.getElem?_eq_getElem (by omega))⟩
  have V : VF (σ (P + 6)) bf.length af.length := by
    refine ⟨fun i hi => ?_, fun i i' h1 h2 h3 h4 => ?_⟩
    · obtain ⟨v, g1, g2⟩ := v5 i hi
      rw [g2]
      rcases k3 i v g1 with z | ⟨j, z1, z2, -⟩
      · exact Or.inl z
      · have := g_lt z2
        right; omega
    · obtain ⟨v, g1, g2⟩ := v5 i (by omega)
      obtain ⟨v', g3, g4⟩ := v5 i' h2
      rw [g2] at h3 ⊢
      rw [g4] at h4 ⊢
      exact k5 i i' v v' h1 g1 g3 h3 h4
  have I : IV (σ (P + 6)) (σ (P + 8)) bf.length af.length := by
    refine ⟨fun j hj => ?_, fun i hi hne => ?_⟩
    · obtain ⟨v, g1, g2⟩ := v7 j hj
      rw [g2]
      rcases k4 j v g1 with z | ⟨i, z1, z2⟩
      · exact Or.inl z
      · have hl := g_lt z2
        refine Or.inr ⟨by omega, by omega, ?_⟩
        rw [z1, show ((i : Nat) : Int).toNat = i by omega]
        exact B5.2 i _ z2
    · obtain ⟨v, g1, g2⟩ := v5 i hi
      rw [g2] at hne ⊢
      rcases k3 i v g1 with z | ⟨j, z1, z2, -⟩
      · exact absurd z hne
      · rw [z1, show ((j : Nat) : Int).toNat = j by omega]
        exact B7.2 j _ z2
  have z5 : σ (P + 5) 1 = (bf.length : Nat) := by rw [B5.1]; omega
  have z7 : σ (P + 7) 1 = (af.length : Nat) := by rw [B7.1]; omega
  obtain ⟨s, a1, a2, a3, a4⟩ := d94 hP B1.1 B3.1 z5 z7 (Rw_wR (pat_5 hP) B5 (by omega)) (Rw_wR (pat_7 hP) B7 (by omega)) V I (by omega)
  have s6 : s (P + 6) = σ (P + 6) := funext fun k => a4 _ _ (by omega) (by omega)
  have s8 : s (P + 8) = σ (P + 8) := funext fun k => a4 _ _ (by omega) (by omega)
  refine ⟨s, a1, ⟨by rw [a4 _ _ (by omega) (by omega)]; exact B1.1, by rw [a4 _ _ (by omega) (by omega)]; exact B3.1, by rw [a4 _ _ (by omega) (by omega)]; exact z5, by rw [a4 _ _ (by omega) (by omega)]; exact z7, by rw [s6]; exact V, by rw [s6, s8]; exact I, a2⟩, a3, fun i v h => by rw [a4 _ _ (by omega) (by omega)]; exact B1.2 i v h, fun i v h => by rw [a4 _ _ (by omega) (by omega)]; exact B3.2 i v h, fun i v h => by rw [a4 _ _ (by omega) (by omega)]; exact B5.2 i v h, fun i hi hne => ?_, a4⟩
  obtain ⟨v, g1, g2⟩ := v5 i hi
  rw [s6, g2] at hne ⊢
  rcases k3 i v g1 with z | ⟨j, z1, z2, y, z3, z4⟩
  · exact absurd z hne
  · rw [z1, show ((j : Nat) : Int).toNat = j by omega, a4 _ _ (by omega) (by omega), a4 _ _ (by omega) (by omega)]
    have e1 : σ (P + 2) i = y := B1.2 i y z3
    have e2 : σ (P + 4) j = y := B3.2 j y z4
    rw [e1, e2]
end
