/-! Patches as pure things, and two of them exchanged. -/
noncomputable section
/-- the inverse of pairs -/
def ivF (F : Nat → Int) : Nat → Nat → Int
  | 0, _ => -1
  | n + 1, j => if F n = (j : Int) then (n : Int) else ivF F n j
theorem ivF_eq {F K : Nat → Int} {nb na : Nat} (I : IV F K nb na) {j : Nat} (hj : j < na) : ∀ n, n ≤ nb → (∀ i, n ≤ i → i < nb → ¬ F i = (j : Int)) → ivF F n j = K j := by
  intro n
  induction n with
  | zero =>
    intro _ h
    show (-1 : Int) = _
    rcases I.1 j hj with z | ⟨z1, z2, z3⟩
    · exact z.symm
    · exact absurd z3 (h (K j).toNat (by omega) (by omega))
  | succ n ih =>
    intro hn h
    show (if F n = (j : Int) then (n : Int) else ivF F n j) = _
    by_cases y : F n = (j : Int)
    · rw [if_pos y]
      have z := I.2 n (by omega) (by omega)
      rw [y] at z
      exact z.symm
    · rw [if_neg y]
      refine ih (by omega) (fun i h1 h2 => ?_)
      by_cases e : i = n
      · subst e; exact y
      · exact h i (by omega) h2
theorem ivF_k {F K : Nat → Int} {nb na : Nat} (I : IV F K nb na) {j : Nat} (hj : j < na) : ivF F nb j = K j := ivF_eq I hj nb (Nat.le_refl _) (fun i h1 h2 => absurd h1 (by omega))
theorem ivF_cg {F F' : Nat → Int} {j : Nat} : ∀ n, (∀ i, i < n → F i = F' i) → ivF F n j = ivF F' n j := by
  intro n
  induction n with
  | zero => intro _; rfl
  | succ n ih =>
    intro h
    show (if F n = (j : Int) then (n : Int) else ivF F n j) = (if F' n = (j : Int) then (n : Int) else ivF F' n j)
    rw [h n (by omega), ih (fun i hi => h i (by omega))]
theorem IV_iv {F K : Nat → Int} {nb na : Nat} (I : IV F K nb na) (V : VF F nb na) : IV F (ivF F nb) nb na := by
  refine ⟨fun j hj => ?_, fun i hi e => ?_⟩
  · rw [ivF_k I hj]; exact I.1 j hj
  · have z := V.1 i hi
    rw [ivF_k I (by omega)]
    exact I.2 i hi e
theorem mvW_cg {F K G L X Y Z F' K' G' L' X' Y' Z' : Nat → Int} {nb na nc : Nat} (hF : ∀ i, i < nb → F i = F' i) (hK : ∀ i, i < na → K i = K' i) (hG : ∀ i, i < na → G i = G' i) (hL : ∀ i, i < nc → L i = L' i) (hX : ∀ i, i < nb → X i = X' i) (hY : ∀ i, i < na → Y i = Y' i) (hZ : ∀ i, i < nc → Z i = Z' i) : ∀ (w i j k : Nat) (b M f a g : List Int), mvW F K G L X Y Z nb na nc w i j k b M f a g = mvW F' K' G' L' X' Y' Z' nb na nc w i j k b M f a g := by
  intro w
  induction w with
  | zero => intro i j k b M f a g; rfl
  | succ w ih =>
    intro i j k b M f a g
    rw [mvW_s, mvW_s]
    by_cases c1 : i < nb ∧ F i = -1
    · rw [if_pos c1, if_pos (by rw [← hF i c1.1]; exact c1), ih, hX i c1.1]
    rw [if_neg c1, if_neg (show ¬ (i < nb ∧ F' i = -1) from fun e => c1 ⟨e.1, by rw [hF i e.1]; exact e.2⟩)]
    by_cases c2 : j < na ∧ K j = -1
    · rw [if_pos c2, if_pos (by rw [← hK j c2.1]; exact c2), ih, hY j c2.1]
    rw [if_neg c2, if_neg (show ¬ (j < na ∧ K' j = -1) from fun e => c2 ⟨e.1, by rw [hK j e.1]; exact e.2⟩)]
    by_cases c3 : j < na ∧ G j = -1
    · rw [if_pos c3, if_pos (by rw [← hG j c3.1]; exact c3), ih, hY j c3.1]
    rw [if_neg c3, if_neg (show ¬ (j < na ∧ G' j = -1) from fun e => c3 ⟨e.1, by rw [hG j e.1]; exact e.2⟩)]
    by_cases c4 : k < nc ∧ L k = -1
    · rw [if_pos c4, if_pos (by rw [← hL k c4.1]; exact c4), ih, hZ k c4.1]
    rw [if_neg c4, if_neg (show ¬ (k < nc ∧ L' k = -1) from fun e => c4 ⟨e.1, by rw [hL k e.1]; exact e.2⟩)]
    by_cases c5 : j < na
    · rw [if_pos c5, if_pos c5, ih, hY j c5]
    rw [if_neg c5, if_neg c5, ih]
theorem mvW_ok {F K G L X Y Z : Nat → Int} {nb na nc : Nat} : ∀ (w i j k : Nat) (b M f a g k1 k2 : List Int), okW b M f k1 → okW M a g k2 → ∃ k3 k4, okW (mvW F K G L X Y Z nb na nc w i j k b M f a g).1 (mvW F K G L X Y Z nb na nc w i j k b M f a g).2.1 (mvW F K G L X Y Z nb na nc w i j k b M f a g).2.2.1 k3 ∧ okW (mvW F K G L X Y Z nb na nc w i j k b M f a g).2.1 (mvW F K G L X Y Z nb na nc w i j k b M f a g).2.2.2.1 (mvW F K G L X Y Z nb na nc w i j k b M f a g).2.2.2.2 k4 := by
  intro w
  induction w with
  | zero => intro i j k b M f a g k1 k2 h1 h2; exact ⟨k1, k2, h1, h2⟩
  | succ w ih =>
    intro i j k b M f a g k1 k2 h1 h2
    rw [mvW_s]
    split
    · exact ih _ _ _ _ _ _ _ _ _ _ (okW_k _ h1) (okW_d _ h2)
    split
    · exact ih _ _ _ _ _ _ _ _ _ _ h1 (okW_g _ h2)
    split
    · exact ih _ _ _ _ _ _ _ _ _ _ (okW_d _ h1) h2
    split
    · exact ih _ _ _ _ _ _ _ _ _ _ (okW_g _ h1) (okW_k _ h2)
    split
    · exact ih _ _ _ _ _ _ _ _ _ _ (okW_k _ h1) (okW_k _ h2)
    · exact ih _ _ _ _ _ _ _ _ _ _ h1 h2
theorem okW_vf {bf af fo bk : List Int} (H : okW bf af fo bk) : VF (gv fo) bf.length af.length ∧ IV (gv fo) (gv bk) bf.length af.length ∧ EQL (gv bf) (gv af) (gv fo) bf.length := by
  obtain ⟨h1, h2, h3, h4, h5⟩ := H
  have p1 : ∀ i, i < bf.length → gv fo i = -1 ∨ ∃ j : Nat, gv fo i = (j : Int) ∧ j < af.length ∧ gv bk j = (i : Int) ∧ gv bf i = gv af j := by
    intro i hi
    rcases h3 i _ (gv_at (by omega)) with z | ⟨j, z1, z2, y, z3, z4⟩
    · exact Or.inl z
    · refine Or.inr ⟨j, z1, ?_, gv_v z2, by rw [gv_v z3, gv_v z4]⟩
      exact (List.getElem?_eq_some_iff.mp z4).1
  refine ⟨⟨fun i hi => ?_, fun i i' hlt hi e1 e2 => ?_⟩, ⟨fun j hj => ?_, fun i hi e => ?_⟩, fun i hi e => ?_⟩
  · rcases p1 i hi with z | ⟨j, z1, z2, -⟩
    · exact Or.inl z
    · exact Or.inr (by omega)
  · exact h5 i i' _ _ hlt (gv_at (by omega)) (gv_at (by omega)) e1 e2
  · rcases h4 j _ (gv_at (by omega)) with z | ⟨i, z1, z2⟩
    · exact Or.inl z
    · have hi := (List.getElem?_eq_some_iff.mp z2).1
      refine Or.inr ⟨by omega, by omega, ?_⟩
      rw [z1, show ((i : Nat) : Int).toNat = i from tn _]
      exact gv_v z2
  · rcases p1 i hi with z | ⟨j, z1, z2, z3, -⟩
    · exact absurd z e
    · rw [z1, show ((j : Nat) : Int).toNat = j from tn _]
      exact z3
  · rcases p1 i hi with z | ⟨j, z1, z2, z3, z4⟩
    · exact absurd z e
    · rw [z1, show ((j : Nat) : Int).toNat = j from tn _]
      exact z4
/-- a patch: how long its texts are, the texts, the pairs -/
abbrev Pt := Nat × Nat × (Nat → Int) × (Nat → Int) × (Nat → Int)
def okP (p : Pt) : Prop := VF p.2.2.2.2 p.1 p.2.1 ∧ (∃ K, IV p.2.2.2.2 K p.1 p.2.1) ∧ EQL p.2.2.1 p.2.2.2.1 p.2.2.2.2 p.1 ∧ (∀ i, i < p.1 → isLn (p.2.2.1 i) = true) ∧ (∀ i, i < p.2.1 → isLn (p.2.2.2.1 i) = true) ∧ p.2.1 ≤ p.1 + 16
/-- one behind the other -/
def chP (p q : Pt) : Prop := q.1 = p.2.1 ∧ ∀ x, x < p.2.1 → p.2.2.2.1 x = q.2.2.1 x
def tcP (p q : Pt) : Prop := TCH (hks p.2.2.2.2 p.1 p.2.1) (hks q.2.2.2.2 q.1 q.2.1)
def exM (p q : Pt) : List Int × List Int × List Int × List Int × List Int := mvW p.2.2.2.2 (ivF p.2.2.2.2 p.1) q.2.2.2.2 (ivF q.2.2.2.2 p.2.1) p.2.2.1 p.2.2.2.1 q.2.2.2.1 p.1 p.2.1 q.2.1 (p.1 + p.2.1 + q.2.1) 0 0 0 [] [] [] [] []
def exL (p q : Pt) : Pt := (p.1, (exM p q).2.1.length, p.2.2.1, gv (exM p q).2.1, gv (exM p q).2.2.1)
def exU (p q : Pt) : Pt := ((exM p q).2.1.length, q.2.1, gv (exM p q).2.1, q.2.2.2.1, gv (exM p q).2.2.2.2)
/-- what a patch of the class holds -/
def HC (σ : Sg) (P : Nat) (p : Pt) : Prop := NP σ P p.1 p.2.1 ∧ (∀ i, i < p.1 → σ (P + 2) i = p.2.2.1 i) ∧ (∀ i, i < p.2.1 → σ (P + 4) i = p.2.2.2.1 i) ∧ ∀ i, i < p.1 → σ (P + 6) i = p.2.2.2.2 i
/-- what a slot of the reference holds -/
def HM (σ : Sg) (s : Nat) (p : Pt) : Prop := Slot σ s p.1 p.2.1 p.2.2.1 p.2.2.2.1 p.2.2.2.2
theorem HC_fr {σ s : Sg} {P : Nat} {p : Pt} (h : ∀ c k, P + 1 ≤ c ∧ c ≤ P + 10 → s c k = σ c k) (H : HC σ P p) : HC s P p :=
  ⟨NP_fr h H.1, fun i hi => by rw [h _ _ (by omega)]; exact H.2.1 i hi, fun i hi => by rw [h _ _ (by omega)]; exact H.2.2.1 i hi, fun i hi => by rw [h _ _ (by omega)]; exact H.2.2.2 i hi⟩
/-- sizes that the scratch patches bear -/
def szP (p q : Pt) : Prop := p.1 ≤ 96 ∧ p.2.1 ≤ 96 ∧ q.2.1 ≤ 96 ∧ p.1 + q.2.1 ≤ p.2.1 + 96
theorem ex_slot {σ : Sg} {s t su sv : Nat} {p q : Pt} (hs : s < 44) (ht : t < 44) (gu : su < 44) (gv' : sv < 44) (gsu : ¬ s = su) (gsv : ¬ s = sv) (gtu : ¬ t = su) (gtv : ¬ t = sv) (guv : ¬ su = sv) (Gp : okP p) (Gq : okP q) (C : chP p q) (T : ¬ tcP p q) (Z : szP p q) (S : HM σ s p) (S' : HM σ t q) : (exM p q).1.length = p.1 ∧ (exM p q).2.1.length + p.2.1 = p.1 + q.2.1 ∧ (exM p q).2.2.1.length = p.1 ∧ (exM p q).2.2.2.1.length = q.2.1 ∧ (exM p q).2.2.2.2.length = (exM p q).2.1.length ∧ (∀ (x : Nat) (v : Int), (exM p q).1[x]? = some v → v = p.2.2.1 x) ∧ (∀ (x : Nat) (v : Int), (exM p q).2.2.2.1[x]? = some v → v = q.2.2.2.1 x) ∧ (∀ (x : Nat) (v : Int), (exM p q).2.1[x]? = some v → isLn v = true) ∧ ∃ s2, Dd 297 [vA 682, vI s, vI t, vI su, vI sv] σ (rV s2) ∧ HM s2 su (exL p q) ∧ HM s2 sv (exU p q) ∧ ∀ c x, ¬ c = 690 → ¬ (700 ≤ c ∧ c ≤ 704) → ¬ (685 ≤ c ∧ c ≤ 687 ∧ ((100 * su ≤ x ∧ x < 100 * su + 100) ∨ (100 * sv ≤ x ∧ x < 100 * sv + 100))) → ¬ ((c = 688 ∨ c = 689) ∧ (x = su ∨ x = sv)) → s2 c x = σ c x := by
  obtain ⟨nb, na, X, Y, F⟩ := p
  obtain ⟨na', nc, X', Z', G⟩ := q
  obtain ⟨c1, c2⟩ := C
  have c1 : na' = na := c1
  subst c1
  have c2 : ∀ x, x < na' → Y x = X' x := c2
  obtain ⟨g1, ⟨K, g2⟩, g3, g4, g5, g6⟩ := Gp
  obtain ⟨k1, ⟨L, k2⟩, k3, k4, k5, k6⟩ := Gq
  obtain ⟨z1, z2, z3, z4⟩ := Z
  have z1 : nb ≤ 96 := z1
  have z2 : na' ≤ 96 := z2
  have z3 : nc ≤ 96 := z3
  have z4 : nb + nc ≤ na' + 96 := z4
  have EY : EQL Y Z' G na' := fun x hx e => by rw [c2 x hx]; exact k3 x hx e
  obtain ⟨b, M, f, a, g, u1, u2, u3, u4, u5, u6, u7, u8, u9, s2, u10, u11, u12, u13⟩ := d297g (σ := σ) (s := s) (t := t) (su := su) (sv := sv) (nb := nb) (na := na') (nc := nc) (F := F) (K := ivF F nb) (G := G) (L := ivF G na') (X := X) (Y := Y) (Z := Z') hs ht gu gv' gsu gsv gtu gtv guv (by omega) (by omega) (by omega) (by omega) g1 k1 (IV_iv g2 g1) (IV_iv k2 k1) g3 EY g4 k5 T S S'
  have e : exM (nb, na', X, Y, F) (na', nc, X', Z', G) = (b, M, f, a, g) := u1
  have e1 : exL (nb, na', X, Y, F) (na', nc, X', Z', G) = (nb, M.length, X, gv M, gv f) := by unfold exL; rw [e]
  have e2 : exU (nb, na', X, Y, F) (na', nc, X', Z', G) = (M.length, nc, gv M, Z', gv g) := by unfold exU; rw [e]
  rw [e, e1, e2]
  exact ⟨u2, u3, u4, u5, u6, u7, u8, u9, s2, u10, u11, u12, u13⟩
/-- the same, of the pure things alone -/
theorem ex_pure {p q : Pt} (Gp : okP p) (Gq : okP q) (C : chP p q) (T : ¬ tcP p q) (Z : szP p q) : (exM p q).1.length = p.1 ∧ (exM p q).2.1.length + p.2.1 = p.1 + q.2.1 ∧ (exM p q).2.2.1.length = p.1 ∧ (exM p q).2.2.2.1.length = q.2.1 ∧ (exM p q).2.2.2.2.length = (exM p q).2.1.length ∧ (∀ (x : Nat) (v : Int), (exM p q).1[x]? = some v → v = p.2.2.1 x) ∧ (∀ (x : Nat) (v : Int), (exM p q).2.2.2.1[x]? = some v → v = q.2.2.2.1 x) ∧ ∀ (x : Nat) (v : Int), (exM p q).2.1[x]? = some v → isLn v = true := by
  have hz := Z
  obtain ⟨z1, z2, z3, z4⟩ := hz
  have cq := C.1
  obtain ⟨σ, hσ⟩ : ∃ σ : Sg, σ = fun c x => if c = 688 then (if x = 0 then (p.1 : Int) else (q.1 : Int)) else if c = 689 then (if x = 0 then (p.2.1 : Int) else (q.2.1 : Int)) else if c = 685 then (if x < 100 then p.2.2.1 x else q.2.2.1 (x - 100)) else if c = 686 then (if x < 100 then p.2.2.2.1 x else q.2.2.2.1 (x - 100)) else (if x < 100 then p.2.2.2.2 x else q.2.2.2.2 (x - 100)) := ⟨_, rfl⟩
  have S : HM σ 0 p := by
    refine ⟨by rw [hσ]; rfl, by rw [hσ]; rfl, fun i hi => ?_, fun i hi => ?_, fun i hi => ?_⟩
    · rw [hσ]
      show (if 100 * 0 + i < 100 then p.2.2.1 (100 * 0 + i) else q.2.2.1 (100 * 0 + i - 100)) = _
      rw [if_pos (by omega), show 100 * 0 + i = i by omega]
    · rw [hσ]
      show (if 100 * 0 + i < 100 then p.2.2.2.1 (100 * 0 + i) else q.2.2.2.1 (100 * 0 + i - 100)) = _
      rw [if_pos (by omega), show 100 * 0 + i = i by omega]
    · rw [hσ]
      show (if 100 * 0 + i < 100 then p.2.2.2.2 (100 * 0 + i) else q.2.2.2.2 (100 * 0 + i - 100)) = _
      rw [if_pos (by omega), show 100 * 0 + i = i by omega]
  have S' : HM σ 1 q := by
    refine ⟨by rw [hσ]; rfl, by rw [hσ]; rfl, fun i hi => ?_, fun i hi => ?_, fun i hi => ?_⟩
    · rw [hσ]
      show (if 100 * 1 + i < 100 then p.2.2.1 (100 * 1 + i) else q.2.2.1 (100 * 1 + i - 100)) = _
      rw [if_neg (by omega), show 100 * 1 + i - 100 = i by omega]
    · rw [hσ]
      show (if 100 * 1 + i < 100 then p.2.2.2.1 (100 * 1 + i) else q.2.2.2.1 (100 * 1 + i - 100)) = _
      rw [if_neg (by omega), show 100 * 1 + i - 100 = i by omega]
    · rw [hσ]
      show (if 100 * 1 + i < 100 then p.2.2.2.2 (100 * 1 + i) else q.2.2.2.2 (100 * 1 + i - 100)) = _
      rw [if_neg (by omega), show 100 * 1 + i - 100 = i by omega]
  obtain ⟨a1, a2, a3, a4, a5, a6, a7, a8, -⟩ := ex_slot (σ := σ) (s := 0) (t := 1) (su := 2) (sv := 3) (by decide) (by decide) (by decide) (by decide) (by decide) (by decide) (by decide) (by decide) (by decide) Gp Gq C T Z S S'
  exact ⟨a1, a2, a3, a4, a5, a6, a7, a8⟩
/-- what comes of it is in order -/
theorem ex_ok {p q : Pt} (Gp : okP p) (Gq : okP q) (C : chP p q) (T : ¬ tcP p q) (Z : szP p q) : okP (exL p q) ∧ okP (exU p q) ∧ chP (exL p q) (exU p q) ∧ (exL p q).1 = p.1 ∧ (exL p q).2.1 + p.2.1 = p.1 + q.2.1 ∧ (exU p q).2.1 = q.2.1 := by
  obtain ⟨a1, a2, a3, a4, a5, a6, a7, a8⟩ := ex_pure Gp Gq C T Z
  obtain ⟨k3, k4, o1, o2⟩ := mvW_ok (F := p.2.2.2.2) (K := ivF p.2.2.2.2 p.1) (G := q.2.2.2.2) (L := ivF q.2.2.2.2 p.2.1) (X := p.2.2.1) (Y := p.2.2.2.1) (Z := q.2.2.2.1) (nb := p.1) (na := p.2.1) (nc := q.2.1) (p.1 + p.2.1 + q.2.1) 0 0 0 [] [] [] [] [] [] [] okW_0 okW_0
  have o1 : okW (exM p q).1 (exM p q).2.1 (exM p q).2.2.1 k3 := o1
  have o2 : okW (exM p q).2.1 (exM p q).2.2.2.1 (exM p q).2.2.2.2 k4 := o2
  obtain ⟨v1, v2, v3⟩ := okW_vf o1
  obtain ⟨w1, w2, w3⟩ := okW_vf o2
  rw [a1] at v1 v2 v3
  rw [a4] at w1 w2
  have c1 := C.1
  have p6 := Gp.2.2.2.2.2
  have q6 := Gq.2.2.2.2.2
  refine ⟨⟨v1, ⟨_, v2⟩, fun i hi e => ?_, Gp.2.2.2.1, fun i hi => a8 i _ (gv_at hi), ?_⟩, ⟨w1, ⟨_, w2⟩, fun i hi e => ?_, fun i hi => a8 i _ (gv_at hi), Gq.2.2.2.2.1, ?_⟩, ⟨rfl, fun _ _ => rfl⟩, rfl, a2, rfl⟩
  · have hi : i < p.1 := hi
    have z := v3 i hi e
    rw [a6 i _ (gv_at (by omega))] at z
    exact z
  · show (exM p q).2.1.length ≤ p.1 + 16
    omega
  · have hi : i < (exM p q).2.1.length := hi
    have e : ¬ gv (exM p q).2.2.2.2 i = -1 := e
    have z := w3 i hi e
    have y := w1.1 i hi
    rw [a7 (gv (exM p q).2.2.2.2 i).toNat _ (gv_at (by omega))] at z
    exact z
  · show q.2.1 ≤ (exM p q).2.1.length + 16
    omega
/-- the class's side -/
theorem ex_c {σ : Sg} {A k P Q : Nat} {p q : Pt} (E : EL A k P Q) (eP : P + 12 < 350 ∨ 376 < P) (eQ : Q + 12 < 350 ∨ 376 < Q) (ePQ : P + 13 ≤ Q) (w : WF σ) (hp : HC σ P p) (hq : HC σ Q q) (Gp : okP p) (Gq : okP q) (C : chP p q) (T : ¬ tcP p q) (Z : szP p q) (cP : ∀ j, j = 1 ∨ j = 3 ∨ j = 5 ∨ j = 7 → 96 ≤ cap (P + j)) (cQ : ∀ j, j = 1 ∨ j = 3 ∨ j = 5 ∨ j = 7 → 96 ≤ cap (Q + j)) (cP9 : 388 ≤ cap (P + 9)) (cQ9 : 388 ≤ cap (Q + 9)) : ∃ s, Dd 10 [vA 350, vA A, vI k, vI 96] σ (rI 1 s) ∧ WF s ∧ HC s P (exL p q) ∧ HC s Q (exU p q) ∧ ∀ c x, ¬ (352 ≤ c ∧ c ≤ 361) → ¬ (365 ≤ c ∧ c ≤ 374) → ¬ (P + 1 ≤ c ∧ c ≤ P + 10) → ¬ (Q + 1 ≤ c ∧ c ≤ Q + 10) → s c x = σ c x := by
  obtain ⟨a1, a2, a3, a4, a5, a6, a7, a8⟩ := ex_pure Gp Gq C T Z
  obtain ⟨z1, z2, z3, z4⟩ := Z
  obtain ⟨N, n2, n4, n6⟩ := hp
  obtain ⟨N', m2, m4, m6⟩ := hq
  obtain ⟨c1, c2⟩ := C
  rw [c1] at N' m2 m6
  have hM : (exM p q).2.1.length ≤ 96 := by omega
  have r : mvW (σ (P + 6)) (σ (P + 8)) (σ (Q + 6)) (σ (Q + 8)) (σ (P + 2)) (σ (P + 4)) (σ (Q + 4)) p.1 p.2.1 q.2.1 (p.1 + p.2.1 + q.2.1) 0 0 0 [] [] [] [] [] = exM p q := by
    refine mvW_cg n6 (fun i hi => ?_) m6 (fun i hi => ?_) n2 n4 m4 _ _ _ _ _ _ _ _ _
    · rw [← ivF_k N.2.2.2.2.2.1 hi]
      exact ivF_cg _ n6
    · rw [← ivF_k N'.2.2.2.2.2.1 hi]
      exact ivF_cg _ m6
  have t1 : hks (σ (P + 6)) p.1 p.2.1 = hks p.2.2.2.2 p.1 p.2.1 := hks_cg n6
  have t2 : hks (σ (Q + 6)) p.2.1 q.2.1 = hks q.2.2.2.2 q.1 q.2.1 := by rw [c1]; exact hks_cg m6
  have T' : ¬ TCH (hks (σ (P + 6)) p.1 p.2.1) (hks (σ (Q + 6)) p.2.1 q.2.1) := by rw [t1, t2]; exact T
  obtain ⟨s, r1, r2, r3, r4, r5, r6, r7, r8, r9, r10, -, -, r13⟩ := d10_y (lim := 96) (b := (exM p q).1) (M := (exM p q).2.1) (f := (exM p q).2.2.1) (a := (exM p q).2.2.2.1) (g := (exM p q).2.2.2.2) E eP eQ ePQ w N N' (fun x hx => by rw [n4 x hx, m2 x hx]; exact c2 x hx) ⟨z1, z2, z3⟩ hM (by omega) a1 a4 a2 a3 a5 (fun x v h => by rw [n2 x (by have := (List.getElem?_eq_some_iff.mp h).1; omega)]; exact a6 x v h) (fun x v h => by rw [m4 x (by have := (List.getElem?_eq_some_iff.mp h).1; omega)]; exact a7 x v h) T' (fun j hj => by have := cP j hj; omega) (fun j hj => by have := cQ j hj; omega) (by omega) (by omega) r
  refine ⟨s, r1, r2, ⟨r3, fun i hi => by rw [r5 i hi]; exact n2 i hi, r6, r7⟩, ⟨r4, r8, fun i hi => by rw [r9 i hi]; exact m4 i hi, r10⟩, r13⟩
theorem ex_n {σ : Sg} {A k P Q : Nat} {p q : Pt} {lim : Int} (E : EL A k P Q) (w : WF σ) (hp : HC σ P p) (hq : HC σ Q q) (T : tcP p q) (z1 : p.1 ≤ 100 ∧ p.2.1 ≤ 100 ∧ q.1 ≤ 100 ∧ q.2.1 ≤ 100) : Dd 10 [vA 350, vA A, vI k, vI lim] σ (rI 0 σ) := by
  refine d10_t E w hp.1 hq.1 z1 ?_
  rw [hks_cg hp.2.2.2, hks_cg hq.2.2.2]
  exact T
end
