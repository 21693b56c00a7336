-- DRAFT 99.t4mv.lean
/-! A patch past its predecessor: both walks go the same way. -/
noncomputable section
def MVR (σ0 : Sg) (s t nb na nc : Nat) (F K G L X Y Z : Nat → Int) (lB : List St) (W i j k h : Nat) (b M f a g : List Int) : Prop :=
  ∃ b' M' f' a' g', mvW F K G L X Y Z nb na nc W i j k b M f a g = (b', M', f', a', g') ∧ b'.length = nb ∧ M'.length + na = nb + nc ∧ f'.length = nb ∧ a'.length = nc ∧ g'.length = M'.length ∧ (∀ (x : Nat) (v : Int), b'[x]? = some v → v = X x) ∧ (∀ (x : Nat) (v : Int), a'[x]? = some v → v = Z x) ∧ (∀ (x : Nat) (v : Int), M'[x]? = some v → isLn v = true) ∧ M.length ≤ M'.length ∧ (M'.length ≤ 99 → ∀ σ, RS8 σ M f g → FR8 σ σ0 → ∃ σ', (∀ {o : Rs}, (∀ d9 : Option AV, C297_24 s t 39 40 (lB.length : Nat) ((128 + lB.length : Nat) : Int) (M'.length : Nat) nb d9 σ' o) → ∀ d9 : Option AV, C297_24 s t 39 40 (lB.length : Nat) ((128 + h : Nat) : Int) (M.length : Nat) i d9 σ o) ∧ RS8 σ' M' f' g' ∧ FR8 σ' σ0)
theorem MVR_k {σ0 : Sg} {s t nb na nc : Nat} {F K G L X Y Z : Nat → Int} {lB : List St} (C : CX8 σ0 s t nb na nc F K G X Z lB) {W W' i j k j' k' h d : Nat} {b M f a g b2 a2 : List Int} (hh : h ≤ lB.length) (hid : i + d ≤ nb) (hf : f.length = i) (hg : g.length = M.length) (np : ∀ x, x < d → ∀ r, lB[h]? = some r → ¬ psK K r = ((i + x : Nat) : Int)) (e : mvW F K G L X Y Z nb na nc W i j k b M f a g = mvW F K G L X Y Z nb na nc W' (i + d) j' k' b2 (M ++ rlZ X i d) (f ++ rlZ idZ M.length d) a2 (g ++ rlZ (uZ F G) i d)) (R : MVR σ0 s t nb na nc F K G L X Y Z lB W' (i + d) j' k' h b2 (M ++ rlZ X i d) (f ++ rlZ idZ M.length d) a2 (g ++ rlZ (uZ F G) i d)) : MVR σ0 s t nb na nc F K G L X Y Z lB W i j k h b M f a g := by
  obtain ⟨b', M', f', a', g', q1, q2, q3, q4, q5, q6, q7, q8, q9, q10, q11⟩ := R
  have hl : (M ++ rlZ X i d).length = M.length + d := ap_len
  rw [hl] at q10
  refine ⟨b', M', f', a', g', e.trans q1, q2, q3, q4, q5, q6, q7, q8, q9, by omega, fun hM σ R fr => ?_⟩
  obtain ⟨σ1, a1, a2, a3⟩ := l297r C hh d i M f g σ hid (by omega) hf hg np R fr
  obtain ⟨σ', c1, c2, c3⟩ := q11 hM σ1 a2 a3
  rw [hl] at c1
  exact ⟨σ', fun {o} hx => a1 (c1 hx), c2, c3⟩
theorem MVR_2 {σ0 : Sg} {s t nb na nc : Nat} {F K G L X Y Z : Nat → Int} {lB : List St} {W W' i j k j' k' h : Nat} {b M f a g a2 : List Int} (e : mvW F K G L X Y Z nb na nc W i j k b M f a g = mvW F K G L X Y Z nb na nc W' i j' k' b M f a2 g) (R : MVR σ0 s t nb na nc F K G L X Y Z lB W' i j' k' h b M f a2 g) : MVR σ0 s t nb na nc F K G L X Y Z lB W i j k h b M f a g := by
  obtain ⟨b', M', f', a', g', q1, q2, q3, q4, q5, q6, q7, q8, q9, q10, q11⟩ := R
  exact ⟨b', M', f', a', g', e.trans q1, q2, q3, q4, q5, q6, q7, q8, q9, q10, q11⟩
theorem MVR_B {σ0 : Sg} {s t nb na nc : Nat} {F K G L X Y Z : Nat → Int} {lB : List St} (C : CX8 σ0 s t nb na nc F K G X Z lB) {W W' i j k j' k' h : Nat} {r : St} {b M f a g b2 a2 : List Int} (hr : lB[h]? = some r) (hi : i + r.2.1 ≤ nb) (hp : psK K r = (i : Int)) (hf : f.length = i) (hg : g.length = M.length) (e : mvW F K G L X Y Z nb na nc W i j k b M f a g = mvW F K G L X Y Z nb na nc W' (i + r.2.1) j' k' b2 (M ++ rlZ Z r.2.2.1 r.2.2.2) (f ++ rlZ m1Z i r.2.1) a2 (g ++ rlZ idZ r.2.2.1 r.2.2.2)) (R : MVR σ0 s t nb na nc F K G L X Y Z lB W' (i + r.2.1) j' k' (h + 1) b2 (M ++ rlZ Z r.2.2.1 r.2.2.2) (f ++ rlZ m1Z i r.2.1) a2 (g ++ rlZ idZ r.2.2.1 r.2.2.2)) : MVR σ0 s t nb na nc F K G L X Y Z lB W i j k h b M f a g := by
  obtain ⟨b', M', f', a', g', q1, q2, q3, q4, q5, q6, q7, q8, q9, q10, q11⟩ := R
  have hl : (M ++ rlZ Z r.2.2.1 r.2.2.2).length = M.length + r.2.2.2 := ap_len
  rw [hl] at q10
  refine ⟨b', M', f', a', g', e.trans q1, q2, q3, q4, q5, q6, q7, q8, q9, by omega, fun hM σ R fr => ?_⟩
  obtain ⟨σ1, a1, a2, a3⟩ := l297h C hr hi hp (by omega) hf hg R fr
  obtain ⟨σ', c1, c2, c3⟩ := q11 hM σ1 a2 a3
  rw [hl] at c1
  exact ⟨σ', fun {o} hx => a1 (c1 hx), c2, c3⟩
theorem IV_at {F K : Nat → Int} {nb na x y : Nat} (I : IV F K nb na) (hx : x < nb) (h : F x = (y : Int)) : K y = (x : Int) := by
  have z := I.2 x hx (by omega)
  rw [h, tn] at z
  exact z
theorem mv_main {σ0 : Sg} {s t nb na nc : Nat} {F K G L X Y Z : Nat → Int} {lB : List St} (C : CX8 σ0 s t nb na nc F K G X Z lB) (IF : IV F K nb na) (IG : IV G L na nc) (EX : EQL X Y F nb) (EY : EQL Y Z G na) (lX : ∀ i, i < nb → isLn (X i) = true) (lZ : ∀ i, i < nc → isLn (Z i) = true) : ∀ (n : Nat) (lA lb : List St) (W i j k h eA eB : Nat) (b M f a g : List Int), lA.length + lb.length ≤ n → lB.drop h = lb → h ≤ lB.length → DS F nb na lA i j eA → DS G na nc lb j k eB → (∀ q, q ∈ lA → ∀ r, r ∈ lb → q.2.2.1 + q.2.2.2 < r.1 ∨ r.1 + r.2.1 < q.2.2.1) → ((i = 0 ∧ j = 0) ∨ ∀ r, r ∈ lb → j < r.1) → (∀ x, x < i → F x = -1 ∨ F x < (j : Int)) → (∀ x, x < j → G x = -1 ∨ G x < (k : Int)) → (nb - i) + (na - j) + (nc - k) ≤ W → b.length = i → a.length = k → f.length = i → g.length = M.length → M.length + j = i + k → (∀ (x : Nat) (v : Int), b[x]? = some v → v = X x) → (∀ (x : Nat) (v : Int), a[x]? = some v → v = Z x) → (∀ (x : Nat) (v : Int), M[x]? = some v → isLn v = true) → MVR σ0 s t nb na nc F K G L X Y Z lB W i j k h b M f a g := by
  intro n
  induction n with
  | zero =>
    intro lA lb W i j k h eA eB b M f a g hn hd hh hA hB NT hz PF PG hW hb ha hf hg hM bv av lv
    have eA' : lA = [] := List.eq_nil_of_length_eq_zero (by omega)
    have eB' : lb = [] := List.eq_nil_of_length_eq_zero (by omega)
    subst eA' eB'
    obtain ⟨a1, a2, a3, a4⟩ := hA
    obtain ⟨b1, b2, b3, b4⟩ := hB
    have hhl : h = lB.length := by
      have := List.drop_eq_nil_iff.mp hd
      omega
    obtain ⟨e, he⟩ : ∃ e, nb = i + e := ⟨nb - i, by omega⟩
    have e1 : na = j + e := by omega
    have e2 : nc = k + e := by omega
    obtain ⟨W', rfl⟩ : ∃ W', W = W' + e := ⟨W - e, by omega⟩
    have hF : ∀ x, x < e → F (i + x) = ((j + x : Nat) : Int) := fun x hx => by
      rw [a4 (i + x) (by omega) (by omega), show j + (i + x - i) = j + x by omega]
    have hG : ∀ x, x < e → G (j + x) = ((k + x : Nat) : Int) := fun x hx => by
      rw [b4 (j + x) (by omega) (by omega), show k + (j + x - j) = k + x by omega]
    have hXY : ∀ x, x < e → Y (j + x) = X (i + x) := fun x hx => by
      have z := EX (i + x) (by omega) (by rw [hF x hx]; omega)
      rw [hF x hx, tn] at z
      exact z.symm
    have hYZ : ∀ x, x < e → Y (j + x) = Z (k + x) := fun x hx => by
      have z := EY (j + x) (by omega) (by rw [hG x hx]; omega)
      rw [hG x hx, tn] at z
      exact z
    have E1 : rlZ Y j e = rlZ X i e := rl_ext _ _ _ hXY
    have E2 : rlZ idZ a.length e = rlZ (uZ F G) i e := rl_ext _ _ _ (fun x hx => by
      unfold uZ
      rw [hF x hx, if_neg (by omega), tn, hG x hx, ha]
      rfl)
    have r5 := mvW_5 (F := F) (K := K) (G := G) (L := L) (X := X) (Y := Y) (Z := Z) (nb := nb) (na := na) (nc := nc) e W' i j k b M f a g (by omega) (fun x hx => by
      have f1 := hF x hx
      have f2 := hG x hx
      have f3 := IV_at IF (by omega) f1
      have f4 := IV_at IG (by omega) f2
      exact ⟨by omega, by omega, by omega, by omega⟩)
    rw [E1, E2] at r5
    refine MVR_k C hh (by omega) hf hg (fun x hx r hr => by
      rw [hhl, List.getElem?_eq_none (Nat.le_refl _)] at hr
      cases hr) r5 ?_
    have hl : (M ++ rlZ X i e).length = M.length + e := ap_len
    have hl2 : (b ++ rlZ X i e).length = b.length + e := ap_len
    have hl3 : (f ++ rlZ idZ M.length e).length = f.length + e := ap_len
    have hl4 : (a ++ rlZ X i e).length = a.length + e := ap_len
    have hl5 : (g ++ rlZ (uZ F G) i e).length = g.length + e := ap_len
    refine ⟨_, _, _, _, _, mvW_e (by omega) (by omega) (by omega) W', by omega, by omega, by omega, by omega, by omega, ap_bv bv (fun x _ => by rw [hb]), ap_bv av (fun x hx => by rw [ha, ← hYZ x hx, hXY x hx]), ap_ln lv (fun x hx => lX _ (by omega)), Nat.le_refl _, fun _ σ R fr => ⟨σ, fun {o} hx => ?_, R, fr⟩⟩
    rw [hhl, ← he]
    exact hx
  | succ n ih =>
    intro lA lb W i j k h eA eB b M f a g hn hd hh hA hB NT hz PF PG hW hb ha hf hg hM bv av lv
    have bA := DS_b _ _ _ _ hA
    have bB := DS_b _ _ _ _ hB
    have hmem : ∀ r, lB[h]? = some r → r ∈ lb := fun r hr => by
      rw [← hd]
      refine List.mem_of_getElem? (i := 0) ?_
      rw [List.getElem?_drop, Nat.add_zero]
      exact hr
    -- a hunk of the first patch comes next
    have stepA : ∀ (q : St) (tA : List St), lA = q :: tA → (∀ r, r ∈ lb → q.2.2.1 + q.2.2.2 < r.1) → MVR σ0 s t nb na nc F K G L X Y Z lB W i j k h b M f a g := by
      intro q tA hq hNq
      subst hq
      obtain ⟨o, d, nn, aa⟩ := q
      have bq := bA.2.2 _ List.mem_cons_self
      have bq1 : o + d ≤ nb := bq.2.1
      have bq2 : nn + aa ≤ na := bq.2.2.2
      have hA0 := hA
      obtain ⟨v1, v2, v3, v4, v5, v6⟩ := hA
      have x1 : i + eA ≤ o := v1
      have x2 : nn = j + (o - i) := v2
      have x3 : ∀ x, i ≤ x → x < o → F x = ((j + (x - i) : Nat) : Int) := v3
      have x4 : ∀ x, o ≤ x → x < o + d → F x = -1 := v4
      have x6 : DS F nb na tA (o + d) (nn + aa) 1 := v6
      have hNq2 : ∀ r, r ∈ lb → nn + aa < r.1 := hNq
      obtain ⟨e, rfl⟩ : ∃ e, o = i + e := ⟨o - i, by omega⟩
      have en : nn = j + e := by omega
      subst en
      obtain ⟨y1, y2, y3⟩ := DS_adv1 (i' := j + e + aa) (e' := 1) hB (by omega) bq2 (fun r hr => hNq2 r hr)
      rw [show k + (j + e + aa - j) = k + e + aa by omega] at y1 y3
      obtain ⟨W', rfl⟩ : ∃ W', W = ((W' + aa) + d) + e := ⟨W - e - d - aa, by omega⟩
      have hF : ∀ x, x < e → F (i + x) = ((j + x : Nat) : Int) := fun x hx => by
        rw [x3 (i + x) (by omega) (by omega), show j + (i + x - i) = j + x by omega]
      have hG : ∀ x, x < e + aa → G (j + x) = ((k + x : Nat) : Int) := fun x hx => by
        rw [y2 (j + x) (by omega) (by omega), show k + (j + x - j) = k + x by omega]
      have hXY : ∀ x, x < e → Y (j + x) = X (i + x) := fun x hx => by
        have z := EX (i + x) (by omega) (by rw [hF x hx]; omega)
        rw [hF x hx, tn] at z
        exact z.symm
      have hYZ : ∀ x, x < e + aa → Y (j + x) = Z (k + x) := fun x hx => by
        have z := EY (j + x) (by omega) (by rw [hG x hx]; omega)
        rw [hG x hx, tn] at z
        exact z
      have E1 : rlZ Y j e = rlZ X i e := rl_ext _ _ _ hXY
      have E2 : rlZ idZ a.length e = rlZ (uZ F G) i e := rl_ext _ _ _ (fun x hx => by
        unfold uZ
        rw [hF x hx, if_neg (by omega), tn, hG x (by omega), ha]
        rfl)
      have E3 : rlZ m1Z (i + e) d = rlZ (uZ F G) (i + e) d := rl_ext d (i + e) (i + e) (fun x hx => by
        unfold uZ
        rw [x4 (i + e + x) (by omega) (by omega), if_pos rfl]
        rfl)
      have np : ∀ x, x < e + d → ∀ r, lB[h]? = some r → ¬ psK K r = ((i + x : Nat) : Int) := by
        intro x hx r hr
        have hm := hmem r hr
        have h1 := hNq2 r hm
        have h2 := (bB.2.2 r hm).2.1
        obtain ⟨x0, w1, w2, w3⟩ := DS_on tA (i + e + d) (j + e + aa) 1 (r.1 - 1) x6 (by omega) (by omega) (fun q hq => by
          have := NT q (List.mem_cons_of_mem _ hq) r hm
          omega)
        have w4 := IV_at IF w2 w3
        unfold psK
        rw [if_neg (by omega), w4]
        omega
      have r5 := mvW_5 (F := F) (K := K) (G := G) (L := L) (X := X) (Y := Y) (Z := Z) (nb := nb) (na := na) (nc := nc) e ((W' + aa) + d) i j k b M f a g (by omega) (fun x hx => by
        have f1 := hF x hx
        have f2 := hG x (by omega)
        have f3 := IV_at IF (by omega) f1
        have f4 := IV_at IG (by omega) f2
        exact ⟨by omega, by omega, by omega, by omega⟩)
      rw [E1, E2] at r5
      have hl : (M ++ rlZ X i e).length = M.length + e := ap_len
      have hl2 : (b ++ rlZ X i e).length = b.length + e := ap_len
      have hl3 : (f ++ rlZ idZ M.length e).length = f.length + e := ap_len
      have hl4 : (a ++ rlZ X i e).length = a.length + e := ap_len
      have hl5 : (g ++ rlZ (uZ F G) i e).length = g.length + e := ap_len
      have bv1 : ∀ (x : Nat) (v : Int), (b ++ rlZ X i e)[x]? = some v → v = X x := ap_bv bv (fun x _ => by rw [hb])
      have av1 : ∀ (x : Nat) (v : Int), (a ++ rlZ X i e)[x]? = some v → v = Z x := ap_bv av (fun x hx => by rw [ha, ← hYZ x (by omega), hXY x hx])
      have lv1 : ∀ (x : Nat) (v : Int), (M ++ rlZ X i e)[x]? = some v → isLn v = true := ap_ln lv (fun x hx => lX _ (by omega))
      refine MVR_k C hh (by omega) hf hg (fun x hx r hr => np x (by omega) r hr) r5 ?_
      have r1 := mvW_1 (F := F) (K := K) (G := G) (L := L) (X := X) (Y := Y) (Z := Z) (nb := nb) (na := na) (nc := nc) d (W' + aa) (i + e) (j + e) (k + e) (b ++ rlZ X i e) (M ++ rlZ X i e) (f ++ rlZ idZ M.length e) (a ++ rlZ X i e) (g ++ rlZ (uZ F G) i e) bq1 (fun x hx => x4 (i + e + x) (by omega) (by omega))
      rw [E3] at r1
      refine MVR_k C hh bq1 (by omega) (by omega) (fun x hx r hr => by
        rw [show i + e + x = i + (e + x) by omega]
        exact np (e + x) (by omega) r hr) r1 ?_
      have hdd := DS_hd x6
      refine MVR_2 (mvW_2 (fun y => by have := hdd.1 y.1; omega) aa W' (j + e) (k + e) _ _ _ _ _ bq2 (fun x hx => DS_K hA0 IF PF (show j + e ≤ j + e + x by omega) (show j + e + x < j + e + aa by omega))) ?_
      have hm1 : (M ++ rlZ X i e ++ rlZ X (i + e) d).length = (M ++ rlZ X i e).length + d := ap_len
      have hm2 : (b ++ rlZ X i e ++ rlZ X (i + e) d).length = (b ++ rlZ X i e).length + d := ap_len
      have hm3 : (f ++ rlZ idZ M.length e ++ rlZ idZ (M ++ rlZ X i e).length d).length = (f ++ rlZ idZ M.length e).length + d := ap_len
      have hm4 : (a ++ rlZ X i e ++ rlZ Y (j + e) aa).length = (a ++ rlZ X i e).length + aa := ap_len
      have hm5 : (g ++ rlZ (uZ F G) i e ++ rlZ (uZ F G) (i + e) d).length = (g ++ rlZ (uZ F G) i e).length + d := ap_len
      rw [List.length_cons] at hn
      refine ih tA lb W' (i + e + d) (j + e + aa) (k + e + aa) h 1 1 _ _ _ _ _ (by omega) hd hh x6 y1 (fun q hq r hr => NT q (List.mem_cons_of_mem _ hq) r hr) (Or.inr hNq2) (fun x hx => ?_) (fun x hx => ?_) (by omega) (by omega) (by omega) (by omega) (by omega) (by omega) (ap_bv bv1 (fun x hx => by rw [hl2, hb])) (ap_bv av1 (fun x hx => by rw [hl4, ha, show j + e + x = j + (e + x) by omega, hYZ (e + x) (by omega), show k + (e + x) = k + e + x by omega])) (ap_ln lv1 (fun x hx => lX _ (by omega)))
      · by_cases z1 : x < i
        · rcases PF x z1 with z | z
          · exact Or.inl z
          · right; omega
        · by_cases z2 : x < i + e
          · have z := x3 x (by omega) z2
            right; omega
          · exact Or.inl (x4 x (by omega) (by omega))
      · by_cases z1 : x < j
        · rcases PG x z1 with z | z
          · exact Or.inl z
          · right; omega
        · have z := y2 x (by omega) (by omega)
          right; omega
    -- a hunk of the second
    have stepB : ∀ (r : St) (tB : List St), lb = r :: tB → (∀ q, q ∈ lA → r.1 + r.2.1 < q.2.2.1) → MVR σ0 s t nb na nc F K G L X Y Z lB W i j k h b M f a g := by
      intro r tB hr0 hNr
      subst hr0
      have hr : lB[h]? = some r := by
        have z : (lB.drop h)[0]? = some r := by rw [hd]; rfl
        rw [List.getElem?_drop, Nat.add_zero] at z
        exact z
      have hd1 : lB.drop (h + 1) = tB := by
        rw [← List.tail_drop, hd]
        rfl
      have hh1 : h + 1 ≤ lB.length := (List.getElem?_eq_some_iff.mp hr).1
      obtain ⟨o, d, nn, aa⟩ := r
      have bq := bB.2.2 _ List.mem_cons_self
      have bq1 : o + d ≤ na := bq.2.1
      have bq2 : nn + aa ≤ nc := bq.2.2.2
      have hB0 := hB
      obtain ⟨v1, v2, v3, v4, v5, v6⟩ := hB
      have x1 : j + eB ≤ o := v1
      have x2 : nn = k + (o - j) := v2
      have x3 : ∀ x, j ≤ x → x < o → G x = ((k + (x - j) : Nat) : Int) := v3
      have x4 : ∀ x, o ≤ x → x < o + d → G x = -1 := v4
      have x6 : DS G na nc tB (o + d) (nn + aa) 1 := v6
      have hNr2 : ∀ q, q ∈ lA → o + d < q.2.2.1 := hNr
      obtain ⟨e, rfl⟩ : ∃ e, o = j + e := ⟨o - j, by omega⟩
      have en : nn = k + e := by omega
      subst en
      obtain ⟨y1, y2, y3⟩ := DS_adv (j' := j + e + d) (e' := 1) hA (by omega) bq1 (fun q hq => hNr2 q hq)
      rw [show i + (j + e + d - j) = i + e + d by omega] at y1 y2 y3
      obtain ⟨W', rfl⟩ : ∃ W', W = ((W' + aa) + d) + e := ⟨W - e - d - aa, by omega⟩
      have hF : ∀ x, x < e + d → F (i + x) = ((j + x : Nat) : Int) := fun x hx => by
        rw [y2 (i + x) (by omega) (by omega), show j + (i + x - i) = j + x by omega]
      have hG : ∀ x, x < e → G (j + x) = ((k + x : Nat) : Int) := fun x hx => by
        rw [x3 (j + x) (by omega) (by omega), show k + (j + x - j) = k + x by omega]
      have hXY : ∀ x, x < e + d → Y (j + x) = X (i + x) := fun x hx => by
        have z := EX (i + x) (by omega) (by rw [hF x hx]; omega)
        rw [hF x hx, tn] at z
        exact z.symm
      have hYZ : ∀ x, x < e → Y (j + x) = Z (k + x) := fun x hx => by
        have z := EY (j + x) (by omega) (by rw [hG x hx]; omega)
        rw [hG x hx, tn] at z
        exact z
      have E1 : rlZ Y j e = rlZ X i e := rl_ext _ _ _ (fun x hx => hXY x (by omega))
      have E2 : rlZ idZ a.length e = rlZ (uZ F G) i e := rl_ext _ _ _ (fun x hx => by
        unfold uZ
        rw [hF x (by omega), if_neg (by omega), tn, hG x hx, ha]
        rfl)
      have E3 : rlZ Y (j + e) d = rlZ X (i + e) d := rl_ext _ _ _ (fun x hx => by
        rw [show j + e + x = j + (e + x) by omega, show i + e + x = i + (e + x) by omega]
        exact hXY (e + x) (by omega))
      have hps : psK K (j + e, d, k + e, aa) = ((i + e : Nat) : Int) := by
        unfold psK
        by_cases y : e = 0
        · subst y
          rcases hz with ⟨z1, z2⟩ | z
          · rw [if_pos (show j + 0 = 0 by omega)]
            omega
          · have := z _ List.mem_cons_self
            have : j < j + 0 := this
            omega
        · have w := IV_at IF (by omega) (hF (e - 1) (by omega))
          rw [if_neg (show ¬ j + e = 0 by omega), show (j + e, d, k + e, aa).1 - 1 = j + (e - 1) from (by show j + e - 1 = j + (e - 1); omega), w]
          omega
      have r5 := mvW_5 (F := F) (K := K) (G := G) (L := L) (X := X) (Y := Y) (Z := Z) (nb := nb) (na := na) (nc := nc) e ((W' + aa) + d) i j k b M f a g (by omega) (fun x hx => by
        have f1 := hF x (by omega)
        have f2 := hG x hx
        have f3 := IV_at IF (by omega) f1
        have f4 := IV_at IG (by omega) f2
        exact ⟨by omega, by omega, by omega, by omega⟩)
      rw [E1, E2] at r5
      have hl : (M ++ rlZ X i e).length = M.length + e := ap_len
      have hl2 : (b ++ rlZ X i e).length = b.length + e := ap_len
      have hl3 : (f ++ rlZ idZ M.length e).length = f.length + e := ap_len
      have hl4 : (a ++ rlZ X i e).length = a.length + e := ap_len
      have hl5 : (g ++ rlZ (uZ F G) i e).length = g.length + e := ap_len
      have bv1 : ∀ (x : Nat) (v : Int), (b ++ rlZ X i e)[x]? = some v → v = X x := ap_bv bv (fun x _ => by rw [hb])
      have av1 : ∀ (x : Nat) (v : Int), (a ++ rlZ X i e)[x]? = some v → v = Z x := ap_bv av (fun x hx => by rw [ha, ← hYZ x hx, hXY x (by omega)])
      have lv1 : ∀ (x : Nat) (v : Int), (M ++ rlZ X i e)[x]? = some v → isLn v = true := ap_ln lv (fun x hx => lX _ (by omega))
      refine MVR_k C hh (by omega) hf hg (fun x hx r' hr' => by
        rw [hr] at hr'
        cases hr'
        rw [hps]
        omega) r5 ?_
      have r3 := mvW_3 (F := F) (K := K) (G := G) (L := L) (X := X) (Y := Y) (Z := Z) (nb := nb) (na := na) (nc := nc) (k := k + e) d (W' + aa) (i + e) (j + e) (b ++ rlZ X i e) (M ++ rlZ X i e) (f ++ rlZ idZ M.length e) (a ++ rlZ X i e) (g ++ rlZ (uZ F G) i e) bq1 (fun x hx => by
        have f1 := hF (e + x) (by omega)
        have f3 := IV_at IF (by omega) f1
        rw [show i + (e + x) = i + e + x by omega] at f1
        rw [show j + (e + x) = j + e + x by omega] at f3
        exact ⟨by omega, by omega, x4 (j + e + x) (by omega) (by omega)⟩)
      rw [E3] at r3
      have hdA := DS_hd y1
      have hdB := DS_hd x6
      have r4 := mvW_4 (F := F) (K := K) (G := G) (L := L) (X := X) (Y := Y) (Z := Z) (nb := nb) (na := na) (nc := nc) (i := i + e + d) (j := j + e + d) (fun y => by have := hdA.1 y.1; omega) (fun y => by
        by_cases z : i + e + d < nb
        · have w := IV_at IF z (hdA.1 z)
          omega
        · have := hdA.2 z
          omega) (fun y => by have := hdB.1 y.1; omega) aa W' (k + e) (b ++ rlZ X i e ++ rlZ X (i + e) d) (M ++ rlZ X i e) (f ++ rlZ idZ M.length e ++ rlZ m1Z (i + e) d) (a ++ rlZ X i e) (g ++ rlZ (uZ F G) i e) bq2 (fun x hx => DS_K hB0 IG PG (show k + e ≤ k + e + x by omega) (show k + e + x < k + e + aa by omega))
      rw [hl4, ha] at r4
      refine MVR_B C hr (show i + e + d ≤ nb by omega) hps (by omega) (by omega) (r3.trans r4) ?_
      show MVR σ0 s t nb na nc F K G L X Y Z lB W' (i + e + d) (j + e + d) (k + e + aa) (h + 1) (b ++ rlZ X i e ++ rlZ X (i + e) d) (M ++ rlZ X i e ++ rlZ Z (k + e) aa) (f ++ rlZ idZ M.length e ++ rlZ m1Z (i + e) d) (a ++ rlZ X i e ++ rlZ Z (k + e) aa) (g ++ rlZ (uZ F G) i e ++ rlZ idZ (k + e) aa)
      have hm1 : (M ++ rlZ X i e ++ rlZ Z (k + e) aa).length = (M ++ rlZ X i e).length + aa := ap_len
      have hm2 : (b ++ rlZ X i e ++ rlZ X (i + e) d).length = (b ++ rlZ X i e).length + d := ap_len
      have hm3 : (f ++ rlZ idZ M.length e ++ rlZ m1Z (i + e) d).length = (f ++ rlZ idZ M.length e).length + d := ap_len
      have hm4 : (a ++ rlZ X i e ++ rlZ Z (k + e) aa).length = (a ++ rlZ X i e).length + aa := ap_len
      have hm5 : (g ++ rlZ (uZ F G) i e ++ rlZ idZ (k + e) aa).length = (g ++ rlZ (uZ F G) i e).length + aa := ap_len
      rw [List.length_cons] at hn
      refine ih lA tB W' (i + e + d) (j + e + d) (k + e + aa) (h + 1) 1 1 _ _ _ _ _ (by omega) hd1 hh1 y1 x6 (fun q hq r hr => NT q hq r (List.mem_cons_of_mem _ hr)) (Or.inr (fun r hr => (DS_e x6 r hr).1)) (fun x hx => ?_) (fun x hx => ?_) (by omega) (by omega) (by omega) (by omega) (by omega) (by omega) (ap_bv bv1 (fun x hx => by rw [hl2, hb])) (ap_bv av1 (fun x hx => by rw [hl4, ha])) (ap_ln lv1 (fun x hx => lZ _ (by omega)))
      · by_cases z1 : x < i
        · rcases PF x z1 with z | z
          · exact Or.inl z
          · right; omega
        · have z := y2 x (by omega) (by omega)
          right; omega
      · by_cases z1 : x < j
        · rcases PG x z1 with z | z
          · exact Or.inl z
          · right; omega
        · by_cases z2 : x < j + e
          · have z := x3 x (by omega) z2
            right; omega
          · exact Or.inl (x4 x (by omega) (by omega))
    cases lA with
    | nil =>
      cases lb with
      | nil => exact ih [] [] W i j k h eA eB b M f a g (by simp) hd hh hA hB NT hz PF PG hW hb ha hf hg hM bv av lv
      | cons r tB => exact stepB r tB rfl (fun q hq => by cases hq)
    | cons q tA =>
      cases lb with
      | nil => exact stepA q tA rfl (fun r hr => by cases hr)
      | cons r tB =>
        rcases NT q List.mem_cons_self r List.mem_cons_self with z | z
        · refine stepA q tA rfl (fun r' hr' => ?_)
          rcases List.mem_cons.mp hr' with y | y
          · rw [y]; exact z
          · have := (DS_b _ _ _ _ hB.2.2.2.2.2).2.2 r' y
            omega
        · refine stepB r tB rfl (fun q' hq' => ?_)
          rcases List.mem_cons.mp hq' with y | y
          · rw [y]; exact z
          · have := (DS_b _ _ _ _ hA.2.2.2.2.2).2.2 q' y
            omega
end
-- DRAFT 99.t5mv.lean
/-! past. -/
noncomputable section
theorem TCH_n {l1 l2 : List St} (h : ¬ TCH l1 l2) : ∀ q, q ∈ l1 → ∀ r, r ∈ l2 → q.2.2.1 + q.2.2.2 < r.1 ∨ r.1 + r.2.1 < q.2.2.1 := by
  intro q hq r hr
  obtain ⟨a, ha⟩ := List.getElem?_of_mem hq
  obtain ⟨b, hb⟩ := List.getElem?_of_mem hr
  by_cases y : q.2.2.1 + q.2.2.2 < r.1 ∨ r.1 + r.2.1 < q.2.2.1
  · exact y
  · exact absurd ⟨a, q, b, r, ha, hb, by show q.2.2.1 ≤ r.1 + r.2.1 ∧ r.1 ≤ q.2.2.1 + q.2.2.2; omega⟩ h
/-- what the walk ends in, and passes -/
theorem d297 {σ : Sg} {s t nb na nc : Nat} {F K G L X Y Z Y' Y2 : Nat → Int} (hs : s < 39) (ht : t < 39) (h1 : nb ≤ 99) (h2 : na ≤ 99) (h3 : nc ≤ 99) (hm : nb + nc ≤ na + 96) (V : VF F nb na) (V' : VF G na nc) (IF : IV F K nb na) (IG : IV G L na nc) (EX : EQL X Y F nb) (EY : EQL Y Z G na) (lX : ∀ i, i < nb → isLn (X i) = true) (lZ : ∀ i, i < nc → isLn (Z i) = true) (NT : ¬ TCH (hks F nb na) (hks G na nc)) (S : Slot σ s nb na X Y' F) (S' : Slot σ t na nc Y2 Z G) : ∃ b M f a g, mvW F K G L X Y Z nb na nc (nb + na + nc) 0 0 0 [] [] [] [] [] = (b, M, f, a, g) ∧ b.length = nb ∧ M.length + na = nb + nc ∧ f.length = nb ∧ a.length = nc ∧ g.length = M.length ∧ (∀ (x : Nat) (v : Int), b[x]? = some v → v = X x) ∧ (∀ (x : Nat) (v : Int), a[x]? = some v → v = Z x) ∧ (∀ (x : Nat) (v : Int), M[x]? = some v → isLn v = true) ∧ ∃ s2, Dd 297 [vA 682, vI s, vI t, vI 39, vI 40] σ (rV s2) ∧ Slot s2 39 nb M.length X (gv M) (gv f) ∧ Slot s2 40 M.length nc (gv M) Z (gv g) ∧ ∀ c x, ¬ c = 690 → ¬ (700 ≤ c ∧ c ≤ 704) → ¬ (685 ≤ c ∧ c ≤ 687 ∧ 3900 ≤ x ∧ x < 4100) → ¬ ((c = 688 ∨ c = 689) ∧ (x = 39 ∨ x = 40)) → s2 c x = σ c x := by
  obtain ⟨t1, t2, t3, t4, t5⟩ := S
  obtain ⟨u1, u2, u3, u4, u5⟩ := S'
  obtain ⟨s1, a1, a2, a3, a4, a5⟩ := d280 (s := t) (wh := 1) (f := G) (σ := σ) (by omega) (by decide) (by omega) (by omega) V' u1 u2 u5
  obtain ⟨s4, e1, e2, e3⟩ := d293 (s := s) (σ := s1) (by omega) (by omega) (by omega) V IF (by rw [a5 _ _ (by omega) (by omega)]; exact t1) (by rw [a5 _ _ (by omega) (by omega)]; exact t2) (fun k hk => by rw [a5 _ _ (by omega) (by omega)]; exact t5 k hk)
  have fr : ∀ c x, ¬ c = 690 → ¬ (700 ≤ c ∧ c ≤ 704) → s4 c x = σ c x := fun c x y1 y2 => by rw [e3 c x y1, a5 c x (by omega) (by omega)]
  obtain ⟨lB, hlB⟩ : ∃ lB, lB = hks G na nc := ⟨_, rfl⟩
  have D1 := DS_0 V
  have D2 := DS_0 V'
  rw [← hlB] at a1 a2 a4 D2 NT
  have C : CX8 s4 s t nb na nc F K G X Z lB := ⟨hs, ht, h1, h2, h3, by omega, by rw [fr _ _ (by decide) (by decide)]; exact t1, by rw [fr _ _ (by decide) (by decide)]; exact u2, fun x hx => by rw [fr _ _ (by decide) (by decide)]; exact t3 x hx, fun x hx => by rw [fr _ _ (by decide) (by decide)]; exact t5 x hx, fun x hx => by rw [fr _ _ (by decide) (by decide)]; exact u5 x hx, fun x hx => by rw [fr _ _ (by decide) (by decide)]; exact u4 x hx, fun h q hq => by
    rw [e3 _ _ (by decide), e3 _ _ (by decide), e3 _ _ (by decide), e3 _ _ (by decide)]
    exact a2 h q hq, e2, fun x hx => by
    rcases V.1 x hx with z | z
    · exact Or.inl z
    · obtain ⟨y, hy⟩ := Int.eq_ofNat_of_zero_le z.1
      exact Or.inr ⟨y, hy, by omega⟩, fun y hy => by
    rcases IF.1 y hy with z | ⟨z1, z2, z3⟩ <;> omega, fun h r hr => by
    have z := (DS_b _ _ _ _ D2).2.2 r (List.mem_of_getElem? hr)
    omega⟩
  obtain ⟨b, M, f, a, g, q1, q2, q3, q4, q5, q6, q7, q8, q9, -, q11⟩ := mv_main C IF IG EX EY lX lZ ((hks F nb na).length + lB.length) (hks F nb na) lB (nb + na + nc) 0 0 0 0 0 0 [] [] [] [] [] (Nat.le_refl _) rfl (Nat.zero_le _) D1 D2 (TCH_n NT) (Or.inl ⟨rfl, rfl⟩) (fun x hx => absurd hx (Nat.not_lt_zero x)) (fun x hx => absurd hx (Nat.not_lt_zero x)) (by omega) rfl rfl rfl rfl rfl (fun x v e => by simp at e) (fun x v e => by simp at e) (fun x v e => by simp at e)
  obtain ⟨σ', g1, g2, g3⟩ := q11 (by omega) s4 ⟨fun x v e => by simp at e, fun x v e => by simp at e, fun x v e => by simp at e⟩ (fun _ _ _ _ => rfl)
  obtain ⟨s2, r1, r2, r3, r4⟩ := l297z C (M := M) (f := f) (g := g) (by omega) q4 q6 g2 g3
  exact ⟨b, M, f, a, g, q1, q2, q3, q4, q5, q6, q7, q8, q9, s2, b297 ⟨_, s1, a1, s4, e1, g1 r1 none⟩, r2, r3, fun c x y1 y2 y3 y4 => by rw [r4 c x y3 y4]; exact fr c x y1 y2⟩
/-- nothing that the relation speaks of lies in the slots from 29 on -/
theorem Rel_hi {σ s : Sg} {c : Int} (h : ∀ a k, ¬ (685 ≤ a ∧ a ≤ 687 ∧ 2900 ≤ k) → ¬ ((a = 688 ∨ a = 689) ∧ 29 ≤ k) → s a k = σ a k) (H : Rel c σ) : Rel c s := by
  obtain ⟨h1, h2, h3, h4, h5, h6, h7, h8, h9⟩ := H
  exact ⟨WF_fr (fun a k y => h a k (by omega) (by omega)) h1, Zl_fr (fun k => h _ _ (by omega) (by omega)) h2, RT_fr (fun c k hc => h _ _ (by omega) (by omega)) h3, RB_fr (fun c k hc => h _ _ (by omega) (by omega)) h4, RP_fr2 (fun c k hc => h _ _ (by omega) (by omega)) h5, RSt_fr2 (Int.le_refl _) (fun c k hc => h _ _ (by omega) (by omega)) h6, RU_fr (fun c k hc => h _ _ (by omega) (by omega)) h7, RF_fr (fun c k hc => h _ _ (by omega) (by omega)) h8, RD_fr (fun c k hc => h _ _ (by omega) (by omega)) h9⟩
def rsH (σ s2 : Sg) : Sg := fun a k => if (685 ≤ a ∧ a ≤ 687 ∧ 2900 ≤ k) ∨ ((a = 688 ∨ a = 689) ∧ 29 ≤ k) then σ a k else s2 a k
theorem rsH_n {σ s2 : Sg} {a k : Nat} (h : ¬ (685 ≤ a ∧ a ≤ 687 ∧ 2900 ≤ k)) (h' : ¬ ((a = 688 ∨ a = 689) ∧ 29 ≤ k)) : rsH σ s2 a k = s2 a k := by
  unfold rsH
  rw [if_neg (by omega)]
/-- a call that makes a patch, with scratch slots -/
theorem op_st2 {w m : Nat} {aw am : List AV} {σ σ1 : Sg} {c : Int} {Q p nb na : Nat} (H : Rel c σ) (hp : σ 0 3 = (p : Nat)) (h24 : p < 24) (hQ : isPatch Q = true) (hQ2 : 332 ≤ Q) (w1 : WF σ1) (f1 : ∀ a k, a < 682 → KP a k → σ1 a k = σ a k) (g1 : ∀ a k, 682 ≤ a → σ1 a k = σ a k) (P1 : PO σ1 Q 16) (hb : σ1 (Q + 1) 1 = (nb : Nat)) (ha : σ1 (Q + 3) 1 = (na : Nat)) (hA : ∀ s, Dd 242 [vA 0, vA Q] σ1 (rI p s) → Dd w aw σ (rI 0 (upS s 726 0 p))) (hB : ∀ s : Sg, (∀ a k, 682 ≤ a → ¬ a = 726 → s a k = σ a k) → ∃ s2, Dd m am s (rI p s2) ∧ s2 682 0 = 0 ∧ s2 682 3 = (p : Int) + 1 ∧ (∀ a k, a < 682 ∨ 726 ≤ a → s2 a k = s a k) ∧ (∀ a k, 682 ≤ a → a ≤ 725 → KP a k → ¬ (a = 682 ∧ k = 3) → ¬ (685 ≤ a ∧ a ≤ 687 ∧ 100 * p ≤ k ∧ k < 100 * p + 100) → ¬ ((a = 688 ∨ a = 689) ∧ k = p) → ¬ (685 ≤ a ∧ a ≤ 687 ∧ 2900 ≤ k) → ¬ ((a = 688 ∨ a = 689) ∧ 29 ≤ k) → s2 a k = σ a k) ∧ Slot s2 p nb na (σ1 (Q + 2)) (σ1 (Q + 4)) (σ1 (Q + 6))) : OpR w m aw am σ (c + 1) := by
  obtain ⟨s, a1, a2, a3, a4, a5, a6, a7⟩ := st_new hp h24 hQ hQ2 w1 f1 P1
  have z1 := P1.1
  have z2 := P1.2.1
  have z5 := P1.2.2.1
  obtain ⟨s2, b1, b2, b3, b4, b5, b6⟩ := hB (upS s 726 0 p) (fun a k h1 h2 => by rw [up_a h2, a5 a k h1]; exact g1 a k h1)
  have k0 : ∀ a k, a < 682 → s2 a k = s a k := fun a k h => by rw [b4 a k (Or.inl h), up_a (by omega)]
  have k1 : ∀ a k, a < 682 → rsH σ s2 a k = s a k := fun a k h => by rw [rsH_n (by omega) (by omega)]; exact k0 a k h
  obtain ⟨t1, t3⟩ := a6 1 (by omega)
  obtain ⟨u1, u3⟩ := a6 3 (by omega)
  obtain ⟨v1, v3⟩ := a6 5 (by omega)
  obtain ⟨y1, y2, y3, y4, y5⟩ := b6
  have e8 : rsH σ s2 688 p = s2 688 p := rsH_n (by omega) (by omega)
  have e9 : rsH σ s2 689 p = s2 689 p := rsH_n (by omega) (by omega)
  refine op_fin (hA s a1) b1 b2 (fun _ => by rw [b4 _ _ (by omega)]; exact up_s) (fun a k h => by rw [up_a (by omega), a5 a k (by omega)]; exact g1 a k (by omega)) (fun a k h => by rw [b4 a k (by omega), up_a (by omega), a5 a k (by omega)]; exact g1 a k (by omega)) (Rel_hi (σ := rsH σ s2) (fun a k h h' => (rsH_n h h').symm) (Rel_new H hp h24 a2 a3 a4 k1 (by rw [rsH_n (by omega) (by omega)]; exact b3) (fun a k h1 h2 h3 h4 h5 => ?_) ?_ (PO_fr (fun a k h => k1 a k (by omega)) a7)))
  · by_cases y : (685 ≤ a ∧ a ≤ 687 ∧ 2900 ≤ k) ∨ ((a = 688 ∨ a = 689) ∧ 29 ≤ k)
    · unfold rsH
      rw [if_pos y]
    · rw [rsH_n (fun e => y (Or.inl e)) (fun e => y (Or.inr e))]
      by_cases y2 : a ≤ 725
      · exact b5 a k h1 y2 h2 h3 h4 h5 (fun e => y (Or.inl e)) (fun e => y (Or.inr e))
      · by_cases y3 : a = 726
        · exfalso
          subst y3
          omega
        · rw [b4 a k (by omega), up_a y3, a5 a k (by omega)]
          exact g1 a k (by omega)
  · refine ⟨⟨by rw [k1 _ _ (by omega), t1, e8, y1]; exact hb, fun i hi => ?_⟩, ⟨by rw [k1 _ _ (by omega), u1, e9, y2]; exact ha, fun i hi => ?_⟩, ⟨by rw [k1 _ _ (by omega), v1, e8, y1]; omega, fun i hi => ?_⟩⟩
    · rw [e8, y1] at hi
      rw [k1 _ _ (by omega), t3 i (by omega), rsH_n (by omega) (by omega), y3 i (by omega)]
    · rw [e9, y2] at hi
      rw [k1 _ _ (by omega), u3 i (by omega), rsH_n (by omega) (by omega), y4 i (by omega)]
    · rw [e8, y1] at hi
      rw [k1 _ _ (by omega), v3 i (by omega), rsH_n (by omega) (by omega), y5 i (by omega)]
/-- a call that answers no patch, with scratch slots -/
theorem op_full2 {w m : Nat} {aw am : List AV} {σ σ1 : Sg} {c kx : Int} (H : Rel c σ) (hk : ¬ kx = 0) (w1 : WF σ1) (f1 : ∀ a k, a < 682 → KP a k → σ1 a k = σ a k) (g1 : ∀ a k, 682 ≤ a → σ1 a k = σ a k) (hA : Dd w aw σ (rI kx σ1)) (hB : ∃ s2 b, Dd m am σ1 (rI b s2) ∧ s2 682 0 = kx ∧ (∀ a k, a < 682 ∨ 726 ≤ a → s2 a k = σ1 a k) ∧ ∀ a k, 682 ≤ a → KP a k → ¬ (685 ≤ a ∧ a ≤ 687 ∧ 2900 ≤ k) → ¬ ((a = 688 ∨ a = 689) ∧ 29 ≤ k) → s2 a k = σ a k) : OpR w m aw am σ (c + 1) := by
  obtain ⟨s2, b, b1, b2, b3, b4⟩ := hB
  refine op_fin hA b1 b2 (fun h => absurd h hk) (fun a k h => g1 a k (by omega)) (fun a k h => by rw [b3 a k (by omega)]; exact g1 a k (by omega)) (Rel_hi (σ := rsH σ s2) (fun a k h h' => (rsH_n h h').symm) (Rel_sc (by omega) (WF_fr (fun a k h => by rw [rsH_n (by omega) (by omega)]; exact b3 a k (by omega)) w1) (fun a k h => ?_) H))
  by_cases y : (685 ≤ a ∧ a ≤ 687 ∧ 2900 ≤ k) ∨ ((a = 688 ∨ a = 689) ∧ 29 ≤ k)
  · unfold rsH
    rw [if_pos y]
  · rw [rsH_n (fun e => y (Or.inl e)) (fun e => y (Or.inr e))]
    by_cases h' : a < 682
    · rw [b3 a k (by omega)]; exact f1 a k h' h
    · exact b4 a k (by omega) h (fun e => y (Or.inl e)) (fun e => y (Or.inr e))
theorem cpy_out {σ : Sg} {s t c k : Nat} (h : ¬ (685 ≤ c ∧ c ≤ 687 ∧ 100 * t ≤ k ∧ k < 100 * t + 100)) (h' : ¬ ((c = 688 ∨ c = 689) ∧ k = t)) : cpyS σ s t c k = σ c k := by
  by_cases y : 685 ≤ c ∧ c ≤ 687
  · have e : k = 100 * (k / 100) + k % 100 := by omega
    rw [e]
    exact cpy_other (by omega) (by omega) y
  · by_cases y1 : c = 688
    · subst y1
      rw [cpy_n1, if_neg (by omega)]
    · by_cases y2 : c = 689
      · subst y2
        rw [cpy_n2, if_neg (by omega)]
      · exact cpy_off (by omega)
theorem Slot_cpy {σ : Sg} {s t nb na : Nat} {O N F : Nat → Int} (hb : nb ≤ 100) (ha : na ≤ 100) (S : Slot σ s nb na O N F) : Slot (cpyS σ s t) t nb na O N F := by
  obtain ⟨t1, t2, t3, t4, t5⟩ := S
  exact ⟨by rw [cpy_n1, if_pos rfl]; exact t1, by rw [cpy_n2, if_pos rfl]; exact t2, fun i hi => by rw [cpy_val (by omega) (by decide)]; exact t3 i hi, fun i hi => by rw [cpy_val (by omega) (by decide)]; exact t4 i hi, fun i hi => by rw [cpy_val (by omega) (by decide)]; exact t5 i hi⟩
end
-- DRAFT 99.t6mv.lean
/-! past, both sides. -/
noncomputable section
theorem FIN8_w {σ s : Sg} {r : List Int × List Int × List Int × List Int × List Int} (w : WF σ) (h : FIN8 s r) (B : BD r) (fr : ∀ c x, ¬ (352 ≤ c ∧ c ≤ 361) → ¬ (365 ≤ c ∧ c ≤ 374) → s c x = σ c x) : WF s := by
  obtain ⟨b1, b2, b3⟩ := B
  obtain ⟨⟨n1, w1, -⟩, ⟨n2, w2, -⟩⟩ := h
  obtain ⟨p1, c1, c3, c5, c7, c9⟩ := WDp351
  obtain ⟨p2, e1, e3, e5, e7, e9⟩ := WDp364
  obtain ⟨s', hs'⟩ : ∃ s' : Sg, s' = fun c x => if 365 ≤ c ∧ c ≤ 374 then σ c x else s c x := ⟨_, rfl⟩
  have z1 : ∀ c x, 365 ≤ c ∧ c ≤ 374 → s' c x = σ c x := fun c x h => by rw [hs']; show (if 365 ≤ c ∧ c ≤ 374 then σ c x else s c x) = _; rw [if_pos h]
  have z2 : ∀ c x, ¬ (365 ≤ c ∧ c ≤ 374) → s' c x = s c x := fun c x h => by rw [hs']; show (if 365 ≤ c ∧ c ≤ 374 then σ c x else s c x) = _; rw [if_neg h]
  have W1 : WF s' := WF_np w p1 (NP_fr (fun c x h => z2 c x (by omega)) n1) ⟨w1.1, by rw [z2 _ _ (by decide)]; exact w1.2⟩ (by omega) (by omega) (by omega) (by omega) (fun c x h => by
    by_cases y : 365 ≤ c ∧ c ≤ 374
    · exact z1 c x y
    · rw [z2 c x y]; exact fr c x (by omega) y)
  exact WF_np W1 p2 n2 w2 (by omega) (by omega) (by omega) (by omega) (fun c x h => (z2 c x (by omega)).symm)
theorem GDg {σ : Sg} {P nb na : Nat} (n : NP σ P nb na) (h : PO σ P 16) : ∀ i, i < nb → ¬ σ (P + 6) i = -1 → σ (P + 2) i = σ (P + 4) (σ (P + 6) i).toNat := by
  intro i hi e
  have n1 := n.1
  rcases h.2.2.2.2.1 i (by omega) with z | z
  · exact absurd z e
  · exact z.2.2.2
/-- movePast, two patches that follow each other and don't touch -/
theorem mp_c {σ : Sg} {P Q nb na nc : Nat} {b M f a g : List Int} (hP : isPatch P = true) (hQ : isPatch Q = true) (eP : P + 12 < 350 ∨ 376 < P) (eQ : Q + 12 < 350 ∨ 376 < Q) (w : WF σ) (N : NP σ P nb na) (N' : NP σ Q na nc) (hf : ∀ k, k < na → σ (P + 4) k = σ (Q + 2) k) (hn : nb ≤ 96 ∧ na ≤ 96 ∧ nc ≤ 96) (hM : M.length ≤ 96) (hb : b.length = nb) (ha : a.length = nc) (r : mvW (σ (P + 6)) (σ (P + 8)) (σ (Q + 6)) (σ (Q + 8)) (σ (P + 2)) (σ (P + 4)) (σ (Q + 4)) nb na nc (nb + na + nc) 0 0 0 [] [] [] [] [] = (b, M, f, a, g)) : ∃ s, Dd 8 [vA 350, vA P, vA Q] σ (rV s) ∧ FIN8 s (b, M, f, a, g) ∧ WF s ∧ ∀ c x, ¬ (352 ≤ c ∧ c ≤ 361) → ¬ (365 ≤ c ∧ c ≤ 374) → s c x = σ c x := by
  have B : BD (b, M, f, a, g) := ⟨by show b.length ≤ 96; omega, hM, by show a.length ≤ 96; omega⟩
  have B' := B
  rw [← r] at B'
  obtain ⟨s, a1, a2, a3⟩ := d8 (σ := σ) (nb := nb) (na := na) (nc := nc) (F := σ (P + 6)) (K := σ (P + 8)) (G := σ (Q + 6)) (L := σ (Q + 8)) (X := σ (P + 2)) (Y := σ (P + 4)) (Z := σ (Q + 4)) hP hQ eP eQ (by omega) ⟨WF_w w (pat_1 hP), N.1, fun _ _ => rfl⟩ ⟨WF_w w (pat_3 hP), N.2.1, fun _ _ => rfl⟩ ⟨WF_w w (pat_5 hP), N.2.2.1, fun _ _ => rfl⟩ ⟨WF_w w (pat_7 hP), N.2.2.2.1, fun _ _ => rfl⟩ ⟨WF_w w (pat_1 hQ), N'.1, fun i hi => (hf i hi).symm⟩ ⟨WF_w w (pat_3 hQ), N'.2.1, fun _ _ => rfl⟩ ⟨WF_w w (pat_5 hQ), N'.2.2.1, fun _ _ => rfl⟩ ⟨WF_w w (pat_7 hQ), N'.2.2.2.1, fun _ _ => rfl⟩ B'
  rw [r] at a2
  exact ⟨s, a1, a2, FIN8_w w a2 B a3, a3⟩
/-- what the two patches are then -/
theorem FIN8_PO {s : Sg} {b M f a g : List Int} {X Z : Nat → Int} (h : FIN8 s (b, M, f, a, g)) (hM : M.length ≤ 16) (hb : b.length ≤ 16) (ha : a.length ≤ 16) (bv : ∀ (x : Nat) (v : Int), b[x]? = some v → v = X x) (av : ∀ (x : Nat) (v : Int), a[x]? = some v → v = Z x) (lv : ∀ (x : Nat) (v : Int), M[x]? = some v → isLn v = true) (lX : ∀ i, i < b.length → isLn (X i) = true) (lZ : ∀ i, i < a.length → isLn (Z i) = true) : PO s 351 16 ∧ PO s 364 16 := by
  obtain ⟨⟨n1, w1, v1, v2, v3, v4⟩, ⟨n2, w2, u1, u2, u3, u4⟩⟩ := h
  refine ⟨PO_of n1 (by show ((b.length : Nat) : Int) ≤ 16; omega) (by show ((M.length : Nat) : Int) ≤ 16; omega) v4 (fun i hi => ?_) (fun i hi => ?_), PO_of n2 (by show ((M.length : Nat) : Int) ≤ 16; omega) (by show ((a.length : Nat) : Int) ≤ 16; omega) u4 (fun i hi => ?_) (fun i hi => ?_)⟩
  · have hi : i < b.length := hi
    rw [v1 i _ (gv_at hi), bv i _ (gv_at hi)]
    exact lX i hi
  · have hi : i < M.length := hi
    rw [v2 i _ (gv_at hi)]
    exact lv i _ (gv_at hi)
  · have hi : i < M.length := hi
    rw [u1 i _ (gv_at hi)]
    exact lv i _ (gv_at hi)
  · have hi : i < a.length := hi
    rw [u2 i _ (gv_at hi), av i _ (gv_at hi)]
    exact lZ i hi
/-- past -/
theorem o13 {σ : Sg} {c a1 a2 a3 : Int} (H : Rel c σ) : OpR 403 303 [vA 0, vI a1, vI a2, vI a3, vA 726] [vA 682, vI a1, vI a2, vI a3] σ (c + 1) := by
  by_cases g1 : a1 < 0
  · exact x13_0 H g1
  by_cases g2 : σ 0 3 ≤ a1
  · exact x13_1 H g2
  have k1 : 0 ≤ a1 ∧ a1 < σ 0 3 := by omega
  by_cases g3 : a2 < 0
  · exact x13_2 H k1 g3
  by_cases g4 : σ 0 3 ≤ a2
  · exact x13_3 H k1 g4
  have k2 : 0 ≤ a2 ∧ a2 < σ 0 3 := by omega
  obtain ⟨a, rfl⟩ := Int.eq_ofNat_of_zero_le k1.1
  obtain ⟨b, rfl⟩ := Int.eq_ofNat_of_zero_le k2.1
  have hn := (rel_n H).1
  obtain ⟨hP, q1, q2, w1, w3⟩ := po_pat H k1.2
  obtain ⟨nb, na, hb1, hb2, N, S⟩ := po_slot q1 q2 w1 w3
  obtain ⟨hQ, r1, r2, y1, y3⟩ := po_pat H k2.2
  obtain ⟨nb', nc, hb3, hb4, N', S'⟩ := po_slot r1 r2 y1 y3
  have e230 := d230_ok (σ := σ) k1 hn.2.2
  have f230 := d230_ok (σ := σ) k2 hn.2.2
  rw [show ((a : Int)).toNat = a by omega] at e230
  rw [show ((b : Int)).toNat = b by omega] at f230
  have ha24 : a < 24 := by omega
  have hb24 : b < 24 := by omega
  obtain ⟨c1, c2⟩ := d237 hP hQ H.1 N N'
  have m0 : ∀ {s : Sg} {o : Rs}, s 682 3 = σ 682 3 → C303_21 a b a3 none none 1 s o → Dd 303 [vA 682, vI a, vI b, vI a3] s o := by
    intro s o h hh
    refine b303 ⟨_, _, d248_ok (by omega), ?_⟩
    rw [if_neg (show ¬ (1 : Int) = 0 by decide)]
    refine ⟨_, _, d248_ok (by omega), ?_⟩
    rw [if_neg (show ¬ (1 : Int) = 0 by decide)]
    exact hh
  have m104 : ∀ (s : Sg) (d1 d2 d4 d5 : Option AV), C303_104 d1 d2 a3 d4 d5 s (rI 0 (upS s 682 0 2)) := fun s d1 d2 d4 d5 => by
    refine b303_104 (b303_109 ⟨_, _, d245, ?_⟩)
    rw [if_neg (show ¬ (2 : Int) = 0 by decide), if_pos rfl]
  by_cases hf : FLW nb' na (σ (20 + 13 * a + 4)) (σ (20 + 13 * b + 2))
  · have ena := hf.1
    subst ena
    obtain ⟨t1, t2⟩ := d6 hP hQ (WF_w H.1 (pat_9 hP)) (WF_w H.1 (pat_9 hQ)) (PC_of N (by omega) (by omega)) (PC_of N' (by omega) (by omega))
    -- the reference, up to whether they touch
    have m21 : ∀ {s : Sg}, (∀ c k, 682 ≤ c → ¬ c = 726 → s c k = σ c k) → ∃ (z : Int) (σ' : Sg), (z = 0 ∨ z = 1) ∧ (z = 1 ↔ TCH (hks (σ (20 + 13 * a + 6)) nb na) (hks (σ (20 + 13 * b + 6)) na nc)) ∧ (∀ c k, ¬ (700 ≤ c ∧ c ≤ 704) → σ' c k = s c k) ∧ ∀ {o : Rs}, (if z = 0 then C303_51 a b a3 1 none 1 σ' o else C303_50 a b a3 1 none σ' o) → Dd 303 [vA 682, vI a, vI b, vI a3] s o := by
      intro s hs
      have fr0 : ∀ c k, 685 ≤ c ∧ c ≤ 689 → s c k = σ c k := fun c k h => hs c k (by omega) (by omega)
      obtain ⟨z, s2, d1, d2, d3, d4⟩ := d292 (s := a) (t := b) (σ := s) (by omega) (by omega) (by omega) (by omega) (by omega) (by omega) N.2.2.2.2.1 N'.2.2.2.2.1 (Slot_fr fr0 S) (Slot_fr fr0 S')
      refine ⟨z, s2, d2, d3, d4, fun {o} hh => m0 (hs _ _ (by decide) (by decide)) (b303_21 ?_)⟩
      rw [if_neg (show ¬ (1 : Int) = 0 by decide)]
      refine ⟨_, _, (d290 (by omega) (by omega) (by omega) (Slot_fr fr0 S) (Slot_fr fr0 S')).1 hf, ?_⟩
      rw [if_neg (show ¬ (1 : Int) = 0 by decide)]
      exact ⟨_, _, d1, hh⟩
    by_cases tc : TCH (hks (σ (20 + 13 * a + 6)) nb na) (hks (σ (20 + 13 * b + 6)) na nc)
    · -- they touch
      have e6 := t1 tc
      have hA := b403 (x3 := a3) (Or.inr (Or.inr ⟨_, b185 (Or.inl ⟨_, _, e230, hP, Or.inl ⟨_, _, f230, hQ, Or.inl ⟨_, c1 hf, _, _, e6, by
        rw [if_neg (show ¬ (1 : Int) = 0 by decide)]
        exact b185_52 rfl⟩⟩⟩), rfl⟩))
      obtain ⟨z, s2, z1, z2, z3, z4⟩ := m21 (s := σ) (fun _ _ _ _ => rfl)
      refine op_full2 H (kx := 2) (σ1 := σ) (by decide) H.1 (fun _ _ _ _ => rfl) (fun _ _ _ => rfl) hA ⟨upS s2 682 0 2, 0, z4 ?_, up_s, fun x k h => by rw [up_a (by omega)]; exact z3 x k (by omega), fun x k h h' h2 h3 => ?_⟩
      · rw [if_neg (by have := z2.mpr tc; omega)]
        refine b303_50 (b303_51 ?_)
        rw [if_pos rfl]
        refine b303_68 ?_
        rw [if_neg (show ¬ (1 : Int) = 0 by decide), if_pos rfl]
        exact m104 _ _ _ _ _
      · have : upS s2 682 0 2 x k = s2 x k := by unfold upS; rw [if_neg (by omega)]
        rw [this]
        exact z3 x k (by omega)
    · have e6 := t2 tc
      have EX : EQL (σ (20 + 13 * a + 2)) (σ (20 + 13 * a + 4)) (σ (20 + 13 * a + 6)) nb := fun i hi e => GDg N q2 i hi e
      have EY : EQL (σ (20 + 13 * a + 4)) (σ (20 + 13 * b + 4)) (σ (20 + 13 * b + 6)) na := fun i hi e => by
        rw [hf.2 i hi]
        exact GDg N' r2 i hi e
      have lX : ∀ i, i < nb → isLn (σ (20 + 13 * a + 2) i) = true := fun i hi => q2.2.2.2.2.2.2.2.1 i (by rw [N.1]; omega)
      have lZ : ∀ i, i < nc → isLn (σ (20 + 13 * b + 4) i) = true := fun i hi => r2.2.2.2.2.2.2.2.2.1 i (by rw [N'.2.1]; omega)
      have pass : ∀ (s : Sg), (∀ c k, 685 ≤ c ∧ c ≤ 689 → s c k = σ c k) → _ := fun s hs => d297 (σ := s) (s := a) (t := b) (K := σ (20 + 13 * a + 8)) (L := σ (20 + 13 * b + 8)) (Y := σ (20 + 13 * a + 4)) (by omega) (by omega) (by omega) (by omega) (by omega) (by omega) N.2.2.2.2.1 N'.2.2.2.2.1 N.2.2.2.2.2.1 N'.2.2.2.2.2.1 EX EY lX lZ tc (Slot_fr hs S) (Slot_fr hs S')
      obtain ⟨b', M, f, a', g, u1, u2, u3, u4, u5, u6, u7, u8, u9, -⟩ := pass σ (fun _ _ _ => rfl)
      have e7 : Dd 7 [vA 350, vA (20 + 13 * a), vA (20 + 13 * b)] σ (rI (M.length : Nat) σ) := by
        have p1 := d146 (σ := σ) (pat_1 hP)
        rw [N.1] at p1
        have p2 := d146 (σ := σ) (pat_3 hQ)
        rw [N'.2.1] at p2
        have p3 := d146 (σ := σ) (pat_1 hQ)
        rw [N'.1] at p3
        refine b7 hP hQ ⟨_, _, p1, _, _, p2, by omega, _, _, p3, by omega, ?_⟩
        rw [show ((nb : Nat) : Int) + ((nc : Nat) : Int) - ((na : Nat) : Int) = ((M.length : Nat) : Int) by omega]
      -- the reference, past the passing
      have mP : ∀ {s : Sg}, (∀ c k, 682 ≤ c → ¬ c = 726 → s c k = σ c k) → ∃ s3, (∀ {o : Rs}, C303_68 (some (vI a)) (some (vI b)) a3 1 1 s3 o → Dd 303 [vA 682, vI a, vI b, vI a3] s o) ∧ Slot s3 39 nb M.length (σ (20 + 13 * a + 2)) (gv M) (gv f) ∧ Slot s3 40 M.length nc (gv M) (σ (20 + 13 * b + 4)) (gv g) ∧ ∀ c x, ¬ c = 690 → ¬ (700 ≤ c ∧ c ≤ 704) → ¬ (685 ≤ c ∧ c ≤ 687 ∧ 3900 ≤ x ∧ x < 4100) → ¬ ((c = 688 ∨ c = 689) ∧ (x = 39 ∨ x = 40)) → s3 c x = s c x := by
        intro s hs
        obtain ⟨z, s2, z1, z2, z3, z4⟩ := m21 hs
        have hz : z = 0 := by
          rcases z1 with e | e
          · exact e
          · exact absurd (z2.mp e) tc
        obtain ⟨b2, M2, f2, a2, g2, v1, -, -, -, -, -, -, -, -, s3, v2, v3, v4, v5⟩ := pass s2 (fun c k h => by rw [z3 c k (by omega)]; exact hs c k (by omega) (by omega))
        rw [u1] at v1
        cases v1
        refine ⟨s3, fun {o} hh => z4 ?_, v3, v4, fun c x h1 h2 h3 h4 => by rw [v5 c x h1 h2 h3 h4]; exact z3 c x h2⟩
        rw [if_pos hz]
        refine b303_51 ?_
        rw [if_neg (show ¬ (1 : Int) = 0 by decide)]
        exact ⟨s3, v2, hh⟩
      by_cases g5 : 16 < M.length
      · -- the text between would be too long
        have hA := b403 (x3 := a3) (Or.inr (Or.inr ⟨_, b185 (Or.inl ⟨_, _, e230, hP, Or.inl ⟨_, _, f230, hQ, Or.inl ⟨_, c1 hf, _, _, e6, by
          rw [if_pos rfl]
          refine ⟨_, _, e7, ?_⟩
          rw [if_pos (by omega)]
          exact b185_52 rfl⟩⟩⟩), rfl⟩))
        obtain ⟨s3, v1, v2, v3, v4⟩ := mP (s := σ) (fun _ _ _ _ => rfl)
        refine op_full2 H (kx := 2) (σ1 := σ) (by decide) H.1 (fun _ _ _ _ => rfl) (fun _ _ _ => rfl) hA ⟨upS s3 682 0 2, 0, v1 (b303_68 ?_), up_s, fun x k h => by rw [up_a (by omega)]; exact v4 x k (by omega) (by omega) (by omega) (by omega), fun x k h h' h2 h3 => ?_⟩
        · rw [if_neg (show ¬ (1 : Int) = 0 by decide), if_neg (show ¬ (1 : Int) = 0 by decide), show ((39 : Int)).toNat = 39 from rfl, v2.2.1, if_neg (by omega)]
          exact m104 _ _ _ _ _
        · have : upS s3 682 0 2 x k = s3 x k := by unfold upS; rw [if_neg (by omega)]
          rw [this]
          exact v4 x k (by omega) (by omega) (by omega) (by omega)
      obtain ⟨s8, a1', a2', W8, a4'⟩ := mp_c hP hQ (by omega) (by omega) H.1 N N' hf.2 (by omega) (by omega) u2 u5 u1
      obtain ⟨po1, po2⟩ := FIN8_PO a2' (by omega) (by omega) (by omega) u7 u8 u9 (by rw [u2]; exact lX) (by rw [u5]; exact lZ)
      have F1 : ∀ a k, a < 682 → KP a k → s8 a k = σ a k := fun a k h1 h2 => a4' a k (by omega) (by omega)
      have G1 : ∀ a k, 682 ≤ a → s8 a k = σ a k := fun a k h1 => a4' a k (by omega) (by omega)
      have fin : ∀ (Q y n1 n2 : Nat) (O T F' : Nat → Int), isPatch Q = true → 332 ≤ Q → (y = 39 ∨ y = 40) → Dd 2 [vA 350, vI a3] s8 (rA Q s8) → PO s8 Q 16 → s8 (Q + 1) 1 = (n1 : Nat) → s8 (Q + 3) 1 = (n2 : Nat) → n1 ≤ 16 → n2 ≤ 16 → (if a3 = 0 then (40 : Int) else 39) = (y : Nat) → (∀ i, i < n1 → O i = s8 (Q + 2) i) → (∀ i, i < n2 → T i = s8 (Q + 4) i) → (∀ i, i < n1 → F' i = s8 (Q + 6) i) → (∀ s3, Slot s3 39 nb M.length (σ (20 + 13 * a + 2)) (gv M) (gv f) → Slot s3 40 M.length nc (gv M) (σ (20 + 13 * b + 4)) (gv g) → Slot s3 y n1 n2 O T F') → OpR 403 303 [vA 0, vI a, vI b, vI a3, vA 726] [vA 682, vI a, vI b, vI a3] σ (c + 1) := by
        intro Q y n1 n2 O T F' hQQ hQ2 hy e2 PQ k1' k2' m1 m2 ey hO hT hF hSl
        by_cases g6 : σ 0 3 < 24
        · obtain ⟨p, hp⟩ := Int.eq_ofNat_of_zero_le hn.2.1
          refine op_st2 H hp (by omega) hQQ hQ2 W8 F1 G1 PQ k1' k2' (fun s hs => b403 (Or.inl ⟨_, _, b185 (Or.inl ⟨_, _, e230, hP, Or.inl ⟨_, _, f230, hQ, Or.inl ⟨_, c1 hf, _, _, e6, by
            rw [if_pos rfl]
            refine ⟨_, _, e7, ?_⟩
            rw [if_neg (by omega)]
            exact ⟨s8, a1', Q, s8, e2, hQQ, Or.inl ⟨_, _, hs, rfl⟩⟩⟩⟩⟩), rfl⟩)) (fun s hs => ?_)
          obtain ⟨s3, v1, v2, v3, v4⟩ := mP hs
          have SL := hSl s3 v2 v3
          have e3 : s3 682 3 = (p : Nat) := by rw [v4 _ _ (by decide) (by decide) (by decide) (by decide), hs _ _ (by decide) (by decide), hn.1, hp]
          have e3' : upS s3 682 0 0 682 3 = (p : Nat) := by rw [up_k (by decide)]; exact e3
          have S5 : Slot (upS s3 682 0 0) y n1 n2 O T F' := Slot_fr (fun c k h => by rw [up_a (by omega)]) SL
          have S6 : Slot (cpyS (upS s3 682 0 0) y p) p n1 n2 O T F' := Slot_cpy (by omega) (by omega) S5
          refine ⟨upS (cpyS (upS s3 682 0 0) y p) 682 3 ((p : Int) + 1), v1 (b303_68 ?_), ?_, up_s, fun x k h => ?_, fun x k h1 h2 h3 h4 h5 h6 h7 h8 => ?_, ?_⟩
          · rw [if_neg (show ¬ (1 : Int) = 0 by decide), if_neg (show ¬ (1 : Int) = 0 by decide), show ((39 : Int)).toNat = 39 from rfl, v2.2.1, if_pos (by omega), e3, if_neg (by omega)]
            refine b303_109 ⟨_, _, d245, ?_⟩
            rw [if_pos rfl, if_neg (show ¬ (1 : Int) = 0 by decide), ey]
            exact b303_129 ⟨_, _, d289_ok (by omega) e3' (by omega), rfl⟩
          · rw [up_k (by decide), cpy_out (by omega) (by omega), up_s]
          · rw [up_a (by omega), cpy_out (by omega) (by omega), up_a (by omega)]
            exact v4 x k (by omega) (by omega) (by omega) (by omega)
          · have : upS (cpyS (upS s3 682 0 0) y p) 682 3 ((p : Int) + 1) x k = cpyS (upS s3 682 0 0) y p x k := by unfold upS; rw [if_neg h4]
            rw [this, cpy_out h5 h6]
            have : upS s3 682 0 0 x k = s3 x k := by unfold upS; rw [if_neg (by omega)]
            rw [this, v4 x k (by omega) (by omega) (by omega) (by omega)]
            exact hs x k h1 (by omega)
          · exact Slot_fr (fun c k h => by rw [up_a (by omega)]) (Slot_cg (fun i hi => (hO i hi).symm) (fun i hi => (hT i hi).symm) (fun i hi => (hF i hi).symm) S6)
        · have hfull : Dd 242 [vA 0, vA Q] s8 (rX 2 s8) := d242_full (by rw [F1 0 3 (by decide) (kq_P (by omega))]; exact g6)
          have hA := b403 (x3 := a3) (Or.inr (Or.inr ⟨_, b185 (Or.inl ⟨_, _, e230, hP, Or.inl ⟨_, _, f230, hQ, Or.inl ⟨_, c1 hf, _, _, e6, by
            rw [if_pos rfl]
            refine ⟨_, _, e7, ?_⟩
            rw [if_neg (by omega)]
            exact ⟨s8, a1', Q, s8, e2, hQQ, Or.inr ⟨_, _, hfull, rfl⟩⟩⟩⟩⟩), rfl⟩))
          obtain ⟨s3, v1, v2, v3, v4⟩ := mP (s := s8) (fun x k h _ => G1 x k h)
          have e3 : s3 682 3 = 24 := by
            rw [v4 _ _ (by decide) (by decide) (by decide) (by decide), G1 _ _ (by decide)]
            omega
          refine op_full2 H (kx := 2) (σ1 := s8) (by decide) W8 F1 G1 hA ⟨upS s3 682 0 2, 0, v1 (b303_68 ?_), up_s, fun x k h => by rw [up_a (by omega)]; exact v4 x k (by omega) (by omega) (by omega) (by omega), fun x k h h' h2 h3 => ?_⟩
          · rw [if_neg (show ¬ (1 : Int) = 0 by decide), if_neg (show ¬ (1 : Int) = 0 by decide), show ((39 : Int)).toNat = 39 from rfl, v2.2.1, if_pos (by omega), e3, if_pos rfl]
            exact m104 _ _ _ _ _
          · have : upS s3 682 0 2 x k = s3 x k := by unfold upS; rw [if_neg (by omega)]
            rw [this, v4 x k (by omega) (by omega) (by omega) (by omega)]
            exact G1 x k h
      obtain ⟨⟨f1, -, f3, f4, f5, -⟩, ⟨f7, -, f9, f10, f11, -⟩⟩ := a2'
      by_cases g7 : a3 = 0
      · refine fin 364 40 M.length nc (gv M) (σ (20 + 13 * b + 4)) (gv g) WDp364.1 (by decide) (Or.inr rfl) (b2 (by rw [if_pos g7])) po2 f7.1 (by rw [f7.2.1]; exact congrArg _ u5) (by omega) hb4 (by rw [if_pos g7]; rfl) (fun i hi => (f9 i _ (gv_at hi)).symm) (fun i hi => ?_) (fun i hi => (f11 i _ (gv_at (by show i < g.length; omega))).symm) (fun s3 _ h => h)
        have hi' : i < a'.length := by omega
        rw [f10 i _ (gv_at hi'), u8 i _ (gv_at hi')]
      · refine fin 351 39 nb M.length (σ (20 + 13 * a + 2)) (gv M) (gv f) WDp351.1 (by decide) (Or.inl rfl) (b2 (by rw [if_neg g7])) po1 (by rw [f1.1]; exact congrArg _ u2) f1.2.1 hb1 (by omega) (by rw [if_neg g7]; rfl) (fun i hi => ?_) (fun i hi => (f4 i _ (gv_at hi)).symm) (fun i hi => (f5 i _ (gv_at (by show i < f.length; omega))).symm) (fun s3 h _ => h)
        have hi' : i < b'.length := by omega
        rw [f3 i _ (gv_at hi'), u7 i _ (gv_at hi')]
  · refine op_x H (kx := 2) (b := 0) (by decide) (b403 (Or.inr (Or.inr ⟨_, b185 (Or.inl ⟨_, _, e230, hP, Or.inl ⟨_, _, f230, hQ, Or.inr ⟨_, _, c2 hf, rfl⟩⟩⟩), rfl⟩))) (m0 rfl (b303_21 ?_))
    rw [if_neg (show ¬ (1 : Int) = 0 by decide)]
    refine ⟨_, _, (d290 (by omega) (by omega) (by omega) S S').2 hf, ?_⟩
    rw [if_pos rfl]
    refine b303_50 (b303_51 ?_)
    rw [if_pos rfl]
    refine b303_68 ?_
    rw [if_neg (show ¬ (1 : Int) = 0 by decide), if_pos rfl]
    exact m104 _ _ _ _ _
end
