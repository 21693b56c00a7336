/-! A patch past its predecessor: both walks go the same way. -/
noncomputable section
def MVR (σ0 : Sg) (s t nb na nc : Nat) (F K G L X Y Z : Nat → Int) (lB : List St) (W i j k h : Nat) (b M f a g : List Int) : Prop :=
  ∃ b' M' f' a' g', mvW F K G L X Y Z nb na nc W i j k b M f a g = (b', M', f', a', g') ∧ b'.length = nb ∧ M'.length + na = nb + nc ∧ f'.length = nb ∧ a'.length = nc ∧ g'.length = M'.length ∧ (∀ (x : Nat) (v : Int), b'[x]? = some v → v = X x) ∧ (∀ (x : Nat) (v : Int), a'[x]? = some v → v = Z x) ∧ (∀ (x : Nat) (v : Int), M'[x]? = some v → isLn v = true) ∧ M.length ≤ M'.length ∧ (M'.length ≤ 99 → ∀ σ, RS8 σ M f g → FR8 σ σ0 → ∃ σ', (∀ {o : Rs}, (∀ d9 : Option AV, C297_24 s t 39 40 (lB.length : Nat) ((128 + lB.length : Nat) : Int) (M'.length : Nat) nb d9 σ' o) → ∀ d9 : Option AV, C297_24 s t 39 40 (lB.length : Nat) ((128 + h : Nat) : Int) (M.length : Nat) i d9 σ o) ∧ RS8 σ' M' f' g' ∧ FR8 σ' σ0)
theorem MVR_k {σ0 : Sg} {s t nb na nc : Nat} {F K G L X Y Z : Nat → Int} {lB : List St} (C : CX8 σ0 s t nb na nc F K G X Z lB) {W W' i j k j' k' h d : Nat} {b M f a g b2 a2 : List Int} (hh : h ≤ lB.length) (hid : i + d ≤ nb) (hf : f.length = i) (hg : g.length = M.length) (np : ∀ x, x < d → ∀ r, lB[h]? = some r → ¬ psK K r = ((i + x : Nat) : Int)) (e : mvW F K G L X Y Z nb na nc W i j k b M f a g = mvW F K G L X Y Z nb na nc W' (i + d) j' k' b2 (M ++ rlZ X i d) (f ++ rlZ idZ M.length d) a2 (g ++ rlZ (uZ F G) i d)) (R : MVR σ0 s t nb na nc F K G L X Y Z lB W' (i + d) j' k' h b2 (M ++ rlZ X i d) (f ++ rlZ idZ M.length d) a2 (g ++ rlZ (uZ F G) i d)) : MVR σ0 s t nb na nc F K G L X Y Z lB W i j k h b M f a g := by
  obtain ⟨b', M', f', a', g', q1, q2, q3, q4, q5, q6, q7, q8, q9, q10, q11⟩ := R
  have hl : (M ++ rlZ X i d).length = M.length + d := ap_len
  rw [hl] at q10
  refine ⟨b', M', f', a', g', e.trans q1, q2, q3, q4, q5, q6, q7, q8, q9, by omega, fun hM σ R fr => ?_⟩
  obtain ⟨σ1, a1, a2, a3⟩ := l297r C hh d i M f g σ hid (by omega) hf hg np R fr
  obtain ⟨σ', c1, c2, c3⟩ := q11 hM σ1 a2 a3
  rw [hl] at c1
  exact ⟨σ', fun {o} hx => a1 (c1 hx), c2, c3⟩
theorem MVR_2 {σ0 : Sg} {s t nb na nc : Nat} {F K G L X Y Z : Nat → Int} {lB : List St} {W W' i j k j' k' h : Nat} {b M f a g a2 : List Int} (e : mvW F K G L X Y Z nb na nc W i j k b M f a g = mvW F K G L X Y Z nb na nc W' i j' k' b M f a2 g) (R : MVR σ0 s t nb na nc F K G L X Y Z lB W' i j' k' h b M f a2 g) : MVR σ0 s t nb na nc F K G L X Y Z lB W i j k h b M f a g := by
  obtain ⟨b', M', f', a', g', q1, q2, q3, q4, q5, q6, q7, q8, q9, q10, q11⟩ := R
  exact ⟨b', M', f', a', g', e.trans q1, q2, q3, q4, q5, q6, q7, q8, q9, q10, q11⟩
theorem MVR_B {σ0 : Sg} {s t nb na nc : Nat} {F K G L X Y Z : Nat → Int} {lB : List St} (C : CX8 σ0 s t nb na nc F K G X Z lB) {W W' i j k j' k' h : Nat} {r : St} {b M f a g b2 a2 : List Int} (hr : lB[h]? = some r) (hi : i + r.2.1 ≤ nb) (hp : psK K r = (i : Int)) (hf : f.length = i) (hg : g.length = M.length) (e : mvW F K G L X Y Z nb na nc W i j k b M f a g = mvW F K G L X Y Z nb na nc W' (i + r.2.1) j' k' b2 (M ++ rlZ Z r.2.2.1 r.2.2.2) (f ++ rlZ m1Z i r.2.1) a2 (g ++ rlZ idZ r.2.2.1 r.2.2.2)) (R : MVR σ0 s t nb na nc F K G L X Y Z lB W' (i + r.2.1) j' k' (h + 1) b2 (M ++ rlZ Z r.2.2.1 r.2.2.2) (f ++ rlZ m1Z i r.2.1) a2 (g ++ rlZ idZ r.2.2.1 r.2.2.2)) : MVR σ0 s t nb na nc F K G L X Y Z lB W i j k h b M f a g := by
  obtain ⟨b', M', f', a', g', q1, q2, q3, q4, q5, q6, q7, q8, q9, q10, q11⟩ := R
  have hl : (M ++ rlZ Z r.2.2.1 r.2.2.2).length = M.length + r.2.2.2 := ap_len
  rw [hl] at q10
  refine ⟨b', M', f', a', g', e.trans q1, q2, q3, q4, q5, q6, q7, q8, q9, by omega, fun hM σ R fr => ?_⟩
  obtain ⟨σ1, a1, a2, a3⟩ := l297h C hr hi hp (by omega) hf hg R fr
  obtain ⟨σ', c1, c2, c3⟩ := q11 hM σ1 a2 a3
  rw [hl] at c1
  exact ⟨σ', fun {o} hx => a1 (c1 hx), c2, c3⟩
theorem IV_at {F K : Nat → Int} {nb na x y : Nat} (I : IV F K nb na) (hx : x < nb) (h : F x = (y : Int)) : K y = (x : Int) := by
  have z := I.2 x hx (by omega)
  rw [h, tn] at z
  exact z
theorem mv_main {σ0 : Sg} {s t nb na nc : Nat} {F K G L X Y Z : Nat → Int} {lB : List St} (C : CX8 σ0 s t nb na nc F K G X Z lB) (IF : IV F K nb na) (IG : IV G L na nc) (EX : EQL X Y F nb) (EY : EQL Y Z G na) (lX : ∀ i, i < nb → isLn (X i) = true) (lZ : ∀ i, i < nc → isLn (Z i) = true) : ∀ (n : Nat) (lA lb : List St) (W i j k h eA eB : Nat) (b M f a g : List Int), lA.length + lb.length ≤ n → lB.drop h = lb → h ≤ lB.length → DS F nb na lA i j eA → DS G na nc lb j k eB → (∀ q, q ∈ lA → ∀ r, r ∈ lb → q.2.2.1 + q.2.2.2 < r.1 ∨ r.1 + r.2.1 < q.2.2.1) → ((i = 0 ∧ j = 0) ∨ ∀ r, r ∈ lb → j < r.1) → (∀ x, x < i → F x = -1 ∨ F x < (j : Int)) → (∀ x, x < j → G x = -1 ∨ G x < (k : Int)) → (nb - i) + (na - j) + (nc - k) ≤ W → b.length = i → a.length = k → f.length = i → g.length = M.length → M.length + j = i + k → (∀ (x : Nat) (v : Int), b[x]? = some v → v = X x) → (∀ (x : Nat) (v : Int), a[x]? = some v → v = Z x) → (∀ (x : Nat) (v : Int), M[x]? = some v → isLn v = true) → MVR σ0 s t nb na nc F K G L X Y Z lB W i j k h b M f a g := by
  intro n
  induction n with
  | zero =>
    intro lA lb W i j k h eA eB b M f a g hn hd hh hA hB NT hz PF PG hW hb ha hf hg hM bv av lv
    have eA' : lA = [] := List.eq_nil_of_length_eq_zero (by omega)
    have eB' : lb = [] := List.eq_nil_of_length_eq_zero (by omega)
    subst eA' eB'
    obtain ⟨a1, a2, a3, a4⟩ := hA
    obtain ⟨b1, b2, b3, b4⟩ := hB
    have hhl : h = lB.length := by
      have := List.drop_eq_nil_iff.mp hd
      omega
    obtain ⟨e, he⟩ : ∃ e, nb = i + e := ⟨nb - i, by omega⟩
    have e1 : na = j + e := by omega
    have e2 : nc = k + e := by omega
    obtain ⟨W', rfl⟩ : ∃ W', W = W' + e := ⟨W - e, by omega⟩
    have hF : ∀ x, x < e → F (i + x) = ((j + x : Nat) : Int) := fun x hx => by
      rw [a4 (i + x) (by omega) (by omega), show j + (i + x - i) = j + x by omega]
    have hG : ∀ x, x < e → G (j + x) = ((k + x : Nat) : Int) := fun x hx => by
      rw [b4 (j + x) (by omega) (by omega), show k + (j + x - j) = k + x by omega]
    have hXY : ∀ x, x < e → Y (j + x) = X (i + x) := fun x hx => by
      have z := EX (i + x) (by omega) (by rw [hF x hx]; omega)
      rw [hF x hx, tn] at z
      exact z.symm
    have hYZ : ∀ x, x < e → Y (j + x) = Z (k + x) := fun x hx => by
      have z := EY (j + x) (by omega) (by rw [hG x hx]; omega)
      rw [hG x hx, tn] at z
      exact z
    have E1 : rlZ Y j e = rlZ X i e := rl_ext _ _ _ hXY
    have E2 : rlZ idZ a.length e = rlZ (uZ F G) i e := rl_ext _ _ _ (fun x hx => by
      unfold uZ
      rw [hF x hx, if_neg (by omega), tn, hG x hx, ha]
      rfl)
    have r5 := mvW_5 (F := F) (K := K) (G := G) (L := L) (X := X) (Y := Y) (Z := Z) (nb := nb) (na := na) (nc := nc) e W' i j k b M f a g (by omega) (fun x hx => by
      have f1 := hF x hx
      have f2 := hG x hx
      have f3 := IV_at IF (by omega) f1
      have f4 := IV_at IG (by omega) f2
      exact ⟨by omega, by omega, by omega, by omega⟩)
    rw [E1, E2] at r5
    refine MVR_k C hh (by omega) hf hg (fun x hx r hr => by
      rw [hhl, List.getElem?_eq_none (Nat.le_refl _)] at hr
      cases hr) r5 ?_
    have hl : (M ++ rlZ X i e).length = M.length + e := ap_len
    have hl2 : (b ++ rlZ X i e).length = b.length + e := ap_len
    have hl3 : (f ++ rlZ idZ M.length e).length = f.length + e := ap_len
    have hl4 : (a ++ rlZ X i e).length = a.length + e := ap_len
    have hl5 : (g ++ rlZ (uZ F G) i e).length = g.length + e := ap_len
    refine ⟨_, _, _, _, _, mvW_e (by omega) (by omega) (by omega) W', by omega, by omega, by omega, by omega, by omega, ap_bv bv (fun x _ => by rw [hb]), ap_bv av (fun x hx => by rw [ha, ← hYZ x hx, hXY x hx]), ap_ln lv (fun x hx => lX _ (by omega)), Nat.le_refl _, fun _ σ R fr => ⟨σ, fun {o} hx => ?_, R, fr⟩⟩
    rw [hhl, ← he]
    exact hx
  | succ n ih =>
    intro lA lb W i j k h eA eB b M f a g hn hd hh hA hB NT hz PF PG hW hb ha hf hg hM bv av lv
    have bA := DS_b _ _ _ _ hA
    have bB := DS_b _ _ _ _ hB
    have hmem : ∀ r, lB[h]? = some r → r ∈ lb := fun r hr => by
      rw [← hd]
      refine List.mem_of_getElem? (i := 0) ?_
      rw [List.getElem?_drop, Nat.add_zero]
      exact hr
    -- a hunk of the first patch comes next
    have stepA : ∀ (q : St) (tA : List St), lA = q :: tA → (∀ r, r ∈ lb → q.2.2.1 + q.2.2.2 < r.1) → MVR σ0 s t nb na nc F K G L X Y Z lB W i j k h b M f a g := by
      intro q tA hq hNq
      subst hq
      obtain ⟨o, d, nn, aa⟩ := q
      have bq := bA.2.2 _ List.mem_cons_self
      have bq1 : o + d ≤ nb := bq.2.1
      have bq2 : nn + aa ≤ na := bq.2.2.2
      have hA0 := hA
      obtain ⟨v1, v2, v3, v4, v5, v6⟩ := hA
      have x1 : i + eA ≤ o := v1
      have x2 : nn = j + (o - i) := v2
      have x3 : ∀ x, i ≤ x → x < o → F x = ((j + (x - i) : Nat) : Int) := v3
      have x4 : ∀ x, o ≤ x → x < o + d → F x = -1 := v4
      have x6 : DS F nb na tA (o + d) (nn + aa) 1 := v6
      have hNq2 : ∀ r, r ∈ lb → nn + aa < r.1 := hNq
      obtain ⟨e, rfl⟩ : ∃ e, o = i + e := ⟨o - i, by omega⟩
      have en : nn = j + e := by omega
      subst en
      obtain ⟨y1, y2, y3⟩ := DS_adv1 (i' := j + e + aa) (e' := 1) hB (by omega) bq2 (fun r hr => hNq2 r hr)
      rw [show k + (j + e + aa - j) = k + e + aa by omega] at y1 y3
      obtain ⟨W', rfl⟩ : ∃ W', W = ((W' + aa) + d) + e := ⟨W - e - d - aa, by omega⟩
      have hF : ∀ x, x < e → F (i + x) = ((j + x : Nat) : Int) := fun x hx => by
        rw [x3 (i + x) (by omega) (by omega), show j + (i + x - i) = j + x by omega]
      have hG : ∀ x, x < e + aa → G (j + x) = ((k + x : Nat) : Int) := fun x hx => by
        rw [y2 (j + x) (by omega) (by omega), show k + (j + x - j) = k + x by omega]
      have hXY : ∀ x, x < e → Y (j + x) = X (i + x) := fun x hx => by
        have z := EX (i + x) (by omega) (by rw [hF x hx]; omega)
        rw [hF x hx, tn] at z
        exact z.symm
      have hYZ : ∀ x, x < e + aa → Y (j + x) = Z (k + x) := fun x hx => by
        have z := EY (j + x) (by omega) (by rw [hG x hx]; omega)
        rw [hG x hx, tn] at z
        exact z
      have E1 : rlZ Y j e = rlZ X i e := rl_ext _ _ _ hXY
      have E2 : rlZ idZ a.length e = rlZ (uZ F G) i e := rl_ext _ _ _ (fun x hx => by
        unfold uZ
        rw [hF x hx, if_neg (by omega), tn, hG x (by omega), ha]
        rfl)
      have E3 : rlZ m1Z (i + e) d = rlZ (uZ F G) (i + e) d := rl_ext d (i + e) (i + e) (fun x hx => by
        unfold uZ
        rw [x4 (i + e + x) (by omega) (by omega), if_pos rfl]
        rfl)
      have np : ∀ x, x < e + d → ∀ r, lB[h]? = some r → ¬ psK K r = ((i + x : Nat) : Int) := by
        intro x hx r hr
        have hm := hmem r hr
        have h1 := hNq2 r hm
        have h2 := (bB.2.2 r hm).2.1
        obtain ⟨x0, w1, w2, w3⟩ := DS_on tA (i + e + d) (j + e + aa) 1 (r.1 - 1) x6 (by omega) (by omega) (fun q hq => by
          have := NT q (List.mem_cons_of_mem _ hq) r hm
          omega)
        have w4 := IV_at IF w2 w3
        unfold psK
        rw [if_neg (by omega), w4]
        omega
      have r5 := mvW_5 (F := F) (K := K) (G := G) (L := L) (X := X) (Y := Y) (Z := Z) (nb := nb) (na := na) (nc := nc) e ((W' + aa) + d) i j k b M f a g (by omega) (fun x hx => by
        have f1 := hF x hx
        have f2 := hG x (by omega)
        have f3 := IV_at IF (by omega) f1
        have f4 := IV_at IG (by omega) f2
        exact ⟨by omega, by omega, by omega, by omega⟩)
      rw [E1, E2] at r5
      have hl : (M ++ rlZ X i e).length = M.length + e := ap_len
      have hl2 : (b ++ rlZ X i e).length = b.length + e := ap_len
      have hl3 : (f ++ rlZ idZ M.length e).length = f.length + e := ap_len
      have hl4 : (a ++ rlZ X i e).length = a.length + e := ap_len
      have hl5 : (g ++ rlZ (uZ F G) i e).length = g.length + e := ap_len
      have bv1 : ∀ (x : Nat) (v : Int), (b ++ rlZ X i e)[x]? = some v → v = X x := ap_bv bv (fun x _ => by rw [hb])
      have av1 : ∀ (x : Nat) (v : Int), (a ++ rlZ X i e)[x]? = some v → v = Z x := ap_bv av (fun x hx => by rw [ha, ← hYZ x (by omega), hXY x hx])
      have lv1 : ∀ (x : Nat) (v : Int), (M ++ rlZ X i e)[x]? = some v → isLn v = true := ap_ln lv (fun x hx => lX _ (by omega))
      refine MVR_k C hh (by omega) hf hg (fun x hx r hr => np x (by omega) r hr) r5 ?_
      have r1 := mvW_1 (F := F) (K := K) (G := G) (L := L) (X := X) (Y := Y) (Z := Z) (nb := nb) (na := na) (nc := nc) d (W' + aa) (i + e) (j + e) (k + e) (b ++ rlZ X i e) (M ++ rlZ X i e) (f ++ rlZ idZ M.length e) (a ++ rlZ X i e) (g ++ rlZ (uZ F G) i e) bq1 (fun x hx => x4 (i + e + x) (by omega) (by omega))
      rw [E3] at r1
      refine MVR_k C hh bq1 (by omega) (by omega) (fun x hx r hr => by
        rw [show i + e + x = i + (e + x) by omega]
        exact np (e + x) (by omega) r hr) r1 ?_
      have hdd := DS_hd x6
      refine MVR_2 (mvW_2 (fun y => by have := hdd.1 y.1; omega) aa W' (j + e) (k + e) _ _ _ _ _ bq2 (fun x hx => DS_K hA0 IF PF (show j + e ≤ j + e + x by omega) (show j + e + x < j + e + aa by omega))) ?_
      have hm1 : (M ++ rlZ X i e ++ rlZ X (i + e) d).length = (M ++ rlZ X i e).length + d := ap_len
      have hm2 : (b ++ rlZ X i e ++ rlZ X (i + e) d).length = (b ++ rlZ X i e).length + d := ap_len
      have hm3 : (f ++ rlZ idZ M.length e ++ rlZ idZ (M ++ rlZ X i e).length d).length = (f ++ rlZ idZ M.length e).length + d := ap_len
      have hm4 : (a ++ rlZ X i e ++ rlZ Y (j + e) aa).length = (a ++ rlZ X i e).length + aa := ap_len
      have hm5 : (g ++ rlZ (uZ F G) i e ++ rlZ (uZ F G) (i + e) d).length = (g ++ rlZ (uZ F G) i e).length + d := ap_len
      rw [List.length_cons] at hn
      refine ih tA lb W' (i + e + d) (j + e + aa) (k + e + aa) h 1 1 _ _ _ _ _ (by omega) hd hh x6 y1 (fun q hq r hr => NT q (List.mem_cons_of_mem _ hq) r hr) (Or.inr hNq2) (fun x hx => ?_) (fun x hx => ?_) (by omega) (by omega) (by omega) (by omega) (by omega) (by omega) (ap_bv bv1 (fun x hx => by rw [hl2, hb])) (ap_bv av1 (fun x hx => by rw [hl4, ha, show j + e + x = j + (e + x) by omega, hYZ (e + x) (by omega), show k + (e + x) = k + e + x by omega])) (ap_ln lv1 (fun x hx => lX _ (by omega)))
      · by_cases z1 : x < i
        · rcases PF x z1 with z | z
          · exact Or.inl z
          · right; omega
        · by_cases z2 : x < i + e
          · have z := x3 x (by omega) z2
            right; omega
          · exact Or.inl (x4 x (by omega) (by omega))
      · by_cases z1 : x < j
        · rcases PG x z1 with z | z
          · exact Or.inl z
          · right; omega
        · have z := y2 x (by omega) (by omega)
          right; omega
    -- a hunk of the second
    have stepB : ∀ (r : St) (tB : List St), lb = r :: tB → (∀ q, q ∈ lA → r.1 + r.2.1 < q.2.2.1) → MVR σ0 s t nb na nc F K G L X Y Z lB W i j k h b M f a g := by
      intro r tB hr0 hNr
      subst hr0
      have hr : lB[h]? = some r := by
        have z : (lB.drop h)[0]? = some r := by rw [hd]; rfl
        rw [List.getElem?_drop, Nat.add_zero] at z
        exact z
      have hd1 : lB.drop (h + 1) = tB := by
        rw [← List.tail_drop, hd]
        rfl
      have hh1 : h + 1 ≤ lB.length := (List.getElem?_eq_some_iff.mp hr).1
      obtain ⟨o, d, nn, aa⟩ := r
      have bq := bB.2.2 _ List.mem_cons_self
      have bq1 : o + d ≤ na := bq.2.1
      have bq2 : nn + aa ≤ nc := bq.2.2.2
      have hB0 := hB
      obtain ⟨v1, v2, v3, v4, v5, v6⟩ := hB
      have x1 : j + eB ≤ o := v1
      have x2 : nn = k + (o - j) := v2
      have x3 : ∀ x, j ≤ x → x < o → G x = ((k + (x - j) : Nat) : Int) := v3
      have x4 : ∀ x, o ≤ x → x < o + d → G x = -1 := v4
      have x6 : DS G na nc tB (o + d) (nn + aa) 1 := v6
      have hNr2 : ∀ q, q ∈ lA → o + d < q.2.2.1 := hNr
      obtain ⟨e, rfl⟩ : ∃ e, o = j + e := ⟨o - j, by omega⟩
      have en : nn = k + e := by omega
      subst en
      obtain ⟨y1, y2, y3⟩ := DS_adv (j' := j + e + d) (e' := 1) hA (by omega) bq1 (fun q hq => hNr2 q hq)
      rw [show i + (j + e + d - j) = i + e + d by omega] at y1 y2 y3
      obtain ⟨W', rfl⟩ : ∃ W', W = ((W' + aa) + d) + e := ⟨W - e - d - aa, by omega⟩
      have hF : ∀ x, x < e + d → F (i + x) = ((j + x : Nat) : Int) := fun x hx => by
        rw [y2 (i + x) (by omega) (by omega), show j + (i + x - i) = j + x by omega]
      have hG : ∀ x, x < e → G (j + x) = ((k + x : Nat) : Int) := fun x hx => by
        rw [x3 (j + x) (by omega) (by omega), show k + (j + x - j) = k + x by omega]
      have hXY : ∀ x, x < e + d → Y (j + x) = X (i + x) := fun x hx => by
        have z := EX (i + x) (by omega) (by rw [hF x hx]; omega)
        rw [hF x hx, tn] at z
        exact z.symm
      have hYZ : ∀ x, x < e → Y (j + x) = Z (k + x) := fun x hx => by
        have z := EY (j + x) (by omega) (by rw [hG x hx]; omega)
        rw [hG x hx, tn] at z
        exact z
      have E1 : rlZ Y j e = rlZ X i e := rl_ext _ _ _ (fun x hx => hXY x (by omega))
      have E2 : rlZ idZ a.length e = rlZ (uZ F G) i e := rl_ext _ _ _ (fun x hx => by
        unfold uZ
        rw [hF x (by omega), if_neg (by omega), tn, hG x hx, ha]
        rfl)
      have E3 : rlZ Y (j + e) d = rlZ X (i + e) d := rl_ext _ _ _ (fun x hx => by
        rw [show j + e + x = j + (e + x) by omega, show i + e + x = i + (e + x) by omega]
        exact hXY (e + x) (by omega))
      have hps : psK K (j + e, d, k + e, aa) = ((i + e : Nat) : Int) := by
        unfold psK
        by_cases y : e = 0
        · subst y
          rcases hz with ⟨z1, z2⟩ | z
          · rw [if_pos (show j + 0 = 0 by omega)]
            omega
          · have := z _ List.mem_cons_self
            have : j < j + 0 := this
            omega
        · have w := IV_at IF (by omega) (hF (e - 1) (by omega))
          rw [if_neg (show ¬ j + e = 0 by omega), show (j + e, d, k + e, aa).1 - 1 = j + (e - 1) from (by show j + e - 1 = j + (e - 1); omega), w]
          omega
      have r5 := mvW_5 (F := F) (K := K) (G := G) (L := L) (X := X) (Y := Y) (Z := Z) (nb := nb) (na := na) (nc := nc) e ((W' + aa) + d) i j k b M f a g (by omega) (fun x hx => by
        have f1 := hF x (by omega)
        have f2 := hG x hx
        have f3 := IV_at IF (by omega) f1
        have f4 := IV_at IG (by omega) f2
        exact ⟨by omega, by omega, by omega, by omega⟩)
      rw [E1, E2] at r5
      have hl : (M ++ rlZ X i e).length = M.length + e := ap_len
      have hl2 : (b ++ rlZ X i e).length = b.length + e := ap_len
      have hl3 : (f ++ rlZ idZ M.length e).length = f.length + e := ap_len
      have hl4 : (a ++ rlZ X i e).length = a.length + e := ap_len
      have hl5 : (g ++ rlZ (uZ F G) i e).length = g.length + e := ap_len
      have bv1 : ∀ (x : Nat) (v : Int), (b ++ rlZ X i e)[x]? = some v → v = X x := ap_bv bv (fun x _ => by rw [hb])
      have av1 : ∀ (x : Nat) (v : Int), (a ++ rlZ X i e)[x]? = some v → v = Z x := ap_bv av (fun x hx => by rw [ha, ← hYZ x hx, hXY x (by omega)])
      have lv1 : ∀ (x : Nat) (v : Int), (M ++ rlZ X i e)[x]? = some v → isLn v = true := ap_ln lv (fun x hx => lX _ (by omega))
      refine MVR_k C hh (by omega) hf hg (fun x hx r' hr' => by
        rw [hr] at hr'
        cases hr'
        rw [hps]
        omega) r5 ?_
      have r3 := mvW_3 (F := F) (K := K) (G := G) (L := L) (X := X) (Y := Y) (Z := Z) (nb := nb) (na := na) (nc := nc) (k := k + e) d (W' + aa) (i + e) (j + e) (b ++ rlZ X i e) (M ++ rlZ X i e) (f ++ rlZ idZ M.length e) (a ++ rlZ X i e) (g ++ rlZ (uZ F G) i e) bq1 (fun x hx => by
        have f1 := hF (e + x) (by omega)
        have f3 := IV_at IF (by omega) f1
        rw [show i + (e + x) = i + e + x by omega] at f1
        rw [show j + (e + x) = j + e + x by omega] at f3
        exact ⟨by omega, by omega, x4 (j + e + x) (by omega) (by omega)⟩)
      rw [E3] at r3
      have hdA := DS_hd y1
      have hdB := DS_hd x6
      have r4 := mvW_4 (F := F) (K := K) (G := G) (L := L) (X := X) (Y := Y) (Z := Z) (nb := nb) (na := na) (nc := nc) (i := i + e + d) (j := j + e + d) (fun y => by have := hdA.1 y.1; omega) (fun y => by
        by_cases z : i + e + d < nb
        · have w := IV_at IF z (hdA.1 z)
          omega
        · have := hdA.2 z
          omega) (fun y => by have := hdB.1 y.1; omega) aa W' (k + e) (b ++ rlZ X i e ++ rlZ X (i + e) d) (M ++ rlZ X i e) (f ++ rlZ idZ M.length e ++ rlZ m1Z (i + e) d) (a ++ rlZ X i e) (g ++ rlZ (uZ F G) i e) bq2 (fun x hx => DS_K hB0 IG PG (show k + e ≤ k + e + x by omega) (show k + e + x < k + e + aa by omega))
      rw [hl4, ha] at r4
      refine MVR_B C hr (show i + e + d ≤ nb by omega) hps (by omega) (by omega) (r3.trans r4) ?_
      show MVR σ0 s t nb na nc F K G L X Y Z lB W' (i + e + d) (j + e + d) (k + e + aa) (h + 1) (b ++ rlZ X i e ++ rlZ X (i + e) d) (M ++ rlZ X i e ++ rlZ Z (k + e) aa) (f ++ rlZ idZ M.length e ++ rlZ m1Z (i + e) d) (a ++ rlZ X i e ++ rlZ Z (k + e) aa) (g ++ rlZ (uZ F G) i e ++ rlZ idZ (k + e) aa)
      have hm1 : (M ++ rlZ X i e ++ rlZ Z (k + e) aa).length = (M ++ rlZ X i e).length + aa := ap_len
      have hm2 : (b ++ rlZ X i e ++ rlZ X (i + e) d).length = (b ++ rlZ X i e).length + d := ap_len
      have hm3 : (f ++ rlZ idZ M.length e ++ rlZ m1Z (i + e) d).length = (f ++ rlZ idZ M.length e).length + d := ap_len
      have hm4 : (a ++ rlZ X i e ++ rlZ Z (k + e) aa).length = (a ++ rlZ X i e).length + aa := ap_len
      have hm5 : (g ++ rlZ (uZ F G) i e ++ rlZ idZ (k + e) aa).length = (g ++ rlZ (uZ F G) i e).length + aa := ap_len
      rw [List.length_cons] at hn
      refine ih lA tB W' (i + e + d) (j + e + d) (k + e + aa) (h + 1) 1 1 _ _ _ _ _ (by omega) hd1 hh1 y1 x6 (fun q hq r hr => NT q hq r (List.mem_cons_of_mem _ hr)) (Or.inr (fun r hr => (DS_e x6 r hr).1)) (fun x hx => ?_) (fun x hx => ?_) (by omega) (by omega) (by omega) (by omega) (by omega) (by omega) (ap_bv bv1 (fun x hx => by rw [hl2, hb])) (ap_bv av1 (fun x hx => by rw [hl4, ha])) (ap_ln lv1 (fun x hx => lZ _ (by omega)))
      · by_cases z1 : x < i
        · rcases PF x z1 with z | z
          · exact Or.inl z
          · right; omega
        · have z := y2 x (by omega) (by omega)
          right; omega
      · by_cases z1 : x < j
        · rcases PG x z1 with z | z
          · exact Or.inl z
          · right; omega
        · by_cases z2 : x < j + e
          · have z := x3 x (by omega) z2
            right; omega
          · exact Or.inl (x4 x (by omega) (by omega))
    cases lA with
    | nil =>
      cases lb with
      | nil => exact ih [] [] W i j k h eA eB b M f a g (by simp) hd hh hA hB NT hz PF PG hW hb ha hf hg hM bv av lv
      | cons r tB => exact stepB r tB rfl (fun q hq => by cases hq)
    | cons q tA =>
      cases lb with
      | nil => exact stepA q tA rfl (fun r hr => by cases hr)
      | cons r tB =>
        rcases NT q List.mem_cons_self r List.mem_cons_self with z | z
        · refine stepA q tA rfl (fun r' hr' => ?_)
          rcases List.mem_cons.mp hr' with y | y
          · rw [y]; exact z
          · have := (DS_b _ _ _ _ hB.2.2.2.2.2).2.2 r' y
            omega
        · refine stepB r tB rfl (fun q' hq' => ?_)
          rcases List.mem_cons.mp hq' with y | y
          · rw [y]; exact z
          · have := (DS_b _ _ _ _ hA.2.2.2.2.2).2.2 q' y
            omega
end
