/-! Orders: the reference's side, and the call. -/
noncomputable section
theorem swL_get {l : List Nat} {k x : Nat} (hk : k + 1 < l.length) : (swL l k)[x]? = if x = k then l[k + 1]? else if x = k + 1 then l[k]? else l[x]? := by
  have e1 : l[k]? = some l[k] := List.getElem?_eq_getElem (by omega)
  have e2 : l[k + 1]? = some l[k + 1] := List.getElem?_eq_getElem hk
  unfold swL
  by_cases e : x = k + 1
  · subst e
    rw [List.getElem?_set_self (by rw [List.length_set]; exact hk), if_neg (by omega), if_pos rfl, e1]
    rfl
  · rw [List.getElem?_set_ne (by omega)]
    by_cases y : x = k
    · subst y
      rw [List.getElem?_set_self (by omega), if_pos rfl, e2]
      rfl
    · rw [List.getElem?_set_ne (by omega), if_neg y, if_neg e]
def HG (σ : Sg) (ps : List Pt) : Prop := ∀ (x : Nat) (q : Pt), ps[x]? = some q → HM σ (29 + x) q
def AT (σ : Sg) (l : List Nat) : Prop := ∀ (x v : Nat), l[x]? = some v → σ 716 x = (v : Nat)
/-- what the search may write -/
def FO (s σ : Sg) : Prop := ∀ c x, ¬ c = 690 → ¬ (700 ≤ c ∧ c ≤ 704) → ¬ (712 ≤ c ∧ c ≤ 716) → ¬ (685 ≤ c ∧ c ≤ 687 ∧ 2900 ≤ x) → ¬ ((c = 688 ∨ c = 689) ∧ 29 ≤ x) → s c x = σ c x
/-- exchangesAt -/
theorem d358 {σ : Sg} {h k : Nat} {st ps : List Pt} {l : List Nat} {p q : Pt} (h4 : h ≤ 4) (H : okL h st ps) (hl : l.length = h) (hp : ps[k]? = some p) (hq : ps[k + 1]? = some q) (R : HG σ ps) (A : AT σ l) : (tcP p q → ∃ s, Dd 358 [vA 682, vI k] σ (rI 0 s) ∧ ∀ c x, ¬ (700 ≤ c ∧ c ≤ 704) → s c x = σ c x) ∧ (¬ tcP p q → ∃ s, Dd 358 [vA 682, vI k] σ (rI 1 s) ∧ HG s (exA ps k p q) ∧ AT s (swL l k) ∧ ∀ c x, ¬ c = 690 → ¬ (700 ≤ c ∧ c ≤ 704) → ¬ c = 716 → ¬ (685 ≤ c ∧ c ≤ 687 ∧ 2900 ≤ x) → ¬ ((c = 688 ∨ c = 689) ∧ 29 ≤ x) → s c x = σ c x) := by
  have hx := (List.getElem?_eq_some_iff.mp hq).1
  have hps := H.1
  have Gp := H.2.1 _ _ hp
  have Gq := H.2.1 _ _ hq
  have C := H.2.2.1 _ _ _ hp hq
  have Z := okL_z H h4 hp hq
  have hz := Z
  obtain ⟨z1, z2, z3, z4⟩ := hz
  have c1 := C.1
  obtain ⟨v, s1, d1, d2, d3, d4⟩ := d292 (s := 29 + k) (t := 29 + (k + 1)) (σ := σ) (by omega) (by omega) (by omega) (by omega) (by omega) (by omega) Gp.1 Gq.1 (R k p hp) (R (k + 1) q hq)
  have i1 : 29 + (k : Int) = ((29 + k : Nat) : Int) := by omega
  have i2 : ((29 + k : Nat) : Int) + 1 = ((29 + (k + 1) : Nat) : Int) := by omega
  refine ⟨fun T => ⟨s1, b358 ?_, d4⟩, fun T => ?_⟩
  · have hv : v = 1 := d3.mpr T
    rw [i1, i2]
    refine ⟨by omega, by omega, by omega, v, s1, d1, ?_⟩
    rw [if_neg (by omega)]
  · have hv : v = 0 := by
      rcases d2 with e | e
      · exact e
      · exact absurd (d3.mp e) T
    have f1 : ∀ c k, 685 ≤ c ∧ c ≤ 689 → s1 c k = σ c k := fun c k h => d4 c k (by omega)
    obtain ⟨-, -, -, -, -, -, -, -, s2, e1, e2, e3, e4⟩ := ex_slot (σ := s1) (s := 29 + k) (t := 29 + (k + 1)) (su := 39) (sv := 40) (by omega) (by omega) (by omega) (by omega) (by omega) (by omega) (by omega) (by omega) (by omega) Gp Gq C T Z (HM_fr f1 (R k p hp)) (HM_fr f1 (R (k + 1) q hq))
    obtain ⟨b1, b2, b3, b4, b5, b6⟩ := ex_ok Gp Gq C T Z
    have HX := exA_ok H h4 hp hq T
    have c5 := d288 (σ := s2) (s := 39) (t := 29 + k) (by omega) (by omega)
    have c6 := d288 (σ := cpyS s2 39 (29 + k)) (s := 40) (t := 29 + (k + 1)) (by omega) (by omega)
    obtain ⟨s3, hs3⟩ : ∃ s3, s3 = cpyS (cpyS s2 39 (29 + k)) 40 (29 + (k + 1)) := ⟨_, rfl⟩
    rw [← hs3] at c6
    have s37 : ∀ c x, ¬ (685 ≤ c ∧ c ≤ 689) → ¬ c = 690 → ¬ (700 ≤ c ∧ c ≤ 704) → s3 c x = σ c x := fun c x y1 y2 y3 => by
      rw [hs3, cpy_off y1, cpy_off y1, e4 c x y2 y3 (by omega) (by omega)]
      exact d4 c x y3
    refine ⟨upS (upS s3 716 k (s3 716 (k + 1))) 716 (k + 1) (s3 716 k), b358 ?_, fun x a e => ?_, fun x a e => ?_, fun c x y1 y2 y3 y4 y5 => ?_⟩
    · rw [i1, i2]
      refine ⟨by omega, by omega, by omega, v, s1, d1, ?_⟩
      rw [if_pos hv]
      refine ⟨by omega, by omega, by omega, s2, e1, by omega, _, c5, by omega, by omega, s3, c6, by omega, by omega, by omega, by omega, by omega, by omega, ?_⟩
      rw [tn, show ((k : Int) + 1).toNat = k + 1 by omega]
    · have hxl := (List.getElem?_eq_some_iff.mp e).1
      have hxl : x < ps.length := by unfold exA at hxl; rw [List.length_set, List.length_set] at hxl; exact hxl
      have za := okL_sz HX x a e
      rw [exA_get hx] at e
      have off : SEq (upS (upS s3 716 k (s3 716 (k + 1))) 716 (k + 1) (s3 716 k)) (29 + x) s3 (29 + x) := ⟨by rw [up_a (by decide), up_a (by decide)], by rw [up_a (by decide), up_a (by decide)], fun c y _ hc => by rw [up_a (by omega), up_a (by omega)]⟩
      refine HM_se off (by omega) ?_
      rw [hs3]
      by_cases y : x = k
      · rw [if_pos y] at e
        cases e
        subst y
        exact HM_se (se_t (se_o (by omega)) se_c) (by omega) e2
      · rw [if_neg y] at e
        by_cases y2 : x = k + 1
        · rw [if_pos y2] at e
          cases e
          subst y2
          exact HM_se (se_t se_c (se_o (by omega))) (by omega) e3
        · rw [if_neg y2] at e
          exact HM_se (se_t (se_o (by omega)) (se_t (se_o (by omega)) (se_t (se_ex e4 (by omega) (by omega)) ⟨f1 _ _ (by omega), f1 _ _ (by omega), fun c k _ hc => f1 _ _ (by omega)⟩))) (by omega) (R x a e)
    · rw [swL_get (by omega)] at e
      have a0 : ∀ y, s3 716 y = σ 716 y := fun y => s37 716 y (by decide) (by decide) (by decide)
      by_cases y2 : x = k + 1
      · rw [if_neg (by omega), if_pos y2] at e
        rw [y2, up_s, a0]
        exact A k a e
      · rw [up_k y2]
        by_cases y : x = k
        · rw [if_pos y] at e
          rw [y, up_s, a0]
          exact A (k + 1) a e
        · rw [if_neg y, if_neg y2] at e
          rw [up_k y, a0]
          exact A x a e
    · rw [up_a y3, up_a y3]
      by_cases y6 : 685 ≤ c ∧ c ≤ 689
      · rw [hs3, cpy_out (by omega) (by omega), cpy_out (by omega) (by omega), e4 c x y1 y2 (by omega) (by omega)]
        exact d4 c x y2
      · exact s37 c x y6 y1 y2
/-- the parents and the exchanges of what was found -/
def MP (σ : Sg) (D : List Oe) : Prop := ∀ (n : Nat) (e : Oe), 0 < n → D[n]? = some e → σ 713 n = (e.2.2.1 : Nat) ∧ σ 714 n = (e.2.2.2 : Nat)
theorem l359a {h : Nat} {st : List Pt} {D : List Oe} {d1 d4} (h4 : h ≤ 4) (I : DI h st D) : ∀ (ms : List Nat) (n i : Nat) (σ : Sg), pth D n ms → n < D.length → i + ms.length ≤ 23 → MP σ D → ∃ s, (∀ {o : Rs}, C359_35 d1 ((i + ms.length : Nat) : Int) 0 d4 s o → C359_4 d1 i n d4 σ o) ∧ (∀ (j m : Nat), ms[j]? = some m → s 715 (i + j) = (m : Nat)) ∧ (∀ c x, ¬ c = 715 → s c x = σ c x) ∧ ∀ x, x < i → s 715 x = σ 715 x := by
  intro ms
  have hl := DI_len I h4
  induction ms with
  | nil =>
    intro n i σ hp hn hi M
    have hp : n = 0 := hp
    subst hp
    refine ⟨σ, fun {o} h => b359_4 ?_, fun j m e => by simp at e, fun _ _ _ => rfl, fun _ _ => rfl⟩
    rw [if_neg (by omega)]
    exact h
  | cons m r ih =>
    intro n i σ hp hn hi M
    obtain ⟨h0, e, he, hm, hr⟩ := hp
    have hi : i + (r.length + 1) ≤ 23 := hi
    obtain ⟨k1, k2⟩ := M n e h0 he
    have gp := (I.2.2.2 n e h0 he).1
    have fr : ∀ c x, ¬ c = 715 → upS σ 715 i (m : Int) c x = σ c x := fun c x hc => up_a hc
    obtain ⟨s, a1, a2, a3, a4⟩ := ih e.2.2.1 (i + 1) (upS σ 715 i (m : Int)) hr (by omega) (by omega) (fun n' e' h' he' => by rw [fr _ _ (by decide), fr _ _ (by decide)]; exact M n' e' h' he')
    refine ⟨s, fun {o} h => b359_4 ?_, fun j m' hj => ?_, fun c x hc => by rw [a3 c x hc]; exact fr c x hc, fun x hx => by rw [a4 x (by omega), up_k (by omega)]⟩
    · rw [if_pos (by omega)]
      refine ⟨by omega, by omega, by omega, by omega, ?_⟩
      rw [tn, tn, k2, hm, fr 713 n (by decide), k1, show (i : Int) + 1 = ((i + 1 : Nat) : Int) by omega]
      refine a1 ?_
      rw [List.length_cons] at h
      rw [show i + 1 + r.length = i + (r.length + 1) by omega]
      exact h
    · cases j with
      | zero =>
        cases hj
        rw [Nat.add_zero, a4 i (by omega), up_s]
      | succ j =>
        have hj : r[j]? = some m' := hj
        have z := a2 j m' hj
        rw [show i + 1 + j = i + (j + 1) by omega] at z
        exact z
/-- the slots of the stack -/
def SM (σ : Sg) (h : Nat) (st : List Pt) : Prop := σ 682 40 = (h : Nat) ∧ ∀ (y : Nat) (q : Pt), st[y]? = some q → HM σ (24 + y) q
theorem SM_fr {σ s : Sg} {h : Nat} {st : List Pt} (hst : okL h st st) (h4 : h ≤ 4) (f : FO s σ) (H : SM σ h st) : SM s h st :=
  ⟨by rw [f _ _ (by decide) (by decide) (by decide) (by decide) (by decide)]; exact H.1, fun y q e => by
    have hy := (List.getElem?_eq_some_iff.mp e).1
    have hl := hst.1
    have z := okL_sz hst y q e
    exact HM_se ⟨f _ _ (by omega) (by omega) (by omega) (by omega) (by omega), f _ _ (by omega) (by omega) (by omega) (by omega) (by omega), fun c k hk hc => f _ _ (by omega) (by omega) (by omega) (by omega) (by omega)⟩ (by omega) (H.2 y q e)⟩
theorem l359b {h : Nat} {st : List Pt} {d1 d4} {x2 : Int} (h4 : h ≤ 4) (hst : okL h st st) (hx2 : -2147483648 ≤ x2 - 1 ∧ x2 - 1 ≤ 2147483647) : ∀ (d k : Nat) (σ : Sg), k + d = h → SM σ h st → (∀ (y : Nat) (q : Pt), y < k → st[y]? = some q → HM σ (29 + y) q) → (∀ y, y < k → σ 716 y = (y : Nat)) → ∃ s, (∀ {o : Rs}, C359_72 d1 (some (vI x2)) (x2 - 1) d4 s o → C359_35 d1 x2 k d4 σ o) ∧ HG s st ∧ AT s (List.range h) ∧ ∀ c x, ¬ c = 716 → ¬ (685 ≤ c ∧ c ≤ 687 ∧ 2900 ≤ x) → ¬ ((c = 688 ∨ c = 689) ∧ 29 ≤ x) → s c x = σ c x := by
  intro d
  induction d with
  | zero =>
    intro k σ hd S H1 H2
    have hl := hst.1
    refine ⟨σ, fun {o} hh => b359_35 ?_, fun y q e => H1 y q (by have := (List.getElem?_eq_some_iff.mp e).1; omega) e, fun x v e => ?_, fun _ _ _ _ _ => rfl⟩
    · rw [S.1, if_neg (by omega)]
      exact ⟨hx2, hh⟩
    · have hx := (List.getElem?_eq_some_iff.mp e).1
      rw [List.length_range] at hx
      rw [List.getElem?_range hx] at e
      cases e
      exact H2 x (by omega)
  | succ d ih =>
    intro k σ hd S H1 H2
    have hl := hst.1
    have c6 := d288 (σ := σ) (s := 24 + k) (t := 29 + k) (by omega) (by omega)
    have zz : ∀ (y : Nat) (q : Pt), st[y]? = some q → q.1 ≤ 96 ∧ q.2.1 ≤ 96 := fun y q e => by
      have hy := (List.getElem?_eq_some_iff.mp e).1
      have z := okL_sz hst y q e
      omega
    have u2 : ∀ u, SEq (upS (cpyS σ (24 + k) (29 + k)) 716 k (k : Int)) u (cpyS σ (24 + k) (29 + k)) u := fun u => ⟨up_a (by decide), up_a (by decide), fun c x _ hc => up_a (by omega)⟩
    have fr : ∀ c x, ¬ c = 716 → ¬ (685 ≤ c ∧ c ≤ 687 ∧ 2900 ≤ x) → ¬ ((c = 688 ∨ c = 689) ∧ 29 ≤ x) → upS (cpyS σ (24 + k) (29 + k)) 716 k (k : Int) c x = σ c x := fun c x y1 y2 y3 => by
      rw [up_a y1]
      exact cpy_out (by omega) (by omega)
    obtain ⟨s, a1, a2, a3, a4⟩ := ih (k + 1) (upS (cpyS σ (24 + k) (29 + k)) 716 k (k : Int)) (by omega) ⟨by rw [fr _ _ (by decide) (by decide) (by decide)]; exact S.1, fun y q e => HM_se (se_t (u2 _) (se_o (by have := (List.getElem?_eq_some_iff.mp e).1; omega))) (zz y q e) (S.2 y q e)⟩ (fun y q hy e => by
      by_cases ey : y = k
      · subst ey
        exact HM_se (se_t (u2 _) se_c) (zz y q e) (S.2 y q e)
      · exact HM_se (se_t (u2 _) (se_o (by omega))) (zz y q e) (H1 y q (by omega) e)) (fun y hy => by
      by_cases ey : y = k
      · subst ey
        exact up_s
      · rw [up_k ey, cpy_off (by decide)]
        exact H2 y (by omega))
    refine ⟨s, fun {o} hh => b359_35 ?_, a2, a3, fun c x y1 y2 y3 => by rw [a4 c x y1 y2 y3]; exact fr c x y1 y2 y3⟩
    rw [S.1, if_pos (by omega), show 24 + (k : Int) = ((24 + k : Nat) : Int) by omega, show 29 + (k : Int) = ((29 + k : Nat) : Int) by omega]
    refine ⟨by omega, by omega, _, c6, by omega, by omega, ?_⟩
    rw [tn, show (k : Int) + 1 = ((k + 1 : Nat) : Int) by omega]
    exact a1 hh
theorem l359c {h : Nat} {st : List Pt} {D : List Oe} {d1 d2} {full : List Nat} (h4 : h ≤ 4) (I : DI h st D) (hf : full.length ≤ 24) : ∀ (ms pre : List Nat) (n : Nat) (σ : Sg), full = pre ++ ms → pth D n ms → n < D.length → HG σ st → AT σ (List.range h) → (∀ (j m : Nat), full[j]? = some m → σ 715 j = (m : Nat)) → ∃ s, (∀ {o : Rs}, (∀ d4, C359_72 d1 d2 ((pre.length : Int) - 1) d4 s o) → ∀ d4, C359_72 d1 d2 ((full.length : Int) - 1) d4 σ o) ∧ (∀ e : Oe, D[n]? = some e → HG s e.2.1 ∧ AT s e.1) ∧ ∀ c x, ¬ c = 690 → ¬ (700 ≤ c ∧ c ≤ 704) → ¬ c = 716 → ¬ (685 ≤ c ∧ c ≤ 687 ∧ 2900 ≤ x) → ¬ ((c = 688 ∨ c = 689) ∧ 29 ≤ x) → s c x = σ c x := by
  intro ms
  induction ms with
  | nil =>
    intro pre n σ hfull hp hn R A S
    have hp : n = 0 := hp
    subst hp
    rw [List.append_nil] at hfull
    subst hfull
    refine ⟨σ, fun {o} h => h, fun e he => ?_, fun _ _ _ _ _ _ _ => rfl⟩
    obtain ⟨e0, z1, z2, z3⟩ := I.2.2.1
    rw [z1] at he
    cases he
    rw [z2, z3]
    exact ⟨R, A⟩
  | cons m r ih =>
    intro pre n σ hfull hp hn R A S
    obtain ⟨h0, e, he, hm, hr⟩ := hp
    obtain ⟨gp, g2, e', p, q, g3, g4, g5, g6, g7, g8⟩ := I.2.2.2 n e h0 he
    have hfl : full = (pre ++ [m]) ++ r := by rw [hfull, List.append_assoc]; rfl
    have hlen : full.length = pre.length + (r.length + 1) := by rw [hfull, List.length_append, List.length_cons]
    obtain ⟨s, a1, a2, a3⟩ := ih (pre ++ [m]) e.2.2.1 σ hfl hr (by omega) R A S
    have hpm : full[pre.length]? = some m := by rw [hfull, List.getElem?_append_right (Nat.le_refl _), Nat.sub_self]; rfl
    have hv : s 715 pre.length = (m : Nat) := by rw [a3 _ _ (by omega) (by omega) (by omega) (by omega) (by omega)]; exact S _ _ hpm
    subst hm
    obtain ⟨k1, k2⟩ := I.1 _ e' g3
    obtain ⟨k3, k4⟩ := a2 e' g3
    obtain ⟨-, x2⟩ := d358 h4 k2 (pm_l h (by omega) _ k1).1 g4 g5 k3 k4
    obtain ⟨s2, r1, r2, r3, r4⟩ := x2 g6
    refine ⟨s2, fun {o} h => a1 (fun d4 => b359_72 ?_), fun e2 he2 => ?_, fun c x y1 y2 y3 y4 y5 => by rw [r4 c x y1 y2 y3 y4 y5]; exact a3 c x y1 y2 y3 y4 y5⟩
    · rw [show (((pre ++ [e.2.2.2]).length : Nat) : Int) - 1 = (pre.length : Int) by rw [List.length_append, List.length_singleton]; omega, if_pos (by omega), tn, hv]
      refine ⟨by omega, _, _, r1, by omega, ?_⟩
      rw [show (pre.length : Int) + (-1) = (pre.length : Int) - 1 by omega]
      exact h _
    · rw [he] at he2
      cases he2
      rw [g7, g8]
      exact ⟨r2, r3⟩
/-- laysOrder -/
theorem d359 {h n : Nat} {st : List Pt} {D : List Oe} {σ : Sg} (h4 : h ≤ 4) (hst : okL h st st) (I : DI h st D) (hn : n < D.length) (S : SM σ h st) (M : MP σ D) : ∃ s, Dd 359 [vA 682, vI n] σ (rV s) ∧ (∀ e : Oe, D[n]? = some e → HG s e.2.1 ∧ AT s e.1) ∧ ∀ c x, ¬ c = 690 → ¬ (700 ≤ c ∧ c ≤ 704) → ¬ (715 ≤ c ∧ c ≤ 716) → ¬ (685 ≤ c ∧ c ≤ 687 ∧ 2900 ≤ x) → ¬ ((c = 688 ∨ c = 689) ∧ 29 ≤ x) → s c x = σ c x := by
  have hl := DI_len I h4
  obtain ⟨ms, p1, p2⟩ := pth_ex I n n (Nat.le_refl _) hn
  obtain ⟨s1, a1, a2, a3, -⟩ := l359a (d1 := some (vI (n : Int))) (d4 := none) h4 I ms n 0 σ p1 hn (by omega) M
  have S1 : SM s1 h st := SM_fr hst h4 (fun c x _ _ y _ _ => a3 c x (by omega)) S
  obtain ⟨s2, b1, b2, b3, b4⟩ := l359b (d1 := some (vI (n : Int))) (d4 := none) (x2 := ((0 + ms.length : Nat) : Int)) h4 hst (by omega) h 0 s1 (by omega) S1 (fun y q hy => absurd hy (by omega)) (fun y hy => absurd hy (by omega))
  obtain ⟨s3, c1, c2, c3⟩ := l359c (d1 := some (vI (n : Int))) (d2 := some (vI ((0 + ms.length : Nat) : Int))) (full := ms) h4 I (by omega) ms [] n s2 rfl p1 hn b2 b3 (fun j m e => by
    have z := a2 j m e
    rw [Nat.zero_add] at z
    rw [b4 _ _ (by omega) (by omega) (by omega)]
    exact z)
  refine ⟨s3, b359 (a1 (b1 ?_)), c2, fun c x y1 y2 y3 y4 y5 => by rw [c3 c x y1 y2 (by omega) y4 y5, b4 c x (by omega) y4 y5]; exact a3 c x (by omega)⟩
  rw [show ((0 + ms.length : Nat) : Int) - 1 = (ms.length : Int) - 1 by omega]
  refine c1 (fun d4 => b359_72 ?_) none
  rw [if_neg (by show ¬ (0 : Int) ≤ ((0 : Nat) : Int) - 1; omega)]
def p5 : Nat → Int
  | 0 => 1
  | n + 1 => 5 * p5 n
theorem p5_le : ∀ n, n < 6 → p5 n ≤ 3125 := by decide +kernel
theorem l360 {σ : Sg} {l : List Nat} (hs : ∀ x, x ∈ l → x < 5) (A : AT σ l) (h40 : σ 682 40 = (l.length : Nat)) (h4 : l.length ≤ 4) : ∀ (r pre : List Nat) (a : Int), l = pre ++ r → 0 ≤ a → a < p5 pre.length → C360_4 a pre.length σ (rI (mcL a r) σ) := by
  intro r
  induction r with
  | nil =>
    intro pre a hl h0 h1
    rw [List.append_nil] at hl
    subst hl
    refine b360_4 ?_
    rw [h40, if_neg (by omega)]
    rfl
  | cons v r ih =>
    intro pre a hl h0 h1
    have hlen : l.length = pre.length + (r.length + 1) := by rw [hl, List.length_append, List.length_cons]
    have hv : l[pre.length]? = some v := by rw [hl, List.getElem?_append_right (Nat.le_refl _), Nat.sub_self]; rfl
    have e := A _ _ hv
    have e5 := hs v (List.mem_of_getElem? hv)
    have q1 := p5_le (pre.length + 1) (by omega)
    have q2 : p5 (pre.length + 1) = 5 * p5 pre.length := rfl
    have z := ih (pre ++ [v]) (5 * a + (v : Int)) (by rw [hl, List.append_assoc]; rfl) (by omega) (by rw [List.length_append]; show _ < p5 (pre.length + 1); omega)
    rw [List.length_append] at z
    have z : C360_4 (5 * a + (v : Int)) ((pre.length + 1 : Nat) : Int) σ (rI (mcL (5 * a + (v : Int)) r) σ) := z
    refine b360_4 ?_
    rw [h40, if_pos (by omega), tn, e]
    rw [show ((pre.length + 1 : Nat) : Int) = (pre.length : Int) + 1 by omega] at z
    exact ⟨by omega, by omega, by omega, by omega, z⟩
theorem d360 {σ : Sg} {l : List Nat} (hs : ∀ x, x ∈ l → x < 5) (A : AT σ l) (h40 : σ 682 40 = (l.length : Nat)) (h4 : l.length ≤ 4) : Dd 360 [vA 682] σ (rI (mcL 0 l) σ) := b360 (l360 hs A h40 h4 l [] 0 rfl (by omega) (by decide))
/-- whether it is a new one -/
theorem l361z {m i k : Nat} {σ : Sg} {o : Rs} (hm : m ≤ 24) (h : ∀ d4 d5, C361_143 m i k d4 d5 σ o) : ∀ (d e : Nat), e + d = m → C361_73 m i k 0 e σ o := by
  intro d
  induction d with
  | zero =>
    intro e hd
    refine b361_73 ?_
    rw [if_neg (by omega), if_pos rfl]
    exact h _ _
  | succ d ih =>
    intro e hd
    refine b361_73 ?_
    rw [if_pos (by omega), if_pos rfl]
    refine b361_102 (b361_103 ⟨by omega, ?_⟩)
    rw [show (e : Int) + 1 = ((e + 1 : Nat) : Int) by omega]
    exact ih (e + 1) (by omega)
theorem l361y {m i k : Nat} {σ : Sg} {o : Rs} {c : Int} (hm : m ≤ 24) (hc : Dd 360 [vA 682] σ (rI c σ)) (h0 : (∃ e, e < m ∧ σ 712 e = c) → ∀ d4 d5, C361_143 m i k d4 d5 σ o) (h1 : (¬ ∃ e, e < m ∧ σ 712 e = c) → m < 24 ∧ ∀ d4 d5, C361_143 ((m + 1 : Nat) : Int) i k d4 d5 (upS (upS (upS σ 712 m c) 713 m i) 714 m k) o) : ∀ (d e : Nat), e + d = m → (∀ x, x < e → ¬ σ 712 x = c) → C361_73 m i k 1 e σ o := by
  intro d
  induction d with
  | zero =>
    intro e hd hx
    obtain ⟨g1, g2⟩ := h1 (fun ⟨x, y1, y2⟩ => hx x (by omega) y2)
    refine b361_73 ?_
    rw [if_neg (by omega), if_neg (show ¬ (1 : Int) = 0 by decide)]
    refine ⟨_, _, hc, by omega, by omega, by omega, by omega, ?_⟩
    rw [tn, show (m : Int) + 1 = ((m + 1 : Nat) : Int) by omega]
    exact g2 _ _
  | succ d ih =>
    intro e hd hx
    refine b361_73 ?_
    rw [if_pos (by omega), if_neg (show ¬ (1 : Int) = 0 by decide)]
    refine ⟨by omega, _, _, hc, ?_⟩
    rw [tn]
    by_cases y : σ 712 e = c
    · rw [if_pos y]
      refine b361_102 (b361_103 ⟨by omega, ?_⟩)
      rw [show (e : Int) + 1 = ((e + 1 : Nat) : Int) by omega]
      exact l361z hm (h0 ⟨e, by omega, y⟩) d (e + 1) (by omega)
    · rw [if_neg y]
      refine b361_103 ⟨by omega, ?_⟩
      rw [show (e : Int) + 1 = ((e + 1 : Nat) : Int) by omega]
      refine ih (e + 1) (by omega) (fun x hx2 => ?_)
      by_cases z : x = e
      · subst z; exact y
      · exact hx x (by omega)
/-- the codes of what was found -/
def MC (σ : Sg) (D : List Oe) : Prop := ∀ (n : Nat) (e : Oe), D[n]? = some e → σ 712 n = mcL 0 e.1
theorem l361b {h i : Nat} {st : List Pt} (h4 : h ≤ 4) (hst : okL h st st) : ∀ (d k : Nat) (D : List Oe) (σ : Sg), k + d = h - 1 → DI h st D → i < D.length → SM σ h st → MP σ D → MC σ D → ∃ s, (∀ (d4 d5 : Option AV) {o : Rs}, (∀ d3 d4 d5, C361_41 ((inF i d k D).length : Nat) ((i + 1 : Nat) : Int) d3 d4 d5 s o) → C361_48 (D.length : Nat) i k d4 d5 σ o) ∧ SM s h st ∧ MP s (inF i d k D) ∧ MC s (inF i d k D) ∧ FO s σ := by
  intro d
  induction d with
  | zero =>
    intro k D σ hd I hi S M N
    have hl := DI_len I h4
    refine ⟨σ, fun d4 d5 {o} hh => b361_48 ⟨by omega, ?_⟩, S, M, N, fun _ _ _ _ _ _ _ => rfl⟩
    rw [S.1, if_neg (by omega), show (i : Int) + 1 = ((i + 1 : Nat) : Int) by omega]
    exact ⟨by omega, hh _ _ _⟩
  | succ d ih =>
    intro k D σ hd I hi S M N
    have hk : k + 1 < h := by omega
    have hl := DI_len I h4
    obtain ⟨e, p, q, he, he1, he2, hp, hq⟩ := DI_pq I hi hk
    obtain ⟨pm1, pm2⟩ := pm_sw h (by omega) e.1 he1 k (by omega) hk
    obtain ⟨pl1, pl2⟩ := pm_l h (by omega) e.1 he1
    obtain ⟨ql1, ql2⟩ := pm_l h (by omega) _ pm1
    obtain ⟨s1, r1, r2, r3⟩ := d359 h4 hst I hi S M
    obtain ⟨r4, r5⟩ := r2 e he
    obtain ⟨x1, x2⟩ := d358 h4 he2 pl1 hp hq r4 r5
    have go : ∀ (d4 d5 : Option AV) {o : Rs} (v : Int) (s : Sg), Dd 358 [vA 682, vI k] s1 (rI v s) → C361_73 (D.length : Nat) i k v ((0 : Nat) : Int) s o → C361_48 (D.length : Nat) i k d4 d5 σ o := fun d4 d5 {o} v s h1 h2 => b361_48 ⟨by omega, by
      rw [S.1, if_pos (by omega)]
      exact ⟨s1, r1, v, s, h1, h2⟩⟩
    have nx : ∀ {o : Rs} (n : Nat) (s : Sg), (∀ d4 d5, C361_48 n i ((k + 1 : Nat) : Int) d4 d5 s o) → ∀ d4 d5, C361_143 n i k d4 d5 s o := fun {o} n s hh d4 d5 => b361_143 ⟨by omega, by rw [show (k : Int) + 1 = ((k + 1 : Nat) : Int) by omega]; exact hh _ _⟩
    show ∃ s, (∀ (d4 d5 : Option AV) {o : Rs}, (∀ d3 d4 d5, C361_41 ((inF i d (k + 1) (stF D i k)).length : Nat) ((i + 1 : Nat) : Int) d3 d4 d5 s o) → C361_48 (D.length : Nat) i k d4 d5 σ o) ∧ SM s h st ∧ MP s (inF i d (k + 1) (stF D i k)) ∧ MC s (inF i d (k + 1) (stF D i k)) ∧ FO s σ
    by_cases T : tcP p q
    · rw [stF_2 he hp hq T]
      obtain ⟨s2, t1, t2⟩ := x1 T
      have F2 : FO s2 σ := fun c x y1 y2 y3 y4 y5 => by rw [t2 c x y2]; exact r3 c x y1 y2 (by omega) y4 y5
      have f7 : ∀ c x, 712 ≤ c ∧ c ≤ 714 → s2 c x = σ c x := fun c x hc => by rw [t2 c x (by omega)]; exact r3 c x (by omega) (by omega) (by omega) (by omega) (by omega)
      obtain ⟨s, a1, a2, a3, a4, a5⟩ := ih (k + 1) D s2 (by omega) I hi (SM_fr hst h4 F2 S) (fun n a hn ha => by rw [f7 _ _ (by omega), f7 _ _ (by omega)]; exact M n a hn ha) (fun n a ha => by rw [f7 _ _ (by omega)]; exact N n a ha)
      refine ⟨s, fun d4 d5 {o} hh => go d4 d5 0 s2 t1 (l361z hl (nx _ _ (fun d4 d5 => a1 d4 d5 hh)) D.length 0 (by omega)), a2, a3, a4, fun c x y1 y2 y3 y4 y5 => by rw [a5 c x y1 y2 y3 y4 y5]; exact F2 c x y1 y2 y3 y4 y5⟩
    · obtain ⟨s2, t1, t2, t3, t4⟩ := x2 T
      have F2 : FO s2 σ := fun c x y1 y2 y3 y4 y5 => by rw [t4 c x y1 y2 (by omega) y4 y5]; exact r3 c x y1 y2 (by omega) y4 y5
      have f7 : ∀ c x, 712 ≤ c ∧ c ≤ 714 → s2 c x = σ c x := fun c x hc => by rw [t4 c x (by omega) (by omega) (by omega) (by omega) (by omega)]; exact r3 c x (by omega) (by omega) (by omega) (by omega) (by omega)
      have S2 : SM s2 h st := SM_fr hst h4 F2 S
      have M2 : MP s2 D := fun n a hn ha => by rw [f7 _ _ (by omega), f7 _ _ (by omega)]; exact M n a hn ha
      have N2 : MC s2 D := fun n a ha => by rw [f7 _ _ (by omega)]; exact N n a ha
      have e360 := d360 ql2 t3 (by rw [S2.1, ql1]) (by omega)
      by_cases m : swL e.1 k ∈ D.map (fun e : Oe => e.1)
      · rw [stF_1 he hp hq m]
        obtain ⟨s, a1, a2, a3, a4, a5⟩ := ih (k + 1) D s2 (by omega) I hi S2 M2 N2
        refine ⟨s, fun d4 d5 {o} hh => go d4 d5 1 s2 t1 (l361y hl e360 (fun _ => nx _ _ (fun d4 d5 => a1 d4 d5 hh)) (fun hn => absurd ?_ hn) D.length 0 (by omega) (fun x hx => absurd hx (by omega))), a2, a3, a4, fun c x y1 y2 y3 y4 y5 => by rw [a5 c x y1 y2 y3 y4 y5]; exact F2 c x y1 y2 y3 y4 y5⟩
        obtain ⟨a, ha, ha2⟩ := List.mem_map.mp m
        obtain ⟨n, hn⟩ := List.mem_iff_getElem?.mp ha
        exact ⟨n, (List.getElem?_eq_some_iff.mp hn).1, by rw [N2 n a hn]; exact congrArg (mcL 0) ha2⟩
      · have I2 := DI_s I h4 hi hk
        have hl2 := DI_len I2 h4
        rw [stF_3 he hp hq m T] at I2 hl2 ⊢
        rw [List.length_append, List.length_singleton] at hl2
        obtain ⟨s3, hs3⟩ : ∃ s3, s3 = upS (upS (upS s2 712 D.length (mcL 0 (swL e.1 k))) 713 D.length i) 714 D.length k := ⟨_, rfl⟩
        have o3 : ∀ c x, ¬ (712 ≤ c ∧ c ≤ 714) → s3 c x = s2 c x := fun c x hc => by rw [hs3, up_a (by omega), up_a (by omega), up_a (by omega)]
        have F3 : FO s3 σ := fun c x y1 y2 y3 y4 y5 => by rw [o3 c x (by omega)]; exact F2 c x y1 y2 y3 y4 y5
        have F32 : FO s3 s2 := fun c x y1 y2 y3 y4 y5 => o3 c x (by omega)
        have cs : ∀ {n : Nat} {a : Oe}, (D ++ [(swL e.1 k, exA e.2.1 k p q, i, k)])[n]? = some a → D[n]? = some a ∧ n < D.length ∨ (n = D.length ∧ a = (swL e.1 k, exA e.2.1 k p q, i, k)) := fun {n a} hn => by
          by_cases y : n < D.length
          · rw [List.getElem?_append_left y] at hn
            exact Or.inl ⟨hn, y⟩
          · rw [List.getElem?_append_right (by omega)] at hn
            have hx := (List.getElem?_eq_some_iff.mp hn).1
            rw [List.length_singleton] at hx
            rw [show n - D.length = 0 by omega] at hn
            cases hn
            exact Or.inr ⟨by omega, rfl⟩
        obtain ⟨s, a1, a2, a3, a4, a5⟩ := ih (k + 1) (D ++ [(swL e.1 k, exA e.2.1 k p q, i, k)]) s3 (by omega) I2 (by rw [List.length_append]; omega) (SM_fr hst h4 F32 S2) (fun n a hn ha => by
          rcases cs ha with ⟨y1, y2⟩ | ⟨y1, y2⟩
          · rw [hs3, up_a (by decide), up_k (by omega), up_a (by decide), up_k (by omega), up_a (by decide), up_a (by decide)]
            exact M2 n a hn y1
          · subst y2
            subst y1
            rw [hs3, up_a (by decide), up_s, up_s]
            exact ⟨rfl, rfl⟩) (fun n a ha => by
          rcases cs ha with ⟨y1, y2⟩ | ⟨y1, y2⟩
          · rw [hs3, up_a (by decide), up_a (by decide), up_k (by omega)]
            exact N2 n a y1
          · subst y2
            subst y1
            rw [hs3, up_a (by decide), up_a (by decide), up_s])
        rw [List.length_append, List.length_singleton] at a1
        refine ⟨s, fun d4 d5 {o} hh => go d4 d5 1 s2 t1 (l361y hl e360 (fun hn => absurd hn ?_) (fun _ => ⟨by omega, by rw [← hs3]; exact nx _ _ (fun d4 d5 => a1 d4 d5 hh)⟩) D.length 0 (by omega) (fun x hx => absurd hx (by omega))), a2, a3, a4, fun c x y1 y2 y3 y4 y5 => by rw [a5 c x y1 y2 y3 y4 y5]; exact F3 c x y1 y2 y3 y4 y5⟩
        rintro ⟨n, hn, hc⟩
        have ha : D[n]? = some D[n] := List.getElem?_eq_getElem hn
        rw [N2 n _ ha] at hc
        have z := ((pm_in h (by omega) _ (I.1 n _ ha).1 _ pm1).2 hc)
        exact m (by rw [← z]; exact List.mem_map.mpr ⟨_, List.mem_of_getElem? ha, rfl⟩)
theorem l361a {h : Nat} {st : List Pt} (h4 : h ≤ 4) (hst : okL h st st) : ∀ (f i : Nat) (D : List Oe) (σ : Sg), f + i = 24 → DI h st D → SM σ h st → MP σ D → MC σ D → ∃ s, (∀ d3 d4 d5, C361_41 (D.length : Nat) i d3 d4 d5 σ (rI ((ouF h f i D).length : Nat) s)) ∧ FO s σ := by
  intro f
  induction f with
  | zero =>
    intro i D σ hf I S M N
    have hl := DI_len I h4
    refine ⟨σ, fun d3 d4 d5 => b361_41 ?_, fun _ _ _ _ _ _ _ => rfl⟩
    rw [if_neg (by omega)]
    rfl
  | succ f ih =>
    intro i D σ hf I S M N
    by_cases y : i < D.length
    · obtain ⟨s1, a1, a2, a3, a4, a5⟩ := l361b (i := i) h4 hst (h - 1) 0 D σ (by omega) I y S M N
      have I2 : DI h st (inF i (h - 1) 0 D) := by
        by_cases h0 : h = 0
        · rw [h0]; rw [h0] at I; exact I
        · exact (inF_ok (i := i) h4 (h - 1) 0 D (by omega) I y).1
      obtain ⟨s, c1, c2⟩ := ih (i + 1) (inF i (h - 1) 0 D) s1 (by omega) I2 a2 a3 a4
      have e0 : ouF h (f + 1) i D = ouF h f (i + 1) (inF i (h - 1) 0 D) := by
        show (if i < D.length then _ else _) = _
        rw [if_pos y]
      rw [e0]
      refine ⟨s, fun d3 d4 d5 => b361_41 ?_, fun c x y1 y2 y3 y4 y5 => by rw [c2 c x y1 y2 y3 y4 y5]; exact a5 c x y1 y2 y3 y4 y5⟩
      rw [if_pos (by omega)]
      exact a1 d4 d5 (fun d3 d4 d5 => c1 d3 d4 d5)
    · have e0 : ouF h (f + 1) i D = D := by
        show (if i < D.length then _ else _) = _
        rw [if_neg y]
      rw [e0]
      refine ⟨σ, fun d3 d4 d5 => b361_41 ?_, fun _ _ _ _ _ _ _ => rfl⟩
      rw [if_neg (by omega)]
theorem rm_get {α : Type} {f : Nat → α} {h x : Nat} {q : α} (e : ((List.range h).map f)[x]? = some q) : x < h ∧ q = f x := by
  have hx := (List.getElem?_eq_some_iff.mp e).1
  rw [List.length_map, List.length_range] at hx
  rw [List.getElem?_map, List.getElem?_range hx] at e
  have e : some (f x) = some q := e
  cases e
  exact ⟨hx, rfl⟩
/-- orders -/
theorem o40 {σ : Sg} {c : Int} (H : Rel c σ) : OpR 428 361 [vA 0, vA 726] [vA 682] σ (c + 1) := by
  have hS : RSt c σ := H.2.2.2.2.2.1
  have h1 := hS.1
  have h5 := hS.2.1
  have h40 := hS.2.2.1
  by_cases g : 4 < σ 402 3
  · have hA : Dd 428 [vA 0, vA 726] σ (rI 1 σ) := b428 (Or.inr ⟨σ, b212 (by rw [if_pos g]), rfl⟩)
    have hB : Dd 361 [vA 682] σ (rI 0 (upS σ 682 0 1)) := by
      refine b361 ?_
      rw [h40, if_pos g]
      refine b361_14 ⟨_, _, d245, ?_⟩
      rw [if_neg (show ¬ (1 : Int) = 0 by decide), if_pos rfl]
    exact op_x H (by decide) hA hB
  obtain ⟨h, hh⟩ := Int.eq_ofNat_of_zero_le h1
  have h4 : h ≤ 4 := by omega
  obtain ⟨st, hst0⟩ : ∃ st, st = (List.range h).map (stP σ) := ⟨_, rfl⟩
  have get : ∀ {x : Nat} {q : Pt}, st[x]? = some q → x < h ∧ q = stP σ x := fun {x q} e => rm_get (by rw [← hst0]; exact e)
  have sk : ∀ i, i < h → _ := fun i hi => stP_ok H (i := i) (by omega)
  have hst : okL h st st := ⟨by rw [hst0, List.length_map, List.length_range], fun x a e => by obtain ⟨y, rfl⟩ := get e; exact (sk x y).1, fun x a b e e2 => by obtain ⟨y, rfl⟩ := get e; obtain ⟨y2, rfl⟩ := get e2; exact (sk x y).2.2.2.2.2 (by omega), fun a e => by obtain ⟨y, rfl⟩ := get e; exact (sk 0 y).2.1, fun a b e e2 => by rw [e] at e2; cases e2; exact ⟨rfl, rfl⟩⟩
  have K : SK σ h st := ⟨hh, fun y q e => by obtain ⟨y1, rfl⟩ := get e; exact (sk y y1).2.2.2.1⟩
  obtain ⟨s, a1, a2, a3⟩ := d165 h4 hst H.1 K
  obtain ⟨v, hv⟩ : ∃ v : Int, v = ((ouF h 24 0 [(List.range h, st, 0, 0)]).length : Nat) := ⟨_, rfl⟩
  rw [← hv] at a1
  have hA := b428 (Or.inl ⟨_, _, b212 (by rw [if_neg g]; exact ⟨_, _, a1, rfl⟩), rfl⟩)
  have lo : ∀ a x, 682 ≤ a → ¬ a = 726 → upS s 726 0 v a x = σ a x := fun a x h h' => by rw [up_a h']; exact a3 a x (by omega) (by omega)
  have lo2 : ∀ a x, 682 ≤ a → ¬ a = 726 → ¬ (a = 682 ∧ x = 0) → upS (upS s 726 0 v) 682 0 0 a x = σ a x := fun a x h h' h2 => by
    have : upS (upS s 726 0 v) 682 0 0 a x = upS s 726 0 v a x := by unfold upS; rw [if_neg (by omega)]
    rw [this]
    exact lo a x h h'
  refine op_full0 H a2 (fun a x h h' => by unfold KP at h'; exact a3 a x (by omega) (by omega)) (fun a x h => a3 a x (by omega) (by omega)) hA ?_
  have zz : ∀ (y : Nat) (q : Pt), st[y]? = some q → q.1 ≤ 96 ∧ q.2.1 ≤ 96 := fun y q e => by
    obtain ⟨y1, rfl⟩ := get e
    have z := sk y y1
    omega
  have S : SM (upS (upS s 726 0 v) 682 0 0) h st := ⟨by rw [lo2 _ _ (by decide) (by decide) (by decide)]; omega, fun y q e => HM_se (σ := σ) ⟨lo2 _ _ (by omega) (by omega) (by omega), lo2 _ _ (by omega) (by omega) (by omega), fun c x _ hc => lo2 _ _ (by omega) (by omega) (by omega)⟩ (zz y q e) (by obtain ⟨y1, rfl⟩ := get e; exact (sk y y1).2.2.2.2.1)⟩
  have I := DI_0 h4 hst
  obtain ⟨s1, b1, b2, b3⟩ := d359 h4 hst I (show 0 < 1 by omega) S (fun n e hn he => by
    cases n with
    | zero => omega
    | succ n => simp at he)
  obtain ⟨b4, b5⟩ := b2 _ rfl
  have F1 : FO s1 (upS (upS s 726 0 v) 682 0 0) := fun c x y1 y2 y3 y4 y5 => b3 c x y1 y2 (by omega) y4 y5
  have S1 : SM s1 h st := SM_fr hst h4 F1 S
  obtain ⟨pl1, pl2⟩ := pm_l h (by omega) _ (pm_f h (by omega)).1
  have e360 := d360 pl2 b5 (by rw [S1.1, pl1]) (by rw [pl1]; exact h4)
  have F2 : FO (upS s1 712 0 (mcL 0 (List.range h))) s1 := fun c x y1 y2 y3 y4 y5 => up_a (by omega)
  obtain ⟨s3, e1, e2⟩ := l361a h4 hst 24 0 [(List.range h, st, 0, 0)] (upS s1 712 0 (mcL 0 (List.range h))) (by omega) I (SM_fr hst h4 F2 S1) (fun n e hn he => by
    cases n with
    | zero => omega
    | succ n => simp at he) (fun n e he => by
    cases n with
    | zero => cases he; exact up_s
    | succ n => simp at he)
  have fr : ∀ a x, ¬ a = 690 → ¬ (700 ≤ a ∧ a ≤ 704) → ¬ (712 ≤ a ∧ a ≤ 716) → ¬ (685 ≤ a ∧ a ≤ 687 ∧ 2900 ≤ x) → ¬ ((a = 688 ∨ a = 689) ∧ 29 ≤ x) → s3 a x = upS (upS s 726 0 v) 682 0 0 a x := fun a x y1 y2 y3 y4 y5 => by
    rw [e2 a x y1 y2 y3 y4 y5, F2 a x y1 y2 y3 y4 y5]
    exact F1 a x y1 y2 y3 y4 y5
  refine ⟨s3, b361 ?_, ?_, fun a x h => ?_, fun a x h h' y1 y2 => ?_⟩
  · rw [lo _ _ (by decide) (by decide), h40, if_neg g]
    refine b361_14 ⟨_, _, d245, ?_⟩
    rw [if_pos rfl, if_neg (show ¬ (1 : Int) = 0 by decide)]
    rw [← hv] at e1
    exact ⟨s1, b1, _, _, e360, e1 _ _ _⟩
  · rw [fr _ _ (by decide) (by decide) (by decide) (by decide) (by decide)]
    exact up_s
  · rw [fr a x (by omega) (by omega) (by omega) (by omega) (by omega), up_a (by omega)]
  · unfold KP at h'
    rw [fr a x (by omega) (by omega) (by omega) y1 y2]
    exact lo2 a x h (by omega) (by omega)
end
