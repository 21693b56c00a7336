-- DRAFT 99.u2sp.lean
/-! split: all hunks. -/
noncomputable section
/-- hunks that are not cut -/
theorem l11u {σ0 : Sg} {P nb na c : Nat} {O N F : Nat → Int} {l : List St} {p q : Int} (hP : isPatch P = true) (eP : P + 12 < 351 ∨ 376 < P) (V1 : RV σ0 (P + 1) nb O) (V3 : RV σ0 (P + 3) na N) (w9 : wR σ0 (P + 9)) (C : PC σ0 P l) (h100 : nb ≤ 99) (h100' : na ≤ 99) (E : EQL O N F nb) : ∀ (m h i j e : Nat) (b M f a g : List Int) (σ : Sg), DS F nb na (l.drop h) i j e → h + m ≤ l.length → (∀ x, h ≤ x → x < h + m → ¬ x = c) → a.length = j → W2 σ b M f a g → b.length + (nb - i) ≤ 96 → M.length + (nb - i) ≤ 96 → a.length + (na - j) ≤ 96 → FRc σ σ0 → ∃ i' j' e' s, DS F nb na (l.drop (h + m)) i' j' e' ∧ i ≤ i' ∧ i' ≤ nb ∧ j ≤ j' ∧ j' ≤ na ∧ W2 s (b ++ rlZ O i (i' - i)) (M ++ rlZ O i (i' - i)) (f ++ rlZ idZ M.length (i' - i)) (a ++ rlZ N j (j' - j)) (g ++ rlZ F i (i' - i)) ∧ FRc s σ0 ∧ ∀ {o : Rs}, (∀ d7 : Option AV, C11_20 P c p q i' ((h + m : Nat) : Int) d7 s o) → ∀ d7 : Option AV, C11_20 P c p q i h d7 σ o := by
  have hlen : 4 * l.length ≤ 5000 := by
    have := cap_le w9.1
    have := w9.2.2
    have := C.1
    omega
  intro m
  induction m with
  | zero =>
    intro h i j e b M f a g σ D hm hc hj W h1 h2 h3 fr
    have bd := DS_b _ _ _ _ D
    refine ⟨i, j, e, σ, D, Nat.le_refl _, bd.1, Nat.le_refl _, bd.2.1, ?_, fr, fun {o} hh => hh⟩
    rw [Nat.sub_self, Nat.sub_self, rl_0, rl_0, rl_0, rl_0, rl_0]
    exact W
  | succ m ih =>
    intro h i j e b M f a g σ D hm hc hj W h1 h2 h3 fr
    have hlt : h < l.length := by omega
    have hq : l[h]? = some l[h] := List.getElem?_eq_getElem hlt
    obtain ⟨t, ht⟩ : ∃ t, t = l.drop (h + 1) := ⟨_, rfl⟩
    have hd : l.drop h = l[h] :: t := by rw [ht]; exact List.drop_eq_getElem_cons hlt
    generalize l[h] = r at hq hd
    obtain ⟨o, d, n, aa⟩ := r
    rw [hd] at D
    have bd := (DS_b _ _ _ _ D).2.2 _ List.mem_cons_self
    have bd1 : o + d ≤ nb := bd.2.1
    have bd2 : n + aa ≤ na := bd.2.2.2
    obtain ⟨v1, v2, v3, v4, v5, v6⟩ := D
    have x1 : i ≤ o := by
      have z : i + e ≤ o := v1
      omega
    have x2 : n = j + (o - i) := v2
    have x3 : ∀ x, i ≤ x → x < o → F x = ((j + (x - i) : Nat) : Int) := v3
    have x4 : ∀ x, o ≤ x → x < o + d → F x = -1 := v4
    have x6 : DS F nb na t (o + d) (n + aa) 1 := v6
    clear v1 v2 v3 v4 v5 v6 bd
    obtain ⟨x, hx⟩ : ∃ x, o = i + x := ⟨o - i, by omega⟩
    have hn : n = j + x := by omega
    subst hx hn
    have hF : ∀ y, y < x → F (i + y) = ((j + y : Nat) : Int) := fun y hy => by
      rw [x3 (i + y) (by omega) (by omega), show j + (i + y - i) = j + y by omega]
    have E1 : rlZ O i x = rlZ N j x := rl_ext x i j (fun y hy => by
      have z := E (i + y) (by omega) (by rw [hF y hy]; omega)
      rw [hF y hy, tn] at z
      exact z)
    have E2 : rlZ idZ a.length x = rlZ F i x := rl_ext x a.length i (fun y hy => by
      rw [hF y hy, hj]
      rfl)
    have E3 : rlZ m1Z (i + x) d = rlZ F (i + x) d := rl_ext d (i + x) (i + x) (fun y hy => by
      rw [x4 (i + x + y) (by omega) (by omega)]
      rfl)
    obtain ⟨s1, a1, a2, a3⟩ := d12 (i := i) (d := x) hP eP V1 (by omega) h100 W (by omega) (by omega) (by omega) fr
    have lb : (b ++ rlZ O i x).length = b.length + x := ap_len
    have lM : (M ++ rlZ O i x).length = M.length + x := ap_len
    have la : (a ++ rlZ O i x).length = a.length + x := ap_len
    obtain ⟨s2, c1, c2, c3⟩ := d13 (p := 0) (q := 0) hP eP V1 V3 w9 C hq (Nat.zero_le _) (Nat.zero_le _) bd1 bd2 h100 h100' a2 (by omega) (by omega) (by omega) a3
    rw [rl_0, rl_0, rl_0, rl_0, rl_0, Nat.add_zero, Nat.add_zero, Nat.add_zero, Nat.sub_zero, Nat.sub_zero, lM, E2, E3, rl_app2, rl_app2, rl_app2, rl_app2, E1, rl_app2] at c2
    obtain ⟨i', j', e', s, g1, g2, g3, g4, g5, g6, g7, g8⟩ := ih (h + 1) (i + (x + d)) (j + (x + aa)) 1 _ _ _ _ _ s2 (by rw [← ht, show i + (x + d) = i + x + d by omega, show j + (x + aa) = j + x + aa by omega]; exact x6) (by omega) (fun y h1 h2 => hc y (by omega) (by omega)) (by rw [ap_len]; omega) c2 (by rw [ap_len]; omega) (by rw [ap_len]; omega) (by rw [ap_len]; omega) c3
    rw [ap_len, rl_app2, rl_app2, rl_app2, rl_app2, rl_app2, show x + d + (i' - (i + (x + d))) = i' - i by omega, show x + aa + (j' - (j + (x + aa))) = j' - j by omega] at g6
    refine ⟨i', j', e', s, by rw [show h + (m + 1) = h + 1 + m by omega]; exact g1, by omega, g3, by omega, g5, g6, g7, fun {o} hh d7 => ?_⟩
    have at' : ∀ {s : Sg}, FRc s σ0 → Dd 100 [vA P, vI h] s (rI ((i + x : Nat) : Int) s) ∧ Dd 102 [vA P, vI h] s (rI ((i + x + d : Nat) : Int) s) ∧ Dd 103 [vA P, vI h] s (rI ((j + x : Nat) : Int) s) ∧ Dd 105 [vA P, vI h] s (rI ((j + x + aa : Nat) : Int) s) := fun {s} fr => pc_at hP ⟨w9.1, by rw [fr _ _ (by omega) (by omega)]; exact w9.2⟩ (PC_fr (fun k => fr _ _ (by omega) (by omega)) (fun k => fr _ _ (by omega) (by omega)) C) hq
    refine b11_20 hP ⟨_, _, d98' hP (PC_fr (fun k => fr _ _ (by omega) (by omega)) (fun k => fr _ _ (by omega) (by omega)) C), ?_⟩
    rw [if_pos (by omega)]
    refine ⟨_, _, (at' fr).1, s1, a1, ?_⟩
    have hne := hc h (Nat.le_refl _) (by omega)
    rw [if_neg (by omega)]
    refine b11_53 ?_
    rw [if_pos rfl]
    refine b11_69 ?_
    rw [if_pos rfl]
    refine b11_80 hP ⟨s2, c1, _, _, (at' c3).2.1, by omega, ?_⟩
    rw [show (h : Int) + 1 = ((h + 1 : Nat) : Int) by omega, show i + x + d = i + (x + d) by omega]
    exact g8 (fun d7 => by rw [show h + 1 + m = h + (m + 1) by omega]; exact hh d7) _
def spM (O N : Nat → Int) (nb o n p q : Nat) : List Int := rlZ O 0 o ++ rlZ N n q ++ rlZ O (o + p) (nb - (o + p))
def spf (nb o p q : Nat) : List Int := rlZ idZ 0 o ++ rlZ m1Z o p ++ rlZ idZ (o + q) (nb - (o + p))
def spg (F : Nat → Int) (nb o n p q : Nat) : List Int := rlZ F 0 o ++ rlZ idZ n q ++ rlZ F (o + p) (nb - (o + p))
/-- cutApart -/
theorem d11 {σ : Sg} {P nb na c o d n aa p q : Nat} {O N F : Nat → Int} {l : List St} (hP : isPatch P = true) (eP : P + 12 < 350 ∨ 376 < P) (V1 : RV σ (P + 1) nb O) (V3 : RV σ (P + 3) na N) (w9 : wR σ (P + 9)) (C : PC σ P l) (D : DS F nb na l 0 0 0) (h100 : nb + q ≤ 96) (h100' : na ≤ 96) (E : EQL O N F nb) (hq : l[c]? = some (o, d, n, aa)) (hp : p ≤ d) (hqa : q ≤ aa) : ∃ s, Dd 11 [vA 350, vA P, vI c, vI p, vI q] σ (rV s) ∧ FIN8 s (rlZ O 0 nb, spM O N nb o n p q, spf nb o p q, rlZ N 0 na, spg F nb o n p q) ∧ FRc s σ := by
  obtain ⟨s1, a1, a2, a3⟩ := d90 (σ := σ) WDp351.1
  obtain ⟨s2, c1, c2, c3⟩ := d90 (σ := s1) WDp364.1
  have fr2 : FRc s2 σ := fun x y h h' => by rw [c3 x y (by omega), a3 x y (by omega)]
  have W2' : W2 s2 [] [] [] [] [] := ⟨[], [], BI_fr (fun x y h => c3 x y (by omega)) a2, c2, okW_0, okW_0⟩
  have eP' : P + 12 < 351 ∨ 376 < P := by omega
  have hclt := (List.getElem?_eq_some_iff.mp hq).1
  have hlen : 4 * l.length ≤ 5000 := by
    have := cap_le w9.1
    have := w9.2.2
    have := C.1
    omega
  -- the hunks ahead
  obtain ⟨i1, j1, e1, s3, g1, g2, g3, g4, g5, g6, g7, g8⟩ := l11u (c := c) (p := (p : Int)) (q := (q : Int)) hP eP' V1 V3 w9 C (by omega) (by omega) E c 0 0 0 0 [] [] [] [] [] s2 D (by omega) (fun x _ h => by omega) rfl W2' (by show 0 + (nb - 0) ≤ 96; omega) (by show 0 + (nb - 0) ≤ 96; omega) (by show 0 + (na - 0) ≤ 96; omega) fr2
  rw [Nat.zero_add] at g1
  obtain ⟨t, ht⟩ : ∃ t, t = l.drop (c + 1) := ⟨_, rfl⟩
  have hd : l.drop c = (o, d, n, aa) :: t := by
    rw [ht, List.drop_eq_getElem_cons hclt]
    rw [List.getElem?_eq_getElem hclt] at hq
    have z := Option.some.inj hq
    rw [z]
  rw [hd] at g1
  have bd := (DS_b _ _ _ _ g1).2.2 _ List.mem_cons_self
  have bd1 : o + d ≤ nb := bd.2.1
  have bd2 : n + aa ≤ na := bd.2.2.2
  obtain ⟨v1, v2, v3, v4, v5, v6⟩ := g1
  have x1 : i1 ≤ o := by
    have z : i1 + e1 ≤ o := v1
    omega
  have x2 : n = j1 + (o - i1) := v2
  have x3 : ∀ x, i1 ≤ x → x < o → F x = ((j1 + (x - i1) : Nat) : Int) := v3
  have x4 : ∀ x, o ≤ x → x < o + d → F x = -1 := v4
  have x6 : DS F nb na t (o + d) (n + aa) 1 := v6
  clear v1 v2 v3 v4 v5 v6 bd
  have at' : ∀ {s : Sg}, FRc s σ → Dd 100 [vA P, vI c] s (rI (o : Nat) s) ∧ Dd 102 [vA P, vI c] s (rI ((o + d : Nat) : Int) s) ∧ Dd 103 [vA P, vI c] s (rI (n : Nat) s) ∧ Dd 105 [vA P, vI c] s (rI ((n + aa : Nat) : Int) s) := fun {s} fr => pc_at hP ⟨w9.1, by rw [fr _ _ (by omega) (by omega)]; exact w9.2⟩ (PC_fr (fun k => fr _ _ (by omega) (by omega)) (fun k => fr _ _ (by omega) (by omega)) C) hq
  simp only [Nat.sub_zero, List.nil_append, List.length_nil] at g6
  -- the lines ahead of the hunk
  obtain ⟨x, hx⟩ : ∃ x, o = i1 + x := ⟨o - i1, by omega⟩
  have hn : n = j1 + x := by omega
  have hF : ∀ y, y < x → F (i1 + y) = ((j1 + y : Nat) : Int) := fun y hy => by
    rw [x3 (i1 + y) (by omega) (by omega), show j1 + (i1 + y - i1) = j1 + y by omega]
  have E1 : rlZ O i1 x = rlZ N j1 x := rl_ext x i1 j1 (fun y hy => by
    have z := E (i1 + y) (by omega) (by rw [hF y hy]; omega)
    rw [hF y hy, tn] at z
    exact z)
  have E2 : rlZ idZ j1 x = rlZ F i1 x := rl_ext x j1 i1 (fun y hy => by
    rw [hF y hy]
    rfl)
  have E3 : rlZ m1Z (o + p) (d - p) = rlZ F (o + p) (d - p) := rl_ext (d - p) (o + p) (o + p) (fun y hy => by
    rw [x4 (o + p + y) (by omega) (by omega)]
    rfl)
  obtain ⟨s4, k1, k2, k3⟩ := d12 (i := i1) (d := x) hP eP' V1 (by omega) (by omega) g6 (by rw [rl_len]; omega) (by rw [rl_len]; omega) (by rw [rl_len]; omega) g7
  rw [rl_len, rl_len, E2, E1] at k2
  have ap : ∀ {h : Nat → Int} {u w : Nat}, rlZ h 0 u ++ rlZ h u w = rlZ h 0 (u + w) := fun {h u w} => by
    have z := rlZ_app (h := h) u 0 w
    rw [Nat.zero_add] at z
    exact z
  rw [← E1, ap, ap, ap, E1, ap, ← hx, ← hn] at k2
  have k2' : W2 s4 (rlZ O 0 o) (rlZ O 0 o) (rlZ idZ 0 o) (rlZ N 0 n) (rlZ F 0 o) := k2
  obtain ⟨s5, w1, w2, w3⟩ := d13 (p := p) (q := q) hP eP' V1 V3 w9 C hq hp hqa bd1 bd2 (by omega) (by omega) k2' (by rw [rl_len]; omega) (by rw [rl_len]; omega) (by rw [rl_len]; omega) k3
  rw [rl_len, rl_len, ap, ap, show o + p + (d - p) = o + d by omega, ap] at w2
  rw [ap, show n + q + (aa - q) = n + aa by omega, E3] at w2
  -- the hunks behind
  have lM0 : (rlZ O 0 o ++ rlZ N n q).length = o + q := by rw [List.length_append, rl_len, rl_len]
  have lM1 : (rlZ O 0 o ++ rlZ N n q ++ rlZ O (o + p) (d - p)).length = o + q + (d - p) := by rw [List.length_append, lM0, rl_len]
  obtain ⟨i2, j2, e2, s6, u1, u2, u3, u4, u5, u6, u7, u8⟩ := l11u (c := c) (p := (p : Int)) (q := (q : Int)) hP eP' V1 V3 w9 C (by omega) (by omega) E (l.length - (c + 1)) (c + 1) (o + d) (n + aa) 1 _ _ _ _ _ s5 (by rw [← ht]; exact x6) (by omega) (fun x h1 h2 => by omega) (by rw [rl_len]) w2 (by rw [rl_len]; omega) (by rw [lM1]; omega) (by rw [rl_len]; omega) w3
  rw [show c + 1 + (l.length - (c + 1)) = l.length by omega] at u1 u8
  rw [List.drop_length] at u1
  obtain ⟨z1, z2, z3, z4⟩ := u1
  rw [lM1, ap, ap, show o + d + (i2 - (o + d)) = i2 by omega, show n + aa + (j2 - (n + aa)) = j2 by omega] at u6
  have t1 : ∀ {h : Nat → Int} {A : List Int}, A ++ rlZ h (o + p) (d - p) ++ rlZ h (o + d) (i2 - (o + d)) = A ++ rlZ h (o + p) (i2 - (o + p)) := fun {h A} => by
    have z := rl_app2 (h := h) (M := A) (p := o + p) (d := d - p) (e := i2 - (o + d))
    rw [show o + p + (d - p) = o + d by omega, show d - p + (i2 - (o + d)) = i2 - (o + p) by omega] at z
    exact z
  have t2 : ∀ {A : List Int}, A ++ rlZ idZ (o + q) (d - p) ++ rlZ idZ (o + q + (d - p)) (i2 - (o + d)) = A ++ rlZ idZ (o + q) (i2 - (o + p)) := fun {A} => by
    rw [rl_app2, show d - p + (i2 - (o + d)) = i2 - (o + p) by omega]
  rw [t1, t1, t2] at u6
  -- the last lines
  have lM2 : (rlZ O 0 o ++ rlZ N n q ++ rlZ O (o + p) (i2 - (o + p))).length = o + q + (i2 - (o + p)) := by rw [List.length_append, lM0, rl_len]
  obtain ⟨s7, r1, r2, r3⟩ := d12 (i := i2) (d := nb - i2) hP eP' V1 (by omega) (by omega) u6 (by rw [rl_len]; omega) (by rw [lM2]; omega) (by rw [rl_len]; omega) u7
  have F2 : ∀ y, y < nb - i2 → F (i2 + y) = ((j2 + y : Nat) : Int) := fun y hy => by
    rw [z4 (i2 + y) (by omega) (by omega), show j2 + (i2 + y - i2) = j2 + y by omega]
  have E4 : rlZ O i2 (nb - i2) = rlZ N j2 (nb - i2) := rl_ext (nb - i2) i2 j2 (fun y hy => by
    have z := E (i2 + y) (by omega) (by rw [F2 y hy]; omega)
    rw [F2 y hy, tn] at z
    exact z)
  have E5 : rlZ idZ j2 (nb - i2) = rlZ F i2 (nb - i2) := rl_ext (nb - i2) j2 i2 (fun y hy => by
    rw [F2 y hy]
    rfl)
  have t3 : ∀ {h : Nat → Int} {A : List Int}, A ++ rlZ h (o + p) (i2 - (o + p)) ++ rlZ h i2 (nb - i2) = A ++ rlZ h (o + p) (nb - (o + p)) := fun {h A} => by
    have z := rl_app2 (h := h) (M := A) (p := o + p) (d := i2 - (o + p)) (e := nb - i2)
    rw [show o + p + (i2 - (o + p)) = i2 by omega, show i2 - (o + p) + (nb - i2) = nb - (o + p) by omega] at z
    exact z
  have r2' : W2 s7 (rlZ O 0 nb) (spM O N nb o n p q) (spf nb o p q) (rlZ N 0 na) (spg F nb o n p q) := by
    have y1 : rlZ O 0 nb = rlZ O 0 i2 ++ rlZ O i2 (nb - i2) := by rw [ap, show i2 + (nb - i2) = nb by omega]
    have y2 : rlZ N 0 na = rlZ N 0 j2 ++ rlZ O i2 (nb - i2) := by rw [E4, ap, show j2 + (nb - i2) = na by omega]
    have y3 : spM O N nb o n p q = rlZ O 0 o ++ rlZ N n q ++ rlZ O (o + p) (i2 - (o + p)) ++ rlZ O i2 (nb - i2) := t3.symm
    have y4 : spf nb o p q = rlZ idZ 0 o ++ rlZ m1Z o p ++ rlZ idZ (o + q) (i2 - (o + p)) ++ rlZ idZ (o + q + (i2 - (o + p))) (nb - i2) := by
      rw [rl_app2, show i2 - (o + p) + (nb - i2) = nb - (o + p) by omega]
      rfl
    have y5 : spg F nb o n p q = rlZ F 0 o ++ rlZ idZ n q ++ rlZ F (o + p) (i2 - (o + p)) ++ rlZ idZ j2 (nb - i2) := by
      rw [E5]
      exact t3.symm
    rw [y1, y2, y3, y4, y5]
    rw [lM2, rl_len] at r2
    exact r2
  obtain ⟨kk1, kk2, B1, B2, O1, O2⟩ := r2'
  have lnb : (rlZ O 0 nb).length = nb := rl_len _ _
  have lna : (rlZ N 0 na).length = na := rl_len _ _
  have lM : (spM O N nb o n p q).length = o + q + (nb - (o + p)) := by
    unfold spM
    rw [List.length_append, lM0, rl_len]
  obtain ⟨s8, b1, b2, b3, b4, b5, b6, b7, b8⟩ := d94_bi WDp351 B1 O1 (by omega) (by omega)
  obtain ⟨s9, f1, f2, f3, f4, f5, f6, f7, f8⟩ := d94_bi WDp364 (BI_fr (fun c x h => b8 c x (by omega) (by omega)) B2) O2 (by omega) (by omega)
  refine ⟨s9, b11 ⟨s1, a1, s2, c1, g8 (fun d7 => ?_) none⟩, ⟨⟨NP_fr (fun c x h => f8 c x (by omega) (by omega)) b2, ⟨b3.1, by rw [f8 _ _ (by decide) (by decide)]; exact b3.2⟩, fun i v h => by rw [f8 _ _ (by decide) (by decide)]; exact b4 i v h, fun i v h => by rw [f8 _ _ (by decide) (by decide)]; exact b5 i v h, fun i v h => by rw [f8 _ _ (by decide) (by decide)]; exact b6 i v h, fun i h1 h2 => ?_⟩, f2, f3, f4, f5, f6, f7⟩, fun c x h h' => by rw [f8 c x (by omega) (by omega), b8 c x (by omega) (by omega)]; exact r3 c x h h'⟩
  · rw [Nat.zero_add]
    refine b11_20 hP ⟨_, _, d98' hP (PC_fr (fun k => g7 _ _ (by omega) (by omega)) (fun k => g7 _ _ (by omega) (by omega)) C), ?_⟩
    rw [if_pos (by omega)]
    refine ⟨_, _, (at' g7).1, s4, by rw [hx]; exact k1, ?_⟩
    rw [if_pos rfl]
    refine b11_53 ?_
    rw [if_neg (show ¬ (1 : Int) = 0 by decide)]
    refine b11_69 ?_
    rw [if_neg (show ¬ (1 : Int) = 0 by decide)]
    refine b11_80 hP ⟨s5, w1, _, _, (at' w3).2.1, by omega, ?_⟩
    rw [show (c : Int) + 1 = ((c + 1 : Nat) : Int) by omega]
    refine u8 (fun d7 => ?_) _
    refine b11_20 hP ⟨_, _, d98' hP (PC_fr (fun k => u7 _ _ (by omega) (by omega)) (fun k => u7 _ _ (by omega) (by omega)) C), ?_⟩
    rw [if_neg (by omega)]
    refine ⟨_, _, RV_146 (FRc_V u7 (by omega) V1), s7, ?_, s8, b1, s9, f1, rfl⟩
    rw [show i2 + (nb - i2) = nb by omega] at r1
    exact r1
  · rw [f8 (351 + 6) i (by decide) (by decide)] at h2 ⊢
    rw [f8 (351 + 2) _ (by decide) (by decide), f8 (351 + 4) _ (by decide) (by decide)]
    exact b7 i h1 h2
end
-- DRAFT 99.u3sp.lean
/-! split: the reference. -/
noncomputable section
/-- the lines laid, and the first text's lines beside -/
def RS9 (σ : Sg) (O : Nat → Int) (i : Nat) (M f g : List Int) : Prop := RS8 σ M f g ∧ ∀ x, x < i → σ 685 (3900 + x) = O x
def FR9 (σ σ0 : Sg) : Prop := ∀ c x, ¬ (c = 685 ∧ 3900 ≤ x ∧ x < 4000) → ¬ (c = 686 ∧ 3900 ≤ x ∧ x < 4000) → ¬ (c = 687 ∧ 3900 ≤ x ∧ x < 4100) → σ c x = σ0 c x
/-- a patch to be cut at a hunk -/
def CX9 (σ : Sg) (s nb na h o n aa : Nat) (F O N : Nat → Int) : Prop := s < 39 ∧ h < 128 ∧ nb ≤ 96 ∧ na ≤ 96 ∧ o ≤ nb ∧ n + aa ≤ na ∧ σ 688 s = (nb : Nat) ∧ σ 689 s = (na : Nat) ∧ (∀ x, x < nb → σ 685 (100 * s + x) = O x) ∧ (∀ x, x < na → σ 686 (100 * s + x) = N x) ∧ (∀ x, x < nb → σ 687 (100 * s + x) = F x) ∧ σ 700 h = (o : Nat) ∧ σ 702 h = (n : Nat)
/-- a line kept -/
theorem l298k {σ0 σ : Sg} {s nb na h o n aa p q i : Nat} {F O N : Nat → Int} {M f g : List Int} (C : CX9 σ0 s nb na h o n aa F O N) (hp : p ≤ 96) (hi : i < nb) (hno : ¬ (o ≤ i ∧ i < o + p)) (hM : M.length < 97) (hf : f.length = i) (hg : g.length = M.length) (R : RS9 σ O i M f g) (fr : FR9 σ σ0) : ∃ σ', (∀ {u : Rs}, (∀ d10 : Option AV, C298_246 s h p q 39 40 ((M.length + 1 : Nat) : Int) o i d10 σ' u) → ∀ d10 : Option AV, C298_105 s h p q 39 40 (M.length : Nat) o i d10 σ u) ∧ RS9 σ' O (i + 1) (M ++ [O i]) (f ++ [(M.length : Int)]) (g ++ [F i]) ∧ FR9 σ' σ0 := by
  obtain ⟨h1, h2, h3, h4, h5, h6, c1, c2, c3, c4, c5, c6, c7⟩ := C
  obtain ⟨⟨R1, R2, R3⟩, R4⟩ := R
  refine ⟨upS (upS (upS (upS σ 685 (3900 + i) (O i)) 687 (3900 + i) (M.length : Int)) 686 (3900 + M.length) (O i)) 687 (4000 + M.length) (F i), fun {u} hx d10 => ?_, ⟨⟨fun x v e => ?_, fun x v e => ?_, fun x v e => ?_⟩, fun x hx => ?_⟩, fun c x y1 y2 y3 => ?_⟩
  · have t136 : C298_136 s h p q 39 40 (M.length : Nat) o i d10 σ u := by
      refine b298_136 (b298_137 ?_)
      have e685 : σ 685 (100 * (s : Int) + (i : Int)).toNat = O i := by
        rw [show (100 * (s : Int) + (i : Int)).toNat = 100 * s + i by omega, fr 685 _ (by omega) (by omega) (by omega)]
        exact c3 i hi
      rw [if_pos rfl, e685, show (100 * (39 : Int) + (i : Int)).toNat = 3900 + i by omega]
      refine ⟨by omega, by omega, by omega, by omega, by omega, by omega, by omega, by omega, b298_187 ⟨by omega, ?_⟩⟩
      rw [if_pos rfl, show (100 * (39 : Int) + (i : Int)).toNat = 3900 + i by omega, show (100 * (39 : Int) + ((M.length : Nat) : Int)).toNat = 3900 + M.length by omega, show (100 * (40 : Int) + ((M.length : Nat) : Int)).toNat = 4000 + M.length by omega, show (100 * (s : Int) + (i : Int)).toNat = 100 * s + i by omega]
      rw [up_a (show ¬ (685 : Nat) = 687 by decide), up_k (show ¬ 100 * s + i = 3900 + i by omega), fr 685 (100 * s + i) (by omega) (by omega) (by omega), c3 i hi, up_a (show ¬ (687 : Nat) = 686 by decide), up_k (show ¬ 100 * s + i = 3900 + i by omega), up_a (show ¬ (687 : Nat) = 685 by decide), fr 687 (100 * s + i) (by omega) (by omega) (by omega), c5 i hi, show ((M.length : Nat) : Int) + 1 = ((M.length + 1 : Nat) : Int) by omega]
      exact ⟨by omega, by omega, by omega, by omega, by omega, by omega, by omega, by omega, by omega, by omega, by omega, by omega, by omega, hx _⟩
    refine b298_105 ⟨by omega, ?_⟩
    rw [tn, fr 688 s (by omega) (by omega) (by omega), c1, if_pos (by omega)]
    by_cases y1 : o ≤ i
    · rw [if_pos (by omega)]
      refine ⟨by omega, ?_⟩
      rw [if_neg (by omega)]
      exact t136
    · rw [if_neg (by omega)]
      exact t136
  · rcases ls_at e with ⟨z1, z2⟩ | ⟨z1, z2⟩
    · rw [up_a (by decide), up_k (by omega), up_a (by decide), up_a (by decide)]
      exact R1 x v z2
    · rw [up_a (by decide), z1, up_s, z2]
  · rcases ls_at e with ⟨z1, z2⟩ | ⟨z1, z2⟩
    · rw [up_k (by omega), up_a (by decide), up_k (by omega), up_a (by decide)]
      exact R2 x v z2
    · rw [up_k (by omega), up_a (by decide), z1, hf, up_s, z2]
  · rcases ls_at e with ⟨z1, z2⟩ | ⟨z1, z2⟩
    · rw [up_k (by omega), up_a (by decide), up_k (by omega), up_a (by decide)]
      exact R3 x v z2
    · rw [z1, hg, up_s, z2]
  · rw [up_a (by decide), up_a (by decide), up_a (by decide)]
    by_cases y : x = i
    · rw [y, up_s]
    · rw [up_k (by omega)]
      exact R4 x (by omega)
  · unfold upS
    rw [if_neg (by omega), if_neg (by omega), if_neg (by omega), if_neg (by omega)]
    exact fr c x y1 y2 y3
/-- a line dropped -/
theorem l298d {σ0 σ : Sg} {s nb na h o n aa p q i : Nat} {F O N : Nat → Int} {M f g : List Int} (C : CX9 σ0 s nb na h o n aa F O N) (hp : p ≤ 96) (hi : i < nb) (hno : o ≤ i ∧ i < o + p) (hf : f.length = i) (R : RS9 σ O i M f g) (fr : FR9 σ σ0) : ∃ σ', (∀ {u : Rs}, (∀ d10 : Option AV, C298_246 s h p q 39 40 (M.length : Nat) o i d10 σ' u) → ∀ d10 : Option AV, C298_105 s h p q 39 40 (M.length : Nat) o i d10 σ u) ∧ RS9 σ' O (i + 1) M (f ++ [-1]) g ∧ FR9 σ' σ0 := by
  obtain ⟨h1, h2, h3, h4, h5, h6, c1, c2, c3, c4, c5, c6, c7⟩ := C
  obtain ⟨⟨R1, R2, R3⟩, R4⟩ := R
  refine ⟨upS (upS σ 685 (3900 + i) (O i)) 687 (3900 + i) (-1), fun {u} hx d10 => ?_, ⟨⟨fun x v e => ?_, fun x v e => ?_, fun x v e => ?_⟩, fun x hx => ?_⟩, fun c x y1 y2 y3 => ?_⟩
  · refine b298_105 ⟨by omega, ?_⟩
    rw [tn, fr 688 s (by omega) (by omega) (by omega), c1, if_pos (by omega), if_pos (by omega)]
    refine ⟨by omega, ?_⟩
    rw [if_pos (by omega)]
    refine b298_137 ?_
    have e685 : σ 685 (100 * (s : Int) + (i : Int)).toNat = O i := by
      rw [show (100 * (s : Int) + (i : Int)).toNat = 100 * s + i by omega, fr 685 _ (by omega) (by omega) (by omega)]
      exact c3 i hi
    rw [if_neg (show ¬ (1 : Int) = 0 by decide), e685, show (100 * (39 : Int) + (i : Int)).toNat = 3900 + i by omega]
    refine ⟨by omega, by omega, by omega, by omega, by omega, by omega, by omega, by omega, b298_187 ⟨by omega, ?_⟩⟩
    rw [if_neg (show ¬ (1 : Int) = 0 by decide), show (100 * (39 : Int) + (i : Int)).toNat = 3900 + i by omega]
    exact hx _
  · rw [up_a (by decide), up_a (by decide)]
    exact R1 x v e
  · rcases ls_at e with ⟨z1, z2⟩ | ⟨z1, z2⟩
    · rw [up_k (by omega), up_a (by decide)]
      exact R2 x v z2
    · rw [z1, hf, up_s, z2]
  · rw [up_k (by omega), up_a (by decide)]
    exact R3 x v e
  · rw [up_a (by decide)]
    by_cases y : x = i
    · rw [y, up_s]
    · rw [up_k (by omega)]
      exact R4 x (by omega)
  · unfold upS
    rw [if_neg (by omega), if_neg (by omega)]
    exact fr c x y1 y2 y3
/-- on to the next line, where no hunk is cut -/
theorem l298n {σ : Sg} {s nb h o p q i : Nat} {m : Int} {d10 : Option AV} {u : Rs} (hs : s < 44) (c1 : σ 688 s = (nb : Nat)) (h96 : nb ≤ 96) (hi : i ≤ nb) (hne : ¬ i = o) (hx : ∀ d10 : Option AV, C298_105 s h p q 39 40 m o i d10 σ u) : C298_14 s h p q 39 40 m o i d10 σ u := by
  refine b298_14 ⟨by omega, ?_⟩
  rw [tn, c1, if_pos (by omega)]
  refine b298_28 ?_
  by_cases y : 0 < (q : Int)
  · rw [if_pos y, if_neg (by omega)]
    exact hx _
  · rw [if_neg y]
    exact hx _
/-- lines kept ahead of the hunk -/
theorem l298a {σ0 : Sg} {s nb na h o n aa p q : Nat} {F O N : Nat → Int} (C : CX9 σ0 s nb na h o n aa F O N) (hp : p ≤ 96) : ∀ (d i : Nat) (M f g : List Int) (σ : Sg), i + d = o → M.length + d ≤ 97 → f.length = i → g.length = M.length → RS9 σ O i M f g → FR9 σ σ0 → ∃ σ', (∀ {u : Rs}, (∀ d10 : Option AV, C298_14 s h p q 39 40 ((M.length + d : Nat) : Int) o ((i + d : Nat) : Int) d10 σ' u) → ∀ d10 : Option AV, C298_14 s h p q 39 40 (M.length : Nat) o i d10 σ u) ∧ RS9 σ' O (i + d) (M ++ rlZ O i d) (f ++ rlZ idZ M.length d) (g ++ rlZ F i d) ∧ FR9 σ' σ0 := by
  have CC := C
  obtain ⟨h1, h2, h3, h4, h5, h6, c1, c2, c3, c4, c5, c6, c7⟩ := C
  intro d
  induction d with
  | zero =>
    intro i M f g σ hi hM hf hg R fr
    refine ⟨σ, fun {u} hx => hx, ?_, fr⟩
    rw [rl_0, rl_0, rl_0]
    exact R
  | succ d ih =>
    intro i M f g σ hi hM hf hg R fr
    obtain ⟨σ1, a1, a2, a3⟩ := l298k (q := q) CC hp (i := i) (by omega) (by omega) (by omega) hf hg R fr
    obtain ⟨σ', e1, e2, e3⟩ := ih (i + 1) (M ++ [O i]) (f ++ [(M.length : Int)]) (g ++ [F i]) σ1 (by omega) (by rw [ap_len1]; omega) (by rw [ap_len1, hf]) (by rw [ap_len1, ap_len1, hg]) a2 a3
    rw [ap_len1, show ((M.length : Nat) : Int) = idZ M.length from rfl, rl_c, rl_c, rl_c, show i + 1 + d = i + (d + 1) by omega] at e2
    refine ⟨σ', fun {u} hx d10 => l298n (nb := nb) (by omega) (by rw [fr _ _ (by omega) (by omega) (by omega)]; exact c1) h3 (by omega) (by omega) (a1 (fun dv => b298_246 ⟨by omega, ?_⟩)), e2, e3⟩
    have z := e1 (u := u) (fun d2 => by
      rw [ap_len1, show M.length + 1 + d = M.length + (d + 1) by omega, show i + 1 + d = i + (d + 1) by omega]
      exact hx d2) dv
    rw [ap_len1] at z
    rw [show (i : Int) + 1 = ((i + 1 : Nat) : Int) by omega]
    exact z
/-- the hunk's first added lines -/
theorem l298i {σ0 : Sg} {s nb na h o n aa p q : Nat} {F O N : Nat → Int} (C : CX9 σ0 s nb na h o n aa F O N) (hq : q ≤ aa) : ∀ (d x : Nat) (M f g : List Int) (σ : Sg), x + d = q → M.length + d ≤ 97 → f.length = o → g.length = M.length → RS9 σ O o M f g → FR9 σ σ0 → ∃ σ', (∀ {u : Rs}, (∀ d10 : Option AV, C298_105 s h p q 39 40 ((M.length + d : Nat) : Int) o o d10 σ' u) → C298_28 s h p q 39 40 (M.length : Nat) o o x σ u) ∧ RS9 σ' O o (M ++ rlZ N (n + x) d) f (g ++ rlZ idZ (n + x) d) ∧ FR9 σ' σ0 := by
  obtain ⟨h1, h2, h3, h4, h5, h6, c1, c2, c3, c4, c5, c6, c7⟩ := C
  intro d
  induction d with
  | zero =>
    intro x M f g σ hx hM hf hg R fr
    refine ⟨σ, fun {u} hh => b298_28 ?_, ?_, fr⟩
    · rw [if_neg (by omega)]
      exact hh _
    · rw [rl_0, rl_0]
      exact R
  | succ d ih =>
    intro x M f g σ hx hM hf hg R fr
    obtain ⟨⟨R1, R2, R3⟩, R4⟩ := R
    obtain ⟨σ', e1, e2, e3⟩ := ih (x + 1) (M ++ [N (n + x)]) f (g ++ [((n + x : Nat) : Int)]) (upS (upS σ 686 (3900 + M.length) (N (n + x))) 687 (4000 + M.length) ((n + x : Nat) : Int)) (by omega) (by rw [ap_len1]; omega) hf (by rw [ap_len1, ap_len1, hg]) ⟨⟨fun y v e => by
      rcases ls_at e with ⟨z1, z2⟩ | ⟨z1, z2⟩
      · rw [up_a (by decide), up_k (by omega)]
        exact R1 y v z2
      · rw [up_a (by decide), z1, up_s, z2], fun y v e => by
      have hy := (List.getElem?_eq_some_iff.mp e).1
      rw [up_k (by omega), up_a (by decide)]
      exact R2 y v e, fun y v e => by
      rcases ls_at e with ⟨z1, z2⟩ | ⟨z1, z2⟩
      · rw [up_k (by omega), up_a (by decide)]
        exact R3 y v z2
      · rw [z1, hg, up_s, z2]⟩, fun y hy => by
      rw [up_a (by decide), up_a (by decide)]
      exact R4 y hy⟩ (fun c y y1 y2 y3 => by
      unfold upS
      rw [if_neg (by omega), if_neg (by omega)]
      exact fr c y y1 y2 y3)
    rw [show ((n + x : Nat) : Int) = idZ (n + x) from rfl, show n + (x + 1) = n + x + 1 by omega, rl_c, rl_c] at e2
    refine ⟨σ', fun {u} hh => b298_28 ?_, e2, e3⟩
    have z := e1 (u := u) (fun d2 => by
      rw [ap_len1, show M.length + 1 + d = M.length + (d + 1) by omega]
      exact hh d2)
    rw [ap_len1] at z
    have e702 : σ 702 h = (n : Nat) := by rw [fr 702 _ (by omega) (by omega) (by omega)]; exact c7
    rw [if_pos (by omega), if_pos rfl, tn, e702, show (100 * (39 : Int) + ((M.length : Nat) : Int)).toNat = 3900 + M.length by omega, show (100 * (s : Int) + (n : Int) + (x : Int)).toNat = 100 * s + (n + x) by omega, fr 686 _ (by omega) (by omega) (by omega), c4 _ (by omega), up_a (show ¬ (702 : Nat) = 686 by decide), e702, show (100 * (40 : Int) + ((M.length : Nat) : Int)).toNat = 4000 + M.length by omega, show ((n : Nat) : Int) + (x : Int) = ((n + x : Nat) : Int) by omega, show ((M.length : Nat) : Int) + 1 = ((M.length + 1 : Nat) : Int) by omega, show (x : Int) + 1 = ((x + 1 : Nat) : Int) by omega]
    exact ⟨by omega, by omega, by omega, by omega, by omega, by omega, by omega, by omega, by omega, by omega, by omega, by omega, by omega, by omega, by omega, z⟩
/-- the hunk's first dropped lines -/
theorem l298p {σ0 : Sg} {s nb na h o n aa p q : Nat} {F O N : Nat → Int} (C : CX9 σ0 s nb na h o n aa F O N) (hp : p ≤ 96) (hpn : o + p ≤ nb) : ∀ (d i : Nat) (M f g : List Int) (σ : Sg), o ≤ i → i + d = o + p → f.length = i → RS9 σ O i M f g → FR9 σ σ0 → ∃ σ', (∀ {u : Rs}, (∀ d10 : Option AV, C298_105 s h p q 39 40 (M.length : Nat) o ((i + d : Nat) : Int) d10 σ' u) → ∀ d10 : Option AV, C298_105 s h p q 39 40 (M.length : Nat) o i d10 σ u) ∧ RS9 σ' O (i + d) M (f ++ rlZ m1Z i d) g ∧ FR9 σ' σ0 := by
  have CC := C
  obtain ⟨h1, h2, h3, h4, h5, h6, c1, c2, c3, c4, c5, c6, c7⟩ := C
  intro d
  induction d with
  | zero =>
    intro i M f g σ hi1 hi hf R fr
    refine ⟨σ, fun {u} hx => hx, ?_, fr⟩
    rw [rl_0]
    exact R
  | succ d ih =>
    intro i M f g σ hi1 hi hf R fr
    obtain ⟨σ1, a1, a2, a3⟩ := l298d (q := q) CC hp (i := i) (by omega) (by omega) hf R fr
    obtain ⟨σ', e1, e2, e3⟩ := ih (i + 1) M (f ++ [-1]) g σ1 (by omega) (by omega) (by rw [ap_len1, hf]) a2 a3
    rw [show (-1 : Int) = m1Z i from rfl, rl_c, show i + 1 + d = i + (d + 1) by omega] at e2
    refine ⟨σ', fun {u} hx d10 => a1 (fun d10 => b298_246 ⟨by omega, ?_⟩) d10, e2, e3⟩
    rw [show (i : Int) + 1 = ((i + 1 : Nat) : Int) by omega]
    refine l298n (nb := nb) (by omega) (by rw [a3 _ _ (by omega) (by omega) (by omega)]; exact c1) h3 (by omega) (by omega) (e1 (fun d2 => ?_))
    rw [show i + 1 + d = i + (d + 1) by omega]
    exact hx d2
/-- the lines behind -/
theorem l298b {σ0 : Sg} {s nb na h o n aa p q : Nat} {F O N : Nat → Int} (C : CX9 σ0 s nb na h o n aa F O N) (hp : p ≤ 96) : ∀ (d i : Nat) (M f g : List Int) (σ : Sg), o + p ≤ i → i + d = nb → M.length + d ≤ 97 → f.length = i → g.length = M.length → RS9 σ O i M f g → FR9 σ σ0 → ∃ σ', (∀ {u : Rs}, (∀ d10 : Option AV, C298_105 s h p q 39 40 ((M.length + d : Nat) : Int) o ((i + d : Nat) : Int) d10 σ' u) → ∀ d10 : Option AV, C298_105 s h p q 39 40 (M.length : Nat) o i d10 σ u) ∧ RS9 σ' O (i + d) (M ++ rlZ O i d) (f ++ rlZ idZ M.length d) (g ++ rlZ F i d) ∧ FR9 σ' σ0 := by
  have CC := C
  obtain ⟨h1, h2, h3, h4, h5, h6, c1, c2, c3, c4, c5, c6, c7⟩ := C
  intro d
  induction d with
  | zero =>
    intro i M f g σ hi1 hi hM hf hg R fr
    refine ⟨σ, fun {u} hx => hx, ?_, fr⟩
    rw [rl_0, rl_0, rl_0]
    exact R
  | succ d ih =>
    intro i M f g σ hi1 hi hM hf hg R fr
    obtain ⟨σ1, a1, a2, a3⟩ := l298k (q := q) CC hp (i := i) (by omega) (by omega) (by omega) hf hg R fr
    obtain ⟨σ', e1, e2, e3⟩ := ih (i + 1) (M ++ [O i]) (f ++ [(M.length : Int)]) (g ++ [F i]) σ1 (by omega) (by omega) (by rw [ap_len1]; omega) (by rw [ap_len1, hf]) (by rw [ap_len1, ap_len1, hg]) a2 a3
    rw [ap_len1, show ((M.length : Nat) : Int) = idZ M.length from rfl, rl_c, rl_c, rl_c, show i + 1 + d = i + (d + 1) by omega] at e2
    refine ⟨σ', fun {u} hx d10 => a1 (fun d10 => b298_246 ⟨by omega, ?_⟩) d10, e2, e3⟩
    have z := e1 (u := u) (fun d2 => by
      rw [ap_len1, show M.length + 1 + d = M.length + (d + 1) by omega, show i + 1 + d = i + (d + 1) by omega]
      exact hx d2)
    rw [ap_len1] at z
    rw [show (i : Int) + 1 = ((i + 1 : Nat) : Int) by omega]
    exact l298n (nb := nb) (by omega) (by rw [a3 _ _ (by omega) (by omega) (by omega)]; exact c1) h3 (by omega) (by omega) z
/-- the end of it -/
theorem l298z {σ0 : Sg} {s nb na h o n aa p q : Nat} {F O N : Nat → Int} (C : CX9 σ0 s nb na h o n aa F O N) {M f g : List Int} {σ : Sg} (hM : M.length ≤ 97) (hf : f.length = nb) (hg : g.length = M.length) (R : RS9 σ O nb M f g) (fr : FR9 σ σ0) : ∃ s2, (∀ d10 : Option AV, C298_105 s h p q 39 40 (M.length : Nat) o nb d10 σ (rV s2)) ∧ Slot s2 39 nb M.length O (gv M) (gv f) ∧ Slot s2 40 M.length na (gv M) N (gv g) ∧ ∀ c x, ¬ (685 ≤ c ∧ c ≤ 687 ∧ 3900 ≤ x ∧ x < 4100) → ¬ ((c = 688 ∨ c = 689) ∧ (x = 39 ∨ x = 40)) → s2 c x = σ0 c x := by
  obtain ⟨h1, h2, h3, h4, h5, h6, c1, c2, c3, c4, c5, c6, c7⟩ := C
  obtain ⟨⟨R1, R2, R3⟩, R4⟩ := R
  obtain ⟨σ1, hσ1⟩ : ∃ σ1, σ1 = upS (upS (upS (upS σ 688 39 (nb : Nat)) 689 39 (M.length : Nat)) 688 40 (M.length : Nat)) 689 40 (na : Nat) := ⟨_, rfl⟩
  have k1 : ∀ c x, ¬ ((c = 688 ∨ c = 689) ∧ (x = 39 ∨ x = 40)) → σ1 c x = σ c x := fun c x h => by
    rw [hσ1]
    unfold upS
    rw [if_neg (by omega), if_neg (by omega), if_neg (by omega), if_neg (by omega)]
  have z1 : σ1 688 39 = (nb : Nat) := by rw [hσ1, up_a (by decide), up_k (by decide), up_a (by decide), up_s]
  have z2 : σ1 689 39 = (M.length : Nat) := by rw [hσ1, up_k (by decide), up_a (by decide), up_s]
  have z3 : σ1 688 40 = (M.length : Nat) := by rw [hσ1, up_a (by decide), up_s]
  have z4 : σ1 689 40 = (na : Nat) := by rw [hσ1, up_s]
  have z5 : σ1 689 s = (na : Nat) := by rw [k1 _ _ (by omega), fr _ _ (by omega) (by omega) (by omega)]; exact c2
  have L3 : ∀ (d x : Nat) (σ2 : Sg), x + d = na → (∀ y, y < x → σ2 686 (4000 + y) = N y) → (∀ c y, ¬ (c = 685 ∧ 4000 ≤ y ∧ y < 4100) → ¬ (c = 686 ∧ 4000 ≤ y ∧ y < 4100) → σ2 c y = σ1 c y) → ∃ s2, (∀ (d2 d3 d4 d5 d7 d8 d10 : Option AV), C298_341 s d2 d3 d4 d5 40 d7 d8 x d10 σ2 (rV s2)) ∧ (∀ y, y < na → s2 686 (4000 + y) = N y) ∧ ∀ c y, ¬ (c = 686 ∧ 4000 ≤ y ∧ y < 4100) → s2 c y = σ2 c y := by
    intro d
    induction d with
    | zero =>
      intro x σ2 hx hv k2
      refine ⟨σ2, fun _ _ _ _ _ _ _ => b298_341 ⟨by omega, ?_⟩, fun y hy => hv y (by omega), fun _ _ _ => rfl⟩
      rw [tn, k2 689 s (by omega) (by omega), z5, if_neg (by omega)]
    | succ d ih =>
      intro x σ2 hx hv k2
      have e : σ2 686 (100 * s + x) = N x := by
        rw [k2 _ _ (by omega) (by omega), k1 _ _ (by omega), fr _ _ (by omega) (by omega) (by omega)]
        exact c4 x (by omega)
      obtain ⟨s2, a1, a2, a3⟩ := ih (x + 1) (upS σ2 686 (4000 + x) (N x)) (by omega) (fun y hy => by
        by_cases q : y = x
        · rw [q, up_s]
        · rw [up_k (by omega)]
          exact hv y (by omega)) (fun c y y1 y2 => by
        have : upS σ2 686 (4000 + x) (N x) c y = σ2 c y := by
          unfold upS
          rw [if_neg (by omega)]
        rw [this]
        exact k2 c y y1 y2)
      refine ⟨s2, fun _ _ _ _ _ _ _ => b298_341 ⟨by omega, ?_⟩, a2, fun c y y1 => by
        rw [a3 c y y1]
        unfold upS
        rw [if_neg (by omega)]⟩
      rw [tn, k2 689 s (by omega) (by omega), z5, if_pos (by omega), show (100 * (40 : Int) + (x : Int)).toNat = 4000 + x by omega, show (100 * (s : Int) + (x : Int)).toNat = 100 * s + x by omega, e, show (x : Int) + 1 = ((x + 1 : Nat) : Int) by omega]
      exact ⟨by omega, by omega, by omega, by omega, by omega, by omega, by omega, a1 _ _ _ _ _ _ _⟩
  have L2 : ∀ (d x : Nat) (σ2 : Sg), x + d = M.length → (∀ y, y < x → σ2 685 (4000 + y) = gv M y) → (∀ c y, ¬ (c = 685 ∧ 4000 ≤ y ∧ y < 4100) → σ2 c y = σ1 c y) → ∃ s2, (∀ (d2 d3 d4 d8 d10 : Option AV), C298_299 s d2 d3 d4 39 40 (M.length : Nat) d8 x d10 σ2 (rV s2)) ∧ (∀ y, y < na → s2 686 (4000 + y) = N y) ∧ (∀ y, y < M.length → s2 685 (4000 + y) = gv M y) ∧ ∀ c y, ¬ (c = 685 ∧ 4000 ≤ y ∧ y < 4100) → ¬ (c = 686 ∧ 4000 ≤ y ∧ y < 4100) → s2 c y = σ2 c y := by
    intro d
    induction d with
    | zero =>
      intro x σ2 hx hv k2
      obtain ⟨s2, a1, a2, a3⟩ := L3 na 0 σ2 (by omega) (fun y hy => absurd hy (Nat.not_lt_zero y)) (fun c y y1 y2 => k2 c y y1)
      refine ⟨s2, fun _ _ _ _ _ => b298_299 ?_, a2, fun y hy => by rw [a3 _ _ (by omega)]; exact hv y (by omega), fun c y y1 y2 => a3 c y y2⟩
      rw [if_neg (by omega)]
      exact a1 _ _ _ _ _ _ _
    | succ d ih =>
      intro x σ2 hx hv k2
      have e : σ2 686 (3900 + x) = gv M x := by
        rw [k2 _ _ (by omega), k1 _ _ (by omega)]
        exact R1 x _ (gv_at (by omega))
      obtain ⟨s2, a1, a2, a3, a4⟩ := ih (x + 1) (upS σ2 685 (4000 + x) (gv M x)) (by omega) (fun y hy => by
        by_cases q : y = x
        · rw [q, up_s]
        · rw [up_k (by omega)]
          exact hv y (by omega)) (fun c y y1 => by
        have : upS σ2 685 (4000 + x) (gv M x) c y = σ2 c y := by
          unfold upS
          rw [if_neg (by omega)]
        rw [this]
        exact k2 c y y1)
      refine ⟨s2, fun _ _ _ _ _ => b298_299 ?_, a2, a3, fun c y y1 y2 => by
        rw [a4 c y y1 y2]
        unfold upS
        rw [if_neg (by omega)]⟩
      rw [if_pos (by omega), show (100 * (40 : Int) + (x : Int)).toNat = 4000 + x by omega, show (100 * (39 : Int) + (x : Int)).toNat = 3900 + x by omega, e, show (x : Int) + 1 = ((x + 1 : Nat) : Int) by omega]
      exact ⟨by omega, by omega, by omega, by omega, by omega, by omega, by omega, a1 _ _ _ _ _⟩
  obtain ⟨s2, a1, a2, a3, a5⟩ := L2 M.length 0 σ1 (by omega) (fun y hy => absurd hy (Nat.not_lt_zero y)) (fun _ _ _ => rfl)
  refine ⟨s2, fun d10 => ?_, ⟨by rw [a5 _ _ (by omega) (by omega)]; exact z1, by rw [a5 _ _ (by omega) (by omega)]; exact z2, fun y hy => ?_, fun y hy => ?_, fun y hy => ?_⟩, ⟨by rw [a5 _ _ (by omega) (by omega)]; exact z3, by rw [a5 _ _ (by omega) (by omega)]; exact z4, a3, a2, fun y hy => ?_⟩, fun c y y1 y2 => by rw [a5 c y (by omega) (by omega), k1 c y y2]; exact fr c y (by omega) (by omega) (by omega)⟩
  · refine b298_105 ⟨by omega, ?_⟩
    rw [tn, fr 688 s (by omega) (by omega) (by omega), c1, if_neg (by omega)]
    refine b298_246 ⟨by omega, b298_14 ⟨by omega, ?_⟩⟩
    rw [tn, fr 688 s (by omega) (by omega) (by omega), c1, if_neg (by omega)]
    refine ⟨by omega, by omega, by omega, by omega, by omega, by omega, ?_⟩
    have e : upS (upS (upS (upS σ 688 ((39 : Int)).toNat (nb : Nat)) 689 ((39 : Int)).toNat (M.length : Nat)) 688 ((40 : Int)).toNat (M.length : Nat)) 689 ((40 : Int)).toNat (upS (upS (upS σ 688 ((39 : Int)).toNat (nb : Nat)) 689 ((39 : Int)).toNat (M.length : Nat)) 688 ((40 : Int)).toNat (M.length : Nat) 689 s) = σ1 := by
      rw [hσ1, up_a (show ¬ (689 : Nat) = 688 by decide), up_k (show ¬ s = ((39 : Int)).toNat from by rw [show ((39 : Int)).toNat = 39 from rfl]; omega), up_a (show ¬ (689 : Nat) = 688 by decide), fr 689 s (by omega) (by omega) (by omega), c2]
      rfl
    rw [e]
    exact a1 _ _ _ _ _
  · show s2 685 (3900 + y) = O y
    rw [a5 _ _ (by omega) (by omega), k1 _ _ (by omega)]
    exact R4 y hy
  · show s2 686 (3900 + y) = gv M y
    rw [a5 _ _ (by omega) (by omega), k1 _ _ (by omega)]
    exact R1 y _ (gv_at hy)
  · show s2 687 (3900 + y) = gv f y
    rw [a5 _ _ (by omega) (by omega), k1 _ _ (by omega)]
    exact R2 y _ (gv_at (by omega))
  · show s2 687 (4000 + y) = gv g y
    rw [a5 _ _ (by omega) (by omega), k1 _ _ (by omega)]
    exact R3 y _ (gv_at (by omega))
end
-- DRAFT 99.u4sp.lean
/-! split, both sides. -/
noncomputable section
theorem d232_no {i n : Int} {σ : Sg} (h : ¬ (0 ≤ i ∧ i < n)) : Dd 232 [vA 0, vI i, vI n] σ (rX 0 σ) := by
  refine b232 ?_
  by_cases y : 0 ≤ i
  · rw [if_pos y, if_pos (by omega)]
    exact b232_9 rfl
  · rw [if_neg y]
    exact b232_9 rfl
theorem d234_no {i n m : Int} {σ : Sg} (h : ¬ (m ≤ i ∧ i ≤ n)) : Dd 234 [vA 0, vI i, vI m, vI n] σ (rX 1 σ) := by
  refine b234 ?_
  by_cases y : m ≤ i
  · rw [if_pos y, if_pos (by omega)]
    exact b234_10 rfl
  · rw [if_neg y]
    exact b234_10 rfl
theorem sp_len {O N : Nat → Int} {nb o n p q : Nat} (h : o + p ≤ nb) : (spM O N nb o n p q).length = nb + q - p := by
  unfold spM
  rw [List.length_append, List.length_append, rl_len, rl_len, rl_len]
  omega
theorem spf_len {nb o p q : Nat} (h : o + p ≤ nb) : (spf nb o p q).length = nb := by
  unfold spf
  rw [List.length_append, List.length_append, rl_len, rl_len, rl_len]
  omega
theorem spg_len {F : Nat → Int} {nb o n p q : Nat} (h : o + p ≤ nb) : (spg F nb o n p q).length = nb + q - p := by
  unfold spg
  rw [List.length_append, List.length_append, rl_len, rl_len, rl_len]
  omega
/-- splits -/
theorem d298 {σ : Sg} {s nb na h o d n aa p q : Nat} {F O N : Nat → Int} (C : CX9 σ s nb na h o n aa F O N) (hp : p ≤ d) (hd : o + d ≤ nb) (hq : q ≤ aa) (hM : nb + q ≤ 96) : ∃ s2, Dd 298 [vA 682, vI s, vI h, vI p, vI q, vI 39, vI 40] σ (rV s2) ∧ Slot s2 39 nb (spM O N nb o n p q).length O (gv (spM O N nb o n p q)) (gv (spf nb o p q)) ∧ Slot s2 40 (spM O N nb o n p q).length na (gv (spM O N nb o n p q)) N (gv (spg F nb o n p q)) ∧ ∀ c x, ¬ (685 ≤ c ∧ c ≤ 687 ∧ 3900 ≤ x ∧ x < 4100) → ¬ ((c = 688 ∨ c = 689) ∧ (x = 39 ∨ x = 40)) → s2 c x = σ c x := by
  have CC := C
  obtain ⟨h1, h2, h3, h4, h5, h6, c1, c2, c3, c4, c5, c6, c7⟩ := C
  obtain ⟨σ1, a1, a2, a3⟩ := l298a (p := p) (q := q) CC (by omega) o 0 [] [] [] σ (by omega) (by show 0 + o ≤ 97; omega) rfl rfl ⟨⟨fun x v e => by simp at e, fun x v e => by simp at e, fun x v e => by simp at e⟩, fun x hx => absurd hx (Nat.not_lt_zero x)⟩ (fun _ _ _ _ _ => rfl)
  simp only [List.nil_append, List.length_nil, Nat.zero_add] at a1 a2
  obtain ⟨σ2, e1, e2, e3⟩ := l298i (p := p) (q := q) CC hq q 0 (rlZ O 0 o) (rlZ idZ 0 o) (rlZ F 0 o) σ1 (by omega) (by rw [rl_len]; omega) (rl_len _ _) (by rw [rl_len, rl_len]) a2 a3
  simp only [Nat.add_zero] at e2
  rw [rl_len] at e1
  have lM : (rlZ O 0 o ++ rlZ N n q).length = o + q := by rw [List.length_append, rl_len, rl_len]
  have lg : (rlZ F 0 o ++ rlZ idZ n q).length = o + q := by rw [List.length_append, rl_len, rl_len]
  obtain ⟨σ3, g1, g2, g3⟩ := l298p (p := p) (q := q) CC (by omega) (by omega) p o (rlZ O 0 o ++ rlZ N n q) (rlZ idZ 0 o) (rlZ F 0 o ++ rlZ idZ n q) σ2 (Nat.le_refl _) rfl (rl_len _ _) e2 e3
  have lf : (rlZ idZ 0 o ++ rlZ m1Z o p).length = o + p := by rw [List.length_append, rl_len, rl_len]
  obtain ⟨σ4, k1, k2, k3⟩ := l298b (p := p) (q := q) CC (by omega) (nb - (o + p)) (o + p) (rlZ O 0 o ++ rlZ N n q) (rlZ idZ 0 o ++ rlZ m1Z o p) (rlZ F 0 o ++ rlZ idZ n q) σ3 (Nat.le_refl _) (by omega) (by rw [lM]; omega) lf (by rw [lM, lg]) g2 g3
  rw [lM] at g1 k1 k2
  rw [show o + p + (nb - (o + p)) = nb by omega] at k1 k2
  have eM : (spM O N nb o n p q).length = o + q + (nb - (o + p)) := by rw [sp_len (by omega)]; omega
  have k2' : RS9 σ4 O nb (spM O N nb o n p q) (spf nb o p q) (spg F nb o n p q) := k2
  obtain ⟨s2, r1, r2, r3, r4⟩ := l298z (p := p) (q := q) CC (by rw [eM]; omega) (spf_len (by omega)) (by rw [spg_len (by omega), sp_len (by omega)]) k2' k3
  rw [eM] at r1
  refine ⟨s2, b298 ⟨by omega, ?_⟩, r2, r3, r4⟩
  rw [tn, c6]
  refine a1 (fun d10 => ?_) none
  refine b298_14 ⟨by omega, ?_⟩
  rw [tn, a3 688 s (by omega) (by omega) (by omega), c1, if_pos (by omega)]
  exact e1 (g1 (k1 r1))
/-- split -/
theorem o14 {σ : Sg} {c a1 a2 a3 a4 a5 : Int} (H : Rel c σ) : OpR 404 305 [vA 0, vI a1, vI a2, vI a3, vI a4, vI a5, vA 726] [vA 682, vI a1, vI a2, vI a3, vI a4, vI a5] σ (c + 1) := by
  by_cases g1 : a1 < 0
  · exact x14_0 H g1
  by_cases g2 : σ 0 3 ≤ a1
  · exact x14_1 H g2
  have k1 : 0 ≤ a1 ∧ a1 < σ 0 3 := by omega
  obtain ⟨a, rfl⟩ := Int.eq_ofNat_of_zero_le k1.1
  have hn := (rel_n H).1
  obtain ⟨hP, q1, q2, w1, w3⟩ := po_pat H k1.2
  obtain ⟨nb, na, hb1, hb2, N, S⟩ := po_slot q1 q2 w1 w3
  have e230 := d230_ok (σ := σ) k1 hn.2.2
  rw [show ((a : Int)).toNat = a by omega] at e230
  have ha24 : a < 24 := by omega
  have C := PC_of N (by omega) (by omega)
  obtain ⟨l, hl⟩ : ∃ l, l = hks (σ (20 + 13 * a + 6)) nb na := ⟨_, rfl⟩
  have V := N.2.2.2.2.1
  have D := DS_0 V
  rw [← hl] at C D
  have e98 := d98' hP C
  -- the reference's list of hunks
  have m280 : ∀ {s : Sg}, (∀ c k, 682 ≤ c → ¬ c = 726 → s c k = σ c k) → ∃ s4, Dd 280 [vA 682, vI a, vI 0] s (rI (l.length : Nat) s4) ∧ HK s4 0 0 l ∧ (∀ c k, ¬ (700 ≤ c ∧ c ≤ 704) → s4 c k = s c k) := by
    intro s hs
    have S2 : Slot s a nb na (σ (20 + 13 * a + 2)) (σ (20 + 13 * a + 4)) (σ (20 + 13 * a + 6)) := Slot_fr (fun c k h => hs c k (by omega) (by omega)) S
    obtain ⟨s4, x1, x2, x3, x4, x5⟩ := d280 (s := a) (wh := 0) (σ := s) (by omega) (by decide) (by omega) (by omega) V S2.1 S2.2.1 S2.2.2.2.2
    rw [← hl] at x1 x2
    exact ⟨s4, x1, x2, fun c k h => x5 c k (by omega) (by omega)⟩
  have m304 : ∀ {s s4 : Sg}, s 682 3 = σ 682 3 → 0 ≤ a2 → Dd 280 [vA 682, vI a, vI 0] s (rI (l.length : Nat) s4) → Dd 304 [vA 682, vI a, vI a2] s (rI (if a2 < (l.length : Nat) then 1 else 0) s4) := by
    intro s s4 h h2 h3
    refine b304 ⟨_, _, d248_ok (by omega), ?_⟩
    rw [if_neg (show ¬ (1 : Int) = 0 by decide), if_pos h2]
    exact ⟨_, _, h3, rfl⟩
  have mx : ∀ (s : Sg) (d1 d2 d3 d4 d6 d7 : Option AV) (k : Int), ¬ k = 0 → C305_114 d1 d2 d3 d4 a5 d6 d7 k s (rI 0 (upS s 682 0 k)) := fun s d1 d2 d3 d4 d6 d7 k hk => by
    refine b305_114 ⟨_, _, d245, ?_⟩
    rw [if_neg hk, if_pos rfl]
  have off : ∀ {s4 : Sg} {k : Int}, (∀ c x, ¬ (700 ≤ c ∧ c ≤ 704) → s4 c x = σ c x) → (∀ x y, x < 682 ∨ 726 ≤ x → upS s4 682 0 k x y = σ x y) ∧ ∀ x y, 682 ≤ x → KP x y → ¬ (685 ≤ x ∧ x ≤ 687 ∧ 2900 ≤ y) → ¬ ((x = 688 ∨ x = 689) ∧ 29 ≤ y) → upS s4 682 0 k x y = σ x y := fun {s4 k} h => ⟨fun x y hx => by rw [up_a (by omega)]; exact h x y (by omega), fun x y h1 h2 h3 h4 => by
    have : upS s4 682 0 k x y = s4 x y := by unfold upS; rw [if_neg (by omega)]
    rw [this]
    exact h x y (by omega)⟩
  by_cases g3 : 0 ≤ a2 ∧ a2 < (l.length : Nat)
  · obtain ⟨h, rfl⟩ := Int.eq_ofNat_of_zero_le g3.1
    have hlt : h < l.length := by omega
    obtain ⟨q, hq⟩ : ∃ q, l[h]? = some q := ⟨l[h], List.getElem?_eq_getElem hlt⟩
    have bq := (DS_b _ _ _ _ D).2.2 q (List.mem_of_getElem? hq)
    obtain ⟨e101, e104⟩ := pc_at2 hP (WF_w H.1 (pat_9 hP)) C hq
    obtain ⟨o, d, n, aa⟩ := q
    have bq1 : o + d ≤ nb := bq.2.1
    have bq2 : n + aa ≤ na := bq.2.2.2
    have e101 : Dd 101 [vA (20 + 13 * a), vI h] σ (rI (d : Nat) σ) := e101
    have e104 : Dd 104 [vA (20 + 13 * a), vI h] σ (rI (aa : Nat) σ) := e104
    have e232 := d232_ok (σ := σ) (i := (h : Int)) (n := ((l.length : Nat) : Int)) g3
    -- the reference, up to the hunk's parts
    have mh : ∀ {s : Sg}, (∀ c k, 682 ≤ c → ¬ c = 726 → s c k = σ c k) → ∃ s4, HK s4 0 0 l ∧ (∀ c k, ¬ (700 ≤ c ∧ c ≤ 704) → s4 c k = s c k) ∧ ∀ {u : Rs}, (if (if 0 ≤ a3 ∧ a3 < ((d : Nat) : Int) + 1 then (1 : Int) else 0) = 0 then C305_48 a h a3 a4 a5 1 none s4 u else (if (if 0 ≤ a4 ∧ a4 < ((aa : Nat) : Int) + 1 then (1 : Int) else 0) = 0 then C305_48 a h a3 a4 a5 1 none s4 u else C305_49 a h a3 a4 a5 1 none 1 s4 u)) → Dd 305 [vA 682, vI a, vI h, vI a3, vI a4, vI a5] s u := by
      intro s hs
      obtain ⟨s4, x1, x2, x3⟩ := m280 hs
      obtain ⟨v0, v1, v2, v3⟩ := HK_at x2 hq
      have v1 : s4 701 h = (d : Nat) := v1
      have v3 : s4 703 h = (aa : Nat) := v3
      refine ⟨s4, x2, x3, fun {u} hh => b305 ⟨_, _, m304 (hs _ _ (by decide) (by decide)) g3.1 x1, ?_⟩⟩
      rw [if_pos g3.2, if_neg (show ¬ (1 : Int) = 0 by decide), tn, v1, v3]
      refine ⟨by omega, by omega, _, _, d246, ?_⟩
      by_cases y : (if 0 ≤ a3 ∧ a3 < ((d : Nat) : Int) + 1 then (1 : Int) else 0) = 0
      · rw [if_pos y] at hh ⊢
        exact hh
      · rw [if_neg y] at hh ⊢
        refine ⟨by omega, by omega, _, _, d246, ?_⟩
        exact hh
    have mfail : ∀ {s s4 : Sg}, C305_48 a h a3 a4 a5 1 none s4 (rI 0 (upS s4 682 0 2)) := fun {s s4} => by
      refine b305_48 (b305_49 ?_)
      rw [if_pos rfl]
      refine b305_69 ?_
      rw [if_neg (show ¬ (1 : Int) = 0 by decide), if_pos rfl]
      exact mx _ _ _ _ _ _ _ _ (by decide)
    by_cases g4 : 0 ≤ a3 ∧ a3 ≤ (d : Nat)
    · by_cases g5 : 0 ≤ a4 ∧ a4 ≤ (aa : Nat)
      · obtain ⟨p, rfl⟩ := Int.eq_ofNat_of_zero_le g4.1
        obtain ⟨r, rfl⟩ := Int.eq_ofNat_of_zero_le g5.1
        have hp : p ≤ d := by omega
        have hr : r ≤ aa := by omega
        have hMl := sp_len (O := σ (20 + 13 * a + 2)) (N := σ (20 + 13 * a + 4)) (nb := nb) (o := o) (n := n) (p := p) (q := r) (by omega)
        have hfl := spf_len (nb := nb) (o := o) (p := p) (q := r) (by omega)
        have hgl := spg_len (F := σ (20 + 13 * a + 6)) (nb := nb) (o := o) (n := n) (p := p) (q := r) (by omega)
        obtain ⟨M, hM⟩ : ∃ M, M = spM (σ (20 + 13 * a + 2)) (σ (20 + 13 * a + 4)) nb o n p r := ⟨_, rfl⟩
        obtain ⟨f, hf⟩ : ∃ f, f = spf nb o p r := ⟨_, rfl⟩
        obtain ⟨g, hg⟩ : ∃ g, g = spg (σ (20 + 13 * a + 6)) nb o n p r := ⟨_, rfl⟩
        rw [← hM] at hMl
        rw [← hf] at hfl
        rw [← hg] at hgl
        have e146 := d146 (σ := σ) (pat_1 hP)
        rw [N.1] at e146
        -- the reference, past the splitting
        have mP : ∀ {s : Sg}, (∀ c k, 682 ≤ c → ¬ c = 726 → s c k = σ c k) → ∃ s3, (∀ {u : Rs}, C305_69 (some (vI a)) (some (vI h)) (some (vI p)) (some (vI r)) a5 1 1 s3 u → Dd 305 [vA 682, vI a, vI h, vI p, vI r, vI a5] s u) ∧ Slot s3 39 nb M.length (σ (20 + 13 * a + 2)) (gv M) (gv f) ∧ Slot s3 40 M.length na (gv M) (σ (20 + 13 * a + 4)) (gv g) ∧ ∀ c x, ¬ c = 690 → ¬ (700 ≤ c ∧ c ≤ 704) → ¬ (685 ≤ c ∧ c ≤ 687 ∧ 3900 ≤ x ∧ x < 4100) → ¬ ((c = 688 ∨ c = 689) ∧ (x = 39 ∨ x = 40)) → s3 c x = s c x := by
          intro s hs
          obtain ⟨s4, x2, x3, x4⟩ := mh hs
          obtain ⟨v0, v1, v2, v3⟩ := HK_at x2 hq
          have fr : ∀ c k, 685 ≤ c ∧ c ≤ 689 → s4 c k = σ c k := fun c k h => by rw [x3 c k (by omega)]; exact hs c k (by omega) (by omega)
          obtain ⟨t1, t2, t3, t4, t5⟩ := Slot_fr fr S
          obtain ⟨s3, y1, y2, y3, y4⟩ := d298 (σ := s4) (s := a) (h := h) (o := o) (d := d) (n := n) (aa := aa) (p := p) (q := r) ⟨by omega, by omega, by omega, by omega, by omega, bq2, t1, t2, t3, t4, t5, v0, v2⟩ hp bq1 hr (by omega)
          rw [← hM, ← hf] at y2
          rw [← hM, ← hg] at y3
          refine ⟨s3, fun {u} hh => x4 ?_, y2, y3, fun c x _ h2 h3 h4 => by rw [y4 c x h3 h4]; exact x3 c x h2⟩
          rw [if_pos (show 0 ≤ (p : Int) ∧ (p : Int) < ((d : Nat) : Int) + 1 by omega), if_neg (show ¬ (1 : Int) = 0 by decide), if_pos (show 0 ≤ (r : Int) ∧ (r : Int) < ((aa : Nat) : Int) + 1 by omega), if_neg (show ¬ (1 : Int) = 0 by decide)]
          refine b305_49 ?_
          rw [if_neg (show ¬ (1 : Int) = 0 by decide)]
          exact ⟨s3, y1, hh⟩
        have m109 : ∀ (s : Sg) (d1 d2 d3 d4 d6 d7 : Option AV), C305_109 d1 d2 d3 d4 a5 d6 d7 s (rI 0 (upS s 682 0 3)) := fun s d1 d2 d3 d4 d6 d7 => b305_109 (mx _ _ _ _ _ _ _ _ (by decide))
        have off3 : ∀ {s1 s3 : Sg} {k : Int}, (∀ x y, 682 ≤ x → s1 x y = σ x y) → (∀ c x, ¬ c = 690 → ¬ (700 ≤ c ∧ c ≤ 704) → ¬ (685 ≤ c ∧ c ≤ 687 ∧ 3900 ≤ x ∧ x < 4100) → ¬ ((c = 688 ∨ c = 689) ∧ (x = 39 ∨ x = 40)) → s3 c x = s1 c x) → (∀ x y, x < 682 ∨ 726 ≤ x → upS s3 682 0 k x y = s1 x y) ∧ ∀ x y, 682 ≤ x → KP x y → ¬ (685 ≤ x ∧ x ≤ 687 ∧ 2900 ≤ y) → ¬ ((x = 688 ∨ x = 689) ∧ 29 ≤ y) → upS s3 682 0 k x y = σ x y := fun {s1 s3 k} h0 h => ⟨fun x y hx => by rw [up_a (by omega)]; exact h x y (by omega) (by omega) (by omega) (by omega), fun x y h1 h2 h3 h4 => by
          have : upS s3 682 0 k x y = s3 x y := by unfold upS; rw [if_neg (by omega)]
          rw [this, h x y (by omega) (by omega) (by omega) (by omega)]
          exact h0 x y h1⟩
        by_cases g6 : 16 < M.length
        · have hA := b404 (x5 := a5) (Or.inr (Or.inr (Or.inr ⟨_, b186 (Or.inl ⟨_, _, e230, hP, _, _, e98, Or.inl ⟨_, e232, _, _, e101, Or.inl ⟨_, d234_ok g4, _, _, e104, Or.inl ⟨_, d234_ok g5, _, _, e146, by omega, by omega, by rw [if_pos (by omega)]⟩⟩⟩⟩), rfl⟩)))
          obtain ⟨s3, v1, v2, v3, v4⟩ := mP (s := σ) (fun _ _ _ _ => rfl)
          obtain ⟨f1, f2⟩ := off3 (k := 3) (s1 := σ) (fun _ _ _ => rfl) v4
          refine op_full2 H (kx := 3) (σ1 := σ) (by decide) H.1 (fun _ _ _ _ => rfl) (fun _ _ _ => rfl) hA ⟨upS s3 682 0 3, 0, v1 (b305_69 ?_), up_s, f1, f2⟩
          rw [if_neg (show ¬ (1 : Int) = 0 by decide), if_neg (show ¬ (1 : Int) = 0 by decide), show ((39 : Int)).toNat = 39 from rfl, v2.2.1, if_neg (by omega)]
          exact m109 _ _ _ _ _ _ _
        obtain ⟨s8, b1', b2', b3'⟩ := d11 (σ := σ) (P := 20 + 13 * a) (nb := nb) (na := na) (c := h) (o := o) (d := d) (n := n) (aa := aa) (p := p) (q := r) (O := σ (20 + 13 * a + 2)) (N := σ (20 + 13 * a + 4)) (l := l) hP (by omega) ⟨WF_w H.1 (pat_1 hP), N.1, fun _ _ => rfl⟩ ⟨WF_w H.1 (pat_3 hP), N.2.1, fun _ _ => rfl⟩ (WF_w H.1 (pat_9 hP)) C D (by omega) (by omega) (fun i hi e => GDg N q2 i hi e) hq hp hr
        rw [← hM, ← hf, ← hg] at b2'
        have lX : ∀ i, i < nb → isLn (σ (20 + 13 * a + 2) i) = true := fun i hi => q2.2.2.2.2.2.2.2.1 i (by rw [N.1]; omega)
        have lZ : ∀ i, i < na → isLn (σ (20 + 13 * a + 4) i) = true := fun i hi => q2.2.2.2.2.2.2.2.2.1 i (by rw [N.2.1]; omega)
        have lnb : (rlZ (σ (20 + 13 * a + 2)) 0 nb).length = nb := rl_len _ _
        have lna : (rlZ (σ (20 + 13 * a + 4)) 0 na).length = na := rl_len _ _
        have W8 : WF s8 := FIN8_w H.1 b2' ⟨by show (rlZ (σ (20 + 13 * a + 2)) 0 nb).length ≤ 96; omega, by show M.length ≤ 96; omega, by show (rlZ (σ (20 + 13 * a + 4)) 0 na).length ≤ 96; omega⟩ b3'
        have rv : ∀ {X : Nat → Int} {m : Nat} (x : Nat) (v : Int), (rlZ X 0 m)[x]? = some v → v = X x := fun {X m} x v e => by
          have hx := (List.getElem?_eq_some_iff.mp e).1
          rw [rl_len] at hx
          rw [rl_get m 0 x hx, Nat.zero_add] at e
          exact (Option.some.inj e).symm
        have lv : ∀ (x : Nat) (v : Int), M[x]? = some v → isLn v = true := by
          rw [hM]
          unfold spM
          refine ap_ln (ap_ln (fun x v e => ?_) (fun x hx => lZ _ (by omega))) (fun x hx => lX _ (by omega))
          have hx := (List.getElem?_eq_some_iff.mp e).1
          rw [rl_len] at hx
          rw [rv x v e]
          exact lX x (by omega)
        obtain ⟨po1, po2⟩ := FIN8_PO b2' (by omega) (by omega) (by omega) rv rv lv (by rw [lnb]; exact lX) (by rw [lna]; exact lZ)
        have F1 : ∀ a k, a < 682 → KP a k → s8 a k = σ a k := fun a k h1 h2 => b3' a k (by omega) (by omega)
        have G1 : ∀ a k, 682 ≤ a → s8 a k = σ a k := fun a k h1 => b3' a k (by omega) (by omega)
        have fin : ∀ (Q y n1 n2 : Nat) (O T F' : Nat → Int), isPatch Q = true → 332 ≤ Q → (y = 39 ∨ y = 40) → Dd 2 [vA 350, vI a5] s8 (rA Q s8) → PO s8 Q 16 → s8 (Q + 1) 1 = (n1 : Nat) → s8 (Q + 3) 1 = (n2 : Nat) → n1 ≤ 16 → n2 ≤ 16 → (if a5 = 0 then (40 : Int) else 39) = (y : Nat) → (∀ i, i < n1 → O i = s8 (Q + 2) i) → (∀ i, i < n2 → T i = s8 (Q + 4) i) → (∀ i, i < n1 → F' i = s8 (Q + 6) i) → (∀ s3, Slot s3 39 nb M.length (σ (20 + 13 * a + 2)) (gv M) (gv f) → Slot s3 40 M.length na (gv M) (σ (20 + 13 * a + 4)) (gv g) → Slot s3 y n1 n2 O T F') → OpR 404 305 [vA 0, vI a, vI h, vI p, vI r, vI a5, vA 726] [vA 682, vI a, vI h, vI p, vI r, vI a5] σ (c + 1) := by
          intro Q y n1 n2 O T F' hQQ hQ2 hy e2 PQ k1' k2' m1 m2 ey hO hT hF hSl
          by_cases g7 : σ 0 3 < 24
          · obtain ⟨pp, hpp⟩ := Int.eq_ofNat_of_zero_le hn.2.1
            refine op_st2 H hpp (by omega) hQQ hQ2 W8 F1 G1 PQ k1' k2' (fun s hs => b404 (Or.inl ⟨_, _, b186 (Or.inl ⟨_, _, e230, hP, _, _, e98, Or.inl ⟨_, e232, _, _, e101, Or.inl ⟨_, d234_ok g4, _, _, e104, Or.inl ⟨_, d234_ok g5, _, _, e146, by omega, by omega, by
              rw [if_neg (by omega)]
              exact ⟨s8, b1', Q, s8, e2, hQQ, Or.inl ⟨_, _, hs, rfl⟩⟩⟩⟩⟩⟩), rfl⟩)) (fun s hs => ?_)
            obtain ⟨s3, v1, v2, v3, v4⟩ := mP hs
            have SL := hSl s3 v2 v3
            have e3 : s3 682 3 = (pp : Nat) := by rw [v4 _ _ (by decide) (by decide) (by decide) (by decide), hs _ _ (by decide) (by decide), hn.1, hpp]
            have e3' : upS s3 682 0 0 682 3 = (pp : Nat) := by rw [up_k (by decide)]; exact e3
            have S5 : Slot (upS s3 682 0 0) y n1 n2 O T F' := Slot_fr (fun c k h => by rw [up_a (by omega)]) SL
            have S6 : Slot (cpyS (upS s3 682 0 0) y pp) pp n1 n2 O T F' := Slot_cpy (by omega) (by omega) S5
            refine ⟨upS (cpyS (upS s3 682 0 0) y pp) 682 3 ((pp : Int) + 1), v1 (b305_69 ?_), ?_, up_s, fun x k h => ?_, fun x k h1 h2 h3 h4 h5 h6 h7 h8 => ?_, ?_⟩
            · rw [if_neg (show ¬ (1 : Int) = 0 by decide), if_neg (show ¬ (1 : Int) = 0 by decide), show ((39 : Int)).toNat = 39 from rfl, v2.2.1, if_pos (by omega), e3, if_neg (by omega)]
              refine b305_114 ⟨_, _, d245, ?_⟩
              rw [if_pos rfl, if_neg (show ¬ (1 : Int) = 0 by decide), ey]
              exact b305_135 ⟨_, _, d289_ok (by omega) e3' (by omega), rfl⟩
            · rw [up_k (by decide), cpy_out (by omega) (by omega), up_s]
            · rw [up_a (by omega), cpy_out (by omega) (by omega), up_a (by omega)]
              exact v4 x k (by omega) (by omega) (by omega) (by omega)
            · have : upS (cpyS (upS s3 682 0 0) y pp) 682 3 ((pp : Int) + 1) x k = cpyS (upS s3 682 0 0) y pp x k := by unfold upS; rw [if_neg h4]
              rw [this, cpy_out h5 h6]
              have : upS s3 682 0 0 x k = s3 x k := by unfold upS; rw [if_neg (by omega)]
              rw [this, v4 x k (by omega) (by omega) (by omega) (by omega)]
              exact hs x k h1 (by omega)
            · exact Slot_fr (fun c k h => by rw [up_a (by omega)]) (Slot_cg (fun i hi => (hO i hi).symm) (fun i hi => (hT i hi).symm) (fun i hi => (hF i hi).symm) S6)
          · have hfull : Dd 242 [vA 0, vA Q] s8 (rX 2 s8) := d242_full (by rw [F1 0 3 (by decide) (kq_P (by omega))]; exact g7)
            have hA := b404 (x5 := a5) (Or.inr (Or.inr (Or.inr ⟨_, b186 (Or.inl ⟨_, _, e230, hP, _, _, e98, Or.inl ⟨_, e232, _, _, e101, Or.inl ⟨_, d234_ok g4, _, _, e104, Or.inl ⟨_, d234_ok g5, _, _, e146, by omega, by omega, by
              rw [if_neg (by omega)]
              exact ⟨s8, b1', Q, s8, e2, hQQ, Or.inr ⟨_, _, hfull, rfl⟩⟩⟩⟩⟩⟩), rfl⟩)))
            obtain ⟨s3, v1, v2, v3, v4⟩ := mP (s := s8) (fun x k h _ => G1 x k h)
            have e3 : s3 682 3 = 24 := by
              rw [v4 _ _ (by decide) (by decide) (by decide) (by decide), G1 _ _ (by decide)]
              omega
            obtain ⟨f1, f2⟩ := off3 (k := 3) (s1 := s8) G1 v4
            refine op_full2 H (kx := 3) (σ1 := s8) (by decide) W8 F1 G1 hA ⟨upS s3 682 0 3, 0, v1 (b305_69 ?_), up_s, f1, f2⟩
            rw [if_neg (show ¬ (1 : Int) = 0 by decide), if_neg (show ¬ (1 : Int) = 0 by decide), show ((39 : Int)).toNat = 39 from rfl, v2.2.1, if_pos (by omega), e3, if_pos rfl]
            exact m109 _ _ _ _ _ _ _
        obtain ⟨⟨f1, -, f3, f4, f5, -⟩, ⟨f7, -, f9, f10, f11, -⟩⟩ := b2'
        by_cases g8 : a5 = 0
        · refine fin 364 40 M.length na (gv M) (σ (20 + 13 * a + 4)) (gv g) WDp364.1 (by decide) (Or.inr rfl) (b2 (by rw [if_pos g8])) po2 f7.1 (by rw [f7.2.1]; exact congrArg _ lna) (by omega) hb2 (by rw [if_pos g8]; rfl) (fun i hi => (f9 i _ (gv_at hi)).symm) (fun i hi => ?_) (fun i hi => (f11 i _ (gv_at (by show i < g.length; omega))).symm) (fun s3 _ h => h)
          have hi' : i < (rlZ (σ (20 + 13 * a + 4)) 0 na).length := by omega
          rw [f10 i _ (gv_at hi'), rv i _ (gv_at hi')]
        · refine fin 351 39 nb M.length (σ (20 + 13 * a + 2)) (gv M) (gv f) WDp351.1 (by decide) (Or.inl rfl) (b2 (by rw [if_neg g8])) po1 (by rw [f1.1]; exact congrArg _ lnb) f1.2.1 hb1 (by omega) (by rw [if_neg g8]; rfl) (fun i hi => ?_) (fun i hi => (f4 i _ (gv_at hi)).symm) (fun i hi => (f5 i _ (gv_at (by show i < f.length; omega))).symm) (fun s3 h _ => h)
          have hi' : i < (rlZ (σ (20 + 13 * a + 2)) 0 nb).length := by omega
          rw [f3 i _ (gv_at hi'), rv i _ (gv_at hi')]
      · -- too many added lines
        have hA := b404 (x5 := a5) (Or.inr (Or.inr (Or.inl ⟨_, b186 (Or.inl ⟨_, _, e230, hP, _, _, e98, Or.inl ⟨_, e232, _, _, e101, Or.inl ⟨_, d234_ok g4, _, _, e104, Or.inr ⟨_, _, d234_no g5, rfl⟩⟩⟩⟩), rfl⟩)))
        obtain ⟨s4, v1, v2, v3⟩ := mh (s := σ) (fun _ _ _ _ => rfl)
        obtain ⟨f1, f2⟩ := off (k := 2) v2
        refine op_full2 H (kx := 2) (σ1 := σ) (by decide) H.1 (fun _ _ _ _ => rfl) (fun _ _ _ => rfl) hA ⟨upS s4 682 0 2, 0, v3 ?_, up_s, f1, f2⟩
        rw [if_pos (show 0 ≤ a3 ∧ a3 < ((d : Nat) : Int) + 1 by omega), if_neg (show ¬ (1 : Int) = 0 by decide), if_neg (show ¬ (0 ≤ a4 ∧ a4 < ((aa : Nat) : Int) + 1) by omega), if_pos rfl]
        exact mfail (s := s4)
    · -- too many dropped lines
      have hA := b404 (x4 := a4) (x5 := a5) (Or.inr (Or.inr (Or.inl ⟨_, b186 (Or.inl ⟨_, _, e230, hP, _, _, e98, Or.inl ⟨_, e232, _, _, e101, Or.inr ⟨_, _, d234_no g4, rfl⟩⟩⟩), rfl⟩)))
      obtain ⟨s4, v1, v2, v3⟩ := mh (s := σ) (fun _ _ _ _ => rfl)
      obtain ⟨f1, f2⟩ := off (k := 2) v2
      refine op_full2 H (kx := 2) (σ1 := σ) (by decide) H.1 (fun _ _ _ _ => rfl) (fun _ _ _ => rfl) hA ⟨upS s4 682 0 2, 0, v3 ?_, up_s, f1, f2⟩
      rw [if_neg (show ¬ (0 ≤ a3 ∧ a3 < ((d : Nat) : Int) + 1) by omega), if_pos rfl]
      exact mfail (s := s4)
  · -- no such hunk
    have hA := b404 (x3 := a3) (x4 := a4) (x5 := a5) (Or.inr (Or.inl ⟨_, b186 (Or.inl ⟨_, _, e230, hP, _, _, e98, Or.inr ⟨_, _, d232_no g3, rfl⟩⟩), rfl⟩))
    have tail : ∀ (s4 : Sg), (∀ c x, ¬ (700 ≤ c ∧ c ≤ 704) → s4 c x = σ c x) → Dd 304 [vA 682, vI a, vI a2] σ (rI 0 s4) → OpR 404 305 [vA 0, vI a, vI a2, vI a3, vI a4, vI a5, vA 726] [vA 682, vI a, vI a2, vI a3, vI a4, vI a5] σ (c + 1) := by
      intro s4 h4 h5
      obtain ⟨f1, f2⟩ := off (k := 1) h4
      refine op_full2 H (kx := 1) (σ1 := σ) (by decide) H.1 (fun _ _ _ _ => rfl) (fun _ _ _ => rfl) hA ⟨upS s4 682 0 1, 0, b305 ⟨_, _, h5, ?_⟩, up_s, f1, f2⟩
      rw [if_pos rfl]
      refine b305_48 (b305_49 ?_)
      rw [if_pos rfl]
      refine b305_69 ?_
      rw [if_pos rfl]
      exact mx _ _ _ _ _ _ _ _ (by decide)
    by_cases y : 0 ≤ a2
    · obtain ⟨s4, x1, x2, x3⟩ := m280 (s := σ) (fun _ _ _ _ => rfl)
      have z := m304 rfl y x1
      rw [if_neg (by omega)] at z
      exact tail s4 x3 z
    · refine tail σ (fun _ _ _ => rfl) (b304 ⟨_, _, d248_ok (by omega), ?_⟩)
      rw [if_neg (show ¬ (1 : Int) = 0 by decide), if_neg y]
end
