/-! split: all hunks. -/
noncomputable section
/-- hunks that are not cut -/
theorem l11u {σ0 : Sg} {P nb na c : Nat} {O N F : Nat → Int} {l : List St} {p q : Int} (hP : isPatch P = true) (eP : P + 12 < 351 ∨ 376 < P) (V1 : RV σ0 (P + 1) nb O) (V3 : RV σ0 (P + 3) na N) (w9 : wR σ0 (P + 9)) (C : PC σ0 P l) (h100 : nb ≤ 99) (h100' : na ≤ 99) (E : EQL O N F nb) : ∀ (m h i j e : Nat) (b M f a g : List Int) (σ : Sg), DS F nb na (l.drop h) i j e → h + m ≤ l.length → (∀ x, h ≤ x → x < h + m → ¬ x = c) → a.length = j → W2 σ b M f a g → b.length + (nb - i) ≤ 96 → M.length + (nb - i) ≤ 96 → a.length + (na - j) ≤ 96 → FRc σ σ0 → ∃ i' j' e' s, DS F nb na (l.drop (h + m)) i' j' e' ∧ i ≤ i' ∧ i' ≤ nb ∧ j ≤ j' ∧ j' ≤ na ∧ W2 s (b ++ rlZ O i (i' - i)) (M ++ rlZ O i (i' - i)) (f ++ rlZ idZ M.length (i' - i)) (a ++ rlZ N j (j' - j)) (g ++ rlZ F i (i' - i)) ∧ FRc s σ0 ∧ ∀ {o : Rs}, (∀ d7 : Option AV, C11_20 P c p q i' ((h + m : Nat) : Int) d7 s o) → ∀ d7 : Option AV, C11_20 P c p q i h d7 σ o := by
  have hlen : 4 * l.length ≤ 5000 := by
    have := cap_le w9.1
    have := w9.2.2
    have := C.1
    omega
  intro m
  induction m with
  | zero =>
    intro h i j e b M f a g σ D hm hc hj W h1 h2 h3 fr
    have bd := DS_b _ _ _ _ D
    refine ⟨i, j, e, σ, D, Nat.le_refl _, bd.1, Nat.le_refl _, bd.2.1, ?_, fr, fun {o} hh => hh⟩
    rw [Nat.sub_self, Nat.sub_self, rl_0, rl_0, rl_0, rl_0, rl_0]
    exact W
  | succ m ih =>
    intro h i j e b M f a g σ D hm hc hj W h1 h2 h3 fr
    have hlt : h < l.length := by omega
    have hq : l[h]? = some l[h] := List.getElem?_eq_getElem hlt
    obtain ⟨t, ht⟩ : ∃ t, t = l.drop (h + 1) := ⟨_, rfl⟩
    have hd : l.drop h = l[h] :: t := by rw [ht]; exact List.drop_eq_getElem_cons hlt
    generalize l[h] = r at hq hd
    obtain ⟨o, d, n, aa⟩ := r
    rw [hd] at D
    have bd := (DS_b _ _ _ _ D).2.2 _ List.mem_cons_self
    have bd1 : o + d ≤ nb := bd.2.1
    have bd2 : n + aa ≤ na := bd.2.2.2
    obtain ⟨v1, v2, v3, v4, v5, v6⟩ := D
    have x1 : i ≤ o := by
      have z : i + e ≤ o := v1
      omega
    have x2 : n = j + (o - i) := v2
    have x3 : ∀ x, i ≤ x → x < o → F x = ((j + (x - i) : Nat) : Int) := v3
    have x4 : ∀ x, o ≤ x → x < o + d → F x = -1 := v4
    have x6 : DS F nb na t (o + d) (n + aa) 1 := v6
    clear v1 v2 v3 v4 v5 v6 bd
    obtain ⟨x, hx⟩ : ∃ x, o = i + x := ⟨o - i, by omega⟩
    have hn : n = j + x := by omega
    subst hx hn
    have hF : ∀ y, y < x → F (i + y) = ((j + y : Nat) : Int) := fun y hy => by
      rw [x3 (i + y) (by omega) (by omega), show j + (i + y - i) = j + y by omega]
    have E1 : rlZ O i x = rlZ N j x := rl_ext x i j (fun y hy => by
      have z := E (i + y) (by omega) (by rw [hF y hy]; omega)
      rw [hF y hy, tn] at z
      exact z)
    have E2 : rlZ idZ a.length x = rlZ F i x := rl_ext x a.length i (fun y hy => by
      rw [hF y hy, hj]
      rfl)
    have E3 : rlZ m1Z (i + x) d = rlZ F (i + x) d := rl_ext d (i + x) (i + x) (fun y hy => by
      rw [x4 (i + x + y) (by omega) (by omega)]
      rfl)
    obtain ⟨s1, a1, a2, a3⟩ := d12 (i := i) (d := x) hP eP V1 (by omega) h100 W (by omega) (by omega) (by omega) fr
    have lb : (b ++ rlZ O i x).length = b.length + x := ap_len
    have lM : (M ++ rlZ O i x).length = M.length + x := ap_len
    have la : (a ++ rlZ O i x).length = a.length + x := ap_len
    obtain ⟨s2, c1, c2, c3⟩ := d13 (p := 0) (q := 0) hP eP V1 V3 w9 C hq (Nat.zero_le _) (Nat.zero_le _) bd1 bd2 h100 h100' a2 (by omega) (by omega) (by omega) a3
    rw [rl_0, rl_0, rl_0, rl_0, rl_0, Nat.add_zero, Nat.add_zero, Nat.add_zero, Nat.sub_zero, Nat.sub_zero, lM, E2, E3, rl_app2, rl_app2, rl_app2, rl_app2, E1, rl_app2] at c2
    obtain ⟨i', j', e', s, g1, g2, g3, g4, g5, g6, g7, g8⟩ := ih (h + 1) (i + (x + d)) (j + (x + aa)) 1 _ _ _ _ _ s2 (by rw [← ht, show i + (x + d) = i + x + d by omega, show j + (x + aa) = j + x + aa by omega]; exact x6) (by omega) (fun y h1 h2 => hc y (by omega) (by omega)) (by rw [ap_len]; omega) c2 (by rw [ap_len]; omega) (by rw [ap_len]; omega) (by rw [ap_len]; omega) c3
    rw [ap_len, rl_app2, rl_app2, rl_app2, rl_app2, rl_app2, show x + d + (i' - (i + (x + d))) = i' - i by omega, show x + aa + (j' - (j + (x + aa))) = j' - j by omega] at g6
    refine ⟨i', j', e', s, by rw [show h + (m + 1) = h + 1 + m by omega]; exact g1, by omega, g3, by omega, g5, g6, g7, fun {o} hh d7 => ?_⟩
    have at' : ∀ {s : Sg}, FRc s σ0 → Dd 100 [vA P, vI h] s (rI ((i + x : Nat) : Int) s) ∧ Dd 102 [vA P, vI h] s (rI ((i + x + d : Nat) : Int) s) ∧ Dd 103 [vA P, vI h] s (rI ((j + x : Nat) : Int) s) ∧ Dd 105 [vA P, vI h] s (rI ((j + x + aa : Nat) : Int) s) := fun {s} fr => pc_at hP ⟨w9.1, by rw [fr _ _ (by omega) (by omega)]; exact w9.2⟩ (PC_fr (fun k => fr _ _ (by omega) (by omega)) (fun k => fr _ _ (by omega) (by omega)) C) hq
    refine b11_20 hP ⟨_, _, d98' hP (PC_fr (fun k => fr _ _ (by omega) (by omega)) (fun k => fr _ _ (by omega) (by omega)) C), ?_⟩
    rw [if_pos (by omega)]
    refine ⟨_, _, (at' fr).1, s1, a1, ?_⟩
    have hne := hc h (Nat.le_refl _) (by omega)
    rw [if_neg (by omega)]
    refine b11_53 ?_
    rw [if_pos rfl]
    refine b11_69 ?_
    rw [if_pos rfl]
    refine b11_80 hP ⟨s2, c1, _, _, (at' c3).2.1, by omega, ?_⟩
    rw [show (h : Int) + 1 = ((h + 1 : Nat) : Int) by omega, show i + x + d = i + (x + d) by omega]
    exact g8 (fun d7 => by rw [show h + 1 + m = h + (m + 1) by omega]; exact hh d7) _
def spM (O N : Nat → Int) (nb o n p q : Nat) : List Int := rlZ O 0 o ++ rlZ N n q ++ rlZ O (o + p) (nb - (o + p))
def spf (nb o p q : Nat) : List Int := rlZ idZ 0 o ++ rlZ m1Z o p ++ rlZ idZ (o + q) (nb - (o + p))
def spg (F : Nat → Int) (nb o n p q : Nat) : List Int := rlZ F 0 o ++ rlZ idZ n q ++ rlZ F (o + p) (nb - (o + p))
/-- cutApart -/
theorem d11 {σ : Sg} {P nb na c o d n aa p q : Nat} {O N F : Nat → Int} {l : List St} (hP : isPatch P = true) (eP : P + 12 < 350 ∨ 376 < P) (V1 : RV σ (P + 1) nb O) (V3 : RV σ (P + 3) na N) (w9 : wR σ (P + 9)) (C : PC σ P l) (D : DS F nb na l 0 0 0) (h100 : nb + q ≤ 96) (h100' : na ≤ 96) (E : EQL O N F nb) (hq : l[c]? = some (o, d, n, aa)) (hp : p ≤ d) (hqa : q ≤ aa) : ∃ s, Dd 11 [vA 350, vA P, vI c, vI p, vI q] σ (rV s) ∧ FIN8 s (rlZ O 0 nb, spM O N nb o n p q, spf nb o p q, rlZ N 0 na, spg F nb o n p q) ∧ FRc s σ := by
  obtain ⟨s1, a1, a2, a3⟩ := d90 (σ := σ) WDp351.1
  obtain ⟨s2, c1, c2, c3⟩ := d90 (σ := s1) WDp364.1
  have fr2 : FRc s2 σ := fun x y h h' => by rw [c3 x y (by omega), a3 x y (by omega)]
  have W2' : W2 s2 [] [] [] [] [] := ⟨[], [], BI_fr (fun x y h => c3 x y (by omega)) a2, c2, okW_0, okW_0⟩
  have eP' : P + 12 < 351 ∨ 376 < P := by omega
  have hclt := (List.getElem?_eq_some_iff.mp hq).1
  have hlen : 4 * l.length ≤ 5000 := by
    have := cap_le w9.1
    have := w9.2.2
    have := C.1
    omega
  -- the hunks ahead
  obtain ⟨i1, j1, e1, s3, g1, g2, g3, g4, g5, g6, g7, g8⟩ := l11u (c := c) (p := (p : Int)) (q := (q : Int)) hP eP' V1 V3 w9 C (by omega) (by omega) E c 0 0 0 0 [] [] [] [] [] s2 D (by omega) (fun x _ h => by omega) rfl W2' (by show 0 + (nb - 0) ≤ 96; omega) (by show 0 + (nb - 0) ≤ 96; omega) (by show 0 + (na - 0) ≤ 96; omega) fr2
  rw [Nat.zero_add] at g1
  obtain ⟨t, ht⟩ : ∃ t, t = l.drop (c + 1) := ⟨_, rfl⟩
  have hd : l.drop c = (o, d, n, aa) :: t := by
    rw [ht, List.drop_eq_getElem_cons hclt]
    rw [List.getElem?_eq_getElem hclt] at hq
    have z := Option.some.inj hq
    rw [z]
  rw [hd] at g1
  have bd := (DS_b _ _ _ _ g1).2.2 _ List.mem_cons_self
  have bd1 : o + d ≤ nb := bd.2.1
  have bd2 : n + aa ≤ na := bd.2.2.2
  obtain ⟨v1, v2, v3, v4, v5, v6⟩ := g1
  have x1 : i1 ≤ o := by
    have z : i1 + e1 ≤ o := v1
    omega
  have x2 : n = j1 + (o - i1) := v2
  have x3 : ∀ x, i1 ≤ x → x < o → F x = ((j1 + (x - i1) : Nat) : Int) := v3
  have x4 : ∀ x, o ≤ x → x < o + d → F x = -1 := v4
  have x6 : DS F nb na t (o + d) (n + aa) 1 := v6
  clear v1 v2 v3 v4 v5 v6 bd
  have at' : ∀ {s : Sg}, FRc s σ → Dd 100 [vA P, vI c] s (rI (o : Nat) s) ∧ Dd 102 [vA P, vI c] s (rI ((o + d : Nat) : Int) s) ∧ Dd 103 [vA P, vI c] s (rI (n : Nat) s) ∧ Dd 105 [vA P, vI c] s (rI ((n + aa : Nat) : Int) s) := fun {s} fr => pc_at hP ⟨w9.1, by rw [fr _ _ (by omega) (by omega)]; exact w9.2⟩ (PC_fr (fun k => fr _ _ (by omega) (by omega)) (fun k => fr _ _ (by omega) (by omega)) C) hq
  simp only [Nat.sub_zero, List.nil_append, List.length_nil] at g6
  -- the lines ahead of the hunk
  obtain ⟨x, hx⟩ : ∃ x, o = i1 + x := ⟨o - i1, by omega⟩
  have hn : n = j1 + x := by omega
  have hF : ∀ y, y < x → F (i1 + y) = ((j1 + y : Nat) : Int) := fun y hy => by
    rw [x3 (i1 + y) (by omega) (by omega), show j1 + (i1 + y - i1) = j1 + y by omega]
  have E1 : rlZ O i1 x = rlZ N j1 x := rl_ext x i1 j1 (fun y hy => by
    have z := E (i1 + y) (by omega) (by rw [hF y hy]; omega)
    rw [hF y hy, tn] at z
    exact z)
  have E2 : rlZ idZ j1 x = rlZ F i1 x := rl_ext x j1 i1 (fun y hy => by
    rw [hF y hy]
    rfl)
  have E3 : rlZ m1Z (o + p) (d - p) = rlZ F (o + p) (d - p) := rl_ext (d - p) (o + p) (o + p) (fun y hy => by
    rw [x4 (o + p + y) (by omega) (by omega)]
    rfl)
  obtain ⟨s4, k1, k2, k3⟩ := d12 (i := i1) (d := x) hP eP' V1 (by omega) (by omega) g6 (by rw [rl_len]; omega) (by rw [rl_len]; omega) (by rw [rl_len]; omega) g7
  rw [rl_len, rl_len, E2, E1] at k2
  have ap : ∀ {h : Nat → Int} {u w : Nat}, rlZ h 0 u ++ rlZ h u w = rlZ h 0 (u + w) := fun {h u w} => by
    have z := rlZ_app (h := h) u 0 w
    rw [Nat.zero_add] at z
    exact z
  rw [← E1, ap, ap, ap, E1, ap, ← hx, ← hn] at k2
  have k2' : W2 s4 (rlZ O 0 o) (rlZ O 0 o) (rlZ idZ 0 o) (rlZ N 0 n) (rlZ F 0 o) := k2
  obtain ⟨s5, w1, w2, w3⟩ := d13 (p := p) (q := q) hP eP' V1 V3 w9 C hq hp hqa bd1 bd2 (by omega) (by omega) k2' (by rw [rl_len]; omega) (by rw [rl_len]; omega) (by rw [rl_len]; omega) k3
  rw [rl_len, rl_len, ap, ap, show o + p + (d - p) = o + d by omega, ap] at w2
  rw [ap, show n + q + (aa - q) = n + aa by omega, E3] at w2
  -- the hunks behind
  have lM0 : (rlZ O 0 o ++ rlZ N n q).length = o + q := by rw [List.length_append, rl_len, rl_len]
  have lM1 : (rlZ O 0 o ++ rlZ N n q ++ rlZ O (o + p) (d - p)).length = o + q + (d - p) := by rw [List.length_append, lM0, rl_len]
  obtain ⟨i2, j2, e2, s6, u1, u2, u3, u4, u5, u6, u7, u8⟩ := l11u (c := c) (p := (p : Int)) (q := (q : Int)) hP eP' V1 V3 w9 C (by omega) (by omega) E (l.length - (c + 1)) (c + 1) (o + d) (n + aa) 1 _ _ _ _ _ s5 (by rw [← ht]; exact x6) (by omega) (fun x h1 h2 => by omega) (by rw [rl_len]) w2 (by rw [rl_len]; omega) (by rw [lM1]; omega) (by rw [rl_len]; omega) w3
  rw [show c + 1 + (l.length - (c + 1)) = l.length by omega] at u1 u8
  rw [List.drop_length] at u1
  obtain ⟨z1, z2, z3, z4⟩ := u1
  rw [lM1, ap, ap, show o + d + (i2 - (o + d)) = i2 by omega, show n + aa + (j2 - (n + aa)) = j2 by omega] at u6
  have t1 : ∀ {h : Nat → Int} {A : List Int}, A ++ rlZ h (o + p) (d - p) ++ rlZ h (o + d) (i2 - (o + d)) = A ++ rlZ h (o + p) (i2 - (o + p)) := fun {h A} => by
    have z := rl_app2 (h := h) (M := A) (p := o + p) (d := d - p) (e := i2 - (o + d))
    rw [show o + p + (d - p) = o + d by omega, show d - p + (i2 - (o + d)) = i2 - (o + p) by omega] at z
    exact z
  have t2 : ∀ {A : List Int}, A ++ rlZ idZ (o + q) (d - p) ++ rlZ idZ (o + q + (d - p)) (i2 - (o + d)) = A ++ rlZ idZ (o + q) (i2 - (o + p)) := fun {A} => by
    rw [rl_app2, show d - p + (i2 - (o + d)) = i2 - (o + p) by omega]
  rw [t1, t1, t2] at u6
  -- the last lines
  have lM2 : (rlZ O 0 o ++ rlZ N n q ++ rlZ O (o + p) (i2 - (o + p))).length = o + q + (i2 - (o + p)) := by rw [List.length_append, lM0, rl_len]
  obtain ⟨s7, r1, r2, r3⟩ := d12 (i := i2) (d := nb - i2) hP eP' V1 (by omega) (by omega) u6 (by rw [rl_len]; omega) (by rw [lM2]; omega) (by rw [rl_len]; omega) u7
  have F2 : ∀ y, y < nb - i2 → F (i2 + y) = ((j2 + y : Nat) : Int) := fun y hy => by
    rw [z4 (i2 + y) (by omega) (by omega), show j2 + (i2 + y - i2) = j2 + y by omega]
  have E4 : rlZ O i2 (nb - i2) = rlZ N j2 (nb - i2) := rl_ext (nb - i2) i2 j2 (fun y hy => by
    have z := E (i2 + y) (by omega) (by rw [F2 y hy]; omega)
    rw [F2 y hy, tn] at z
    exact z)
  have E5 : rlZ idZ j2 (nb - i2) = rlZ F i2 (nb - i2) := rl_ext (nb - i2) j2 i2 (fun y hy => by
    rw [F2 y hy]
    rfl)
  have t3 : ∀ {h : Nat → Int} {A : List Int}, A ++ rlZ h (o + p) (i2 - (o + p)) ++ rlZ h i2 (nb - i2) = A ++ rlZ h (o + p) (nb - (o + p)) := fun {h A} => by
    have z := rl_app2 (h := h) (M := A) (p := o + p) (d := i2 - (o + p)) (e := nb - i2)
    rw [show o + p + (i2 - (o + p)) = i2 by omega, show i2 - (o + p) + (nb - i2) = nb - (o + p) by omega] at z
    exact z
  have r2' : W2 s7 (rlZ O 0 nb) (spM O N nb o n p q) (spf nb o p q) (rlZ N 0 na) (spg F nb o n p q) := by
    have y1 : rlZ O 0 nb = rlZ O 0 i2 ++ rlZ O i2 (nb - i2) := by rw [ap, show i2 + (nb - i2) = nb by omega]
    have y2 : rlZ N 0 na = rlZ N 0 j2 ++ rlZ O i2 (nb - i2) := by rw [E4, ap, show j2 + (nb - i2) = na by omega]
    have y3 : spM O N nb o n p q = rlZ O 0 o ++ rlZ N n q ++ rlZ O (o + p) (i2 - (o + p)) ++ rlZ O i2 (nb - i2) := t3.symm
    have y4 : spf nb o p q = rlZ idZ 0 o ++ rlZ m1Z o p ++ rlZ idZ (o + q) (i2 - (o + p)) ++ rlZ idZ (o + q + (i2 - (o + p))) (nb - i2) := by
      rw [rl_app2, show i2 - (o + p) + (nb - i2) = nb - (o + p) by omega]
      rfl
    have y5 : spg F nb o n p q = rlZ F 0 o ++ rlZ idZ n q ++ rlZ F (o + p) (i2 - (o + p)) ++ rlZ idZ j2 (nb - i2) := by
      rw [E5]
      exact t3.symm
    rw [y1, y2, y3, y4, y5]
    rw [lM2, rl_len] at r2
    exact r2
  obtain ⟨kk1, kk2, B1, B2, O1, O2⟩ := r2'
  have lnb : (rlZ O 0 nb).length = nb := rl_len _ _
  have lna : (rlZ N 0 na).length = na := rl_len _ _
  have lM : (spM O N nb o n p q).length = o + q + (nb - (o + p)) := by
    unfold spM
    rw [List.length_append, lM0, rl_len]
  obtain ⟨s8, b1, b2, b3, b4, b5, b6, b7, b8⟩ := d94_bi WDp351 B1 O1 (by omega) (by omega)
  obtain ⟨s9, f1, f2, f3, f4, f5, f6, f7, f8⟩ := d94_bi WDp364 (BI_fr (fun c x h => b8 c x (by omega) (by omega)) B2) O2 (by omega) (by omega)
  refine ⟨s9, b11 ⟨s1, a1, s2, c1, g8 (fun d7 => ?_) none⟩, ⟨⟨NP_fr (fun c x h => f8 c x (by omega) (by omega)) b2, ⟨b3.1, by rw [f8 _ _ (by decide) (by decide)]; exact b3.2⟩, fun i v h => by rw [f8 _ _ (by decide) (by decide)]; exact b4 i v h, fun i v h => by rw [f8 _ _ (by decide) (by decide)]; exact b5 i v h, fun i v h => by rw [f8 _ _ (by decide) (by decide)]; exact b6 i v h, fun i h1 h2 => ?_⟩, f2, f3, f4, f5, f6, f7⟩, fun c x h h' => by rw [f8 c x (by omega) (by omega), b8 c x (by omega) (by omega)]; exact r3 c x h h'⟩
  · rw [Nat.zero_add]
    refine b11_20 hP ⟨_, _, d98' hP (PC_fr (fun k => g7 _ _ (by omega) (by omega)) (fun k => g7 _ _ (by omega) (by omega)) C), ?_⟩
    rw [if_pos (by omega)]
    refine ⟨_, _, (at' g7).1, s4, by rw [hx]; exact k1, ?_⟩
    rw [if_pos rfl]
    refine b11_53 ?_
    rw [if_neg (show ¬ (1 : Int) = 0 by decide)]
    refine b11_69 ?_
    rw [if_neg (show ¬ (1 : Int) = 0 by decide)]
    refine b11_80 hP ⟨s5, w1, _, _, (at' w3).2.1, by omega, ?_⟩
    rw [show (c : Int) + 1 = ((c + 1 : Nat) : Int) by omega]
    refine u8 (fun d7 => ?_) _
    refine b11_20 hP ⟨_, _, d98' hP (PC_fr (fun k => u7 _ _ (by omega) (by omega)) (fun k => u7 _ _ (by omega) (by omega)) C), ?_⟩
    rw [if_neg (by omega)]
    refine ⟨_, _, RV_146 (FRc_V u7 (by omega) V1), s7, ?_, s8, b1, s9, f1, rfl⟩
    rw [show i2 + (nb - i2) = nb by omega] at r1
    exact r1
  · rw [f8 (351 + 6) i (by decide) (by decide)] at h2 ⊢
    rw [f8 (351 + 2) _ (by decide) (by decide), f8 (351 + 4) _ (by decide) (by decide)]
    exact b7 i h1 h2
end
