/-! Where a line went: the reference's side. -/
noncomputable section
/-- the pairs from a hunk on -/
theorem DS_dr {F : Nat → Int} {nb na : Nat} : ∀ (h : Nat) (l : List St) (i j e : Nat), DS F nb na l i j e → h ≤ l.length → ∃ i' j' e', DS F nb na (l.drop h) i' j' e' ∧ i ≤ i' ∧ j ≤ j' ∧ (h = 0 → i' = i ∧ j' = j ∧ e' = e) ∧ (0 < h → e' = 1) := by
  intro h
  induction h with
  | zero => intro l i j e D _; exact ⟨i, j, e, D, Nat.le_refl _, Nat.le_refl _, fun _ => ⟨rfl, rfl, rfl⟩, fun h => absurd h (Nat.not_lt_zero 0)⟩
  | succ h ih =>
    intro l i j e D hl
    cases l with
    | nil => exact absurd hl (by simp)
    | cons q t =>
      have bb := (DS_b _ _ _ _ D).2.2 q List.mem_cons_self
      obtain ⟨v1, v2, v3, v4, v5, v6⟩ := D
      obtain ⟨i', j', e', a1, a2, a3, a4, a5⟩ := ih t _ _ _ v6 (by rw [List.length_cons] at hl; omega)
      refine ⟨i', j', e', a1, by omega, by omega, fun h => absurd h (by omega), fun _ => ?_⟩
      by_cases y : h = 0
      · exact (a4 y).2.2
      · exact a5 (by omega)
/-- around a hunk all lines are paired -/
theorem DS_nb {F K : Nat → Int} {nb na h o d n a : Nat} {l : List St} (D : DS F nb na l 0 0 0) (I : IV F K nb na) (hq : l[h]? = some (o, d, n, a)) : (0 < o → ¬ F (o - 1) = -1) ∧ (0 < n → ¬ K (n - 1) = -1) ∧ (o + d < nb → ¬ F (o + d) = -1) ∧ (n + a < na → ¬ K (n + a) = -1) ∧ (∀ x, o ≤ x → x < o + d → F x = -1) ∧ o + d ≤ nb ∧ n + a ≤ na := by
  have hl := (List.getElem?_eq_some_iff.mp hq).1
  obtain ⟨i', j', e', a1, a2, a3, a4, a5⟩ := DS_dr h l 0 0 0 D (by omega)
  have hd : l.drop h = (o, d, n, a) :: l.drop (h + 1) := by
    rw [List.drop_eq_getElem_cons hl]
    rw [List.getElem?_eq_getElem hl] at hq
    have z := Option.some.inj hq
    rw [z]
  rw [hd] at a1
  have bb := (DS_b _ _ _ _ a1).2.2 _ List.mem_cons_self
  have b1 : o + d ≤ nb := bb.2.1
  have b2 : n + a ≤ na := bb.2.2.2
  obtain ⟨v1, v2, v3, v4, v5, v6⟩ := a1
  have x1 : i' + e' ≤ o := v1
  have x2 : n = j' + (o - i') := v2
  have x3 : ∀ x, i' ≤ x → x < o → F x = ((j' + (x - i') : Nat) : Int) := v3
  have x4 : ∀ x, o ≤ x → x < o + d → F x = -1 := v4
  have hh := DS_hd v6
  have hh1 : o + d < nb → F (o + d) = ((n + a : Nat) : Int) := hh.1
  have hh2 : ¬ o + d < nb → n + a = na := hh.2
  have hi : 0 < o ∨ 0 < n → i' < o := by
    intro y
    by_cases z : h = 0
    · obtain ⟨z1, z2, z3⟩ := a4 z
      omega
    · have := a5 (by omega)
      omega
  refine ⟨fun y => ?_, fun y => ?_, fun y => ?_, fun y => ?_, x4, b1, b2⟩
  · have := hi (Or.inl y)
    rw [x3 (o - 1) (by omega) (by omega)]
    omega
  · have := hi (Or.inr y)
    have z := IV_at I (show o - 1 < nb by omega) (show F (o - 1) = ((n - 1 : Nat) : Int) by rw [x3 (o - 1) (by omega) (by omega)]; congr 1; omega)
    omega
  · rw [hh1 y]
    omega
  · by_cases z : o + d < nb
    · have w := IV_at I z (hh1 z)
      omega
    · have := hh2 z
      omega
/-- a line that no hunk drops has its partner -/
theorem DS_oc {F : Nat → Int} {nb na : Nat} : ∀ (l : List St) (i j e x : Nat), DS F nb na l i j e → i ≤ x → x < nb → F x = -1 → ∃ (h : Nat) (q : St), l[h]? = some q ∧ q.1 ≤ x ∧ x < q.1 + q.2.1 := by
  intro l
  induction l with
  | nil =>
    intro i j e x D h1 h2 h3
    have z := D.2.2.2 x h1 h2
    omega
  | cons q t ih =>
    intro i j e x D h1 h2 h3
    obtain ⟨v1, v2, v3, v4, v5, v6⟩ := D
    by_cases y1 : x < q.1
    · have z := v3 x h1 y1
      omega
    · by_cases y2 : x < q.1 + q.2.1
      · exact ⟨0, q, rfl, by omega, y2⟩
      · obtain ⟨h, r, w1, w2, w3⟩ := ih _ _ _ x v6 (by omega) h2 h3
        exact ⟨h + 1, r, w1, w2, w3⟩
/-- hunks don't overlap -/
theorem DS_un {F : Nat → Int} {nb na : Nat} : ∀ (l : List St) (i j e : Nat), DS F nb na l i j e → ∀ (h h' : Nat) (q q' : St), h < h' → l[h]? = some q → l[h']? = some q' → q.1 + q.2.1 ≤ q'.1 ∧ q.2.2.1 + q.2.2.2 ≤ q'.2.2.1 := by
  intro l
  induction l with
  | nil => intro i j e _ h h' q q' _ h1; cases h1
  | cons r t ih =>
    intro i j e D h h' q q' hlt h1 h2
    obtain ⟨v1, v2, v3, v4, v5, v6⟩ := D
    cases h' with
    | zero => omega
    | succ h' =>
      rw [List.getElem?_cons_succ] at h2
      cases h with
      | zero =>
        rw [List.getElem?_cons_zero] at h1
        cases h1
        have b := (DS_b _ _ _ _ v6).2.2 q' (List.mem_of_getElem? h2)
        exact ⟨b.1, b.2.2.1⟩
      | succ h =>
        rw [List.getElem?_cons_succ] at h1
        exact ih _ _ _ v6 h h' q q' (by omega) h1 h2
/-- the hunk that drops a line -/
theorem d312 {σ : Sg} {l : List St} {p : Nat} (K : HK σ 0 0 l) (hl : l.length ≤ 120) (z : σ 704 0 = (l.length : Nat)) (hp : p ≤ 1000) (hb : ∀ (h : Nat) (q : St), l[h]? = some q → q.1 + q.2.1 ≤ 200) : ∃ v : Int, Dd 312 [vA 682, vI 0, vI p] σ (rI v σ) ∧ ((v = -1 ∧ ∀ (h : Nat) (q : St), l[h]? = some q → ¬ (q.1 ≤ p ∧ p < q.1 + q.2.1)) ∨ ∃ (h : Nat) (q : St), v = (h : Int) ∧ l[h]? = some q ∧ q.1 ≤ p ∧ p < q.1 + q.2.1) := by
  have L : ∀ (d h : Nat) (x3 : Int) (d5 : Option AV), h + d = l.length → ((x3 = -1 ∧ ∀ (h' : Nat) (q : St), h' < h → l[h']? = some q → ¬ (q.1 ≤ p ∧ p < q.1 + q.2.1)) ∨ ∃ (h' : Nat) (q : St), x3 = (h' : Int) ∧ l[h']? = some q ∧ q.1 ≤ p ∧ p < q.1 + q.2.1) → ∃ v : Int, C312_5 0 p x3 h d5 σ (rI v σ) ∧ ((v = -1 ∧ ∀ (h : Nat) (q : St), l[h]? = some q → ¬ (q.1 ≤ p ∧ p < q.1 + q.2.1)) ∨ ∃ (h : Nat) (q : St), v = (h : Int) ∧ l[h]? = some q ∧ q.1 ≤ p ∧ p < q.1 + q.2.1) := by
    intro d
    induction d with
    | zero =>
      intro h x3 d5 hh inv
      refine ⟨x3, b312_5 ?_, ?_⟩
      · rw [show ((0 : Int)).toNat = 0 from rfl, z, if_neg (by omega)]
      · rcases inv with ⟨i1, i2⟩ | i
        · exact Or.inl ⟨i1, fun h' q hq => i2 h' q (by have := (List.getElem?_eq_some_iff.mp hq).1; omega) hq⟩
        · exact Or.inr i
    | succ d ih =>
      intro h x3 d5 hh inv
      obtain ⟨q, hq⟩ : ∃ q, l[h]? = some q := ⟨l[h], List.getElem?_eq_getElem (by omega)⟩
      obtain ⟨v0, v1, v2, v3⟩ := HK_at K hq
      have bq := hb h q hq
      have st : ∀ {o : Rs} (y : Int), C312_79 0 p (some (vI x3)) h (some (vI (q.1 : Nat))) y σ o → (y = if q.1 ≤ p ∧ p < q.1 + q.2.1 then (h : Int) else x3) → C312_5 0 p x3 h d5 σ o := fun {o} y hy ey => by
        refine b312_5 ?_
        rw [show ((0 : Int)).toNat = 0 from rfl, z, if_pos (by omega)]
        refine ⟨fun _ => by omega, fun e => absurd rfl e, ?_⟩
        rw [if_pos rfl, tn, v0]
        refine b312_37 ?_
        by_cases y1 : q.1 ≤ p
        · rw [if_pos (by omega)]
          refine ⟨fun _ => by omega, fun e => absurd rfl e, ?_⟩
          rw [if_pos rfl, tn, v1]
          refine b312_69 ⟨by omega, ?_⟩
          by_cases y2 : p < q.1 + q.2.1
          · rw [if_pos ⟨y1, y2⟩] at ey
            rw [if_pos (by omega)]
            rw [ey] at hy
            exact hy
          · rw [if_neg (fun e => y2 e.2)] at ey
            rw [if_neg (by omega)]
            refine b312_78 ?_
            rw [ey] at hy
            exact hy
        · rw [if_neg (fun e => y1 e.1)] at ey
          rw [if_neg (by omega)]
          refine b312_78 ?_
          rw [ey] at hy
          exact hy
      obtain ⟨v, a1, a2⟩ := ih (h + 1) (if q.1 ≤ p ∧ p < q.1 + q.2.1 then (h : Int) else x3) (some (vI (q.1 : Nat))) (by omega) (by
        by_cases y : q.1 ≤ p ∧ p < q.1 + q.2.1
        · rw [if_pos y]
          exact Or.inr ⟨h, q, rfl, hq, y⟩
        · rw [if_neg y]
          rcases inv with ⟨i1, i2⟩ | i
          · refine Or.inl ⟨i1, fun h' q' hlt hq' => ?_⟩
            by_cases e : h' = h
            · subst e
              rw [hq] at hq'
              cases hq'
              exact y
            · exact i2 h' q' (by omega) hq'
          · exact Or.inr i)
      refine ⟨v, st _ (b312_79 ⟨by omega, ?_⟩) rfl, a2⟩
      rw [show (h : Int) + 1 = ((h + 1 : Nat) : Int) by omega]
      exact a1
  obtain ⟨v, a1, a2⟩ := L l.length 0 (-1) none (by omega) (Or.inl ⟨rfl, fun h' q h => absurd h (Nat.not_lt_zero h')⟩)
  exact ⟨v, b312 a1, a2⟩
/-- areLike -/
theorem d313 {σ : Sg} {s nb na i n : Nat} {O N F : Nat → Int} (hs : s < 44) (S : Slot σ s nb na O N F) (hi : i < nb) (hn : n < na) (h1 : nb ≤ 100) (h2 : na ≤ 100) (lO : ∀ i, i < nb → isLn (O i) = true) (lN : ∀ i, i < na → isLn (N i) = true) (Z : Zl σ) : ∃ σ', Dd 313 [vA 682, vI s, vI i, vI n] σ (rI (if 50 ≤ lik (O i) (N n) then 1 else 0) σ') ∧ Zl σ' ∧ Sm σ σ' := by
  obtain ⟨σ', a1, a2, a3⟩ := d254 (isLn_nn (lO i hi)) (isLn_nn (lN n hn)) Z
  refine ⟨σ', b313 ?_, a2, a3⟩
  rw [show (100 * (s : Int) + (i : Int)).toNat = 100 * s + i by omega, show (100 * (s : Int) + (n : Int)).toNat = 100 * s + n by omega, S.2.2.1 i hi, S.2.2.2.1 n hn]
  exact ⟨by omega, by omega, by omega, by omega, by omega, by omega, _, _, a1, rfl⟩
theorem Sm_t {σ s t : Sg} (h1 : Sm σ s) (h2 : Sm s t) : Sm σ t := fun c k h => by rw [h2 c k h]; exact h1 c k h
theorem Sm_r {σ : Sg} : Sm σ σ := fun _ _ _ => rfl
theorem Sm_S {σ s : Sg} {p nb na : Nat} {O N F : Nat → Int} (h : Sm σ s) (S : Slot σ p nb na O N F) : Slot s p nb na O N F := Slot_fr (fun c k hc => h c k (by omega)) S
/-- what the search goes by -/
def CXK (σ : Sg) (s nb na p hp : Nat) (O N F K : Nat → Int) (l : List St) (o d n a : Nat) : Prop := s < 44 ∧ nb ≤ 99 ∧ na ≤ 16 ∧ l.length ≤ 120 ∧ Slot σ s nb na O N F ∧ HK σ 0 0 l ∧ σ 704 0 = (l.length : Nat) ∧ DS F nb na l 0 0 0 ∧ IV F K nb na ∧ (∀ i, i < nb → isLn (O i) = true) ∧ (∀ i, i < na → isLn (N i) = true) ∧ l[hp]? = some (o, d, n, a) ∧ o ≤ p ∧ p < o + d
theorem CXK_Sm {σ s' : Sg} {s nb na p hp : Nat} {O N F K : Nat → Int} {l : List St} {o d n a : Nat} (h : Sm σ s') (C : CXK σ s nb na p hp O N F K l o d n a) : CXK s' s nb na p hp O N F K l o d n a := by
  obtain ⟨c1, c2, c3, c4, c5, c6, c7, c8, c9, c10, c11, c12, c13, c14⟩ := C
  exact ⟨c1, c2, c3, c4, Sm_S h c5, fun h' q hq => by rw [h _ _ (by decide), h _ _ (by decide), h _ _ (by decide), h _ _ (by decide)]; exact c6 h' q hq, by rw [h _ _ (by decide)]; exact c7, c8, c9, c10, c11, c12, c13, c14⟩
/-- lines of the two hunks could be the same just when they are alike -/
theorem kn_in {σ : Sg} {s nb na p hp h : Nat} {O N F K : Nat → Int} {l : List St} {o d n a o' d' n' a' i j : Nat} (C : CXK σ s nb na p hp O N F K l o d n a) (hq : l[h]? = some (o', d', n', a')) (hi : o ≤ i ∧ i < o + d) (hj : n' ≤ j ∧ j < n' + a') : knB O N F K nb na i j = true ↔ 50 ≤ lik (O i) (N j) := by
  obtain ⟨c1, c2, c3, c4, c5, c6, c7, c8, c9, c10, c11, c12, c13, c14⟩ := C
  obtain ⟨e1, e2, e3, e4, e5, e6, e7⟩ := DS_nb c8 c9 c12
  obtain ⟨f1, f2, f3, f4, f5, f6, f7⟩ := DS_nb c8 c9 hq
  have hF := e5 i hi.1 hi.2
  have hK : K j = -1 := by
    have hl := (List.getElem?_eq_some_iff.mp hq).1
    rcases c9.1 j (by omega) with z | ⟨z1, z2, z3⟩
    · exact z
    · exfalso
      obtain ⟨x, hx⟩ := Int.eq_ofNat_of_zero_le z1
      rw [hx, tn] at z3
      obtain ⟨i1, j1, e1', a1, a2, a3, a4, a5⟩ := DS_dr h l 0 0 0 c8 (by omega)
      have hd : l.drop h = (o', d', n', a') :: l.drop (h + 1) := by
        rw [List.drop_eq_getElem_cons hl]
        rw [List.getElem?_eq_getElem hl] at hq
        have z := Option.some.inj hq
        rw [z]
      rw [hd] at a1
      obtain ⟨v1, v2, v3, v4, v5, v6⟩ := a1
      have x2 : n' = j1 + (o' - i1) := v2
      have x1 : i1 + e1' ≤ o' := v1
      have V := DS_VF c8
      -- the partner lies ahead of the hunk, in it, or behind it
      by_cases y1 : x < o'
      · by_cases y2 : 0 < o'
        · have w := f1 y2
          rcases V.1 (o' - 1) (by omega) with u | u
          · exact w u
          · have key : F (o' - 1) < (n' : Int) := by
              by_cases y3 : i1 < o'
              · have t := v3 (o' - 1) (by omega) (by show o' - 1 < o'; omega)
                rw [t]
                omega
              · by_cases y4 : h = 0
                · obtain ⟨t1, t2, t3⟩ := a4 y4
                  omega
                · have := a5 (by omega)
                  omega
            by_cases y5 : x = o' - 1
            · rw [y5] at z3
              omega
            · have t := V.2 x (o' - 1) (by omega) (by omega) (by omega) w
              omega
        · omega
      · by_cases y2 : x < o' + d'
        · have t := f5 x (by omega) y2
          omega
        · rcases (DS_v _ _ _ _ v6).1 x (by show o' + d' ≤ x; omega) (by omega) with t | t
          · omega
          · have t1 : ((n' + a' : Nat) : Int) ≤ F x := t.1
            omega
  constructor
  · intro y
    exact (knB_i.mp y).2.2.2.2.2
  · intro y
    exact knB_i.mpr ⟨by omega, by omega, by omega, hF, hK, y⟩
end
