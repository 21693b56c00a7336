/-! Shifting a hunk: the best of its places. -/
noncomputable section
def ind (x : Int) : Int := if mkP x then 0 else x / 10000
def aw (X : Nat → Int) (p : Nat) : Int := (if p = 0 ∨ X (p - 1) = 0 then 0 else 10) + ind (X p)
def bsP (X : Nat → Int) : Nat → Nat → Nat → Nat
  | 0, _, b => b
  | d + 1, p, b => bsP X d (p + 1) (if aw X p ≤ aw X b then p else b)
theorem bsP_b {X : Nat → Int} {lo hi : Nat} : ∀ (d p b : Nat), lo ≤ p → p + d ≤ hi + 1 → lo ≤ b → b ≤ hi → lo ≤ bsP X d p b ∧ bsP X d p b ≤ hi := by
  intro d
  induction d with
  | zero => intro p b _ _ h1 h2; exact ⟨h1, h2⟩
  | succ d ih =>
    intro p b h1 h2 h3 h4
    show lo ≤ bsP X d (p + 1) (if aw X p ≤ aw X b then p else b) ∧ bsP X d (p + 1) (if aw X p ≤ aw X b then p else b) ≤ hi
    by_cases y : aw X p ≤ aw X b
    · rw [if_pos y]
      exact ih (p + 1) p (by omega) (by omega) h1 (by omega)
    · rw [if_neg y]
      exact ih (p + 1) b (by omega) (by omega) h3 h4
def rbk (X : Nat → Int) (s n m : Nat) : Nat := mt (fun r => decide (X (s - r - 1) = X (s - r - 1 + n))) m
def ron (X : Nat → Int) (s n m : Nat) : Nat := mt (fun r => decide (X (s + r) = X (s + r + n))) m
theorem rbk_b {X : Nat → Int} {s n m : Nat} : rbk X s n m ≤ m ∧ (∀ r, r < rbk X s n m → X (s - r - 1) = X (s - r - 1 + n)) ∧ (rbk X s n m < m → ¬ X (s - rbk X s n m - 1) = X (s - rbk X s n m - 1 + n)) := by
  refine ⟨mt_le, fun r hr => ?_, fun h => ?_⟩
  · exact of_decide_eq_true (mt_m (p := fun r => decide (X (s - r - 1) = X (s - r - 1 + n))) hr)
  · have z := mt_n (p := fun r => decide (X (s - r - 1) = X (s - r - 1 + n))) h
    exact of_decide_eq_false z
theorem ron_b {X : Nat → Int} {s n m : Nat} : ron X s n m ≤ m ∧ (∀ r, r < ron X s n m → X (s + r) = X (s + r + n)) ∧ (ron X s n m < m → ¬ X (s + ron X s n m) = X (s + ron X s n m + n)) := by
  refine ⟨mt_le, fun r hr => ?_, fun h => ?_⟩
  · exact of_decide_eq_true (mt_m (p := fun r => decide (X (s + r) = X (s + r + n))) hr)
  · have z := mt_n (p := fun r => decide (X (s + r) = X (s + r + n))) h
    exact of_decide_eq_false z
/-- how far a hunk may go back, and on -/
def mbk (l : List St) (h : Nat) (q : St) : Nat := q.1 - peo l h 0 - (if h = 0 then 0 else 1)
def mon (nb : Nat) (l : List St) (h : Nat) (q : St) : Nat := nso nb l h - (q.1 + q.2.1) - (if h + 1 < l.length then 1 else 0)
/-- the best place, for the text that the hunk has lines in -/
def bpl (X : Nat → Int) (s n mb mo : Nat) : Nat := bsP X (rbk X s n mb + ron X s n mo + 1) (s - rbk X s n mb) (s - rbk X s n mb)
theorem bpl_b {X : Nat → Int} {s n mb mo : Nat} (hm : mb ≤ s) : s - rbk X s n mb ≤ bpl X s n mb mo ∧ bpl X s n mb mo ≤ s + ron X s n mo := by
  have r := (rbk_b (X := X) (s := s) (n := n) (m := mb)).1
  exact bsP_b (X := X) (lo := s - rbk X s n mb) (hi := s + ron X s n mo) (rbk X s n mb + ron X s n mo + 1) (s - rbk X s n mb) (s - rbk X s n mb) (Nat.le_refl _) (by omega) (Nat.le_refl _) (by omega)
def sh1 (O N : Nat → Int) (nb : Nat) (l : List St) (h : Nat) : List St := match l[h]? with
  | none => l
  | some q => if q.2.1 = 0 then l.set h (q.1 + bpl N q.2.2.1 q.2.2.2 (mbk l h q) (mon nb l h q) - q.2.2.1, 0, bpl N q.2.2.1 q.2.2.2 (mbk l h q) (mon nb l h q), q.2.2.2)
    else if q.2.2.2 = 0 then l.set h (bpl O q.1 q.2.1 (mbk l h q) (mon nb l h q), q.2.1, q.2.2.1 + bpl O q.1 q.2.1 (mbk l h q) (mon nb l h q) - q.1, 0)
    else l
def shs (O N : Nat → Int) (nb : Nat) : Nat → Nat → List St → List St
  | 0, _, l => l
  | d + 1, h, l => shs O N nb d (h + 1) (sh1 O N nb l h)
theorem sh1_len {O N : Nat → Int} {nb : Nat} {l : List St} {h : Nat} : (sh1 O N nb l h).length = l.length := by
  unfold sh1
  cases l[h]? with
  | none => rfl
  | some q =>
    dsimp only
    split
    · exact List.length_set
    · split
      · exact List.length_set
      · rfl
/-- the pairs, when a hunk begins elsewhere -/
def mvF (F : Nat → Int) (lo hi o d n a : Nat) : Nat → Int := fun x => if x < lo ∨ hi ≤ x then F x else if x < o then ((n - (o - x) : Nat) : Int) else if x < o + d then -1 else ((n + a + (x - (o + d)) : Nat) : Int)
theorem DS_at {F : Nat → Int} {nb na : Nat} : ∀ (l : List St) (h i j e : Nat) (q : St), DS F nb na l i j e → l[h]? = some q → (∃ pj, j ≤ pj ∧ q.2.2.1 = pj + (q.1 - peo l h i) ∧ ∀ x, peo l h i ≤ x → x < q.1 → F x = ((pj + (x - peo l h i) : Nat) : Int)) ∧ (∀ x, q.1 ≤ x → x < q.1 + q.2.1 → F x = -1) ∧ q.1 + q.2.1 ≤ nso nb l h ∧ nso nb l h ≤ nb ∧ (∀ x, q.1 + q.2.1 ≤ x → x < nso nb l h → F x = ((q.2.2.1 + q.2.2.2 + (x - (q.1 + q.2.1)) : Nat) : Int)) ∧ 0 < q.2.1 + q.2.2.2 ∧ q.2.2.1 + q.2.2.2 + (nso nb l h - (q.1 + q.2.1)) ≤ na ∧ (h + 1 < l.length → q.1 + q.2.1 + 1 ≤ nso nb l h) ∧ (¬ h + 1 < l.length → nso nb l h = nb) ∧ (¬ h = 0 → peo l h i + 1 ≤ q.1) ∧ peo l h i ≤ q.1 := by
  intro l
  induction l with
  | nil => intro h i j e q _ hq; simp at hq
  | cons r t ih =>
    intro h i j e q H hq
    have b := DS_b _ _ _ _ H
    obtain ⟨h1, h2, h3, h4, h5, h6⟩ := H
    cases h with
    | zero =>
      have hr : r = q := by simpa using hq
      subst hr
      have b6 := DS_b _ _ _ _ h6
      refine ⟨⟨j, Nat.le_refl j, h2, h3⟩, h4, ?_⟩
      cases t with
      | nil =>
        obtain ⟨k1, k2, k3, k4⟩ := h6
        have hns : nso nb [r] 0 = nb := rfl
        rw [hns]
        refine ⟨k1, Nat.le_refl nb, fun x y1 y2 => k4 x y1 y2, h5, by omega, fun y => ?_, fun _ => rfl, fun y => absurd rfl y, by show i ≤ r.1; omega⟩
        have : 0 + 1 < 0 + 1 := y
        omega
      | cons u t =>
        have bu := b6.2.2 u List.mem_cons_self
        obtain ⟨k1, k2, k3, k4, k5, k6⟩ := h6
        have hns : nso nb (r :: u :: t) 0 = u.1 := rfl
        rw [hns]
        refine ⟨by omega, by omega, fun x y1 y2 => k3 x y1 y2, h5, by omega, fun _ => k1, fun y => ?_, fun y => absurd rfl y, by show i ≤ r.1; omega⟩
        exfalso
        rw [List.length_cons, List.length_cons] at y
        omega
    | succ h =>
      have hq' : t[h]? = some q := by rw [List.getElem?_cons_succ] at hq; exact hq
      have hlt := (List.getElem?_eq_some_iff.mp hq').1
      have hp : peo (r :: t) (h + 1) i = peo t h (r.1 + r.2.1) := rfl
      have hn : nso nb (r :: t) (h + 1) = nso nb t h := by
        unfold nso
        rw [List.getElem?_cons_succ]
      obtain ⟨⟨pj, i0, i1, i2⟩, i3, i4, i5, i6, i7, i8, i9, i10, i11, i12⟩ := ih h (r.1 + r.2.1) (r.2.2.1 + r.2.2.2) 1 q h6 hq'
      rw [hp, hn]
      refine ⟨⟨pj, by omega, i1, i2⟩, i3, i4, i5, i6, i7, i8, fun y => i9 (by rw [List.length_cons] at y; omega), fun y => i10 (by rw [List.length_cons] at y; omega), fun _ => ?_, i12⟩
      cases h with
      | zero =>
        have e0 : peo t 0 (r.1 + r.2.1) = r.1 + r.2.1 := by
          cases t with
          | nil => rfl
          | cons u t => rfl
        rw [e0]
        cases t with
        | nil => simp at hq'
        | cons u t =>
          have hu : u = q := by simpa using hq'
          rw [← hu]
          exact h6.1
      | succ h => exact i11 (by omega)
theorem peo_0 {l : List St} {i : Nat} : peo l 0 i = i := by
  cases l with
  | nil => rfl
  | cons q t => rfl
/-- a hunk that goes elsewhere between its neighbours leaves such pairs -/
theorem DS_mvF {F : Nat → Int} {nb na h o d n a o' n' : Nat} {l : List St} (H : DS F nb na l 0 0 0) (hl : l[h]? = some (o, d, n, a)) (hon : o' + n = n' + o) (hlo : o - mbk l h (o, d, n, a) ≤ o') (hhi : o' ≤ o + mon nb l h (o, d, n, a)) : DS (mvF F (peo l h 0) (nso nb l h) o' d n' a) nb na (l.set h (o', d, n', a)) 0 0 0 := by
  obtain ⟨⟨pj, i0, i1, i2⟩, i3, i4, i5, i6, i7, i8, i9, i10, i11, i12⟩ := DS_at _ _ _ _ _ _ H hl
  have i1 : n = pj + (o - peo l h 0) := i1
  have i4 : o + d ≤ nso nb l h := i4
  have i9 : h + 1 < l.length → o + d + 1 ≤ nso nb l h := i9
  have i11 : ¬ h = 0 → peo l h 0 + 1 ≤ o := i11
  have i12 : peo l h 0 ≤ o := i12
  have hlt := (List.getElem?_eq_some_iff.mp hl).1
  have m1 : mbk l h (o, d, n, a) = o - peo l h 0 - (if h = 0 then 0 else 1) := rfl
  have m2 : mon nb l h (o, d, n, a) = nso nb l h - (o + d) - (if h + 1 < l.length then 1 else 0) := rfl
  refine DS_mv l h 0 0 0 (Nat.zero_le _) H hl hon ?_ ?_ (fun x hx => ?_) (fun x y1 y2 => ?_) (fun x y1 y2 => ?_) (fun x y1 y2 => ?_)
  · by_cases y : h = 0
    · rw [if_pos y] at m1
      exact Or.inr ⟨y, by omega⟩
    · rw [if_neg y] at m1
      have := i11 y
      exact Or.inl (by omega)
  · by_cases y : h + 1 < l.length
    · rw [if_pos y] at m2
      have := i9 y
      exact Or.inl (by omega)
    · rw [if_neg y] at m2
      have := i10 y
      exact Or.inr ⟨by omega, by omega⟩
  · unfold mvF
    rw [if_pos hx]
  · unfold mvF
    rw [if_neg (by
      have : o' ≤ nso nb l h := by
        by_cases y : h + 1 < l.length
        · rw [if_pos y] at m2
          have := i9 y
          omega
        · rw [if_neg y] at m2
          omega
      omega), if_pos y2]
  · unfold mvF
    have hlo2 : peo l h 0 ≤ o' := by
      by_cases y : h = 0
      · rw [y, peo_0]; omega
      · rw [if_neg y] at m1
        have := i11 y
        omega
    have hhi2 : o' + d ≤ nso nb l h := by
      by_cases y : h + 1 < l.length
      · rw [if_pos y] at m2
        have := i9 y
        omega
      · rw [if_neg y] at m2
        omega
    rw [if_neg (by omega), if_neg (by omega), if_pos y2]
  · unfold mvF
    have hlo2 : peo l h 0 ≤ o' := by
      by_cases y : h = 0
      · rw [y, peo_0]; omega
      · rw [if_neg y] at m1
        have := i11 y
        omega
    rw [if_neg (by omega), if_neg (by omega), if_neg (by omega)]
/-- paired lines are the same -/
def EQL (O N F : Nat → Int) (nb : Nat) : Prop := ∀ x, x < nb → ¬ F x = -1 → O x = N (F x).toNat
/-- a hunk that only adds -/
theorem EQ_add {O N F : Nat → Int} {nb na h o n a o' n' : Nat} {l : List St} (H : DS F nb na l 0 0 0) (E : EQL O N F nb) (hl : l[h]? = some (o, 0, n, a)) (hon : o' + n = n' + o) (hb : n - rbk N n a (mbk l h (o, 0, n, a)) ≤ n') (ho : n' ≤ n + ron N n a (mon nb l h (o, 0, n, a))) : EQL O N (mvF F (peo l h 0) (nso nb l h) o' 0 n' a) nb := by
  obtain ⟨⟨pj, i0, i1, i2⟩, i3, i4, i5, i6, i7, i8, i9, i10, i11, i12⟩ := DS_at _ _ _ _ _ _ H hl
  have i1 : n = pj + (o - peo l h 0) := i1
  have i2 : ∀ x, peo l h 0 ≤ x → x < o → F x = ((pj + (x - peo l h 0) : Nat) : Int) := i2
  have i4 : o + 0 ≤ nso nb l h := i4
  have i6 : ∀ x, o + 0 ≤ x → x < nso nb l h → F x = ((n + a + (x - (o + 0)) : Nat) : Int) := i6
  have i12 : peo l h 0 ≤ o := i12
  obtain ⟨r1, r2, -⟩ := rbk_b (X := N) (s := n) (n := a) (m := mbk l h (o, 0, n, a))
  obtain ⟨u1, u2, -⟩ := ron_b (X := N) (s := n) (n := a) (m := mon nb l h (o, 0, n, a))
  have m1 : mbk l h (o, 0, n, a) ≤ o - peo l h 0 := Nat.sub_le _ _
  have m2 : mon nb l h (o, 0, n, a) ≤ nso nb l h - (o + 0) := Nat.sub_le _ _
  intro x hx hne
  unfold mvF at hne ⊢
  by_cases y1 : x < peo l h 0 ∨ nso nb l h ≤ x
  · rw [if_pos y1] at hne ⊢
    exact E x hx hne
  · rw [if_neg y1] at hne ⊢
    by_cases y2 : x < o'
    · rw [if_pos y2, Int.toNat_natCast]
      by_cases y3 : x < o
      · have z := E x hx (by rw [i2 x (by omega) y3]; omega)
        rw [i2 x (by omega) y3, Int.toNat_natCast] at z
        rw [z]
        congr 1
        omega
      · have z := E x hx (by rw [i6 x (by omega) (by omega)]; omega)
        rw [i6 x (by omega) (by omega), Int.toNat_natCast] at z
        have w := u2 (x - o) (by omega)
        rw [z, show n' - (o' - x) = n + (x - o) by omega, w]
        congr 1
        omega
    · rw [if_neg y2, if_neg (by omega), Int.toNat_natCast]
      by_cases y3 : x < o
      · have z := E x hx (by rw [i2 x (by omega) y3]; omega)
        rw [i2 x (by omega) y3, Int.toNat_natCast] at z
        have w := r2 (o - x - 1) (by omega)
        rw [show n - (o - x - 1) - 1 = pj + (x - peo l h 0) by omega] at w
        rw [z, w]
        congr 1
        omega
      · have z := E x hx (by rw [i6 x (by omega) (by omega)]; omega)
        rw [i6 x (by omega) (by omega), Int.toNat_natCast] at z
        rw [z]
        congr 1
        omega
/-- a hunk that only drops -/
theorem EQ_drop {O N F : Nat → Int} {nb na h o d n o' n' : Nat} {l : List St} (H : DS F nb na l 0 0 0) (E : EQL O N F nb) (hl : l[h]? = some (o, d, n, 0)) (hon : o' + n = n' + o) (hb : o - rbk O o d (mbk l h (o, d, n, 0)) ≤ o') (ho : o' ≤ o + ron O o d (mon nb l h (o, d, n, 0))) : EQL O N (mvF F (peo l h 0) (nso nb l h) o' d n' 0) nb := by
  obtain ⟨⟨pj, i0, i1, i2⟩, i3, i4, i5, i6, i7, i8, i9, i10, i11, i12⟩ := DS_at _ _ _ _ _ _ H hl
  have i1 : n = pj + (o - peo l h 0) := i1
  have i2 : ∀ x, peo l h 0 ≤ x → x < o → F x = ((pj + (x - peo l h 0) : Nat) : Int) := i2
  have i4 : o + d ≤ nso nb l h := i4
  have i6 : ∀ x, o + d ≤ x → x < nso nb l h → F x = ((n + 0 + (x - (o + d)) : Nat) : Int) := i6
  have i12 : peo l h 0 ≤ o := i12
  obtain ⟨r1, r2, -⟩ := rbk_b (X := O) (s := o) (n := d) (m := mbk l h (o, d, n, 0))
  obtain ⟨u1, u2, -⟩ := ron_b (X := O) (s := o) (n := d) (m := mon nb l h (o, d, n, 0))
  have m1 : mbk l h (o, d, n, 0) ≤ o - peo l h 0 := Nat.sub_le _ _
  have m2 : mon nb l h (o, d, n, 0) ≤ nso nb l h - (o + d) := Nat.sub_le _ _
  intro x hx hne
  unfold mvF at hne ⊢
  by_cases y1 : x < peo l h 0 ∨ nso nb l h ≤ x
  · rw [if_pos y1] at hne ⊢
    exact E x hx hne
  · rw [if_neg y1] at hne ⊢
    by_cases y2 : x < o'
    · rw [if_pos y2, Int.toNat_natCast]
      by_cases y3 : x < o
      · have z := E x hx (by rw [i2 x (by omega) y3]; omega)
        rw [i2 x (by omega) y3, Int.toNat_natCast] at z
        rw [z]
        congr 1
        omega
      · have z := E (x + d) (by omega) (by rw [i6 (x + d) (by omega) (by omega)]; omega)
        rw [i6 (x + d) (by omega) (by omega), Int.toNat_natCast] at z
        have w := u2 (x - o) (by omega)
        rw [show o + (x - o) = x by omega] at w
        rw [w, z]
        congr 1
        omega
    · rw [if_neg y2] at hne ⊢
      by_cases y3 : x < o' + d
      · rw [if_pos y3] at hne
        exact absurd rfl hne
      · rw [if_neg y3, Int.toNat_natCast]
        by_cases y4 : x < o + d
        · have z := E (x - d) (by omega) (by rw [i2 (x - d) (by omega) (by omega)]; omega)
          rw [i2 (x - d) (by omega) (by omega), Int.toNat_natCast] at z
          have w := r2 (o + d - x - 1) (by omega)
          rw [show o - (o + d - x - 1) - 1 = x - d by omega, show x - d + d = x by omega] at w
          rw [← w, z]
          congr 1
          omega
        · have z := E x hx (by rw [i6 x (by omega) (by omega)]; omega)
          rw [i6 x (by omega) (by omega), Int.toNat_natCast] at z
          rw [z]
          congr 1
          omega
end
