/-! Two patches exchanged: the script of patches that do not touch. -/
noncomputable section
def isPc (c : Nat) : Prop := c = 1 ∨ c = 2
def isQc (c : Nat) : Prop := c = 3 ∨ c = 4
def hdC (p : Nat → Prop) : List It → Prop
  | [] => False
  | q :: _ => p q.1
def NAc : List It → Prop
  | [] => True
  | q :: t => ¬ (isPc q.1 ∧ hdC isQc t) ∧ ¬ (isQc q.1 ∧ hdC isPc t) ∧ NAc t
def vld (S : List It) : Prop := ∀ q, q ∈ S → 1 ≤ q.1 ∧ q.1 ≤ 5
theorem mvS_e {F K G L X Y Z : Nat → Int} {nb na nc i j k : Nat} (hi : nb ≤ i) (hj : na ≤ j) (hk : nc ≤ k) : ∀ w, mvS F K G L X Y Z nb na nc w i j k = [] := by
  intro w
  induction w with
  | zero => rfl
  | succ w ih => rw [mvS_s, if_neg (by omega), if_neg (by omega), if_neg (by omega), if_neg (by omega), if_neg (by omega)]; exact ih
def TPj (F : Nat → Int) (nb na j : Nat) : Prop := ∃ q, q ∈ hks F nb na ∧ q.2.2.1 ≤ j ∧ j ≤ q.2.2.1 + q.2.2.2
def TQj (G : Nat → Int) (na nc j : Nat) : Prop := ∃ r, r ∈ hks G na nc ∧ r.1 ≤ j ∧ j ≤ r.1 + r.2.1
theorem TT_no {F G : Nat → Int} {nb na nc j : Nat} (NT : ¬ TCH (hks F nb na) (hks G na nc)) (h : TPj F nb na j) (h' : TQj G na nc j) : False := by
  obtain ⟨q, q1, q2, q3⟩ := h
  obtain ⟨r, r1, r2, r3⟩ := h'
  obtain ⟨a, ha⟩ := List.mem_iff_getElem?.mp q1
  obtain ⟨b, hb⟩ := List.mem_iff_getElem?.mp r1
  exact NT ⟨a, q, b, r, ha, hb, by omega, by omega⟩
theorem mvS_ok {F K G L X Y Z : Nat → Int} {nb na nc : Nat} (V : VF F nb na) (I : IV F K nb na) (V' : VF G na nc) (I' : IV G L na nc) (E : EQL X Y F nb) (E' : EQL Y Z G na) (NT : ¬ TCH (hks F nb na) (hks G na nc)) : ∀ (w i j k : Nat), (nb - i) + (na - j) + (nc - k) ≤ w → i ≤ nb → j ≤ na → k ≤ nc → FRT F nb i j → FRT G na j k → Dat F K G L X Y Z nb na nc (mvS F K G L X Y Z nb na nc w i j k) i j k ∧ nrm (mvS F K G L X Y Z nb na nc w i j k) ∧ NAc (mvS F K G L X Y Z nb na nc w i j k) ∧ vld (mvS F K G L X Y Z nb na nc w i j k) ∧ (hdC isPc (mvS F K G L X Y Z nb na nc w i j k) → TPj F nb na j) ∧ (hdC isQc (mvS F K G L X Y Z nb na nc w i j k) → TQj G na nc j) := by
  have D := DS_0 V
  have D' := DS_0 V'
  have fK : ∀ (y : Nat), K y = -1 → ∀ x : Nat, x < nb → ¬ F x = (y : Nat) := fun y e x hx h => by
    have := I.2 x hx (by omega)
    rw [h, show (((y : Nat) : Int)).toNat = y by omega] at this
    omega
  have fL : ∀ (y : Nat), L y = -1 → ∀ x : Nat, x < na → ¬ G x = (y : Nat) := fun y e x hx h => by
    have := I'.2 x hx (by omega)
    rw [h, show (((y : Nat) : Int)).toNat = y by omega] at this
    omega
  have vc : ∀ {q : It} {t : List It}, 1 ≤ q.1 ∧ q.1 ≤ 5 → vld t → vld (q :: t) := fun h h' r hr => by
    rcases List.mem_cons.mp hr with e | e
    · rw [e]; exact h
    · exact h' r e
  intro w
  induction w with
  | zero =>
    intro i j k hw hi hj hk _ _
    exact ⟨⟨by omega, by omega, by omega⟩, trivial, trivial, (fun q hq => by cases hq), fun h => h.elim, fun h => h.elim⟩
  | succ w ih =>
    intro i j k hw hi hj hk A B
    rw [mvS_s]
    by_cases y1 : i < nb ∧ F i = -1
    · rw [if_pos y1]
      have tp : TPj F nb na j := DS_inP _ 0 0 0 D i j (Nat.zero_le _) y1.1 y1.2 (Nat.zero_le _) hj (fun x _ h => A.1 x h) A.2
      obtain ⟨i1, i2, i3, i4, i5, i6⟩ := ih (i + 1) j k (by omega) (by omega) hj hk (FRT_1 A y1.2) B
      exact ⟨Or.inl ⟨rfl, y1.1, y1.2, rfl, i1⟩, ⟨fun e => absurd e (show ¬ (1 : Nat) = 2 by decide), fun e => absurd e (show ¬ (1 : Nat) = 4 by decide), i2⟩, ⟨fun h => TT_no NT tp (i6 h.2), fun h => absurd h.1 (show ¬ ((1 : Nat) = 3 ∨ (1 : Nat) = 4) by decide), i3⟩, vc (show 1 ≤ 1 ∧ 1 ≤ 5 by decide) i4, fun _ => tp, fun h => absurd h (show ¬ ((1 : Nat) = 3 ∨ (1 : Nat) = 4) by decide)⟩
    rw [if_neg y1]
    by_cases y2 : j < na ∧ K j = -1
    · rw [if_pos y2]
      obtain ⟨q, q1, q2, q3⟩ := DS_add D I y2.1 y2.2
      have tp : TPj F nb na j := ⟨q, q1, q2, by omega⟩
      have tp' : TPj F nb na (j + 1) := ⟨q, q1, by omega, by omega⟩
      have g1 : ¬ (j < na ∧ G j = -1) := fun e => by
        obtain ⟨r, r1, r2, r3⟩ := DS_drop _ 0 0 0 D' j (Nat.zero_le _) e.1 e.2
        exact TT_no NT tp ⟨r, r1, r2, by omega⟩
      have gj : ¬ G j = -1 := fun e => g1 ⟨y2.1, e⟩
      have gk := B.2 j (Nat.le_refl _) y2.1
      have gn := V'.1 j y2.1
      have kc : k < nc := by omega
      have lk : ¬ L k = -1 := fun e => by
        obtain ⟨r, r1, r2, r3⟩ := DS_inQ _ 0 0 0 D' j k (Nat.zero_le _) kc (fun x _ hx => fL k e x hx) (Nat.zero_le _) hj (fun x _ h => B.1 x h) B.2
        exact TT_no NT tp ⟨r, r1, r2, r3⟩
      obtain ⟨e1, e2, e3⟩ := FRT_eq V' I' B kc lk g1
      obtain ⟨i1, i2, i3, i4, i5, i6⟩ := ih i (j + 1) (k + 1) (by omega) hi (by omega) (by omega) (FRT_2 A (fK j y2.2)) (FRT_5 V' B e1 e2)
      have ez := E' j e1 gj
      rw [e2, show (((k : Nat) : Int)).toNat = k by omega] at ez
      exact ⟨Or.inr (Or.inl ⟨rfl, y2.1, kc, y2.2, e2, e3, rfl, ez.symm, i1⟩), ⟨fun _ h => y1 ((nx_X _ _ _ _ i1).mp h), fun e => absurd e (show ¬ (2 : Nat) = 4 by decide), i2⟩, ⟨fun h => TT_no NT tp' (i6 h.2), fun h => absurd h.1 (show ¬ ((2 : Nat) = 3 ∨ (2 : Nat) = 4) by decide), i3⟩, vc (show 1 ≤ 2 ∧ 2 ≤ 5 by decide) i4, fun _ => tp, fun h => absurd h (show ¬ ((2 : Nat) = 3 ∨ (2 : Nat) = 4) by decide)⟩
    rw [if_neg y2]
    by_cases y3 : j < na ∧ G j = -1
    · rw [if_pos y3]
      obtain ⟨r, r1, r2, r3⟩ := DS_drop _ 0 0 0 D' j (Nat.zero_le _) y3.1 y3.2
      have tq : TQj G na nc j := ⟨r, r1, r2, by omega⟩
      have tq' : TQj G na nc (j + 1) := ⟨r, r1, by omega, by omega⟩
      obtain ⟨e1, e2, e3⟩ := FRT_eq V I A y3.1 (fun e => y2 ⟨y3.1, e⟩) y1
      obtain ⟨i1, i2, i3, i4, i5, i6⟩ := ih (i + 1) (j + 1) k (by omega) (by omega) (by omega) hk (FRT_5 V A e1 e2) (FRT_1 B y3.2)
      have ex := E i e1 (by omega)
      rw [e2, show (((j : Nat) : Int)).toNat = j by omega] at ex
      exact ⟨Or.inr (Or.inr (Or.inl ⟨rfl, e1, y3.1, e2, e3, y3.2, ex, rfl, i1⟩)), ⟨fun e => absurd e (show ¬ (3 : Nat) = 2 by decide), fun e => absurd e (show ¬ (3 : Nat) = 4 by decide), i2⟩, ⟨fun h => absurd h.1 (show ¬ ((3 : Nat) = 1 ∨ (3 : Nat) = 2) by decide), fun h => TT_no NT (i5 h.2) tq', i3⟩, vc (show 1 ≤ 3 ∧ 3 ≤ 5 by decide) i4, fun h => absurd h (show ¬ ((3 : Nat) = 1 ∨ (3 : Nat) = 2) by decide), fun _ => tq⟩
    rw [if_neg y3]
    by_cases y4 : k < nc ∧ L k = -1
    · rw [if_pos y4]
      have tq : TQj G na nc j := DS_inQ _ 0 0 0 D' j k (Nat.zero_le _) y4.1 (fun x _ hx => fL k y4.2 x hx) (Nat.zero_le _) hj (fun x _ h => B.1 x h) B.2
      obtain ⟨i1, i2, i3, i4, i5, i6⟩ := ih i j (k + 1) (by omega) hi hj (by omega) A (FRT_2 B (fL k y4.2))
      have zy := nx_Y _ _ _ _ i1
      exact ⟨Or.inr (Or.inr (Or.inr (Or.inl ⟨rfl, y4.1, y4.2, rfl, i1⟩))), ⟨fun e => absurd e (show ¬ (4 : Nat) = 2 by decide), fun _ => ⟨fun h => y1 ((nx_X _ _ _ _ i1).mp h), fun h => y2 (zy.1.mp h), fun h => y3 ⟨(zy.2.mp h).1, (zy.2.mp h).2.2⟩⟩, i2⟩, ⟨fun h => absurd h.1 (show ¬ ((4 : Nat) = 1 ∨ (4 : Nat) = 2) by decide), fun h => TT_no NT (i5 h.2) tq, i3⟩, vc (show 1 ≤ 4 ∧ 4 ≤ 5 by decide) i4, fun h => absurd h (show ¬ ((4 : Nat) = 1 ∨ (4 : Nat) = 2) by decide), fun _ => tq⟩
    rw [if_neg y4]
    by_cases y5 : j < na
    · rw [if_pos y5]
      obtain ⟨e1, e2, e3⟩ := FRT_eq V I A y5 (fun e => y2 ⟨y5, e⟩) y1
      have gj : ¬ G j = -1 := fun e => y3 ⟨y5, e⟩
      have gk := B.2 j (Nat.le_refl _) y5
      have gn := V'.1 j y5
      have kc : k < nc := by omega
      obtain ⟨f1, f2, f3⟩ := FRT_eq V' I' B kc (fun e => y4 ⟨kc, e⟩) y3
      obtain ⟨i1, i2, i3, i4, i5, i6⟩ := ih (i + 1) (j + 1) (k + 1) (by omega) (by omega) (by omega) (by omega) (FRT_5 V A e1 e2) (FRT_5 V' B f1 f2)
      have ex := E i e1 (by omega)
      rw [e2, show (((j : Nat) : Int)).toNat = j by omega] at ex
      have ez := E' j f1 gj
      rw [f2, show (((k : Nat) : Int)).toNat = k by omega] at ez
      exact ⟨Or.inr (Or.inr (Or.inr (Or.inr ⟨rfl, e1, y5, kc, e2, e3, f2, f3, ex, rfl, ez.symm, i1⟩))), ⟨fun e => absurd e (show ¬ (5 : Nat) = 2 by decide), fun e => absurd e (show ¬ (5 : Nat) = 4 by decide), i2⟩, ⟨fun h => absurd h.1 (show ¬ ((5 : Nat) = 1 ∨ (5 : Nat) = 2) by decide), fun h => absurd h.1 (show ¬ ((5 : Nat) = 3 ∨ (5 : Nat) = 4) by decide), i3⟩, vc (show 1 ≤ 5 ∧ 5 ≤ 5 by decide) i4, fun h => absurd h (show ¬ ((5 : Nat) = 1 ∨ (5 : Nat) = 2) by decide), fun h => absurd h (show ¬ ((5 : Nat) = 3 ∨ (5 : Nat) = 4) by decide)⟩
    · rw [if_neg y5]
      have hi' : nb ≤ i := by
        by_cases z : i < nb
        · have a := A.2 i (Nat.le_refl _) z
          have b := V.1 i z
          have c : ¬ F i = -1 := fun e => y1 ⟨z, e⟩
          omega
        · omega
      have hk' : nc ≤ k := by
        by_cases z : k < nc
        · have c : ¬ L k = -1 := fun e => y4 ⟨z, e⟩
          obtain ⟨f1, -⟩ := FRT_eq V' I' B z c y3
          omega
        · omega
      rw [mvS_e hi' (by omega) hk']
      exact ⟨⟨by omega, by omega, by omega⟩, trivial, trivial, (fun q hq => by cases hq), fun h => h.elim, fun h => h.elim⟩
/-- after a line of the second one -/
theorem aux_Q : ∀ t : List It, vld t → ¬ hdC isPc t → NAc t → ¬ nxt kY t = 3 → ¬ nxt kX t = 3 := by
  intro t
  induction t with
  | nil => intro _ _ _ _; exact fun e => absurd e (show ¬ (0 : Nat) = 3 by decide)
  | cons q t ih =>
    intro v h n e
    obtain ⟨c, x⟩ := q
    have vq := v (c, x) List.mem_cons_self
    have vt : vld t := fun r hr => v r (List.mem_cons_of_mem _ hr)
    have hc : c = 1 ∨ c = 2 ∨ c = 3 ∨ c = 4 ∨ c = 5 := by dsimp only at vq; omega
    rcases hc with rfl | rfl | rfl | rfl | rfl
    · exact absurd (Or.inl rfl) h
    · exact absurd (Or.inr rfl) h
    · exact absurd rfl e
    · exact ih vt (fun z => n.2.1 ⟨Or.inr rfl, z⟩) n.2.2 e
    · exact fun e => absurd (show (5 : Nat) = 3 from e) (by decide)
theorem aux_P : ∀ t : List It, vld t → ¬ hdC isQc t → NAc t → ¬ nxt kX t = 1 → ¬ nxt kX t = 3 ∧ ¬ nxt kM t = 1 ∧ ¬ nxt kM t = 4 := by
  intro t
  induction t with
  | nil => intro _ _ _ _; exact ⟨fun e => absurd e (show ¬ (0 : Nat) = 3 by decide), fun e => absurd e (show ¬ (0 : Nat) = 1 by decide), fun e => absurd e (show ¬ (0 : Nat) = 4 by decide)⟩
  | cons q t ih =>
    intro v h n e
    obtain ⟨c, x⟩ := q
    have vq := v (c, x) List.mem_cons_self
    have vt : vld t := fun r hr => v r (List.mem_cons_of_mem _ hr)
    have hc : c = 1 ∨ c = 2 ∨ c = 3 ∨ c = 4 ∨ c = 5 := by dsimp only at vq; omega
    rcases hc with rfl | rfl | rfl | rfl | rfl
    · exact absurd rfl e
    · exact ih vt (fun z => n.1 ⟨Or.inr rfl, z⟩) n.2.2 e
    · exact absurd (Or.inl rfl) h
    · exact absurd (Or.inr rfl) h
    · exact ⟨fun e => absurd (show (5 : Nat) = 3 from e) (by decide), fun e => absurd (show (5 : Nat) = 1 from e) (by decide), fun e => absurd (show (5 : Nat) = 4 from e) (by decide)⟩
theorem nxt_duX : ∀ t : List It, vld t → nxt kX (duS t) = du (nxt kX t) := by
  intro t
  induction t with
  | nil => intro _; rfl
  | cons q t ih =>
    intro v
    obtain ⟨c, x⟩ := q
    have vq := v (c, x) List.mem_cons_self
    have vt : vld t := fun r hr => v r (List.mem_cons_of_mem _ hr)
    have hc : c = 1 ∨ c = 2 ∨ c = 3 ∨ c = 4 ∨ c = 5 := by dsimp only at vq; omega
    rcases hc with rfl | rfl | rfl | rfl | rfl
    · rfl
    · exact ih vt
    · rfl
    · exact ih vt
    · rfl
theorem nxt_duY : ∀ t : List It, vld t → nxt kY (duS t) = du (nxt kM t) := by
  intro t
  induction t with
  | nil => intro _; rfl
  | cons q t ih =>
    intro v
    obtain ⟨c, x⟩ := q
    have vq := v (c, x) List.mem_cons_self
    have vt : vld t := fun r hr => v r (List.mem_cons_of_mem _ hr)
    have hc : c = 1 ∨ c = 2 ∨ c = 3 ∨ c = 4 ∨ c = 5 := by dsimp only at vq; omega
    rcases hc with rfl | rfl | rfl | rfl | rfl
    · rfl
    · exact ih vt
    · exact ih vt
    · rfl
    · rfl
theorem du_1 {n : Nat} (h : du n = 1) : n = 3 := by
  unfold du at h
  split at h
  · omega
  · split at h
    · omega
    · split at h
      · assumption
      · split at h <;> omega
theorem du_2 {n : Nat} (h : du n = 2) : n = 4 := by
  unfold du at h
  split at h
  · omega
  · split at h
    · omega
    · split at h
      · omega
      · split at h <;> omega
theorem du_3 {n : Nat} (h : du n = 3) : n = 1 := by
  unfold du at h
  split at h
  · assumption
  · split at h
    · omega
    · split at h
      · omega
      · split at h <;> omega
theorem nrm_du : ∀ t : List It, vld t → nrm t → NAc t → nrm (duS t) := by
  intro t
  induction t with
  | nil => intro _ _ _; trivial
  | cons q t ih =>
    intro v h n
    obtain ⟨c, x⟩ := q
    have vt : vld t := fun r hr => v r (List.mem_cons_of_mem _ hr)
    obtain ⟨h1, h2, h3⟩ := h
    refine ⟨fun e => ?_, fun e => ?_, ih vt h3 n.2.2⟩
    · have e4 : c = 4 := du_2 e
      subst e4
      obtain ⟨-, -, m3⟩ := h2 rfl
      intro z
      have z := (nxt_duX t vt).symm.trans z
      exact aux_Q t vt (fun w => n.2.1 ⟨Or.inr rfl, w⟩) n.2.2 m3 (du_1 z)
    · have e2 : c = 2 := by
        have e : du c = 4 := e
        unfold du at e
        split at e
        · omega
        · split at e
          · assumption
          · split at e
            · omega
            · split at e <;> omega
      subst e2
      obtain ⟨a1, a2, a3⟩ := aux_P t vt (fun w => n.1 ⟨Or.inr rfl, w⟩) n.2.2 (h1 rfl)
      refine ⟨fun z => ?_, fun z => ?_, fun z => ?_⟩
      · exact a1 (du_1 ((nxt_duX t vt).symm.trans z))
      · exact a3 (du_2 ((nxt_duY t vt).symm.trans z))
      · exact a2 (du_3 ((nxt_duY t vt).symm.trans z))
end
