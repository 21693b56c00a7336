/-! Two patches exchanged: the walk as a script, and back again. -/
noncomputable section
abbrev It := Nat × Int
def mvS (F K G L X Y Z : Nat → Int) (nb na nc : Nat) : Nat → Nat → Nat → Nat → List It
  | 0, _, _, _ => []
  | w + 1, i, j, k =>
    if i < nb ∧ F i = -1 then (1, X i) :: mvS F K G L X Y Z nb na nc w (i + 1) j k
    else if j < na ∧ K j = -1 then (2, Y j) :: mvS F K G L X Y Z nb na nc w i (j + 1) (k + 1)
    else if j < na ∧ G j = -1 then (3, Y j) :: mvS F K G L X Y Z nb na nc w (i + 1) (j + 1) k
    else if k < nc ∧ L k = -1 then (4, Z k) :: mvS F K G L X Y Z nb na nc w i j (k + 1)
    else if j < na then (5, Y j) :: mvS F K G L X Y Z nb na nc w (i + 1) (j + 1) (k + 1)
    else mvS F K G L X Y Z nb na nc w i j k
theorem mvS_s {F K G L X Y Z : Nat → Int} {nb na nc w i j k : Nat} : mvS F K G L X Y Z nb na nc (w + 1) i j k = (if i < nb ∧ F i = -1 then (1, X i) :: mvS F K G L X Y Z nb na nc w (i + 1) j k
    else if j < na ∧ K j = -1 then (2, Y j) :: mvS F K G L X Y Z nb na nc w i (j + 1) (k + 1)
    else if j < na ∧ G j = -1 then (3, Y j) :: mvS F K G L X Y Z nb na nc w (i + 1) (j + 1) k
    else if k < nc ∧ L k = -1 then (4, Z k) :: mvS F K G L X Y Z nb na nc w i j (k + 1)
    else if j < na then (5, Y j) :: mvS F K G L X Y Z nb na nc w (i + 1) (j + 1) (k + 1)
    else mvS F K G L X Y Z nb na nc w i j k) := rfl
def slI (p : Nat → Bool) : List It → List Int
  | [] => []
  | q :: t => if p q.1 = true then q.2 :: slI p t else slI p t
def kX (t : Nat) : Bool := decide (t = 1 ∨ t = 3 ∨ t = 5)
def kY (t : Nat) : Bool := decide (t = 2 ∨ t = 3 ∨ t = 5)
def kM (t : Nat) : Bool := decide (t = 1 ∨ t = 4 ∨ t = 5)
def kZ (t : Nat) : Bool := decide (t = 2 ∨ t = 4 ∨ t = 5)
/-- the first patch's pairs, and the second one's -/
def FLs : List It → Nat → List Int
  | [], _ => []
  | q :: t, j => if q.1 = 1 then -1 :: FLs t j else if q.1 = 2 then FLs t (j + 1) else if q.1 = 4 then FLs t j else (j : Int) :: FLs t (j + 1)
def GLs : List It → Nat → List Int
  | [], _ => []
  | q :: t, k => if q.1 = 3 then -1 :: GLs t k else if q.1 = 4 then GLs t (k + 1) else if q.1 = 1 then GLs t k else (k : Int) :: GLs t (k + 1)
def du (t : Nat) : Nat := if t = 1 then 3 else if t = 2 then 4 else if t = 3 then 1 else if t = 4 then 2 else t
def duS (S : List It) : List It := S.map (fun q => (du q.1, q.2))
theorem apc {α : Type} (l : List α) (x : α) (t : List α) : (l ++ [x]) ++ t = l ++ (x :: t) := by rw [List.append_assoc]; rfl
theorem mvW_S {F K G L X Y Z : Nat → Int} {nb na nc : Nat} : ∀ (w i j k : Nat) (b M f a g : List Int), mvW F K G L X Y Z nb na nc w i j k b M f a g = (b ++ slI kX (duS (mvS F K G L X Y Z nb na nc w i j k)), M ++ slI kY (duS (mvS F K G L X Y Z nb na nc w i j k)), f ++ FLs (duS (mvS F K G L X Y Z nb na nc w i j k)) M.length, a ++ slI kZ (duS (mvS F K G L X Y Z nb na nc w i j k)), g ++ GLs (duS (mvS F K G L X Y Z nb na nc w i j k)) a.length) := by
  intro w
  induction w with
  | zero =>
    intro i j k b M f a g
    show (b, M, f, a, g) = (b ++ [], M ++ [], f ++ [], a ++ [], g ++ [])
    simp only [List.append_nil]
  | succ w ih =>
    intro i j k b M f a g
    rw [mvW_s, mvS_s]
    by_cases y1 : i < nb ∧ F i = -1
    · rw [if_pos y1, if_pos y1, ih]
      simp only [duS, List.map_cons, slI, FLs, GLs, du, kX, kY, kZ, apc, List.length_append, List.length_singleton]
      simp
    rw [if_neg y1, if_neg y1]
    by_cases y2 : j < na ∧ K j = -1
    · rw [if_pos y2, if_pos y2, ih]
      simp only [duS, List.map_cons, slI, FLs, GLs, du, kX, kY, kZ, apc, List.length_append, List.length_singleton]
      simp
    rw [if_neg y2, if_neg y2]
    by_cases y3 : j < na ∧ G j = -1
    · rw [if_pos y3, if_pos y3, ih]
      simp only [duS, List.map_cons, slI, FLs, GLs, du, kX, kY, kZ, apc, List.length_append, List.length_singleton]
      simp
    rw [if_neg y3, if_neg y3]
    by_cases y4 : k < nc ∧ L k = -1
    · rw [if_pos y4, if_pos y4, ih]
      simp only [duS, List.map_cons, slI, FLs, GLs, du, kX, kY, kZ, apc, List.length_append, List.length_singleton]
      simp
    rw [if_neg y4, if_neg y4]
    by_cases y5 : j < na
    · rw [if_pos y5, if_pos y5, ih]
      simp only [duS, List.map_cons, slI, FLs, GLs, du, kX, kY, kZ, apc, List.length_append, List.length_singleton]
      simp
    rw [if_neg y5, if_neg y5, ih]
/-- a script tells of patches and texts -/
def Dat (F K G L X Y Z : Nat → Int) (nb na nc : Nat) : List It → Nat → Nat → Nat → Prop
  | [], i, j, k => i = nb ∧ j = na ∧ k = nc
  | q :: t, i, j, k =>
    (q.1 = 1 ∧ i < nb ∧ F i = -1 ∧ X i = q.2 ∧ Dat F K G L X Y Z nb na nc t (i + 1) j k) ∨
    (q.1 = 2 ∧ j < na ∧ k < nc ∧ K j = -1 ∧ G j = (k : Nat) ∧ L k = (j : Nat) ∧ Y j = q.2 ∧ Z k = q.2 ∧ Dat F K G L X Y Z nb na nc t i (j + 1) (k + 1)) ∨
    (q.1 = 3 ∧ i < nb ∧ j < na ∧ F i = (j : Nat) ∧ K j = (i : Nat) ∧ G j = -1 ∧ X i = q.2 ∧ Y j = q.2 ∧ Dat F K G L X Y Z nb na nc t (i + 1) (j + 1) k) ∨
    (q.1 = 4 ∧ k < nc ∧ L k = -1 ∧ Z k = q.2 ∧ Dat F K G L X Y Z nb na nc t i j (k + 1)) ∨
    (q.1 = 5 ∧ i < nb ∧ j < na ∧ k < nc ∧ F i = (j : Nat) ∧ K j = (i : Nat) ∧ G j = (k : Nat) ∧ L k = (j : Nat) ∧ X i = q.2 ∧ Y j = q.2 ∧ Z k = q.2 ∧ Dat F K G L X Y Z nb na nc t (i + 1) (j + 1) (k + 1))
/-- the first item of a kind -/
def nxt (p : Nat → Bool) : List It → Nat
  | [] => 0
  | q :: t => if p q.1 = true then q.1 else nxt p t
theorem nx_X {F K G L X Y Z : Nat → Int} {nb na nc : Nat} : ∀ (t : List It) (i j k : Nat), Dat F K G L X Y Z nb na nc t i j k → (nxt kX t = 1 ↔ i < nb ∧ F i = -1) := by
  intro t
  induction t with
  | nil =>
    intro i j k h
    obtain ⟨h1, h2, h3⟩ := h
    exact ⟨fun e => absurd e (by decide), fun e => by omega⟩
  | cons q t ih =>
    intro i j k h
    obtain ⟨c, v⟩ := q
    rcases h with ⟨e, h⟩ | ⟨e, h⟩ | ⟨e, h⟩ | ⟨e, h⟩ | ⟨e, h⟩ <;> dsimp only at e <;> subst e
    · exact ⟨fun _ => ⟨h.1, h.2.1⟩, fun _ => rfl⟩
    · exact ih _ _ _ h.2.2.2.2.2.2.2
    · exact ⟨fun e => absurd (show (3 : Nat) = 1 from e) (by decide), fun e => by have := h.2.2.1; omega⟩
    · exact ih _ _ _ h.2.2.2
    · exact ⟨fun e => absurd (show (5 : Nat) = 1 from e) (by decide), fun e => by have := h.2.2.2.1; omega⟩
theorem nx_Y {F K G L X Y Z : Nat → Int} {nb na nc : Nat} : ∀ (t : List It) (i j k : Nat), Dat F K G L X Y Z nb na nc t i j k → (nxt kY t = 2 ↔ j < na ∧ K j = -1) ∧ (nxt kY t = 3 ↔ j < na ∧ ¬ K j = -1 ∧ G j = -1) := by
  intro t
  induction t with
  | nil =>
    intro i j k h
    obtain ⟨h1, h2, h3⟩ := h
    exact ⟨⟨fun e => absurd e (by decide), fun e => by omega⟩, ⟨fun e => absurd e (by decide), fun e => by omega⟩⟩
  | cons q t ih =>
    intro i j k h
    obtain ⟨c, v⟩ := q
    rcases h with ⟨e, h⟩ | ⟨e, h⟩ | ⟨e, h⟩ | ⟨e, h⟩ | ⟨e, h⟩ <;> dsimp only at e <;> subst e
    · exact ih _ _ _ h.2.2.2
    · exact ⟨⟨fun _ => ⟨h.1, h.2.2.1⟩, fun _ => rfl⟩, ⟨fun e => absurd (show (2 : Nat) = 3 from e) (by decide), fun e => absurd h.2.2.1 e.2.1⟩⟩
    · exact ⟨⟨fun e => absurd (show (3 : Nat) = 2 from e) (by decide), fun e => by have := h.2.2.2.1; omega⟩, ⟨fun _ => ⟨h.2.1, by have := h.2.2.2.1; omega, h.2.2.2.2.1⟩, fun _ => rfl⟩⟩
    · exact ih _ _ _ h.2.2.2
    · exact ⟨⟨fun e => absurd (show (5 : Nat) = 2 from e) (by decide), fun e => by have := h.2.2.2.2.1; omega⟩, ⟨fun e => absurd (show (5 : Nat) = 3 from e) (by decide), fun e => by have := h.2.2.2.2.2.1; omega⟩⟩
theorem nx_Z {F K G L X Y Z : Nat → Int} {nb na nc : Nat} : ∀ (t : List It) (i j k : Nat), Dat F K G L X Y Z nb na nc t i j k → (nxt kZ t = 4 ↔ k < nc ∧ L k = -1) := by
  intro t
  induction t with
  | nil =>
    intro i j k h
    obtain ⟨h1, h2, h3⟩ := h
    exact ⟨fun e => absurd e (by decide), fun e => by omega⟩
  | cons q t ih =>
    intro i j k h
    obtain ⟨c, v⟩ := q
    rcases h with ⟨e, h⟩ | ⟨e, h⟩ | ⟨e, h⟩ | ⟨e, h⟩ | ⟨e, h⟩ <;> dsimp only at e <;> subst e
    · exact ih _ _ _ h.2.2.2
    · exact ⟨fun e => absurd (show (2 : Nat) = 4 from e) (by decide), fun e => by have := h.2.2.2.2.1; omega⟩
    · exact ih _ _ _ h.2.2.2.2.2.2.2
    · exact ⟨fun _ => ⟨h.1, h.2.1⟩, fun _ => rfl⟩
    · exact ⟨fun e => absurd (show (5 : Nat) = 4 from e) (by decide), fun e => by have := h.2.2.2.2.2.2.1; omega⟩
/-- the walk would choose so -/
def nrm : List It → Prop
  | [] => True
  | q :: t => (q.1 = 2 → ¬ nxt kX t = 1) ∧ (q.1 = 4 → ¬ nxt kX t = 1 ∧ ¬ nxt kY t = 2 ∧ ¬ nxt kY t = 3) ∧ nrm t
theorem mvS_of {F K G L X Y Z : Nat → Int} {nb na nc : Nat} : ∀ (t : List It) (w i j k : Nat), Dat F K G L X Y Z nb na nc t i j k → nrm t → t.length ≤ w → mvS F K G L X Y Z nb na nc w i j k = t := by
  intro t
  induction t with
  | nil =>
    intro w
    induction w with
    | zero => intro i j k _ _ _; rfl
    | succ w ihw =>
      intro i j k h hn hw
      have h' := h
      obtain ⟨h1, h2, h3⟩ := h
      rw [mvS_s, if_neg (by omega), if_neg (by omega), if_neg (by omega), if_neg (by omega), if_neg (by omega)]
      exact ihw i j k h' hn (Nat.zero_le _)
  | cons q t ih =>
    intro w i j k h hn hw
    obtain ⟨c, v⟩ := q
    rw [List.length_cons] at hw
    obtain ⟨w, rfl⟩ : ∃ u, w = u + 1 := ⟨w - 1, by omega⟩
    obtain ⟨n2, n4, n5⟩ := hn
    rw [mvS_s]
    rcases h with ⟨e, h⟩ | ⟨e, h⟩ | ⟨e, h⟩ | ⟨e, h⟩ | ⟨e, h⟩ <;> dsimp only at e <;> subst e
    · rw [if_pos ⟨h.1, h.2.1⟩, ih w _ _ _ h.2.2.2 n5 (by omega)]
      have := h.2.2.1
      dsimp only at this
      rw [this]
    · obtain ⟨h1, h2, h3, h4, h5, h6, h7, h8⟩ := h
      have z := nx_X _ _ _ _ h8
      rw [if_neg (fun e => n2 rfl (z.mpr e)), if_pos ⟨h1, h3⟩, ih w _ _ _ h8 n5 (by omega)]
      dsimp only at h6
      rw [h6]
    · obtain ⟨h1, h2, h3, h4, h5, h6, h7, h8⟩ := h
      rw [if_neg (by omega), if_neg (by omega), if_pos ⟨h2, h5⟩, ih w _ _ _ h8 n5 (by omega)]
      dsimp only at h7
      rw [h7]
    · obtain ⟨h1, h2, h3, h4⟩ := h
      obtain ⟨m1, m2, m3⟩ := n4 rfl
      have z := nx_X _ _ _ _ h4
      have zy := nx_Y _ _ _ _ h4
      have f2 : ¬ (j < na ∧ K j = -1) := fun e => m2 (zy.1.mpr e)
      rw [if_neg (fun e => m1 (z.mpr e)), if_neg f2, if_neg (fun e => m3 (zy.2.mpr ⟨e.1, fun e2 => f2 ⟨e.1, e2⟩, e.2⟩)), if_pos ⟨h1, h2⟩, ih w _ _ _ h4 n5 (by omega)]
      dsimp only at h3
      rw [h3]
    · obtain ⟨h1, h2, h3, h4, h5, h6, h7, h8, h9, h10, h11⟩ := h
      rw [if_neg (by omega), if_neg (by omega), if_neg (by omega), if_neg (by omega), if_pos h2, ih w _ _ _ h11 n5 (by omega)]
      dsimp only at h9
      rw [h9]
end
