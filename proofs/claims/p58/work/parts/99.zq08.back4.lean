/-! Two patches exchanged, and back again. -/
noncomputable section
theorem FLs_len : ∀ (T : List It) (j : Nat), vld T → (FLs T j).length = (slI kX T).length := by
  intro T
  induction T with
  | nil => intro _ _; rfl
  | cons q t ih =>
    intro j v
    obtain ⟨c, x⟩ := q
    have vq := v (c, x) List.mem_cons_self
    have vt : vld t := fun r hr => v r (List.mem_cons_of_mem _ hr)
    have hc : c = 1 ∨ c = 2 ∨ c = 3 ∨ c = 4 ∨ c = 5 := by dsimp only at vq; omega
    rcases hc with rfl | rfl | rfl | rfl | rfl
    · exact congrArg (fun n => n + 1) (ih j vt)
    · exact ih (j + 1) vt
    · exact congrArg (fun n => n + 1) (ih (j + 1) vt)
    · exact ih j vt
    · exact congrArg (fun n => n + 1) (ih (j + 1) vt)
theorem GLs_len : ∀ (T : List It) (k : Nat), vld T → (GLs T k).length = (slI kY T).length := by
  intro T
  induction T with
  | nil => intro _ _; rfl
  | cons q t ih =>
    intro k v
    obtain ⟨c, x⟩ := q
    have vq := v (c, x) List.mem_cons_self
    have vt : vld t := fun r hr => v r (List.mem_cons_of_mem _ hr)
    have hc : c = 1 ∨ c = 2 ∨ c = 3 ∨ c = 4 ∨ c = 5 := by dsimp only at vq; omega
    rcases hc with rfl | rfl | rfl | rfl | rfl
    · exact ih k vt
    · exact congrArg (fun n => n + 1) (ih (k + 1) vt)
    · exact congrArg (fun n => n + 1) (ih k vt)
    · exact ih (k + 1) vt
    · exact congrArg (fun n => n + 1) (ih (k + 1) vt)
theorem FLs_ge : ∀ (T : List It) (j : Nat) (v : Int), v ∈ FLs T j → v = -1 ∨ ((j : Nat) : Int) ≤ v := by
  intro T
  induction T with
  | nil => intro j v h; cases h
  | cons q t ih =>
    intro j v h
    unfold FLs at h
    split at h
    · rcases List.mem_cons.mp h with e | e
      · exact Or.inl e
      · exact ih j v e
    · split at h
      · have := ih (j + 1) v h
        omega
      · split at h
        · exact ih j v h
        · rcases List.mem_cons.mp h with e | e
          · omega
          · have := ih (j + 1) v e
            omega
theorem GLs_ge : ∀ (T : List It) (k : Nat) (v : Int), v ∈ GLs T k → v = -1 ∨ ((k : Nat) : Int) ≤ v := by
  intro T
  induction T with
  | nil => intro k v h; cases h
  | cons q t ih =>
    intro k v h
    unfold GLs at h
    split at h
    · rcases List.mem_cons.mp h with e | e
      · exact Or.inl e
      · exact ih k v e
    · split at h
      · have := ih (k + 1) v h
        omega
      · split at h
        · exact ih k v h
        · rcases List.mem_cons.mp h with e | e
          · omega
          · have := ih (k + 1) v e
            omega
/-- a list stands in a function from a place on -/
def atL (f : Nat → Int) (l : List Int) (i : Nat) : Prop := ∀ (x : Nat) (v : Int), l[x]? = some v → f (i + x) = v
theorem atL_c {f : Nat → Int} {l : List Int} {v : Int} {i : Nat} (h : atL f (v :: l) i) : f i = v ∧ atL f l (i + 1) := by
  refine ⟨h 0 v rfl, fun x u hu => ?_⟩
  have := h (x + 1) u (by rw [List.getElem?_cons_succ]; exact hu)
  rw [show i + (x + 1) = i + 1 + x by omega] at this
  exact this
theorem atL_k {f : Nat → Int} {l : List Int} {v : Int} {i : Nat} (h : f i = v) (h' : atL f l (i + 1)) : atL f (v :: l) i := by
  intro x u hu
  cases x with
  | zero =>
    rw [List.getElem?_cons_zero] at hu
    cases hu
    exact h
  | succ x =>
    rw [List.getElem?_cons_succ] at hu
    have := h' x u hu
    rw [show i + (x + 1) = i + 1 + x by omega]
    exact this
theorem atL_n {f : Nat → Int} {i : Nat} : atL f [] i := fun x v h => by cases h
def Agr (F G X Y Z : Nat → Int) (nb na nc : Nat) (T : List It) (i j k : Nat) : Prop := nb = i + (slI kX T).length ∧ na = j + (slI kY T).length ∧ nc = k + (slI kZ T).length ∧ atL F (FLs T j) i ∧ atL G (GLs T k) j ∧ atL X (slI kX T) i ∧ atL Y (slI kY T) j ∧ atL Z (slI kZ T) k
theorem Dat_rd {F K G L X Y Z : Nat → Int} {nb na nc : Nat} : ∀ (T : List It) (i j k : Nat), Dat F K G L X Y Z nb na nc T i j k → Agr F G X Y Z nb na nc T i j k := by
  intro T
  induction T with
  | nil =>
    intro i j k h
    obtain ⟨h1, h2, h3⟩ := h
    exact ⟨h1.symm, h2.symm, h3.symm, atL_n, atL_n, atL_n, atL_n, atL_n⟩
  | cons q t ih =>
    intro i j k h
    obtain ⟨c, v⟩ := q
    rcases h with ⟨e, h⟩ | ⟨e, h⟩ | ⟨e, h⟩ | ⟨e, h⟩ | ⟨e, h⟩ <;> dsimp only at e <;> subst e
    · obtain ⟨h1, h2, h3, h4⟩ := h
      obtain ⟨a1, a2, a3, a4, a5, a6, a7, a8⟩ := ih _ _ _ h4
      exact ⟨by show nb = i + ((slI kX t).length + 1); omega, a2, a3, atL_k h2 a4, a5, atL_k h3 a6, a7, a8⟩
    · obtain ⟨h1, h2, h3, h4, h5, h6, h7, h8⟩ := h
      obtain ⟨a1, a2, a3, a4, a5, a6, a7, a8⟩ := ih _ _ _ h8
      exact ⟨a1, by show na = j + ((slI kY t).length + 1); omega, by show nc = k + ((slI kZ t).length + 1); omega, a4, atL_k h4 a5, a6, atL_k h6 a7, atL_k h7 a8⟩
    · obtain ⟨h1, h2, h3, h4, h5, h6, h7, h8⟩ := h
      obtain ⟨a1, a2, a3, a4, a5, a6, a7, a8⟩ := ih _ _ _ h8
      exact ⟨by show nb = i + ((slI kX t).length + 1); omega, by show na = j + ((slI kY t).length + 1); omega, a3, atL_k h3 a4, atL_k h5 a5, atL_k h6 a6, atL_k h7 a7, a8⟩
    · obtain ⟨h1, h2, h3, h4⟩ := h
      obtain ⟨a1, a2, a3, a4, a5, a6, a7, a8⟩ := ih _ _ _ h4
      exact ⟨a1, a2, by show nc = k + ((slI kZ t).length + 1); omega, a4, a5, a6, a7, atL_k h3 a8⟩
    · obtain ⟨h1, h2, h3, h4, h5, h6, h7, h8, h9, h10, h11⟩ := h
      obtain ⟨a1, a2, a3, a4, a5, a6, a7, a8⟩ := ih _ _ _ h11
      exact ⟨by show nb = i + ((slI kX t).length + 1); omega, by show na = j + ((slI kY t).length + 1); omega, by show nc = k + ((slI kZ t).length + 1); omega, atL_k h4 a4, atL_k h6 a5, atL_k h8 a6, atL_k h9 a7, atL_k h10 a8⟩
def Inw (F K : Nat → Int) (nb na i j : Nat) : Prop := (∀ y : Nat, j ≤ y → y < na → K y = -1 ∨ ∃ x : Nat, i ≤ x ∧ x < nb ∧ K y = (x : Nat) ∧ F x = (y : Nat)) ∧ ∀ x : Nat, i ≤ x → x < nb → ¬ F x = -1 → K (F x).toNat = (x : Nat)
theorem Inw_1 {F K : Nat → Int} {nb na i j : Nat} (h : Inw F K nb na i j) (e : F i = -1) : Inw F K nb na (i + 1) j := by
  refine ⟨fun y h1 h2 => ?_, fun x h1 h2 h3 => h.2 x (by omega) h2 h3⟩
  rcases h.1 y h1 h2 with a | ⟨x, a, b, c, d⟩
  · exact Or.inl a
  · refine Or.inr ⟨x, ?_, b, c, d⟩
    by_cases z : x = i
    · rw [z] at d
      omega
    · omega
theorem Inw_2 {F K : Nat → Int} {nb na i j : Nat} (h : Inw F K nb na i j) : Inw F K nb na i (j + 1) := ⟨fun y h1 h2 => h.1 y (by omega) h2, h.2⟩
theorem Inw_5 {F K : Nat → Int} {nb na i j : Nat} (h : Inw F K nb na i j) (e : F i = (j : Nat)) : Inw F K nb na (i + 1) (j + 1) := by
  refine ⟨fun y h1 h2 => ?_, fun x h1 h2 h3 => h.2 x (by omega) h2 h3⟩
  rcases h.1 y (by omega) h2 with a | ⟨x, a, b, c, d⟩
  · exact Or.inl a
  · refine Or.inr ⟨x, ?_, b, c, d⟩
    by_cases z : x = i
    · rw [z] at d
      omega
    · omega
theorem Inw_n {F K : Nat → Int} {nb na i j : Nat} {l : List Int} (h : Inw F K nb na i j) (hj : j < na) (hF : atL F l i) (hn : nb = i + l.length) (hl : ∀ v, v ∈ l → v = -1 ∨ ((j + 1 : Nat) : Int) ≤ v) : K j = -1 := by
  rcases h.1 j (Nat.le_refl _) hj with a | ⟨x, a, b, c, d⟩
  · exact a
  · have e := List.getElem?_eq_getElem (show x - i < l.length by omega)
    have f := hF (x - i) _ e
    rw [show i + (x - i) = x by omega, d] at f
    have g := hl _ (List.mem_of_getElem? e)
    omega
theorem Inw_k {F K : Nat → Int} {nb na i j : Nat} (h : Inw F K nb na i j) (hi : i < nb) (e : F i = (j : Nat)) : K j = (i : Nat) := by
  have := h.2 i (Nat.le_refl _) hi (by omega)
  rw [e, show (((j : Nat) : Int)).toNat = j by omega] at this
  exact this
theorem Dat_of {F K G L X Y Z : Nat → Int} {nb na nc : Nat} : ∀ (T : List It) (i j k : Nat), vld T → Agr F G X Y Z nb na nc T i j k → Inw F K nb na i j → Inw G L na nc j k → Dat F K G L X Y Z nb na nc T i j k := by
  intro T
  induction T with
  | nil =>
    intro i j k _ h _ _
    exact ⟨h.1.symm, h.2.1.symm, h.2.2.1.symm⟩
  | cons q t ih =>
    intro i j k v h A B
    obtain ⟨c, u⟩ := q
    have vq := v (c, u) List.mem_cons_self
    have vt : vld t := fun r hr => v r (List.mem_cons_of_mem _ hr)
    obtain ⟨h1, h2, h3, h4, h5, h6, h7, h8⟩ := h
    have hc : c = 1 ∨ c = 2 ∨ c = 3 ∨ c = 4 ∨ c = 5 := by dsimp only at vq; omega
    rcases hc with rfl | rfl | rfl | rfl | rfl
    · have h1 : nb = i + ((slI kX t).length + 1) := h1
      obtain ⟨f1, f2⟩ := atL_c (show atL F (-1 :: FLs t j) i from h4)
      obtain ⟨x1, x2⟩ := atL_c (show atL X (u :: slI kX t) i from h6)
      exact Or.inl ⟨rfl, by omega, f1, x1, ih _ _ _ vt ⟨by omega, h2, h3, f2, h5, x2, h7, h8⟩ (Inw_1 A f1) B⟩
    · have h2 : na = j + ((slI kY t).length + 1) := h2
      have h3 : nc = k + ((slI kZ t).length + 1) := h3
      obtain ⟨g1, g2⟩ := atL_c (show atL G ((k : Int) :: GLs t (k + 1)) j from h5)
      obtain ⟨y1, y2⟩ := atL_c (show atL Y (u :: slI kY t) j from h7)
      obtain ⟨z1, z2⟩ := atL_c (show atL Z (u :: slI kZ t) k from h8)
      have h4 : atL F (FLs t (j + 1)) i := h4
      have kj : K j = -1 := Inw_n A (by omega) h4 (by rw [FLs_len t _ vt]; exact h1) (FLs_ge t (j + 1))
      exact Or.inr (Or.inl ⟨rfl, by omega, by omega, kj, g1, Inw_k B (by omega) g1, y1, z1, ih _ _ _ vt ⟨h1, by omega, by omega, h4, g2, h6, y2, z2⟩ (Inw_2 A) (Inw_5 B g1)⟩)
    · have h1 : nb = i + ((slI kX t).length + 1) := h1
      have h2 : na = j + ((slI kY t).length + 1) := h2
      obtain ⟨f1, f2⟩ := atL_c (show atL F ((j : Int) :: FLs t (j + 1)) i from h4)
      obtain ⟨g1, g2⟩ := atL_c (show atL G (-1 :: GLs t k) j from h5)
      obtain ⟨x1, x2⟩ := atL_c (show atL X (u :: slI kX t) i from h6)
      obtain ⟨y1, y2⟩ := atL_c (show atL Y (u :: slI kY t) j from h7)
      exact Or.inr (Or.inr (Or.inl ⟨rfl, by omega, by omega, f1, Inw_k A (by omega) f1, g1, x1, y1, ih _ _ _ vt ⟨by omega, by omega, h3, f2, g2, x2, y2, h8⟩ (Inw_5 A f1) (Inw_1 B g1)⟩))
    · have h3 : nc = k + ((slI kZ t).length + 1) := h3
      obtain ⟨z1, z2⟩ := atL_c (show atL Z (u :: slI kZ t) k from h8)
      have h5 : atL G (GLs t (k + 1)) j := h5
      have lk : L k = -1 := Inw_n B (by omega) h5 (by rw [GLs_len t _ vt]; exact h2) (GLs_ge t (k + 1))
      exact Or.inr (Or.inr (Or.inr (Or.inl ⟨rfl, by omega, lk, z1, ih _ _ _ vt ⟨h1, h2, by omega, h4, h5, h6, h7, z2⟩ A (Inw_2 B)⟩)))
    · have h1 : nb = i + ((slI kX t).length + 1) := h1
      have h2 : na = j + ((slI kY t).length + 1) := h2
      have h3 : nc = k + ((slI kZ t).length + 1) := h3
      obtain ⟨f1, f2⟩ := atL_c (show atL F ((j : Int) :: FLs t (j + 1)) i from h4)
      obtain ⟨g1, g2⟩ := atL_c (show atL G ((k : Int) :: GLs t (k + 1)) j from h5)
      obtain ⟨x1, x2⟩ := atL_c (show atL X (u :: slI kX t) i from h6)
      obtain ⟨y1, y2⟩ := atL_c (show atL Y (u :: slI kY t) j from h7)
      obtain ⟨z1, z2⟩ := atL_c (show atL Z (u :: slI kZ t) k from h8)
      exact Or.inr (Or.inr (Or.inr (Or.inr ⟨rfl, by omega, by omega, by omega, f1, Inw_k A (by omega) f1, g1, Inw_k B (by omega) g1, x1, y1, z1, ih _ _ _ vt ⟨by omega, by omega, by omega, f2, g2, x2, y2, z2⟩ (Inw_5 A f1) (Inw_5 B g1)⟩)))
theorem Inw_0 {F K : Nat → Int} {nb na : Nat} (I : IV F K nb na) : Inw F K nb na 0 0 := by
  refine ⟨fun y _ h2 => ?_, fun x _ h2 h3 => I.2 x h2 h3⟩
  rcases I.1 y h2 with e | ⟨e1, e2, e3⟩
  · exact Or.inl e
  · exact Or.inr ⟨(K y).toNat, Nat.zero_le _, by omega, by omega, e3⟩
theorem FRT_0 {F : Nat → Int} {nb na : Nat} (V : VF F nb na) : FRT F nb 0 0 := by
  refine ⟨fun x h => absurd h (Nat.not_lt_zero _), fun x _ h => ?_⟩
  have := V.1 x h
  omega
theorem duS_X : ∀ t : List It, vld t → slI kX (duS t) = slI kX t ∧ slI kZ (duS t) = slI kZ t ∧ vld (duS t) ∧ duS (duS t) = t ∧ t.length ≤ (slI kX t).length + (slI kZ t).length := by
  intro t
  induction t with
  | nil => intro _; exact ⟨rfl, rfl, (fun q hq => by cases hq), rfl, Nat.le_refl _⟩
  | cons q t ih =>
    intro v
    obtain ⟨c, x⟩ := q
    have vq := v (c, x) List.mem_cons_self
    have vt : vld t := fun r hr => v r (List.mem_cons_of_mem _ hr)
    obtain ⟨i1, i2, i3, i4, i5⟩ := ih vt
    have hc : c = 1 ∨ c = 2 ∨ c = 3 ∨ c = 4 ∨ c = 5 := by dsimp only at vq; omega
    have vc : ∀ {d : Nat}, 1 ≤ d ∧ d ≤ 5 → vld ((d, x) :: duS t) := fun hd r hr => by
      rcases List.mem_cons.mp hr with e | e
      · rw [e]; exact hd
      · exact i3 r e
    rcases hc with rfl | rfl | rfl | rfl | rfl
    · exact ⟨congrArg (fun l => x :: l) i1, i2, vc (d := 3) (show 1 ≤ 3 ∧ 3 ≤ 5 by decide), congrArg (fun l => (1, x) :: l) i4, by show t.length + 1 ≤ ((slI kX t).length + 1) + (slI kZ t).length; omega⟩
    · exact ⟨i1, congrArg (fun l => x :: l) i2, vc (d := 4) (show 1 ≤ 4 ∧ 4 ≤ 5 by decide), congrArg (fun l => (2, x) :: l) i4, by show t.length + 1 ≤ (slI kX t).length + ((slI kZ t).length + 1); omega⟩
    · exact ⟨congrArg (fun l => x :: l) i1, i2, vc (d := 1) (show 1 ≤ 1 ∧ 1 ≤ 5 by decide), congrArg (fun l => (3, x) :: l) i4, by show t.length + 1 ≤ ((slI kX t).length + 1) + (slI kZ t).length; omega⟩
    · exact ⟨i1, congrArg (fun l => x :: l) i2, vc (d := 2) (show 1 ≤ 2 ∧ 2 ≤ 5 by decide), congrArg (fun l => (4, x) :: l) i4, by show t.length + 1 ≤ (slI kX t).length + ((slI kZ t).length + 1); omega⟩
    · exact ⟨congrArg (fun l => x :: l) i1, congrArg (fun l => x :: l) i2, vc (d := 5) (show 1 ≤ 5 ∧ 5 ≤ 5 by decide), congrArg (fun l => (5, x) :: l) i4, by show t.length + 1 ≤ ((slI kX t).length + 1) + ((slI kZ t).length + 1); omega⟩
theorem gv_atL {l : List Int} : atL (gv l) l 0 := by
  intro x v h
  rw [Nat.zero_add]
  unfold gv
  rw [h]
  rfl
/-- exchanged twice, two patches that do not touch are what they were -/
theorem mv_back {F K G L X Y Z K' L' : Nat → Int} {nb na nc w : Nat} {b M f a g : List Int} (V : VF F nb na) (I : IV F K nb na) (V' : VF G na nc) (I' : IV G L na nc) (E : EQL X Y F nb) (E' : EQL Y Z G na) (NT : ¬ TCH (hks F nb na) (hks G na nc)) (r : mvW F K G L X Y Z nb na nc (nb + na + nc) 0 0 0 [] [] [] [] [] = (b, M, f, a, g)) (IK : IV (gv f) K' nb M.length) (IL : IV (gv g) L' M.length nc) (hw : nb + nc ≤ w) : ∃ b2 M2 f2 a2 g2, mvW (gv f) K' (gv g) L' X (gv M) Z nb M.length nc w 0 0 0 [] [] [] [] [] = (b2, M2, f2, a2, g2) ∧ b2.length = nb ∧ M2.length = na ∧ f2.length = nb ∧ a2.length = nc ∧ g2.length = na ∧ atL X b2 0 ∧ atL Y M2 0 ∧ atL F f2 0 ∧ atL Z a2 0 ∧ atL G g2 0 := by
  obtain ⟨S, hS⟩ : ∃ S, S = mvS F K G L X Y Z nb na nc (nb + na + nc) 0 0 0 := ⟨_, rfl⟩
  obtain ⟨o1, o2, o3, o4, -, -⟩ := mvS_ok V I V' I' E E' NT (nb + na + nc) 0 0 0 (by omega) (Nat.zero_le _) (Nat.zero_le _) (Nat.zero_le _) (FRT_0 V) (FRT_0 V')
  rw [← hS] at o1 o2 o3 o4
  have rd := Dat_rd _ _ _ _ o1
  obtain ⟨d1, d2, d3, d4, d5⟩ := duS_X S o4
  have e := mvW_S (F := F) (K := K) (G := G) (L := L) (X := X) (Y := Y) (Z := Z) (nb := nb) (na := na) (nc := nc) (nb + na + nc) 0 0 0 [] [] [] [] []
  rw [r, ← hS] at e
  simp only [List.nil_append, Prod.mk.injEq, List.length_nil] at e
  obtain ⟨e1, e2, e3, e4, e5⟩ := e
  obtain ⟨a1, a2, a3, a4, a5, a6, a7, a8⟩ := rd
  have D2 : Dat (gv f) K' (gv g) L' X (gv M) Z nb M.length nc (duS S) 0 0 0 := by
    refine Dat_of _ _ _ _ d3 ⟨by rw [d1]; exact a1, by rw [e2, Nat.zero_add], by rw [d2]; exact a3, by rw [← e3]; exact gv_atL, by rw [← e5]; exact gv_atL, by rw [d1]; exact a6, by rw [← e2]; exact gv_atL, by rw [d2]; exact a8⟩ (Inw_0 IK) (Inw_0 IL)
  have s2 := mvS_of _ w 0 0 0 D2 (nrm_du S o4 o2 o3) (by
    have : (duS S).length = S.length := List.length_map _
    omega)
  have e' := mvW_S (F := gv f) (K := K') (G := gv g) (L := L') (X := X) (Y := gv M) (Z := Z) (nb := nb) (na := M.length) (nc := nc) w 0 0 0 [] [] [] [] []
  rw [s2, d4] at e'
  refine ⟨_, _, _, _, _, e', ?_, ?_, ?_, ?_, ?_, ?_, ?_, ?_, ?_, ?_⟩
  · rw [List.nil_append]; omega
  · rw [List.nil_append]; omega
  · rw [List.nil_append, FLs_len S _ o4]; omega
  · rw [List.nil_append]; omega
  · rw [List.nil_append, GLs_len S _ o4]; omega
  · rw [List.nil_append]; exact a6
  · rw [List.nil_append]; exact a7
  · rw [List.nil_append]; exact a4
  · rw [List.nil_append]; exact a8
  · rw [List.nil_append]; exact a5
end
