-- DRAFT b1run.lean
/-! Two patches exchanged: as many hunks, and they do not touch. -/
noncomputable section
def addD (i j : Nat) : List St → List St
  | [] => [(i, 1, j, 0)]
  | q :: t => if q.1 = i + 1 ∧ q.2.2.1 = j then (i, q.2.1 + 1, j, q.2.2.2) :: t else (i, 1, j, 0) :: q :: t
def addA (i j : Nat) : List St → List St
  | [] => [(i, 0, j, 1)]
  | q :: t => if q.1 = i ∧ q.2.2.1 = j + 1 then (i, q.2.1, j, q.2.2.2 + 1) :: t else (i, 0, j, 1) :: q :: t
theorem addD_c {i j : Nat} {q : St} {t : List St} : addD i j (q :: t) = if q.1 = i + 1 ∧ q.2.2.1 = j then (i, q.2.1 + 1, j, q.2.2.2) :: t else (i, 1, j, 0) :: q :: t := rfl
theorem addA_c {i j : Nat} {q : St} {t : List St} : addA i j (q :: t) = if q.1 = i ∧ q.2.2.1 = j + 1 then (i, q.2.1, j, q.2.2.2 + 1) :: t else (i, 0, j, 1) :: q :: t := rfl
def hsP : List It → Nat → Nat → List St
  | [], _, _ => []
  | q :: t, i, j => if q.1 = 1 then addD i j (hsP t (i + 1) j) else if q.1 = 2 then addA i j (hsP t i (j + 1)) else if q.1 = 4 then hsP t i j else hsP t (i + 1) (j + 1)
def hsQ : List It → Nat → Nat → List St
  | [], _, _ => []
  | q :: t, j, k => if q.1 = 3 then addD j k (hsQ t (j + 1) k) else if q.1 = 4 then addA j k (hsQ t j (k + 1)) else if q.1 = 1 then hsQ t j k else hsQ t (j + 1) (k + 1)
def stt (l : List St) (i j : Nat) : Prop := match l with
  | [] => False
  | q :: _ => q.1 = i ∧ q.2.2.1 = j
theorem DS_addD {F : Nat → Int} {nb na : Nat} {l : List St} {i j : Nat} (h : DS F nb na l (i + 1) j 0) (hf : F i = -1) : DS F nb na (addD i j l) i j 0 := by
  have f0 : ∀ x, i ≤ x → x < i + 1 → F x = -1 := fun x h1 h2 => by rw [show x = i by omega]; exact hf
  cases l with
  | nil => exact ⟨Nat.le_refl _, by show j = j + (i - i); omega, fun x h1 h2 => by have h2 : x < i := h2; omega, f0, by show 0 < 1 + 0; omega, h⟩
  | cons q t =>
    have h0 := h
    obtain ⟨D1, D2, D3, D4, D5, D6⟩ := h
    rw [addD_c]
    by_cases hq : q.1 = i + 1 ∧ q.2.2.1 = j
    · rw [if_pos hq]
      obtain ⟨e1, e2⟩ := hq
      refine ⟨Nat.le_refl _, by show j = j + (i - i); omega, fun x h1 h2 => by have h2 : x < i := h2; omega, fun x h1 h2 => ?_, by show 0 < q.2.1 + 1 + q.2.2.2; omega, ?_⟩
      · have h1 : i ≤ x := h1
        have h2 : x < i + (q.2.1 + 1) := h2
        by_cases hx : x = i
        · rw [hx]; exact hf
        · exact D4 x (by omega) (by omega)
      · show DS F nb na t (i + (q.2.1 + 1)) (j + q.2.2.2) 1
        rw [show i + (q.2.1 + 1) = q.1 + q.2.1 by omega, ← e2]
        exact D6
    · rw [if_neg hq]
      refine ⟨Nat.le_refl _, by show j = j + (i - i); omega, fun x h1 h2 => by have h2 : x < i := h2; omega, f0, by show 0 < 1 + 0; omega, ?_⟩
      show DS F nb na (q :: t) (i + 1) (j + 0) 1
      exact ⟨by omega, h0.2⟩
theorem DS_addA {F : Nat → Int} {nb na : Nat} {l : List St} {i j : Nat} (h : DS F nb na l i (j + 1) 0) : DS F nb na (addA i j l) i j 0 := by
  cases l with
  | nil => exact ⟨Nat.le_refl _, by show j = j + (i - i); omega, fun x h1 h2 => by have h2 : x < i := h2; omega, fun x h1 h2 => by have h1 : i ≤ x := h1; have h2 : x < i + 0 := h2; omega, by show 0 < 0 + 1; omega, h⟩
  | cons q t =>
    have h0 := h
    obtain ⟨D1, D2, D3, D4, D5, D6⟩ := h
    rw [addA_c]
    by_cases hq : q.1 = i ∧ q.2.2.1 = j + 1
    · rw [if_pos hq]
      obtain ⟨e1, e2⟩ := hq
      refine ⟨Nat.le_refl _, by show j = j + (i - i); omega, fun x h1 h2 => by have h2 : x < i := h2; omega, fun x h1 h2 => ?_, by show 0 < q.2.1 + (q.2.2.2 + 1); omega, ?_⟩
      · have h1 : i ≤ x := h1
        have h2 : x < i + q.2.1 := h2
        exact D4 x (by omega) (by omega)
      · show DS F nb na t (i + q.2.1) (j + (q.2.2.2 + 1)) 1
        rw [← e1, show j + (q.2.2.2 + 1) = q.2.2.1 + q.2.2.2 by omega]
        exact D6
    · rw [if_neg hq]
      refine ⟨Nat.le_refl _, by show j = j + (i - i); omega, fun x h1 h2 => by have h2 : x < i := h2; omega, fun x h1 h2 => by have h1 : i ≤ x := h1; have h2 : x < i + 0 := h2; omega, by show 0 < 0 + 1; omega, ?_⟩
      show DS F nb na (q :: t) (i + 0) (j + 1) 1
      exact ⟨by omega, h0.2⟩
theorem hs_ok {F K G L X Y Z : Nat → Int} {nb na nc : Nat} : ∀ (T : List It) (i j k : Nat), Dat F K G L X Y Z nb na nc T i j k → DS F nb na (hsP T i j) i j 0 ∧ DS G na nc (hsQ T j k) j k 0 := by
  intro T
  induction T with
  | nil =>
    intro i j k h
    obtain ⟨rfl, rfl, rfl⟩ := h
    exact ⟨⟨Nat.le_refl _, Nat.le_refl _, by omega, fun x h1 h2 => by omega⟩, ⟨Nat.le_refl _, Nat.le_refl _, by omega, fun x h1 h2 => by omega⟩⟩
  | cons q t ih =>
    intro i j k h
    obtain ⟨c, v⟩ := q
    rcases h with ⟨hc, h1, h2, -, h⟩ | ⟨hc, h1, h2, h3, h4, h5, -, -, h⟩ | ⟨hc, h1, h2, h3, h4, h5, -, -, h⟩ | ⟨hc, h1, h2, -, h⟩ | ⟨hc, h1, h2, h3, h4, h5, h6, h7, -, -, -, h⟩
    · have hc : c = 1 := hc
      subst hc
      exact ⟨DS_addD (ih _ _ _ h).1 h2, (ih _ _ _ h).2⟩
    · have hc : c = 2 := hc
      subst hc
      exact ⟨DS_addA (ih _ _ _ h).1, DS_w (Nat.zero_le _) (DS_ext (ih _ _ _ h).2 h4)⟩
    · have hc : c = 3 := hc
      subst hc
      exact ⟨DS_w (Nat.zero_le _) (DS_ext (ih _ _ _ h).1 h3), DS_addD (ih _ _ _ h).2 h5⟩
    · have hc : c = 4 := hc
      subst hc
      exact ⟨(ih _ _ _ h).1, DS_addA (ih _ _ _ h).2⟩
    · have hc : c = 5 := hc
      subst hc
      exact ⟨DS_w (Nat.zero_le _) (DS_ext (ih _ _ _ h).1 h4), DS_w (Nat.zero_le _) (DS_ext (ih _ _ _ h).2 h6)⟩
/-- what a hunk with one line more is -/
theorem addD_in {i j : Nat} {l : List St} {q : St} (h : q ∈ addD i j l) : q ∈ l ∨ (q.1 = i ∧ q.2.2.1 = j ∧ ((q.2.1 = 1 ∧ q.2.2.2 = 0 ∧ ¬ stt l (i + 1) j) ∨ ∃ p, p ∈ l ∧ p.1 = i + 1 ∧ p.2.2.1 = j ∧ q.2.1 = p.2.1 + 1 ∧ q.2.2.2 = p.2.2.2)) := by
  cases l with
  | nil =>
    have h : q ∈ [((i, 1, j, 0) : St)] := h
    rw [List.mem_singleton] at h
    subst h
    exact Or.inr ⟨rfl, rfl, Or.inl ⟨rfl, rfl, fun h => h⟩⟩
  | cons p t =>
    rw [addD_c] at h
    by_cases hp : p.1 = i + 1 ∧ p.2.2.1 = j
    · rw [if_pos hp] at h
      rcases List.mem_cons.mp h with h | h
      · subst h
        exact Or.inr ⟨rfl, rfl, Or.inr ⟨p, List.mem_cons_self, hp.1, hp.2, rfl, rfl⟩⟩
      · exact Or.inl (List.mem_cons_of_mem _ h)
    · rw [if_neg hp] at h
      rcases List.mem_cons.mp h with h | h
      · subst h
        exact Or.inr ⟨rfl, rfl, Or.inl ⟨rfl, rfl, fun h => hp h⟩⟩
      · exact Or.inl h
theorem addA_in {i j : Nat} {l : List St} {q : St} (h : q ∈ addA i j l) : q ∈ l ∨ (q.1 = i ∧ q.2.2.1 = j ∧ ((q.2.1 = 0 ∧ q.2.2.2 = 1 ∧ ¬ stt l i (j + 1)) ∨ ∃ p, p ∈ l ∧ p.1 = i ∧ p.2.2.1 = j + 1 ∧ q.2.1 = p.2.1 ∧ q.2.2.2 = p.2.2.2 + 1)) := by
  cases l with
  | nil =>
    have h : q ∈ [((i, 0, j, 1) : St)] := h
    rw [List.mem_singleton] at h
    subst h
    exact Or.inr ⟨rfl, rfl, Or.inl ⟨rfl, rfl, fun h => h⟩⟩
  | cons p t =>
    rw [addA_c] at h
    by_cases hp : p.1 = i ∧ p.2.2.1 = j + 1
    · rw [if_pos hp] at h
      rcases List.mem_cons.mp h with h | h
      · subst h
        exact Or.inr ⟨rfl, rfl, Or.inr ⟨p, List.mem_cons_self, hp.1, hp.2, rfl, rfl⟩⟩
      · exact Or.inl (List.mem_cons_of_mem _ h)
    · rw [if_neg hp] at h
      rcases List.mem_cons.mp h with h | h
      · subst h
        exact Or.inr ⟨rfl, rfl, Or.inl ⟨rfl, rfl, fun h => hp h⟩⟩
      · exact Or.inl h
theorem addD_st {i j : Nat} {l : List St} : stt (addD i j l) i j ∧ ((stt l (i + 1) j ∧ (addD i j l).length = l.length) ∨ (¬ stt l (i + 1) j ∧ (addD i j l).length = l.length + 1)) := by
  cases l with
  | nil => exact ⟨⟨rfl, rfl⟩, Or.inr ⟨fun h => h, rfl⟩⟩
  | cons p t =>
    rw [addD_c]
    by_cases hp : p.1 = i + 1 ∧ p.2.2.1 = j
    · rw [if_pos hp]
      exact ⟨⟨rfl, rfl⟩, Or.inl ⟨hp, rfl⟩⟩
    · rw [if_neg hp]
      exact ⟨⟨rfl, rfl⟩, Or.inr ⟨fun h => hp h, rfl⟩⟩
theorem addA_st {i j : Nat} {l : List St} : stt (addA i j l) i j ∧ ((stt l i (j + 1) ∧ (addA i j l).length = l.length) ∨ (¬ stt l i (j + 1) ∧ (addA i j l).length = l.length + 1)) := by
  cases l with
  | nil => exact ⟨⟨rfl, rfl⟩, Or.inr ⟨fun h => h, rfl⟩⟩
  | cons p t =>
    rw [addA_c]
    by_cases hp : p.1 = i ∧ p.2.2.1 = j + 1
    · rw [if_pos hp]
      exact ⟨⟨rfl, rfl⟩, Or.inl ⟨hp, rfl⟩⟩
    · rw [if_neg hp]
      exact ⟨⟨rfl, rfl⟩, Or.inr ⟨fun h => hp h, rfl⟩⟩
theorem vld_c {q : It} {t : List It} (h : vld (q :: t)) : (q.1 = 1 ∨ q.1 = 2 ∨ q.1 = 3 ∨ q.1 = 4 ∨ q.1 = 5) ∧ vld t := ⟨by have := h q List.mem_cons_self; omega, fun r hr => h r (List.mem_cons_of_mem _ hr)⟩
theorem hs_b : ∀ (T : List It), vld T → (∀ i j : Nat, ∀ q, q ∈ hsP T i j → i ≤ q.1 ∧ j ≤ q.2.2.1) ∧ ∀ j k : Nat, ∀ q, q ∈ hsQ T j k → j ≤ q.1 ∧ k ≤ q.2.2.1 := by
  intro T
  induction T with
  | nil => intro _; exact ⟨fun i j q hq => absurd hq List.not_mem_nil, fun j k q hq => absurd hq List.not_mem_nil⟩
  | cons q0 t ih =>
    intro v
    obtain ⟨hc, vt⟩ := vld_c v
    obtain ⟨i1, i2⟩ := ih vt
    obtain ⟨c, x⟩ := q0
    have hc : c = 1 ∨ c = 2 ∨ c = 3 ∨ c = 4 ∨ c = 5 := hc
    rcases hc with rfl | rfl | rfl | rfl | rfl
    · refine ⟨fun i j q hq => ?_, fun j k q hq => i2 j k q hq⟩
      rcases addD_in (l := hsP t (i + 1) j) hq with h | ⟨h1, h2, -⟩
      · have := i1 _ _ q h; omega
      · omega
    · refine ⟨fun i j q hq => ?_, fun j k q hq => ?_⟩
      · rcases addA_in (l := hsP t i (j + 1)) hq with h | ⟨h1, h2, -⟩
        · have := i1 _ _ q h; omega
        · omega
      · have := i2 (j + 1) (k + 1) q hq; omega
    · refine ⟨fun i j q hq => ?_, fun j k q hq => ?_⟩
      · have := i1 (i + 1) (j + 1) q hq; omega
      · rcases addD_in (l := hsQ t (j + 1) k) hq with h | ⟨h1, h2, -⟩
        · have := i2 _ _ q h; omega
        · omega
    · refine ⟨fun i j q hq => i1 i j q hq, fun j k q hq => ?_⟩
      rcases addA_in (l := hsQ t j (k + 1)) hq with h | ⟨h1, h2, -⟩
      · have := i2 _ _ q h; omega
      · omega
    · refine ⟨fun i j q hq => ?_, fun j k q hq => ?_⟩
      · have := i1 (i + 1) (j + 1) q hq; omega
      · have := i2 (j + 1) (k + 1) q hq; omega
theorem stt_no {l : List St} {i j i' j' : Nat} (h : ∀ q, q ∈ l → i' ≤ q.1 ∧ j' ≤ q.2.2.1) (hi : i < i' ∨ j < j') : ¬ stt l i j := by
  cases l with
  | nil => exact fun h => h
  | cons q t =>
    intro hs
    have h0 := h q List.mem_cons_self
    have h1 : q.1 = i ∧ q.2.2.1 = j := hs
    omega
theorem hs_no : ∀ (T : List It), vld T → NAc T → (¬ hdC isPc T → ∀ i j : Nat, ¬ stt (hsP T i j) i j) ∧ (¬ hdC isQc T → ∀ j k : Nat, ¬ stt (hsQ T j k) j k) := by
  intro T
  induction T with
  | nil => intro _ _; exact ⟨fun _ i j h => h, fun _ i j h => h⟩
  | cons q0 t ih =>
    intro v n
    obtain ⟨hc, vt⟩ := vld_c v
    obtain ⟨n1, n2, n3⟩ := n
    obtain ⟨i1, i2⟩ := ih vt n3
    obtain ⟨b1, b2⟩ := hs_b t vt
    obtain ⟨c, x⟩ := q0
    have hc : c = 1 ∨ c = 2 ∨ c = 3 ∨ c = 4 ∨ c = 5 := hc
    rcases hc with rfl | rfl | rfl | rfl | rfl
    · refine ⟨fun h => absurd (Or.inl rfl) h, fun _ j k => i2 (fun h => n1 ⟨Or.inl rfl, h⟩) j k⟩
    · refine ⟨fun h => absurd (Or.inr rfl) h, fun _ j k => ?_⟩
      exact stt_no (l := hsQ t (j + 1) (k + 1)) (b2 (j + 1) (k + 1)) (Or.inl (by omega))
    · refine ⟨fun _ i j => ?_, fun h => absurd (Or.inl rfl) h⟩
      exact stt_no (l := hsP t (i + 1) (j + 1)) (b1 (i + 1) (j + 1)) (Or.inl (by omega))
    · exact ⟨fun _ i j => i1 (fun h => n2 ⟨Or.inr rfl, h⟩) i j, fun h => absurd (Or.inr rfl) h⟩
    · exact ⟨fun _ i j => stt_no (l := hsP t (i + 1) (j + 1)) (b1 (i + 1) (j + 1)) (Or.inl (by omega)), fun _ j k => stt_no (l := hsQ t (j + 1) (k + 1)) (b2 (j + 1) (k + 1)) (Or.inl (by omega))⟩
theorem hd_du : ∀ t : List It, vld t → (hdC isPc t ↔ hdC isQc (duS t)) ∧ (hdC isQc t ↔ hdC isPc (duS t)) := by
  intro t v
  cases t with
  | nil => exact ⟨Iff.rfl, Iff.rfl⟩
  | cons q t =>
    obtain ⟨hc, -⟩ := vld_c v
    obtain ⟨c, x⟩ := q
    have hc : c = 1 ∨ c = 2 ∨ c = 3 ∨ c = 4 ∨ c = 5 := hc
    show ((c = 1 ∨ c = 2) ↔ (du c = 3 ∨ du c = 4)) ∧ ((c = 3 ∨ c = 4) ↔ (du c = 1 ∨ du c = 2))
    rcases hc with rfl | rfl | rfl | rfl | rfl <;> decide
theorem NAc_du : ∀ t : List It, vld t → NAc t → NAc (duS t) := by
  intro t
  induction t with
  | nil => intro _ _; trivial
  | cons q t ih =>
    intro v n
    obtain ⟨hc, vt⟩ := vld_c v
    obtain ⟨n1, n2, n3⟩ := n
    obtain ⟨d1, d2⟩ := hd_du t vt
    have e := hd_du (q :: t) v
    obtain ⟨e1, e2⟩ := e
    have e1 : isPc q.1 ↔ isQc (du q.1) := e1
    have e2 : isQc q.1 ↔ isPc (du q.1) := e2
    exact ⟨fun h => n2 ⟨e2.mpr h.1, d1.mpr h.2⟩, fun h => n1 ⟨e1.mpr h.1, d2.mpr h.2⟩, ih vt n3⟩
/-- as many hunks -/
theorem runs : ∀ T : List It, vld T → NAc T → ∀ i j j' k' : Nat, (hsP T i j).length = (hsQ (duS T) j' k').length ∧ (stt (hsP T i j) i j ↔ stt (hsQ (duS T) j' k') j' k') := by
  intro T
  induction T with
  | nil => intro _ _ i j j' k'; exact ⟨rfl, Iff.rfl⟩
  | cons q0 t ih =>
    intro v n i j j' k'
    obtain ⟨hc, vt⟩ := vld_c v
    have n0 := n
    obtain ⟨n1, n2, n3⟩ := n
    have ih := ih vt n3
    obtain ⟨b1, b2⟩ := hs_b t vt
    have vd := (duS_X t vt).2.2.1
    obtain ⟨b3, b4⟩ := hs_b (duS t) vd
    have nd := NAc_du t vt n3
    obtain ⟨s1, s2⟩ := hs_no t vt n3
    obtain ⟨s3, s4⟩ := hs_no (duS t) vd nd
    obtain ⟨h1, h2⟩ := hd_du t vt
    obtain ⟨c, x⟩ := q0
    have hc : c = 1 ∨ c = 2 ∨ c = 3 ∨ c = 4 ∨ c = 5 := hc
    rcases hc with rfl | rfl | rfl | rfl | rfl
    · obtain ⟨u1, u2⟩ := addD_st (i := i) (j := j) (l := hsP t (i + 1) j)
      obtain ⟨w1, w2⟩ := addD_st (i := j') (j := k') (l := hsQ (duS t) (j' + 1) k')
      obtain ⟨l1, l2⟩ := ih (i + 1) j (j' + 1) k'
      show (addD i j (hsP t (i + 1) j)).length = (addD j' k' (hsQ (duS t) (j' + 1) k')).length ∧ (stt (addD i j (hsP t (i + 1) j)) i j ↔ stt (addD j' k' (hsQ (duS t) (j' + 1) k')) j' k')
      refine ⟨?_, fun _ => w1, fun _ => u1⟩
      rcases u2 with ⟨u2, u3⟩ | ⟨u2, u3⟩ <;> rcases w2 with ⟨w2, w3⟩ | ⟨w2, w3⟩
      · omega
      · exact absurd (l2.mp u2) w2
      · exact absurd (l2.mpr w2) u2
      · omega
    · obtain ⟨u1, u2⟩ := addA_st (i := i) (j := j) (l := hsP t i (j + 1))
      obtain ⟨w1, w2⟩ := addA_st (i := j') (j := k') (l := hsQ (duS t) j' (k' + 1))
      obtain ⟨l1, l2⟩ := ih i (j + 1) j' (k' + 1)
      show (addA i j (hsP t i (j + 1))).length = (addA j' k' (hsQ (duS t) j' (k' + 1))).length ∧ (stt (addA i j (hsP t i (j + 1))) i j ↔ stt (addA j' k' (hsQ (duS t) j' (k' + 1))) j' k')
      refine ⟨?_, fun _ => w1, fun _ => u1⟩
      rcases u2 with ⟨u2, u3⟩ | ⟨u2, u3⟩ <;> rcases w2 with ⟨w2, w3⟩ | ⟨w2, w3⟩
      · omega
      · exact absurd (l2.mp u2) w2
      · exact absurd (l2.mpr w2) u2
      · omega
    · refine ⟨(ih (i + 1) (j + 1) j' k').1, fun h => absurd h ?_, fun h => absurd h ?_⟩
      · exact stt_no (l := hsP t (i + 1) (j + 1)) (b1 (i + 1) (j + 1)) (Or.inl (by omega))
      · exact s4 (fun h => n2 ⟨Or.inl rfl, h1.mpr h⟩) j' k'
    · refine ⟨(ih i j (j' + 1) (k' + 1)).1, fun h => absurd h ?_, fun h => absurd h ?_⟩
      · exact s1 (fun h => n2 ⟨Or.inr rfl, h⟩) i j
      · exact stt_no (l := hsQ (duS t) (j' + 1) (k' + 1)) (b4 (j' + 1) (k' + 1)) (Or.inl (by omega))
    · refine ⟨(ih (i + 1) (j + 1) (j' + 1) (k' + 1)).1, fun h => absurd h ?_, fun h => absurd h ?_⟩
      · exact stt_no (l := hsP t (i + 1) (j + 1)) (b1 (i + 1) (j + 1)) (Or.inl (by omega))
      · exact stt_no (l := hsQ (duS t) (j' + 1) (k' + 1)) (b4 (j' + 1) (k' + 1)) (Or.inl (by omega))
theorem DS_gt {F : Nat → Int} {nb na : Nat} {l : List St} {i j : Nat} (h : DS F nb na l i j 0) (hs : ¬ stt l i j) : ∀ q, q ∈ l → i < q.1 ∧ j < q.2.2.1 := by
  cases l with
  | nil => intro q hq; cases hq
  | cons p t =>
    obtain ⟨D1, D2, D3⟩ := h
    have h1 : DS F nb na (p :: t) i j 1 := by
      refine ⟨?_, D2, D3⟩
      by_cases e : p.1 = i
      · exact absurd ⟨e, by show p.2.2.1 = j; omega⟩ hs
      · omega
    intro q hq
    have := DS_e h1 q hq
    omega
/-- they do not touch -/
theorem hs_nt {F K G L X Y Z : Nat → Int} {nb na nc : Nat} : ∀ (T : List It) (i j k : Nat), Dat F K G L X Y Z nb na nc T i j k → vld T → NAc T → ∀ q, q ∈ hsP T i j → ∀ r, r ∈ hsQ T j k → q.2.2.1 + q.2.2.2 < r.1 ∨ r.1 + r.2.1 < q.2.2.1 := by
  intro T
  induction T with
  | nil => intro i j k _ _ _ q hq; cases hq
  | cons q0 t ih =>
    intro i j k h v n q hq r hr
    obtain ⟨hcv, vt⟩ := vld_c v
    obtain ⟨n1, n2, n3⟩ := n
    obtain ⟨b1, b2⟩ := hs_b t vt
    obtain ⟨s1, s2⟩ := hs_no t vt n3
    obtain ⟨c, v⟩ := q0
    rcases h with ⟨hc, -, -, -, h⟩ | ⟨hc, -, -, -, -, -, -, -, h⟩ | ⟨hc, -, -, -, -, -, -, -, h⟩ | ⟨hc, -, -, -, h⟩ | ⟨hc, -, -, -, -, -, -, -, -, -, -, h⟩
    · have hc : c = 1 := hc
      subst hc
      have I := ih _ _ _ h vt n3
      obtain ⟨dP, dQ⟩ := hs_ok _ _ _ _ h
      have hr : r ∈ hsQ t j k := hr
      rcases addD_in (l := hsP t (i + 1) j) hq with e | ⟨e1, e2, ⟨e3, e4, e5⟩ | ⟨p, p1, p2, p3, p4, p5⟩⟩
      · exact I q e r hr
      · have := (DS_gt dQ (s2 (fun h => n1 ⟨Or.inl rfl, h⟩) j k) r hr).1
        omega
      · have := I p p1 r hr
        omega
    · have hc : c = 2 := hc
      subst hc
      have I := ih _ _ _ h vt n3
      obtain ⟨dP, dQ⟩ := hs_ok _ _ _ _ h
      have hr : r ∈ hsQ t (j + 1) (k + 1) := hr
      have hb := (b2 _ _ r hr).1
      rcases addA_in (l := hsP t i (j + 1)) hq with e | ⟨e1, e2, ⟨e3, e4, e5⟩ | ⟨p, p1, p2, p3, p4, p5⟩⟩
      · exact I q e r hr
      · have := (DS_gt dQ (s2 (fun h => n1 ⟨Or.inr rfl, h⟩) (j + 1) (k + 1)) r hr).1
        omega
      · have := I p p1 r hr
        omega
    · have hc : c = 3 := hc
      subst hc
      have I := ih _ _ _ h vt n3
      obtain ⟨dP, dQ⟩ := hs_ok _ _ _ _ h
      have hq : q ∈ hsP t (i + 1) (j + 1) := hq
      have hb := (b1 _ _ q hq).2
      rcases addD_in (l := hsQ t (j + 1) k) hr with e | ⟨e1, e2, ⟨e3, e4, e5⟩ | ⟨p, p1, p2, p3, p4, p5⟩⟩
      · exact I q hq r e
      · have := (DS_gt dP (s1 (fun h => n2 ⟨Or.inl rfl, h⟩) (i + 1) (j + 1)) q hq).2
        omega
      · have := I q hq p p1
        omega
    · have hc : c = 4 := hc
      subst hc
      have I := ih _ _ _ h vt n3
      obtain ⟨dP, dQ⟩ := hs_ok _ _ _ _ h
      have hq : q ∈ hsP t i j := hq
      rcases addA_in (l := hsQ t j (k + 1)) hr with e | ⟨e1, e2, ⟨e3, e4, e5⟩ | ⟨p, p1, p2, p3, p4, p5⟩⟩
      · exact I q hq r e
      · have := (DS_gt dP (s1 (fun h => n2 ⟨Or.inr rfl, h⟩) i j) q hq).2
        omega
      · have := I q hq p p1
        omega
    · have hc : c = 5 := hc
      subst hc
      exact ih _ _ _ h vt n3 q hq r hr
theorem TCH_of {l1 l2 : List St} (h : ∀ q, q ∈ l1 → ∀ r, r ∈ l2 → q.2.2.1 + q.2.2.2 < r.1 ∨ r.1 + r.2.1 < q.2.2.1) : ¬ TCH l1 l2 := by
  intro ⟨a, q, b, r, ha, hb, h1, h2⟩
  have := h q (List.mem_of_getElem? ha) r (List.mem_of_getElem? hb)
  omega
/-- the exchanged ones: they do not touch, and have the hunks of the others -/
theorem mv_more {F K G L X Y Z K' L' : Nat → Int} {nb na nc : Nat} {b M f a g : List Int} (V : VF F nb na) (I : IV F K nb na) (V' : VF G na nc) (I' : IV G L na nc) (E : EQL X Y F nb) (E' : EQL Y Z G na) (NT : ¬ TCH (hks F nb na) (hks G na nc)) (r : mvW F K G L X Y Z nb na nc (nb + na + nc) 0 0 0 [] [] [] [] [] = (b, M, f, a, g)) (IK : IV (gv f) K' nb M.length) (IL : IV (gv g) L' M.length nc) : ¬ TCH (hks (gv f) nb M.length) (hks (gv g) M.length nc) ∧ (hks (gv f) nb M.length).length = (hks G na nc).length ∧ (hks (gv g) M.length nc).length = (hks F nb na).length := by
  obtain ⟨S, hS⟩ : ∃ S, S = mvS F K G L X Y Z nb na nc (nb + na + nc) 0 0 0 := ⟨_, rfl⟩
  obtain ⟨o1, o2, o3, o4, -, -⟩ := mvS_ok V I V' I' E E' NT (nb + na + nc) 0 0 0 (by omega) (Nat.zero_le _) (Nat.zero_le _) (Nat.zero_le _) (FRT_0 V) (FRT_0 V')
  rw [← hS] at o1 o2 o3 o4
  have rd := Dat_rd _ _ _ _ o1
  obtain ⟨d1, d2, d3, d4, d5⟩ := duS_X S o4
  have e := mvW_S (F := F) (K := K) (G := G) (L := L) (X := X) (Y := Y) (Z := Z) (nb := nb) (na := na) (nc := nc) (nb + na + nc) 0 0 0 [] [] [] [] []
  rw [r, ← hS] at e
  simp only [List.nil_append, Prod.mk.injEq, List.length_nil] at e
  obtain ⟨e1, e2, e3, e4, e5⟩ := e
  obtain ⟨a1, a2, a3, a4, a5, a6, a7, a8⟩ := rd
  have D2 : Dat (gv f) K' (gv g) L' X (gv M) Z nb M.length nc (duS S) 0 0 0 := by
    refine Dat_of _ _ _ _ d3 ⟨by rw [d1]; exact a1, by rw [e2, Nat.zero_add], by rw [d2]; exact a3, by rw [← e3]; exact gv_atL, by rw [← e5]; exact gv_atL, by rw [d1]; exact a6, by rw [← e2]; exact gv_atL, by rw [d2]; exact a8⟩ (Inw_0 IK) (Inw_0 IL)
  have n2 := NAc_du S o4 o3
  obtain ⟨p1, p2⟩ := hs_ok _ _ _ _ D2
  obtain ⟨q1, q2⟩ := hs_ok _ _ _ _ o1
  have k1 := DS_hks p1
  have k2 := DS_hks p2
  have k3 := DS_hks q1
  have k4 := DS_hks q2
  have r1 := (runs S o4 o3 0 0 0 0).1
  have r2 := (runs (duS S) d3 n2 0 0 0 0).1
  rw [d4] at r2
  rw [k1, k2, k3, k4]
  exact ⟨TCH_of (hs_nt _ _ _ _ D2 d3 n2), r2, r1.symm⟩
end
