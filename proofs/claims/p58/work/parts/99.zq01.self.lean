/-! A patch merged with itself: it comes once, without a conflict. -/
noncomputable section
theorem clo_self {F : Nat → Int} {nb na a : Nat} {A : List St} {q : St} (hnb : nb ≤ 100) (D : DS F nb na A 0 0 0) (hq : A[a]? = some q) : clo A A (A.length + A.length) a a (min (sO A a) (sO A a)) = (a + 1, a + 1, q.1 + q.2.1) := by
  obtain ⟨la, _⟩ := List.getElem?_eq_some_iff.mp hq
  obtain ⟨w, hw⟩ : ∃ w, A.length + A.length = w + 1 + 1 := ⟨A.length + A.length - 2, by omega⟩
  have b := (DS_b A 0 0 0 D).2.2 q (List.mem_of_getElem? hq)
  have s := sO_s hq
  have e := eO_s hq
  have nx : ¬ sO A (a + 1) ≤ q.1 + q.2.1 := by
    by_cases hl : a + 1 < A.length
    · obtain ⟨r, hr⟩ : ∃ r, A[a + 1]? = some r := ⟨_, List.getElem?_eq_getElem hl⟩
      have := (DS_nx A a 0 0 0 q r D hq hr).2
      rw [sO_s hr]
      omega
    · rw [sO_n (by omega)]
      omega
  have m1 : min (sO A a) (sO A a) = q.1 := by rw [s]; exact Nat.min_self _
  have m2 : max q.1 (eO A a) = q.1 + q.2.1 := by rw [e]; omega
  have m3 : max (q.1 + q.2.1) (eO A a) = q.1 + q.2.1 := by rw [e]; omega
  rw [m1, hw]
  show (if sO A a ≤ q.1 then clo A A (w + 1) (a + 1) a (max q.1 (eO A a)) else _) = _
  rw [if_pos (by omega), m2]
  show (if sO A (a + 1) ≤ q.1 + q.2.1 then _ else if sO A a ≤ q.1 + q.2.1 then clo A A w (a + 1) (a + 1) (max (q.1 + q.2.1) (eO A a)) else _) = _
  rw [if_neg nx, if_pos (by omega), m3]
  exact clo_n nx nx w
theorem gp_self {F X N : Nat → Int} {nb na a : Nat} {A : List St} {q : St} (D : DS F nb na A 0 0 0) (hq : A[a]? = some q) : gpF N N A A a a (a + 1) (a + 1) q.1 (q.1 + q.2.1) = (rlZ N q.2.2.1 q.2.2.2, 0) := by
  obtain ⟨la, _⟩ := List.getElem?_eq_some_iff.mp hq
  unfold gpF
  rw [if_pos (Or.inr ⟨rfl, rfl, q, q, hq, hq, rfl, rfl, rfl, fun k _ => rfl⟩)]
  have e1 : npF A a q.1 = q.2.2.1 := by
    unfold npF
    rw [← dft_at D hq]
    omega
  have e2 : npF A (a + 1) (q.1 + q.2.1) = q.2.2.1 + q.2.2.2 := by
    unfold npF
    rw [dft_s hq]
    omega
  unfold sdF
  rw [e1, e2, show q.2.2.1 + q.2.2.2 - q.2.2.1 = q.2.2.2 by omega]
theorem mg_self {F X N : Nat → Int} {nb na : Nat} {A : List St} (hnb : nb ≤ 100) (D : DS F nb na A 0 0 0) : ∀ (w a p : Nat), A.length ≤ a + w → mgF X N N nb A A w a a p = (asF X N (A.drop a) p nb, 0) := by
  intro w
  induction w with
  | zero =>
    intro a p h
    rw [List.drop_eq_nil_of_le (by omega)]
    rfl
  | succ w ih =>
    intro a p h
    by_cases la : a < A.length
    · obtain ⟨q, hq⟩ : ∃ q, A[a]? = some q := ⟨_, List.getElem?_eq_getElem la⟩
      have hd : A.drop a = q :: A.drop (a + 1) := by
        rw [List.drop_eq_getElem_cons la]
        congr 1
        have y := List.getElem?_eq_getElem la
        rw [hq] at y
        exact (Option.some.inj y).symm
      have c := clo_self hnb D hq
      have m1 : min (sO A a) (sO A a) = q.1 := by rw [sO_s hq]; exact Nat.min_self _
      unfold mgF
      rw [if_pos (Or.inl la), c, m1]
      dsimp only
      rw [gp_self (X := X) D hq, ih (a + 1) (q.1 + q.2.1) (by omega), hd]
      rfl
    · unfold mgF
      rw [if_neg (by omega), List.drop_eq_nil_of_le (by omega)]
      rfl
theorem merge_self {F X N : Nat → Int} {nb na w : Nat} {A : List St} (hnb : nb ≤ 100) (D : DS F nb na A 0 0 0) (E : EQL X N F nb) (hw : A.length ≤ w) : mgF X N N nb A A w 0 0 0 = (rlZ N 0 na, 0) := by
  rw [mg_self hnb D w 0 0 (by omega), List.drop_zero, as_home D E]
end
