/-! Conflicts are three marks in their order; one resolved. -/
noncomputable section
def mks (l : List Int) : List Int := l.filter (fun v => decide (mkP v))
theorem mks_app {l l' : List Int} : mks (l ++ l') = mks l ++ mks l' := List.filter_append ..
theorem mks_y {v : Int} {l : List Int} (h : mkP v) : mks (v :: l) = v :: mks l := List.filter_cons_of_pos (by exact decide_eq_true h)
theorem mks_n {v : Int} {l : List Int} (h : ¬ mkP v) : mks (v :: l) = mks l := List.filter_cons_of_neg (by rw [decide_eq_true_eq]; exact h)
theorem mks_0 : ∀ {l : List Int}, (∀ v, v ∈ l → ¬ mkP v) → mks l = [] := by
  intro l
  induction l with
  | nil => intro _; rfl
  | cons v t ih =>
    intro h
    rw [mks_n (h v List.mem_cons_self)]
    exact ih (fun u hu => h u (List.mem_cons_of_mem _ hu))
def st23 : List Int → Bool
  | b :: c :: _ => decide (b = 50002 ∧ c = 50003)
  | _ => false
def cn3 : List Int → Nat
  | [] => 0
  | a :: t => (if a = 50001 ∧ st23 t = true then 1 else 0) + cn3 t
theorem cn3_c {a : Int} {t : List Int} : cn3 (a :: t) = (if a = 50001 ∧ st23 t = true then 1 else 0) + cn3 t := rfl
/-- the first mark from a place on -/
theorem nmF_mk {f : Nat → Int} {n : Nat} : ∀ (w j : Nat), n ≤ j + w → mks (sg f j n) = if nmF f n w j < n then f (nmF f n w j) :: mks (sg f (nmF f n w j + 1) n) else [] := by
  intro w
  induction w with
  | zero =>
    intro j h
    have : nmF f n 0 j = j := rfl
    rw [sg_nil (by omega), this, if_neg (by omega)]
    rfl
  | succ w ih =>
    intro j h
    rw [nmF_s]
    by_cases hj : j < n
    · rw [if_pos hj, sg_cons hj]
      by_cases hm : mkP (f j)
      · rw [if_pos hm, mks_y hm, if_pos hj]
      · rw [if_neg hm, mks_n hm]
        exact ih (j + 1) (by omega)
    · rw [if_neg hj, if_neg hj, sg_nil (by omega)]
      rfl
theorem nm_mk {f : Nat → Int} {n i : Nat} : mks (sg f (i + 1) n) = if nm f n i < n then f (nm f n i) :: mks (sg f (nm f n i + 1) n) else [] := nmF_mk n (i + 1) (by omega)
theorem nmF_no {f : Nat → Int} {n : Nat} : ∀ (w j y : Nat), j ≤ y → y < nmF f n w j → ¬ mkP (f y) := by
  intro w
  induction w with
  | zero =>
    intro j y h1 h2
    have : nmF f n 0 j = j := rfl
    omega
  | succ w ih =>
    intro j y h1 h2
    rw [nmF_s] at h2
    by_cases hj : j < n
    · rw [if_pos hj] at h2
      by_cases hm : mkP (f j)
      · rw [if_pos hm] at h2; omega
      · rw [if_neg hm] at h2
        by_cases e : y = j
        · rw [e]; exact hm
        · exact ih (j + 1) y (by omega) h2
    · rw [if_neg hj] at h2; omega
/-- is a conflict at i -/
theorem cfP_mk {f : Nat → Int} {n i : Nat} (hi : i < n) : cfP f n i ↔ f i = 50001 ∧ st23 (mks (sg f (i + 1) n)) = true := by
  have e0 : fat f n i = f i := by unfold fat; rw [if_pos hi]
  constructor
  · intro ⟨h1, h2, h3⟩
    have k2 := fat_lt (by decide) h2
    have k3 := fat_lt (by decide) h3
    refine ⟨by rw [← e0]; exact h1, ?_⟩
    rw [nm_mk, if_pos k2, nm_mk, if_pos k3]
    have e2 : fat f n (nm f n i) = f (nm f n i) := by unfold fat; rw [if_pos k2]
    have e3 : fat f n (nm f n (nm f n i)) = f (nm f n (nm f n i)) := by unfold fat; rw [if_pos k3]
    exact decide_eq_true ⟨by rw [← e2]; exact h2, by rw [← e3]; exact h3⟩
  · intro ⟨h1, h2⟩
    rw [nm_mk] at h2
    by_cases k2 : nm f n i < n
    · rw [if_pos k2, nm_mk] at h2
      by_cases k3 : nm f n (nm f n i) < n
      · rw [if_pos k3] at h2
        have h2 := of_decide_eq_true h2
        have e2 : fat f n (nm f n i) = f (nm f n i) := by unfold fat; rw [if_pos k2]
        have e3 : fat f n (nm f n (nm f n i)) = f (nm f n (nm f n i)) := by unfold fat; rw [if_pos k3]
        exact ⟨by rw [e0]; exact h1, by rw [e2]; exact h2.1, by rw [e3]; exact h2.2⟩
      · rw [if_neg k3] at h2
        cases h2
    · rw [if_neg k2] at h2
      cases h2
theorem cnF_cn {f : Nat → Int} {n : Nat} : ∀ (w i : Nat), i + w = n → cnF f n w i = cn3 (mks (sg f i n)) := by
  intro w
  induction w with
  | zero =>
    intro i h
    rw [sg_nil (by omega)]
    rfl
  | succ w ih =>
    intro i h
    rw [cnF_s, ih (i + 1) (by omega), sg_cons (show i < n by omega)]
    by_cases hm : mkP (f i)
    · rw [mks_y hm, cn3_c]
      by_cases hc : cfP f n i
      · rw [if_pos hc, if_pos ((cfP_mk (by omega)).mp hc)]
      · rw [if_neg hc, if_neg (fun h => hc ((cfP_mk (by omega)).mpr h))]
    · rw [mks_n hm, if_neg (fun h => hm (Or.inl ((cfP_mk (by omega)).mp h).1)), Nat.zero_add]
theorem sg_app {f : Nat → Int} {y z : Nat} (h2 : y ≤ z) : ∀ (d x : Nat), x + d = y → sg f x y ++ sg f y z = sg f x z := by
  intro d
  induction d with
  | zero => intro x h; rw [sg_nil (f := f) (x := x) (y := y) (by omega), show x = y by omega]; rfl
  | succ d ih =>
    intro x h
    rw [sg_cons (show x < y by omega), List.cons_append, ih (x + 1) (by omega), ← sg_cons (show x < z by omega)]
/-- the marks, of a text and of the same with one conflict resolved -/
theorem mks_res {f : Nat → Int} {n p q r : Nat} {x : Int} (hc : cfP f n p) (hq : q = nm f n p) (hr : r = nm f n q) : ∃ MA MB, mks (sg f 0 n) = MA ++ 50001 :: 50002 :: 50003 :: MB ∧ mks (rsL f x n p q r) = MA ++ MB := by
  have c0 := hc
  obtain ⟨h1, h2, h3⟩ := hc
  rw [← hq] at h2 h3
  rw [← hr] at h3
  have k1 := fat_lt (by decide) h1
  have k2 := fat_lt (by decide) h2
  have k3 := fat_lt (by decide) h3
  have z1 : p < q := by rw [hq]; exact nm_ge
  have z2 : q < r := by rw [hr]; exact nm_ge
  have e1 : f p = 50001 := by rw [← h1]; unfold fat; rw [if_pos k1]
  have e2 : f q = 50002 := by rw [← h2]; unfold fat; rw [if_pos k2]
  have e3 : f r = 50003 := by rw [← h3]; unfold fat; rw [if_pos k3]
  refine ⟨mks (sg f 0 p), mks (sg f (r + 1) n), ?_, ?_⟩
  · rw [← sg_app (f := f) (y := p) (z := n) (by omega) p 0 (by omega), mks_app, sg_cons k1, mks_y (Or.inl e1), nm_mk, ← hq, if_pos k2, nm_mk, ← hr, if_pos k3, e1, e2, e3]
  · have u1 : mks (sg f (p + 1) q) = [] := mks_0 (fun v hv => by
      obtain ⟨j, j1, j2, j3⟩ := sg_mem hv
      rw [j3]
      exact nmF_no n (p + 1) j j1 (by rw [hq] at j2; exact j2))
    have u2 : mks (sg f (q + 1) r) = [] := mks_0 (fun v hv => by
      obtain ⟨j, j1, j2, j3⟩ := sg_mem hv
      rw [j3]
      exact nmF_no n (q + 1) j j1 (by rw [hr] at j2; exact j2))
    unfold rsL
    rw [mks_app, mks_app, mks_app]
    have v1 : mks (if x = 1 ∨ x = 3 then sg f (p + 1) q else []) = [] := by
      split
      · exact u1
      · rfl
    have v2 : mks (if x = 2 ∨ x = 3 then sg f (q + 1) r else []) = [] := by
      split
      · exact u2
      · rfl
    rw [v1, v2]
    rfl
theorem rsL_len {f : Nat → Int} {n p q r : Nat} {x : Int} (h1 : p < q) (h2 : q < r) (h3 : r < n) : (rsL f x n p q r).length + 3 ≤ n := by
  unfold rsL
  rw [List.length_append, List.length_append, List.length_append, sg_len, sg_len]
  have v1 : (if x = 1 ∨ x = 3 then sg f (p + 1) q else []).length ≤ q - (p + 1) := by
    split
    · rw [sg_len]; exact Nat.le_refl _
    · exact Nat.zero_le _
  have v2 : (if x = 2 ∨ x = 3 then sg f (q + 1) r else []).length ≤ r - (q + 1) := by
    split
    · rw [sg_len]; exact Nat.le_refl _
    · exact Nat.zero_le _
  omega
/-- no more conflicts than before -/
theorem cn3_K {MB : List Int} : cn3 (50001 :: 50002 :: 50003 :: MB) = 1 + cn3 MB := by
  rw [cn3_c, cn3_c, cn3_c, if_pos ⟨rfl, rfl⟩, if_neg (fun h => absurd h.1 (by decide)), if_neg (fun h => absurd h.1 (by decide))]
  omega
theorem cn3_le {MB : List Int} : ∀ MA : List Int, cn3 (MA ++ MB) ≤ cn3 (MA ++ 50001 :: 50002 :: 50003 :: MB)
  | [] => by
    show cn3 MB ≤ cn3 (50001 :: 50002 :: 50003 :: MB)
    rw [cn3_K]; omega
  | [a] => by
    show cn3 (a :: MB) ≤ cn3 (a :: 50001 :: 50002 :: 50003 :: MB)
    rw [cn3_c, cn3_c (a := a), cn3_K]
    split <;> omega
  | [a, b] => by
    show cn3 (a :: b :: MB) ≤ cn3 (a :: b :: 50001 :: 50002 :: 50003 :: MB)
    rw [cn3_c, cn3_c (a := b), cn3_c (a := a), cn3_c (a := b), cn3_K]
    by_cases h : a = 50001 ∧ st23 (b :: MB) = true
    · have hb : ¬ b = 50001 := by
        have h2 := h.2
        cases MB with
        | nil => cases h2
        | cons m t =>
          have h2 := of_decide_eq_true h2
          omega
      rw [if_pos h, if_neg (fun h => hb h.1)]
      omega
    · rw [if_neg h]
      split <;> omega
  | a :: b :: c :: t => by
    have ih := cn3_le (MB := MB) (b :: c :: t)
    show cn3 (a :: (b :: c :: t ++ MB)) ≤ cn3 (a :: (b :: c :: t ++ 50001 :: 50002 :: 50003 :: MB))
    rw [cn3_c, cn3_c (a := a)]
    have e1 : st23 (b :: c :: t ++ MB) = st23 (b :: c :: t ++ 50001 :: 50002 :: 50003 :: MB) := rfl
    rw [e1]
    omega
/-- nothing but whole conflicts -/
def t3 : Nat → List Int
  | 0 => []
  | j + 1 => 50001 :: 50002 :: 50003 :: t3 j
theorem t3_s {j : Nat} : t3 (j + 1) = 50001 :: 50002 :: 50003 :: t3 j := rfl
theorem cn3_t3 : ∀ j, cn3 (t3 j) = j := by
  intro j
  induction j with
  | zero => rfl
  | succ j ih => rw [t3_s, cn3_K, ih]; omega
theorem t3_app {i : Nat} : ∀ j, t3 j ++ t3 i = t3 (j + i) := by
  intro j
  induction j with
  | zero => rw [Nat.zero_add]; rfl
  | succ j ih => rw [show j + 1 + i = (j + i) + 1 by omega, t3_s, t3_s, ← ih]; rfl
theorem t3_res {MB : List Int} : ∀ (MA : List Int) (j : Nat), t3 j = MA ++ 50001 :: 50002 :: 50003 :: MB → ∃ i, j = i + 1 ∧ MA ++ MB = t3 i
  | MA, 0, h => by
    cases MA with
    | nil => cases h
    | cons a t => cases h
  | [], j + 1, h => by
    rw [t3_s] at h
    have h : 50001 :: 50002 :: 50003 :: t3 j = 50001 :: 50002 :: 50003 :: MB := h
    simp only [List.cons.injEq, true_and] at h
    exact ⟨j, rfl, h.symm⟩
  | [a], j + 1, h => by
    rw [t3_s] at h
    have h : (50001 : Int) :: 50002 :: 50003 :: t3 j = a :: 50001 :: 50002 :: 50003 :: MB := h
    simp only [List.cons.injEq] at h
    omega
  | [a, b], j + 1, h => by
    rw [t3_s] at h
    have h : (50001 : Int) :: 50002 :: 50003 :: t3 j = a :: b :: 50001 :: 50002 :: 50003 :: MB := h
    simp only [List.cons.injEq] at h
    omega
  | a :: b :: c :: t, j + 1, h => by
    rw [t3_s] at h
    have h : (50001 : Int) :: 50002 :: 50003 :: t3 j = a :: b :: c :: (t ++ 50001 :: 50002 :: 50003 :: MB) := h
    simp only [List.cons.injEq] at h
    obtain ⟨h1, h2, h3, h4⟩ := h
    obtain ⟨i, hi, e⟩ := t3_res t j h4
    refine ⟨i + 1, by omega, ?_⟩
    show a :: b :: c :: (t ++ MB) = t3 (i + 1)
    rw [e, t3_s, h1, h2, h3]
/-- of two without marks the merged text has whole conflicts only, as many as it says -/
theorem rl_mk {G : Nat → Int} {m x d : Nat} (hG : ∀ i, i < m → ¬ mkP (G i)) (hd : x + d ≤ m) : mks (rlZ G x d) = [] := mks_0 (fun v hv => by
  obtain ⟨k, hk⟩ := List.mem_iff_getElem?.mp hv
  have hlt := (List.getElem?_eq_some_iff.mp hk).1
  rw [rl_len] at hlt
  rw [rl_get d x k hlt] at hk
  cases hk
  exact hG _ (by omega))
theorem mgF_mk {FA FB X NA NB : Nat → Int} {nb na nc : Nat} {A B : List St} (M : mgD FA FB X NA NB nb na nc A B) (lX : ∀ i, i < nb → ¬ mkP (X i)) (lA : ∀ i, i < na → ¬ mkP (NA i)) (lB : ∀ i, i < nc → ¬ mkP (NB i)) : ∀ (w a b p : Nat), mgI nb A B a b p → mks (mgF X NA NB nb A B w a b p).1 = t3 (mgF X NA NB nb A B w a b p).2 := by
  obtain ⟨m1, m2, m3, m4, m5, DA, DB, EA, EB⟩ := M
  intro w
  induction w with
  | zero =>
    intro a b p I
    exact rl_mk lX (by have := I.2.2.1; omega)
  | succ w ih =>
    intro a b p I
    by_cases he : a < A.length ∨ b < B.length
    · obtain ⟨lo, hlo⟩ : ∃ lo, lo = min (sO A a) (sO B b) := ⟨_, rfl⟩
      obtain ⟨a', b', hi, hc⟩ : ∃ a' b' hi, clo A B (A.length + B.length) a b lo = (a', b', hi) := ⟨_, _, _, rfl⟩
      obtain ⟨g1, g2, g3, g4, g5, g6, g7, g8, g9, g10, g11, g12, g13, g14, g15, g16, g17⟩ := mg_grp (by omega) DA DB I he hlo hc
      rw [mgF_s he hlo hc]
      show mks (rlZ X p (lo - p) ++ ((gpF NA NB A B a b a' b' lo hi).1 ++ (mgF X NA NB nb A B w a' b' hi).1)) = t3 ((gpF NA NB A B a b a' b' lo hi).2 + (mgF X NA NB nb A B w a' b' hi).2)
      have SA := sd_ok DA EA g4 g5 g12 g14 g2 g11.2.2.2.1 g16
      have SB := sd_ok DB EB g6 g7 g13 g15 g2 g11.2.2.2.2.1 g17
      have hA : mks (sdF NA A a a' lo hi) = [] := rl_mk lA (by omega)
      have hB : mks (sdF NB B b b' lo hi) = [] := rl_mk lB (by omega)
      rw [mks_app, mks_app, rl_mk lX (by omega), ih a' b' hi g11, List.nil_append]
      have hg : mks (gpF NA NB A B a b a' b' lo hi).1 = t3 (gpF NA NB A B a b a' b' lo hi).2 := by
        unfold gpF
        split
        · exact hA
        · split
          · exact hB
          · show mks (50001 :: (sdF NA A a a' lo hi ++ 50002 :: (sdF NB B b b' lo hi ++ [50003]))) = t3 1
            rw [mks_y (Or.inl rfl), mks_app, hA, List.nil_append, mks_y (Or.inr (Or.inl rfl)), mks_app, hB, List.nil_append, mks_y (Or.inr (Or.inr rfl))]
            rfl
      rw [hg, t3_app]
    · rw [mgF_e he]
      exact rl_mk lX (by have := I.2.2.1; omega)
end
