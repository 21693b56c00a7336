/-! Patch.finish and Patch.build. -/
noncomputable section
theorem nx_u {f : Nat → Int} {nb i e : Nat} (h1 : i ≤ e) (h2 : e ≤ nb) (h3 : ∀ k, i ≤ k → k < e → f k = -1) (h4 : e < nb → ¬ f e = -1) : nx f nb i = e := by
  have a1 := nx_ge (f := f) (nb := nb) (i := i)
  have a2 := nx_le (f := f) (nb := nb) (i := i) (by omega)
  by_cases h : nx f nb i < e
  · exact absurd (h3 _ a1 h) (nx_n (by omega))
  · by_cases h' : e < nx f nb i
    · exact absurd (nx_m h1 h') (h4 (by omega))
    · omega
theorem hkF_e {f : Nat → Int} {nb na i j : Nat} (h : ¬ (i < nb ∨ j < na)) (w : Nat) : hkF f nb na w i j = [] := by
  cases w with
  | zero => rfl
  | succ w => rw [hkF_s, if_neg h]
theorem hkF_fuel {f : Nat → Int} {nb na : Nat} (V : VF f nb na) : ∀ (w i j : Nat), VI f nb na i j → (nb - i) + (na - j) ≤ w → hkF f nb na (w + 1) i j = hkF f nb na w i j := by
  intro w
  induction w with
  | zero =>
    intro i j hi hw
    rw [hkF_e (by omega), hkF_e (by omega)]
  | succ w ih =>
    intro i j hi hw
    rw [hkF_s (w := w + 1) (i := i) (j := j), hkF_s (w := w) (i := i) (j := j)]
    by_cases h1 : i < nb ∨ j < na
    · rw [if_pos h1, if_pos h1]
      by_cases h2 : i < nb ∧ f i = (j : Int)
      · rw [if_pos h2, if_pos h2]
        exact ih _ _ (VI_s V hi h2.1 h2.2) (by omega)
      · rw [if_neg h2, if_neg h2]
        obtain ⟨u1, u2, u3, u4⟩ := VI_h V hi h1 h2
        rw [ih _ _ u1 (by omega)]
    · rw [if_neg h1, if_neg h1]
theorem hkF_len {f : Nat → Int} {nb na : Nat} (V : VF f nb na) : ∀ (w i j : Nat), VI f nb na i j → (nb - i) + (na - j) ≤ w → (hkF f nb na w i j).length ≤ (nb - i) + 1 ∧ (((i < nb ∧ f i = (j : Int)) ∨ (i = nb ∧ j = na)) → (hkF f nb na w i j).length ≤ nb - i) := by
  intro w
  induction w with
  | zero =>
    intro i j hi hw
    rw [hkF_e (by omega)]
    exact ⟨Nat.zero_le _, fun _ => Nat.zero_le _⟩
  | succ w ih =>
    intro i j hi hw
    rw [hkF_s]
    by_cases h1 : i < nb ∨ j < na
    · rw [if_pos h1]
      by_cases h2 : i < nb ∧ f i = (j : Int)
      · rw [if_pos h2]
        obtain ⟨g1, g2⟩ := ih _ _ (VI_s V hi h2.1 h2.2) (by omega)
        have := h2.1
        exact ⟨by omega, fun _ => by omega⟩
      · rw [if_neg h2]
        obtain ⟨u1, u2, u3, u4⟩ := VI_h V hi h1 h2
        obtain ⟨g1, g2⟩ := ih _ _ u1 (by omega)
        have g3 := g2 u4
        have n1 := nx_ge (f := f) (nb := nb) (i := i)
        rw [List.length_cons]
        refine ⟨by omega, fun h => ?_⟩
        rcases h with h | h
        · exact absurd h h2
        · omega
    · rw [if_neg h1]
      exact ⟨Nat.zero_le _, fun _ => Nat.zero_le _⟩
theorem hks_len {f : Nat → Int} {nb na : Nat} (V : VF f nb na) : (hks f nb na).length ≤ nb + 1 := by
  have := (hkF_len V (nb + na) 0 0 (VI_0 V) (by omega)).1
  exact this
def fl4 : List (Nat × Nat × Nat × Nat) → List Int
  | [] => []
  | q :: t => (q.1 : Int) :: (q.2.1 : Int) :: (q.2.2.1 : Int) :: (q.2.2.2 : Int) :: fl4 t
theorem fl4_len : ∀ (l : List (Nat × Nat × Nat × Nat)), (fl4 l).length = 4 * l.length := by
  intro l
  induction l with
  | nil => rfl
  | cons q t ih =>
    unfold fl4
    rw [List.length_cons, List.length_cons, List.length_cons, List.length_cons, List.length_cons, ih]
    omega
theorem fl4_get : ∀ (l : List (Nat × Nat × Nat × Nat)) (h : Nat) (q : Nat × Nat × Nat × Nat), l[h]? = some q → (fl4 l)[4 * h]? = some (q.1 : Int) ∧ (fl4 l)[4 * h + 1]? = some (q.2.1 : Int) ∧ (fl4 l)[4 * h + 2]? = some (q.2.2.1 : Int) ∧ (fl4 l)[4 * h + 3]? = some (q.2.2.2 : Int) := by
  intro l
  induction l with
  | nil => intro h q hq; simp at hq
  | cons a t ih =>
    intro h q hq
    cases h with
    | zero =>
      have hq : a = q := by simpa using hq
      rw [← hq]
      exact ⟨rfl, rfl, rfl, rfl⟩
    | succ h =>
      rw [List.getElem?_cons_succ] at hq
      have g := ih h q hq
      rw [show 4 * (h + 1) = 4 * h + 4 by omega]
      exact g
/-- each the other's inverse -/
def IV (F K : Nat → Int) (nb na : Nat) : Prop := (∀ j : Nat, j < na → K j = -1 ∨ (0 ≤ K j ∧ K j < nb ∧ F (K j).toNat = j)) ∧ ∀ i : Nat, i < nb → ¬ F i = -1 → K (F i).toNat = i
theorem d159 {a n : Nat} {σ : Sg} (w : wR σ a) (hn : σ a 1 = (n : Nat)) {i : Nat} (hi : i ≤ n) : Dd 159 [vA a, vI (-1), vI i] σ (rI (nx (σ (a + 1)) n i : Nat) σ) := by
  have hc := cap_le w.1
  have w2 := w.2.2
  have a1 := nx_ge (f := σ (a + 1)) (nb := n) (i := i)
  have a2 := nx_le (f := σ (a + 1)) hi
  have L : ∀ (d i' : Nat) (d2 : Option AV), i ≤ i' → i' + d = nx (σ (a + 1)) n i → C159_6 a (-1) d2 i' σ (rI (nx (σ (a + 1)) n i : Nat) σ) := by
    intro d
    induction d with
    | zero =>
      intro i' d2 h1 h2
      have e : i' = nx (σ (a + 1)) n i := by omega
      rw [e]
      refine b159_6 w.1 ?_
      by_cases hx : nx (σ (a + 1)) n i < n
      · rw [if_pos (by omega), show ((nx (σ (a + 1)) n i : Nat) : Int).toNat = nx (σ (a + 1)) n i by omega, if_neg (nx_n hx)]
        exact ⟨by omega, rfl⟩
      · rw [if_neg (by omega)]
    | succ d ih =>
      intro i' d2 h1 h2
      refine b159_6 w.1 ?_
      rw [if_pos (by omega), show ((i' : Nat) : Int).toNat = i' by omega, if_pos (nx_m (nb := n) h1 (by omega)), show (i' : Int) + 1 = ((i' + 1 : Nat) : Int) by omega]
      exact ⟨by omega, by omega, ih (i' + 1) d2 (by omega) (by omega)⟩
  refine b159 ?_
  rw [show (if 0 < (i : Int) then (i : Int) else 0) = (i : Int) by split <;> omega]
  exact L (nx (σ (a + 1)) n i - i) i _ (Nat.le_refl _) (by omega)
theorem l94 {P nb na : Nat} {σ0 : Sg} (hP : isPatch P = true) (h1 : σ0 (P + 1) 1 = (nb : Nat)) (h3 : σ0 (P + 3) 1 = (na : Nat)) (h5 : σ0 (P + 5) 1 = (nb : Nat)) (h7 : σ0 (P + 7) 1 = (na : Nat)) (w5 : wR σ0 (P + 5)) (w7 : wR σ0 (P + 7)) (V : VF (σ0 (P + 6)) nb na) (K : IV (σ0 (P + 6)) (σ0 (P + 8)) nb na) : ∀ (w i j : Nat) (d3 d4 : Option AV) (σ : Sg) (m : List Int), (∀ c k, P + 1 ≤ c → c ≤ P + 8 → σ c k = σ0 c k) → Rw σ (P + 9) m → m.length + 4 * (hkF (σ0 (P + 6)) nb na w i j).length ≤ cap (P + 9) → (nb - i) + (na - j) ≤ w → VI (σ0 (P + 6)) nb na i j → (∀ k, k < i → k < nb → ¬ σ0 (P + 6) k = -1 → σ0 (P + 6) k < j) → ∃ s, C94_11 P i j d3 d4 σ (rV s) ∧ Rw s (P + 9) (m ++ fl4 (hkF (σ0 (P + 6)) nb na w i j)) ∧ ∀ c k, ¬ c = P + 9 → ¬ c = P + 10 → s c k = σ c k := by
  have hc5 := cap_le w5.1
  have hc7 := cap_le w7.1
  have w52 := w5.2.2
  have w72 := w7.2.2
  have q9 := pat_9 hP
  have fin : ∀ (i j : Nat) (d3 d4 : Option AV) (σ : Sg), (∀ c k, P + 1 ≤ c → c ≤ P + 8 → σ c k = σ0 c k) → nb ≤ i → na ≤ j → C94_11 P i j d3 d4 σ (rV σ) := by
    intro i j d3 d4 σ hs hi hj
    refine b94_11 hP ⟨_, _, d146 (pat_1 hP), ?_⟩
    rw [hs _ _ (by omega) (by omega), h1, if_pos (by omega)]
    refine ⟨_, _, d146 (pat_3 hP), ?_⟩
    rw [hs _ _ (by omega) (by omega), h3, if_neg (by omega)]
  intro w
  induction w with
  | zero =>
    intro i j d3 d4 σ m hs hm hr hw hi hj
    refine ⟨σ, fin i j d3 d4 σ hs (by omega) (by omega), ?_, fun _ _ _ _ => rfl⟩
    rw [show hkF (σ0 (P + 6)) nb na 0 i j = [] from rfl, show fl4 [] = [] from rfl, List.append_nil]
    exact hm
  | succ w ih =>
    intro i j d3 d4 σ m hs hm hr hw hi hj
    by_cases e1 : i < nb ∨ j < na
    · have hi' := hi
      obtain ⟨g1, g2, g3⟩ := hi'
      have to33 : ∀ {o : Rs}, C94_33 P i j d3 d4 σ o → C94_11 P i j d3 d4 σ o := by
        intro o hh
        refine b94_11 hP ⟨_, _, d146 (pat_1 hP), ?_⟩
        rw [hs _ _ (by omega) (by omega), h1]
        by_cases y : i < nb
        · rw [if_neg (by omega)]; exact hh
        · rw [if_pos (by omega)]
          refine ⟨_, _, d146 (pat_3 hP), ?_⟩
          rw [hs _ _ (by omega) (by omega), h3, if_pos (by omega)]
          exact hh
      have s6 : σ (P + 5 + 1) = σ0 (P + 6) := funext fun k => hs _ _ (by omega) (by omega)
      have s8 : σ (P + 7 + 1) = σ0 (P + 8) := funext fun k => hs _ _ (by omega) (by omega)
      have d5 := d159 (σ := σ) (a := P + 5) (n := nb) ⟨w5.1, by rw [hs _ _ (by omega) (by omega)]; exact w5.2⟩ (by rw [hs _ _ (by omega) (by omega)]; exact h5) g1
      have d7 := d159 (σ := σ) (a := P + 7) (n := na) ⟨w7.1, by rw [hs _ _ (by omega) (by omega)]; exact w7.2⟩ (by rw [hs _ _ (by omega) (by omega)]; exact h7) g2
      rw [s6] at d5
      rw [s8] at d7
      have hK : ∀ k, j ≤ k → k < na → ¬ σ0 (P + 8) k = -1 → ∃ i' : Nat, i ≤ i' ∧ i' < nb ∧ σ0 (P + 6) i' = (k : Int) := by
        intro k k1 k2 k3
        rcases K.1 k k2 with z | z
        · exact absurd z k3
        · refine ⟨(σ0 (P + 8) k).toNat, ?_, by omega, z.2.2⟩
          by_cases y : (σ0 (P + 8) k).toNat < i
          · have := hj _ y (by omega) (by rw [z.2.2]; omega)
            rw [z.2.2] at this
            omega
          · omega
      rw [hkF_s, if_pos e1] at hr ⊢
      by_cases e2 : i < nb ∧ σ0 (P + 6) i = (j : Int)
      · rw [if_pos e2] at hr ⊢
        have v := V.1 i e2.1
        have x1 : nx (σ0 (P + 6)) nb i = i := nx_u (Nat.le_refl _) g1 (fun k k1 k2 => by omega) (fun _ => by omega)
        have x2 : nx (σ0 (P + 8)) na j = j := nx_u (Nat.le_refl _) g2 (fun k k1 k2 => by omega) (fun _ => by
          have := K.2 i e2.1 (by omega)
          rw [e2.2, show ((j : Int)).toNat = j by omega] at this
          omega)
        rw [x1] at d5
        rw [x2] at d7
        obtain ⟨s, a1, a2, a3⟩ := ih (i + 1) (j + 1) (some (vI i)) (some (vI j)) σ m hs hm hr (by omega) (VI_s V hi e2.1 e2.2) (fun k k1 k2 k3 => by
          by_cases y : k = i
          · rw [y, e2.2]; omega
          · have := hj k (by omega) k2 k3
            omega)
        refine ⟨s, to33 (b94_33 hP ⟨_, _, d5, _, _, d7, ?_⟩), a2, a3⟩
        rw [if_pos (Int.le_refl _), if_neg (by omega)]
        refine b94_102 ⟨by omega, by omega, ?_⟩
        rw [show (i : Int) + 1 = ((i + 1 : Nat) : Int) by omega, show (j : Int) + 1 = ((j + 1 : Nat) : Int) by omega]
        exact a1
      · rw [if_neg e2] at hr ⊢
        obtain ⟨u1, u2, u3, u4⟩ := VI_h V hi e1 e2
        have n1 := nx_ge (f := σ0 (P + 6)) (nb := nb) (i := i)
        have n2 := nx_le (f := σ0 (P + 6)) g1
        have n3 := u1.2.1
        have x2 : nx (σ0 (P + 8)) na j = j2F (σ0 (P + 6)) nb na i := by
          refine nx_u u3 n3 (fun k k1 k2 => ?_) (fun hx => ?_)
          · by_cases y : σ0 (P + 8) k = -1
            · exact y
            · exfalso
              obtain ⟨i', z1, z2, z3⟩ := hK k k1 (by omega) y
              by_cases t : i' < nx (σ0 (P + 6)) nb i
              · have := nx_m z1 t
                omega
              · have := u1.2.2 i' (by omega) z2 (by omega)
                omega
          · rcases u4 with u4 | u4
            · have := K.2 _ u4.1 (by omega)
              rw [u4.2, show ((j2F (σ0 (P + 6)) nb na i : Nat) : Int).toNat = j2F (σ0 (P + 6)) nb na i by omega] at this
              omega
            · omega
        rw [x2] at d7
        rw [List.length_cons] at hr
        -- the four numbers
        have hc9 := cap_le q9
        obtain ⟨q, hq⟩ : ∃ q : Nat × Nat × Nat × Nat, q = (i, nx (σ0 (P + 6)) nb i - i, j, j2F (σ0 (P + 6)) nb na i - j) := ⟨_, rfl⟩
        have r1 := Rw_ad (v := (i : Int)) hm (by omega)
        have r2 := Rw_ad (v := ((nx (σ0 (P + 6)) nb i : Nat) : Int) - i) r1 (by rw [List.length_append]; simp; omega)
        have r3 := Rw_ad (v := (j : Int)) r2 (by rw [List.length_append, List.length_append]; simp; omega)
        have r4 := Rw_ad (v := ((j2F (σ0 (P + 6)) nb na i : Nat) : Int) - j) r3 (by rw [List.length_append, List.length_append, List.length_append]; simp; omega)
        have ww : ∀ {σ' : Sg} {l : List Int}, Rw σ' (P + 9) l → l.length ≤ cap (P + 9) → wR σ' (P + 9) := fun h hl => Rw_wR q9 h hl
        have t65 : ∀ {o : Rs}, C94_102 P (some (vI i)) (some (vI j)) (nx (σ0 (P + 6)) nb i : Nat) (j2F (σ0 (P + 6)) nb na i : Nat) (adS (adS (adS (adS σ (P + 9) i) (P + 9) (((nx (σ0 (P + 6)) nb i : Nat) : Int) - i)) (P + 9) j) (P + 9) (((j2F (σ0 (P + 6)) nb na i : Nat) : Int) - j)) o → C94_65 P i j (nx (σ0 (P + 6)) nb i : Nat) (j2F (σ0 (P + 6)) nb na i : Nat) σ o := by
          intro o hh
          exact b94_65 hP ⟨_, d149 (ww hm (by omega)), by omega, _, d149 (ww r1 (by rw [List.length_append]; simp; omega)), _, d149 (ww r2 (by rw [List.length_append, List.length_append]; simp; omega)), by omega, _, d149 (ww r3 (by rw [List.length_append, List.length_append, List.length_append]; simp; omega)), hh⟩
        have toB : ∀ {o : Rs}, C94_102 P (some (vI i)) (some (vI j)) (nx (σ0 (P + 6)) nb i : Nat) (j2F (σ0 (P + 6)) nb na i : Nat) (adS (adS (adS (adS σ (P + 9) i) (P + 9) (((nx (σ0 (P + 6)) nb i : Nat) : Int) - i)) (P + 9) j) (P + 9) (((j2F (σ0 (P + 6)) nb na i : Nat) : Int) - j)) o → C94_11 P i j d3 d4 σ o := by
          intro o hh
          refine to33 (b94_33 hP ⟨_, _, d5, _, _, d7, ?_⟩)
          by_cases y : ((nx (σ0 (P + 6)) nb i : Nat) : Int) ≤ i
          · rw [if_pos y, if_pos (by
              rcases u4 with u4 | u4
              · have : nx (σ0 (P + 6)) nb i = i := by omega
                rw [this] at u4
                have : ¬ j2F (σ0 (P + 6)) nb na i = j := fun z => e2 ⟨u4.1, by rw [u4.2, z]⟩
                omega
              · omega)]
            exact t65 hh
          · rw [if_neg y]
            exact t65 hh
        have rf : ∀ c k, ¬ c = P + 9 → ¬ c = P + 10 → adS (adS (adS (adS σ (P + 9) i) (P + 9) (((nx (σ0 (P + 6)) nb i : Nat) : Int) - i)) (P + 9) j) (P + 9) (((j2F (σ0 (P + 6)) nb na i : Nat) : Int) - j) c k = σ c k := fun c k y1 y2 => by rw [ad_off y1 (by omega), ad_off y1 (by omega), ad_off y1 (by omega), ad_off y1 (by omega)]
        have r5 : Rw (adS (adS (adS (adS σ (P + 9) i) (P + 9) (((nx (σ0 (P + 6)) nb i : Nat) : Int) - i)) (P + 9) j) (P + 9) (((j2F (σ0 (P + 6)) nb na i : Nat) : Int) - j)) (P + 9) (m ++ [(i : Int), ((nx (σ0 (P + 6)) nb i - i : Nat) : Int), (j : Int), ((j2F (σ0 (P + 6)) nb na i - j : Nat) : Int)]) := by
          rw [List.append_assoc, List.append_assoc, List.append_assoc] at r4
          rw [show ((nx (σ0 (P + 6)) nb i - i : Nat) : Int) = ((nx (σ0 (P + 6)) nb i : Nat) : Int) - i by omega, show ((j2F (σ0 (P + 6)) nb na i - j : Nat) : Int) = ((j2F (σ0 (P + 6)) nb na i : Nat) : Int) - j by omega]
          exact r4
        generalize (adS (adS (adS (adS σ (P + 9) i) (P + 9) (((nx (σ0 (P + 6)) nb i : Nat) : Int) - i)) (P + 9) j) (P + 9) (((j2F (σ0 (P + 6)) nb na i : Nat) : Int) - j)) = σ1 at toB rf r5
        clear r1 r2 r3 r4 t65
        have hs1 : ∀ c k, P + 1 ≤ c → c ≤ P + 8 → σ1 c k = σ0 c k := fun c k y1 y2 => by rw [rf c k (by omega) (by omega)]; exact hs c k y1 y2
        have hcons : fl4 ((i, nx (σ0 (P + 6)) nb i - i, j, j2F (σ0 (P + 6)) nb na i - j) :: hkF (σ0 (P + 6)) nb na w (nx (σ0 (P + 6)) nb i) (j2F (σ0 (P + 6)) nb na i)) = [(i : Int), ((nx (σ0 (P + 6)) nb i - i : Nat) : Int), (j : Int), ((j2F (σ0 (P + 6)) nb na i - j : Nat) : Int)] ++ fl4 (hkF (σ0 (P + 6)) nb na w (nx (σ0 (P + 6)) nb i) (j2F (σ0 (P + 6)) nb na i)) := rfl
        rw [hcons, ← List.append_assoc]
        rcases u4 with u4 | u4
        · -- a pair follows
          have ef : hkF (σ0 (P + 6)) nb na w (nx (σ0 (P + 6)) nb i) (j2F (σ0 (P + 6)) nb na i) = hkF (σ0 (P + 6)) nb na w (nx (σ0 (P + 6)) nb i + 1) (j2F (σ0 (P + 6)) nb na i + 1) := by
            cases w with
            | zero => exact absurd u4.1 (by omega)
            | succ w =>
              rw [hkF_s, if_pos (Or.inl u4.1), if_pos u4]
              exact (hkF_fuel V w _ _ (VI_s V u1 u4.1 u4.2) (by omega)).symm
          rw [ef] at hr ⊢
          obtain ⟨s, a1, a2, a3⟩ := ih (nx (σ0 (P + 6)) nb i + 1) (j2F (σ0 (P + 6)) nb na i + 1) (some (vI (nx (σ0 (P + 6)) nb i : Nat))) (some (vI (j2F (σ0 (P + 6)) nb na i : Nat))) σ1 _ hs1 r5 (by rw [List.length_append]; simp; omega) (by omega) (VI_s V u1 u4.1 u4.2) (fun k k1 k2 k3 => by
            by_cases y : k = nx (σ0 (P + 6)) nb i
            · rw [y, u4.2]; omega
            · by_cases y2 : k < i
              · have := hj k y2 k2 k3
                omega
              · exact absurd (nx_m (f := σ0 (P + 6)) (nb := nb) (i := i) (k := k) (by omega) (by omega)) k3)
          refine ⟨s, toB (b94_102 ⟨by omega, by omega, ?_⟩), a2, fun c k y1 y2 => by rw [a3 c k y1 y2, rf c k y1 y2]⟩
          rw [show ((nx (σ0 (P + 6)) nb i : Nat) : Int) + 1 = ((nx (σ0 (P + 6)) nb i + 1 : Nat) : Int) by omega, show ((j2F (σ0 (P + 6)) nb na i : Nat) : Int) + 1 = ((j2F (σ0 (P + 6)) nb na i + 1 : Nat) : Int) by omega]
          exact a1
        · have ee : hkF (σ0 (P + 6)) nb na w (nx (σ0 (P + 6)) nb i) (j2F (σ0 (P + 6)) nb na i) = [] := hkF_e (by omega) w
          rw [ee, show fl4 [] = [] from rfl, List.append_nil]
          refine ⟨σ1, toB (b94_102 ⟨by omega, by omega, ?_⟩), r5, rf⟩
          have := fin (nx (σ0 (P + 6)) nb i + 1) (j2F (σ0 (P + 6)) nb na i + 1) (some (vI (nx (σ0 (P + 6)) nb i : Nat))) (some (vI (j2F (σ0 (P + 6)) nb na i : Nat))) σ1 hs1 (by omega) (by omega)
          rw [show ((nx (σ0 (P + 6)) nb i : Nat) : Int) + 1 = ((nx (σ0 (P + 6)) nb i + 1 : Nat) : Int) by omega, show ((j2F (σ0 (P + 6)) nb na i : Nat) : Int) + 1 = ((j2F (σ0 (P + 6)) nb na i + 1 : Nat) : Int) by omega]
          exact this
    · rw [hkF_e e1, show fl4 [] = [] from rfl, List.append_nil]
      exact ⟨σ, fin i j d3 d4 σ hs (by omega) (by omega), hm, fun _ _ _ _ => rfl⟩
/-- the pieces of a patch are its hunks -/
def PCS (σ : Sg) (P nb na : Nat) : Prop := σ (P + 9) 1 = 4 * ((hks (σ (P + 6)) nb na).length : Nat) ∧ ∀ h : Nat, ∀ q, (hks (σ (P + 6)) nb na)[h]? = some q → σ (P + 10) (4 * h) = (q.1 : Nat) ∧ σ (P + 10) (4 * h + 1) = (q.2.1 : Nat) ∧ σ (P + 10) (4 * h + 2) = (q.2.2.1 : Nat) ∧ σ (P + 10) (4 * h + 3) = (q.2.2.2 : Nat)
/-- Patch.finish -/
theorem d94 {P nb na : Nat} {σ : Sg} (hP : isPatch P = true) (h1 : σ (P + 1) 1 = (nb : Nat)) (h3 : σ (P + 3) 1 = (na : Nat)) (h5 : σ (P + 5) 1 = (nb : Nat)) (h7 : σ (P + 7) 1 = (na : Nat)) (w5 : wR σ (P + 5)) (w7 : wR σ (P + 7)) (V : VF (σ (P + 6)) nb na) (K : IV (σ (P + 6)) (σ (P + 8)) nb na) (hc : 4 * (nb + 1) ≤ cap (P + 9)) : ∃ s, Dd 94 [vA P] σ (rV s) ∧ PCS s P nb na ∧ wR s (P + 9) ∧ ∀ c k, ¬ c = P + 9 → ¬ c = P + 10 → s c k = σ c k := by
  have hl := hks_len V
  have q9 := pat_9 hP
  have e6 : upS σ (P + 9) 1 0 (P + 6) = σ (P + 6) := funext fun k => up_a (by omega)
  have e8 : upS σ (P + 9) 1 0 (P + 8) = σ (P + 8) := funext fun k => up_a (by omega)
  obtain ⟨s, a1, a2, a3⟩ := l94 (σ0 := upS σ (P + 9) 1 0) hP (by rw [up_a (by omega)]; exact h1) (by rw [up_a (by omega)]; exact h3) (by rw [up_a (by omega)]; exact h5) (by rw [up_a (by omega)]; exact h7) ⟨w5.1, by rw [up_a (by omega)]; exact w5.2⟩ ⟨w7.1, by rw [up_a (by omega)]; exact w7.2⟩ (by rw [e6]; exact V) (by rw [e6, e8]; exact K) (nb + na) 0 0 none none (upS σ (P + 9) 1 0) [] (fun _ _ _ _ => rfl) Rw_nil (by
    rw [e6]
    have : (hkF (σ (P + 6)) nb na (nb + na) 0 0).length ≤ nb + 1 := hl
    simp
    omega) (by omega) (by rw [e6]; exact VI_0 V) (fun k k1 => absurd k1 (Nat.not_lt_zero k))
  rw [List.nil_append, e6] at a2
  have s6 : s (P + 6) = σ (P + 6) := funext fun k => by rw [a3 _ _ (by omega) (by omega), up_a (by omega)]
  refine ⟨s, b94 hP ⟨_, d152 q9, a1⟩, ⟨?_, fun h q hq => ?_⟩, ?_, fun c k y1 y2 => by rw [a3 c k y1 y2, up_a y1]⟩
  · rw [s6, a2.1, fl4_len]
    have : hks (σ (P + 6)) nb na = hkF (σ (P + 6)) nb na (nb + na) 0 0 := rfl
    rw [this]
    omega
  · rw [s6] at hq
    obtain ⟨z0, z1, z2, z3⟩ := fl4_get _ h q hq
    exact ⟨a2.2 _ _ z0, a2.2 _ _ z1, a2.2 _ _ z2, a2.2 _ _ z3⟩
  · refine Rw_wR q9 a2 ?_
    rw [fl4_len]
    have : (hkF (σ (P + 6)) nb na (nb + na) 0 0).length ≤ nb + 1 := hl
    omega
end
