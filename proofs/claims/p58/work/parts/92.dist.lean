/-! distance: the rows of changes. -/
noncomputable section
def sq (f : Nat → Int) : Nat → Nat → List Int
  | _, 0 => []
  | i, d + 1 => f i :: sq f (i + 1) d
theorem sq_len {f : Nat → Int} : ∀ (d i : Nat), (sq f i d).length = d := by
  intro d
  induction d with
  | zero => intro i; rfl
  | succ d ih =>
    intro i
    show (sq f (i + 1) d).length + 1 = d + 1
    rw [ih]
theorem app_c (m : List Int) (a : Int) (t : List Int) : m ++ (a :: t) = (m ++ [a]) ++ t := by
  rw [List.append_assoc]
  rfl
/-- what a hunk changes -/
def chl (O N : Nat → Int) (q : Nat × Nat × Nat × Nat) : List Int := 300000 :: (sq (fun x => 100000 + O x) q.1 q.2.1 ++ sq (fun x => 200000 + N x) q.2.2.1 q.2.2.2)
def chg (O N : Nat → Int) : List (Nat × Nat × Nat × Nat) → List Int
  | [] => []
  | q :: t => chl O N q ++ chg O N t
theorem chl_len {O N : Nat → Int} {q : Nat × Nat × Nat × Nat} : (chl O N q).length = 1 + q.2.1 + q.2.2.2 := by
  unfold chl
  rw [List.length_cons, List.length_append, sq_len, sq_len]
  omega
theorem chg_len {O N f : Nat → Int} {nb na : Nat} (V : VF f nb na) : ∀ (w i j : Nat), VI f nb na i j → (nb - i) + (na - j) ≤ w → (chg O N (hkF f nb na w i j)).length ≤ (nb - i) + (na - j) + 1 ∧ (((i < nb ∧ f i = (j : Int)) ∨ (i = nb ∧ j = na)) → (chg O N (hkF f nb na w i j)).length ≤ (nb - i) + (na - j)) ∧ ((i < nb ∧ f i = (j : Int)) → (chg O N (hkF f nb na w i j)).length + 1 ≤ (nb - i) + (na - j)) := by
  intro w
  induction w with
  | zero =>
    intro i j hi hw
    rw [hkF_e (by omega)]
    show 0 ≤ _ ∧ (_ → 0 ≤ _) ∧ (_ → 0 + 1 ≤ _)
    refine ⟨by omega, fun _ => by omega, fun h => ?_⟩
    have := h.1
    omega
  | succ w ih =>
    intro i j hi hw
    rw [hkF_s]
    by_cases h1 : i < nb ∨ j < na
    · rw [if_pos h1]
      by_cases h2 : i < nb ∧ f i = (j : Int)
      · rw [if_pos h2]
        have vi := VI_s V hi h2.1 h2.2
        obtain ⟨g1, -, -⟩ := ih _ _ vi (by omega)
        have b1 := h2.1
        have b2 := vi.2.1
        exact ⟨by omega, fun _ => by omega, fun _ => by omega⟩
      · rw [if_neg h2]
        obtain ⟨u1, u2, u3, u4⟩ := VI_h V hi h1 h2
        obtain ⟨g1, g2, g3⟩ := ih _ _ u1 (by omega)
        have n1 := nx_ge (f := f) (nb := nb) (i := i)
        have n2 := u1.1
        have n3 := u1.2.1
        show (chl O N (i, nx f nb i - i, j, j2F f nb na i - j) ++ chg O N (hkF f nb na w (nx f nb i) (j2F f nb na i))).length ≤ _ ∧ _
        have e : (chl O N (i, nx f nb i - i, j, j2F f nb na i - j) ++ chg O N (hkF f nb na w (nx f nb i) (j2F f nb na i))).length = 1 + (nx f nb i - i) + (j2F f nb na i - j) + (chg O N (hkF f nb na w (nx f nb i) (j2F f nb na i))).length := by
          rw [List.length_append, chl_len]
        have e' : (chg O N ((i, nx f nb i - i, j, j2F f nb na i - j) :: hkF f nb na w (nx f nb i) (j2F f nb na i))).length = 1 + (nx f nb i - i) + (j2F f nb na i - j) + (chg O N (hkF f nb na w (nx f nb i) (j2F f nb na i))).length := e
        rw [e']
        rw [e]
        rcases u4 with u4 | u4
        · have g := g3 u4
          refine ⟨by omega, fun h => ?_, fun h => absurd h h2⟩
          rcases h with h | h
          · exact absurd h h2
          · omega
        · have g := g2 (Or.inr u4)
          refine ⟨by omega, fun h => ?_, fun h => absurd h h2⟩
          rcases h with h | h
          · exact absurd h h2
          · omega
    · rw [if_neg h1]
      show 0 ≤ _ ∧ (_ → 0 ≤ _) ∧ (_ → 0 + 1 ≤ _)
      refine ⟨by omega, fun _ => by omega, fun h => ?_⟩
      have := h.1
      omega
/-- the class's row of changes -/
theorem l18c {P R h : Nat} {q : Nat × Nat × Nat × Nat} {l : List (Nat × Nat × Nat × Nat)} {O N : Nat → Int} {na : Nat} {σ0 : Sg} (hP : isPatch P = true) (hR : isRow R = true) (hRc : cap R = 40) (hRP : P + 12 < R ∨ R + 1 < P) (w9 : wR σ0 (P + 9)) (w3 : wR σ0 (P + 3)) (z3 : σ0 (P + 3) 1 = (na : Nat)) (hN : ∀ i, i < na → σ0 (P + 4) i = N i) (bN : ∀ i, i < na → 0 ≤ N i ∧ N i ≤ 1000000) (C : PC σ0 P l) (hq : l[h]? = some q) (hb : q.2.2.1 + q.2.2.2 ≤ na) : ∀ (d x : Nat) (σ : Sg) (m : List Int), x + d = q.2.2.1 + q.2.2.2 → (∀ c k, ¬ c = R → ¬ c = R + 1 → σ c k = σ0 c k) → Rw σ R m → m.length + d ≤ 40 → ∃ s, (∀ {o : Rs}, (∀ d3, C18_6 P R ((h + 1 : Nat) : Int) d3 s o) → C18_62 P R h x σ o) ∧ Rw s R (m ++ sq (fun x => 200000 + N x) x d) ∧ ∀ c k, ¬ c = R → ¬ c = R + 1 → s c k = σ0 c k := by
  have hlh := (List.getElem?_eq_some_iff.mp hq).1
  have z9 := C.1
  have w92 := w9.2.2
  have hc9 := cap_le w9.1
  have bq9 := C.2.2 h q hq
  intro d
  induction d with
  | zero =>
    intro x σ m hx hF hm hl
    have C' : PC σ P l := PC_fr (fun k => hF _ _ (by omega) (by omega)) (fun k => hF _ _ (by omega) (by omega)) C
    obtain ⟨-, -, -, e5⟩ := pc_at hP ⟨w9.1, by rw [hF _ _ (by omega) (by omega)]; exact w9.2⟩ C' hq
    refine ⟨σ, fun {o} hh => b18_62 hP hR ⟨_, _, e5, ?_⟩, by rw [show sq (fun x => 200000 + N x) x 0 = [] from rfl, List.append_nil]; exact hm, hF⟩
    rw [if_neg (by omega), show (h : Int) + 1 = ((h + 1 : Nat) : Int) by omega]
    exact ⟨by omega, hh _⟩
  | succ d ih =>
    intro x σ m hx hF hm hl
    have C' : PC σ P l := PC_fr (fun k => hF _ _ (by omega) (by omega)) (fun k => hF _ _ (by omega) (by omega)) C
    obtain ⟨-, -, -, e5⟩ := pc_at hP ⟨w9.1, by rw [hF _ _ (by omega) (by omega)]; exact w9.2⟩ C' hq
    have e147 := d147 (σ := σ) (a := P + 3) (i := (x : Int)) ⟨w3.1, by rw [hF _ _ (by omega) (by omega)]; exact w3.2⟩
    rw [at_on (n := na) (f := N) (by rw [hF _ _ (by omega) (by omega)]; exact z3) (fun i hi => by rw [hF _ _ (by omega) (by omega)]; exact hN i hi) (by omega)] at e147
    have r := Rw_ad (v := 200000 + N x) hm (by omega)
    obtain ⟨s, a1, a2, a3⟩ := ih (x + 1) (adS σ R (200000 + N x)) (m ++ [200000 + N x]) (by omega) (fun c k y1 y2 => by rw [ad_off y1 y2]; exact hF c k y1 y2) r (by rw [List.length_append]; simp; omega)
    have bx := bN x (by omega)
    refine ⟨s, fun {o} hh => b18_62 hP hR ⟨_, _, e5, ?_⟩, by
      rw [show sq (fun x => 200000 + N x) x (d + 1) = (200000 + N x) :: sq (fun x => 200000 + N x) (x + 1) d from rfl, app_c]
      exact a2, a3⟩
    rw [if_pos (by omega), show (x : Int) + 1 = ((x + 1 : Nat) : Int) by omega]
    exact ⟨_, _, e147, by omega, _, d149 (Rw_wR hR hm (by omega)), by omega, a1 hh⟩
theorem l18b {P R h : Nat} {q : Nat × Nat × Nat × Nat} {l : List (Nat × Nat × Nat × Nat)} {O : Nat → Int} {nb : Nat} {σ0 : Sg} (hP : isPatch P = true) (hR : isRow R = true) (hRc : cap R = 40) (hRP : P + 12 < R ∨ R + 1 < P) (w9 : wR σ0 (P + 9)) (w1 : wR σ0 (P + 1)) (z1 : σ0 (P + 1) 1 = (nb : Nat)) (hO : ∀ i, i < nb → σ0 (P + 2) i = O i) (bO : ∀ i, i < nb → 0 ≤ O i ∧ O i ≤ 1000000) (C : PC σ0 P l) (hq : l[h]? = some q) (hb : q.1 + q.2.1 ≤ nb) : ∀ (d x : Nat) (σ : Sg) (m : List Int), x + d = q.1 + q.2.1 → (∀ c k, ¬ c = R → ¬ c = R + 1 → σ c k = σ0 c k) → Rw σ R m → m.length + d ≤ 40 → ∃ s, (∀ {o : Rs}, C18_62 P R h (q.2.2.1 : Nat) s o → C18_26 P R h x σ o) ∧ Rw s R (m ++ sq (fun x => 100000 + O x) x d) ∧ ∀ c k, ¬ c = R → ¬ c = R + 1 → s c k = σ0 c k := by
  have hlh := (List.getElem?_eq_some_iff.mp hq).1
  have z9 := C.1
  have w92 := w9.2.2
  have hc9 := cap_le w9.1
  have bq9 := C.2.2 h q hq
  intro d
  induction d with
  | zero =>
    intro x σ m hx hF hm hl
    have C' : PC σ P l := PC_fr (fun k => hF _ _ (by omega) (by omega)) (fun k => hF _ _ (by omega) (by omega)) C
    obtain ⟨-, e2, e3, -⟩ := pc_at hP ⟨w9.1, by rw [hF _ _ (by omega) (by omega)]; exact w9.2⟩ C' hq
    refine ⟨σ, fun {o} hh => b18_26 hP hR ⟨_, _, e2, ?_⟩, by rw [show sq (fun x => 100000 + O x) x 0 = [] from rfl, List.append_nil]; exact hm, hF⟩
    rw [if_neg (by omega)]
    exact ⟨_, _, e3, hh⟩
  | succ d ih =>
    intro x σ m hx hF hm hl
    have C' : PC σ P l := PC_fr (fun k => hF _ _ (by omega) (by omega)) (fun k => hF _ _ (by omega) (by omega)) C
    obtain ⟨-, e2, e3, -⟩ := pc_at hP ⟨w9.1, by rw [hF _ _ (by omega) (by omega)]; exact w9.2⟩ C' hq
    have e147 := d147 (σ := σ) (a := P + 1) (i := (x : Int)) ⟨w1.1, by rw [hF _ _ (by omega) (by omega)]; exact w1.2⟩
    rw [at_on (n := nb) (f := O) (by rw [hF _ _ (by omega) (by omega)]; exact z1) (fun i hi => by rw [hF _ _ (by omega) (by omega)]; exact hO i hi) (by omega)] at e147
    have r := Rw_ad (v := 100000 + O x) hm (by omega)
    obtain ⟨s, a1, a2, a3⟩ := ih (x + 1) (adS σ R (100000 + O x)) (m ++ [100000 + O x]) (by omega) (fun c k y1 y2 => by rw [ad_off y1 y2]; exact hF c k y1 y2) r (by rw [List.length_append]; simp; omega)
    have bx := bO x (by omega)
    refine ⟨s, fun {o} hh => b18_26 hP hR ⟨_, _, e2, ?_⟩, by
      rw [show sq (fun x => 100000 + O x) x (d + 1) = (100000 + O x) :: sq (fun x => 100000 + O x) (x + 1) d from rfl, app_c]
      exact a2, a3⟩
    rw [if_pos (by omega), show (x : Int) + 1 = ((x + 1 : Nat) : Int) by omega]
    exact ⟨_, _, e147, by omega, _, d149 (Rw_wR hR hm (by omega)), by omega, a1 hh⟩
theorem chg_c {O N : Nat → Int} {q : Nat × Nat × Nat × Nat} {t : List (Nat × Nat × Nat × Nat)} {m : List Int} : m ++ chg O N (q :: t) = m ++ [300000] ++ sq (fun x => 100000 + O x) q.1 q.2.1 ++ sq (fun x => 200000 + N x) q.2.2.1 q.2.2.2 ++ chg O N t := by
  show m ++ (chl O N q ++ chg O N t) = _
  unfold chl
  rw [List.cons_append, app_c]
  simp only [List.append_assoc]
/-- Comparer.listChanges -/
theorem d18 {P R nb na : Nat} {l : List (Nat × Nat × Nat × Nat)} {O N : Nat → Int} {σ : Sg} (hP : isPatch P = true) (hR : isRow R = true) (hRc : cap R = 40) (hRP : P + 12 < R ∨ R + 1 < P) (w : WF σ) (z1 : σ (P + 1) 1 = (nb : Nat)) (z3 : σ (P + 3) 1 = (na : Nat)) (hO : ∀ i, i < nb → σ (P + 2) i = O i) (hN : ∀ i, i < na → σ (P + 4) i = N i) (bO : ∀ i, i < nb → 0 ≤ O i ∧ O i ≤ 1000000) (bN : ∀ i, i < na → 0 ≤ N i ∧ N i ≤ 1000000) (C : PC σ P l) (hbd : ∀ q, q ∈ l → q.1 + q.2.1 ≤ nb ∧ q.2.2.1 + q.2.2.2 ≤ na) (hl : (chg O N l).length ≤ 40) : ∃ s, Dd 18 [vA P, vA R] σ (rV s) ∧ Rw s R (chg O N l) ∧ ∀ c k, ¬ c = R → ¬ c = R + 1 → s c k = σ c k := by
  have w9 := WF_w w (pat_9 hP)
  have z9 := C.1
  have w92 := w9.2.2
  have hc9 := cap_le w9.1
  have L : ∀ (d h : Nat) (σ' : Sg) (m : List Int), h + d = l.length → (∀ c k, ¬ c = R → ¬ c = R + 1 → σ' c k = σ c k) → Rw σ' R m → m.length + (chg O N (l.drop h)).length ≤ 40 → ∃ s, (∀ d3, C18_6 P R h d3 σ' (rV s)) ∧ Rw s R (m ++ chg O N (l.drop h)) ∧ ∀ c k, ¬ c = R → ¬ c = R + 1 → s c k = σ c k := by
    intro d
    induction d with
    | zero =>
      intro h σ' m hh hF hm hlen
      have C' : PC σ' P l := PC_fr (fun k => hF _ _ (by omega) (by omega)) (fun k => hF _ _ (by omega) (by omega)) C
      refine ⟨σ', fun d3 => b18_6 hP hR ⟨_, _, d98' hP C', ?_⟩, ?_, hF⟩
      · rw [if_neg (by omega)]
      · rw [List.drop_eq_nil_of_le (by omega), show chg O N [] = [] from rfl, List.append_nil]
        exact hm
    | succ d ih =>
      intro h σ' m hh hF hm hlen
      have hlt : h < l.length := by omega
      obtain ⟨q, hq⟩ : ∃ q, q = l[h] := ⟨_, rfl⟩
      have hq2 : l[h]? = some q := by rw [hq]; exact List.getElem?_eq_getElem hlt
      obtain ⟨b1, b2⟩ := hbd q (by rw [hq]; exact List.getElem_mem hlt)
      have C' : PC σ' P l := PC_fr (fun k => hF _ _ (by omega) (by omega)) (fun k => hF _ _ (by omega) (by omega)) C
      rw [List.drop_eq_getElem_cons hlt, ← hq] at hlen ⊢
      have hlen2 : (chg O N (q :: l.drop (h + 1))).length = 1 + q.2.1 + q.2.2.2 + (chg O N (l.drop (h + 1))).length := by
        show (chl O N q ++ chg O N (l.drop (h + 1))).length = _
        rw [List.length_append, chl_len]
      have r := Rw_ad (v := 300000) hm (by omega)
      have hF1 : ∀ c k, ¬ c = R → ¬ c = R + 1 → adS σ' R 300000 c k = σ c k := fun c k y1 y2 => by rw [ad_off y1 y2]; exact hF c k y1 y2
      obtain ⟨s1, a1, a2, a3⟩ := l18b (h := h) (q := q) hP hR hRc hRP w9 (WF_w w (pat_1 hP)) z1 hO bO C hq2 b1 q.2.1 q.1 (adS σ' R 300000) (m ++ [300000]) rfl hF1 r (by rw [List.length_append]; simp; omega)
      obtain ⟨s2, c1, c2, c3⟩ := l18c (h := h) (q := q) (O := O) hP hR hRc hRP w9 (WF_w w (pat_3 hP)) z3 hN bN C hq2 b2 q.2.2.2 q.2.2.1 s1 _ rfl a3 a2 (by rw [List.length_append, List.length_append, sq_len]; simp; omega)
      obtain ⟨s, e1, e2, e3⟩ := ih (h + 1) s2 _ (by omega) c3 c2 (by rw [List.length_append, List.length_append, List.length_append, sq_len, sq_len]; simp; omega)
      have C1 : PC (adS σ' R 300000) P l := PC_fr (fun k => hF1 _ _ (by omega) (by omega)) (fun k => hF1 _ _ (by omega) (by omega)) C
      obtain ⟨f0, -, -, -⟩ := pc_at hP ⟨w9.1, by rw [hF1 _ _ (by omega) (by omega)]; exact w9.2⟩ C1 hq2
      refine ⟨s, fun d3 => b18_6 hP hR ⟨_, _, d98' hP C', ?_⟩, ?_, e3⟩
      · rw [if_pos (by omega)]
        exact ⟨_, d149 (Rw_wR hR hm (by omega)), _, _, f0, a1 (c1 e1)⟩
      · rw [chg_c]
        exact e2
  obtain ⟨s, e1, e2, e3⟩ := L l.length 0 (upS σ R 1 0) [] (by omega) (fun c k y1 y2 => up_a y1) Rw_nil (by
    show 0 + (chg O N l).length ≤ 40
    omega)
  exact ⟨s, b18 hR ⟨_, d152 hR, e1 _⟩, e2, e3⟩
end
