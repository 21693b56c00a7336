-- DRAFT a6wh.lean
/-! isWhole: hunks and pairs of any patch of the class make up both texts. -/
noncomputable section
/-- the rows in which a patch keeps what was found of moved lines -/
def knr (x : Nat) : Prop := 20 ≤ x ∧ x ≤ 331 ∧ 11 ≤ (x - 20) % 13
/-- what can be seen is the same -/
def Pe (σ s : Sg) : Prop := ∀ x k, x < 682 → KP x k → ¬ knr x → s x k = σ x k
theorem Pe_r (σ : Sg) : Pe σ σ := fun _ _ _ _ _ => rfl
theorem Pe_t {σ s s' : Sg} (h : Pe σ s) (h' : Pe s s') : Pe σ s' := fun x k h1 h2 h3 => (h' x k h1 h2 h3).trans (h x k h1 h2 h3)
/-- only what can't be seen differs -/
def Wi (c : Int) (w0 w : WS) : Prop := Rel c w.2.2 ∧ w.1 = w0.1 ∧ w.2.1 = w0.2.1 ∧ Pe w0.2.2 w.2.2
theorem Wi_r {c : Int} {w : WS} (H : Rel c w.2.2) : Wi c w w := ⟨H, rfl, rfl, Pe_r _⟩
theorem Wi_s {c : Int} {w0 w : WS} {s : Sg} (W : Wi c w0 w) (H : Rel c s) (h : Pe w.2.2 s) : Wi c w0 (wS w s) := ⟨H, W.2.1, W.2.2.1, Pe_t W.2.2.2 h⟩
theorem Wi_t {c : Int} {w0 w w' : WS} (W : Wi c w0 w) (W' : Wi c w w') : Wi c w0 w' := ⟨W'.1, W'.2.1.trans W.2.1, W'.2.2.1.trans W.2.2.1, Pe_t W.2.2.2 W'.2.2.2⟩
theorem Wi_p {c : Int} {w0 w : WS} {p j : Nat} (W : Wi c w0 w) (hp : p < 24) (hj : j ≤ 10) : w.2.2 (20 + 13 * p + j) = w0.2.2 (20 + 13 * p + j) :=
  funext fun k => W.2.2.2 _ k (by omega) (kp_3 (by omega)) (by unfold knr; omega)
theorem Wi_c {c : Int} {w0 w : WS} (W : Wi c w0 w) : w.2.2 0 3 = w0.2.2 0 3 := W.2.2.2 0 3 (by decide) (by unfold KP; omega) (by unfold knr; omega)
/-- what the relation says of a patch of the class -/
def PA (σ : Sg) (p nb na : Nat) : Prop := p < 24 ∧ nb ≤ 16 ∧ na ≤ 16 ∧ NP σ (20 + 13 * p) nb na ∧ EQL (σ (20 + 13 * p + 2)) (σ (20 + 13 * p + 4)) (σ (20 + 13 * p + 6)) nb ∧ (∀ i, i < nb → isLn (σ (20 + 13 * p + 2) i) = true) ∧ ∀ i, i < na → isLn (σ (20 + 13 * p + 4) i) = true
theorem PA_of {c : Int} {σ : Sg} {p : Nat} (H : Rel c σ) (hp : (p : Int) < σ 0 3) : ∃ nb na, PA σ p nb na := by
  have hn := (rel_n H).1
  obtain ⟨hP, q1, q2, w1, w3⟩ := po_pat H hp
  obtain ⟨nb, na, hb1, hb2, N, S⟩ := po_slot q1 q2 w1 w3
  refine ⟨nb, na, by omega, hb1, hb2, N, fun x hx hf => ?_, fun i hi => q2.2.2.2.2.2.2.2.1 i (by rw [N.1]; omega), fun i hi => q2.2.2.2.2.2.2.2.2.1 i (by rw [N.2.1]; omega)⟩
  rcases q2.2.2.2.2.1 x (by rw [N.1]; omega) with h | h
  · exact absurd h hf
  · exact h.2.2.2
theorem q192 {c : Int} {σ : Sg} {p k nb na : Nat} (H : Rel c σ) (hp : (p : Int) < σ 0 3) (A : PA σ p nb na) (hk : k < nb) : ∃ s, Dc 192 [vA 0, vI p, vI k] σ (.inl (some (.inl (goalZ (σ (20 + 13 * p + 2)) (σ (20 + 13 * p + 4)) (σ (20 + 13 * p + 6)) (σ (20 + 13 * p + 8)) nb na k)))) s ∧ Rel c s ∧ Pe σ s := by
  obtain ⟨e, hP, -, -, -⟩ := pat_ok H hp
  obtain ⟨h24, a1, a2, N, -, lO, lN⟩ := A
  have c11 : nb ≤ cap (20 + 13 * p + 11) := by
    have := (cpP (p := p) h24).2.2.2.2.2.1
    omega
  obtain ⟨s1, b1, W1, -, b4⟩ := d114 (p := k) hP H.1 N (by omega) (by omega) lO lN c11 (by omega)
  have e146 := d146 (σ := σ) (pat_1 hP)
  rw [N.1] at e146
  refine ⟨s1, Dc_of (b192 (Or.inl ⟨_, _, e, hP, _, _, e146, Or.inl ⟨_, d232_ok (by omega), _, _, b1, rfl⟩⟩)), Rel_kin h24 W1 (fun x k h => b4 x k (by omega) (by omega)) H, fun x k _ _ h2 => b4 x k (fun e => h2 ?_) (fun e => h2 ?_)⟩
  · unfold knr; omega
  · unfold knr; omega
section
variable {c : Int} {p nb na : Nat} {w0 : WS}
theorem lw188 (A : PA w0.2.2 p nb na) (hp0 : (p : Int) < w0.2.2 0 3) {h hn b dr ad R : Nat} : ∀ (d i j r : Nat) (w : WS) (d10 d13 : Option AV), Wi c w0 w → i + d = b → b ≤ nb → j + d ≤ na → (∀ x, i ≤ x → x < b → w0.2.2 (20 + 13 * p + 6) x = ((j + (x - i) : Nat) : Int)) → R + 8 * d ≤ r → (∀ (w' : WS) (r' : Nat) (d10 d13 : Option AV), Wi c w0 w' → R ≤ r' → ∃ w'', Wi c w0 w'' ∧ K253_252 p b (j + d : Nat) hn nb na 1 h b d10 dr ad d13 w' r' (rO 1 w'')) → ∃ w'', Wi c w0 w'' ∧ K253_188 p i j hn nb na 1 h b d10 dr ad d13 w r (rO 1 w'') := by
  intro d
  induction d with
  | zero =>
    intro i j r w d10 d13 W hi hb hj hF hr K
    obtain ⟨w'', k1, k2⟩ := K w r d10 d13 W (by omega)
    refine ⟨w'', k1, bK253_188 ?_⟩
    rw [if_neg (by omega), show i = b by omega]
    exact k2
  | succ d ih =>
    intro i j r w d10 d13 W hi hb hj hF hr K
    have hc := Wi_c W
    have e1 := Wi_p (j := 1) W A.1 (by decide)
    have e2 := Wi_p (j := 2) W A.1 (by decide)
    have e3 := Wi_p (j := 3) W A.1 (by decide)
    have e4 := Wi_p (j := 4) W A.1 (by decide)
    have e6 := Wi_p (j := 6) W A.1 (by decide)
    have e8 := Wi_p (j := 8) W A.1 (by decide)
    have hFi : w0.2.2 (20 + 13 * p + 6) i = (j : Int) := by
      rw [hF i (Nat.le_refl _) (by omega)]
      omega
    have a1 := A.2.1
    have a2 := A.2.2.1
    have n1 : w0.2.2 (20 + 13 * p + 1) 1 = (nb : Nat) := A.2.2.2.1.1
    have n3 : w0.2.2 (20 + 13 * p + 3) 1 = (na : Nat) := A.2.2.2.1.2.1
    have d189 := q189 (p := p) (k := i) W.1 (by omega) (by rw [e1, n1]; omega)
    rw [e6, hFi] at d189
    have dO := q188i (p := p) (k := i) (b := 0) W.1 (by omega) (by unfold pl sd; rw [if_pos rfl, e1, n1]; omega)
    have dN := q188i (p := p) (k := j) (b := 1) W.1 (by omega) (by unfold pl sd; rw [if_neg (by decide), e3, n3]; omega)
    have xO : px w.2.2 p 0 i = w0.2.2 (20 + 13 * p + 2) i := by unfold px sd; rw [if_pos rfl]; exact congrFun e2 i
    have xN : px w.2.2 p 1 j = w0.2.2 (20 + 13 * p + 4) j := by unfold px sd; rw [if_neg (by decide)]; exact congrFun e4 j
    rw [xO] at dO
    rw [xN] at dN
    have hE : w0.2.2 (20 + 13 * p + 2) i = w0.2.2 (20 + 13 * p + 4) j := by
      have := A.2.2.2.2.1 i (by omega) (by rw [hFi]; omega)
      rw [hFi, Int.toNat_natCast] at this
      exact this
    have A' : PA w.2.2 p nb na := (PA_of (p := p) W.1 (by omega)).elim (fun nb' h => h.elim (fun na' h => by
      have x1 : nb' = nb := by have := h.2.2.2.1.1; rw [e1, n1] at this; omega
      have x2 : na' = na := by have := h.2.2.2.1.2.1; rw [e3, n3] at this; omega
      subst x1; subst x2; exact h))
    obtain ⟨s, dg, Rs', Ps⟩ := q192 (p := p) (k := i) W.1 (by omega) A' (by omega)
    rw [goal_pair (by rw [e6, hFi]; omega)] at dg
    obtain ⟨w'', k1, k2⟩ := ih (i + 1) (j + 1) (r - 2 - 2 - 2 - 2) (wS w s) d10 d13 (Wi_s W Rs' Ps) (by omega) hb (by omega) (fun x h1 h2 => by rw [hF x (by omega) h2]; congr 1; omega) (by omega) (fun w' r' d10 d13 W' hR => by
      have := K w' r' d10 d13 W' hR
      rw [show j + 1 + d = j + (d + 1) by omega]
      exact this)
    refine ⟨w'', k1, bK253_188 ?_⟩
    rw [if_pos (by omega), if_neg (by decide)]
    refine ⟨by omega, _, _, Dc_of d189, ?_⟩
    rw [if_pos rfl]
    refine ⟨by omega, _, _, dO, by omega, _, _, dN, ?_⟩
    rw [if_pos hE]
    refine ⟨by omega, _, _, dg, ?_⟩
    rw [if_pos rfl]
    exact bK253_241 ⟨by omega, by omega, k2⟩
theorem lw252 (A : PA w0.2.2 p nb na) (hp0 : (p : Int) < w0.2.2 0 3) {h hn b j dr ad R : Nat} : ∀ (d i r : Nat) (w : WS) (d10 d13 : Option AV), Wi c w0 w → i + d = b + dr → b + dr ≤ nb → (∀ x, i ≤ x → x < b + dr → w0.2.2 (20 + 13 * p + 6) x = -1) → R + 10 * d ≤ r → (∀ (w' : WS) (r' : Nat) (d9 d10 d11 d13 : Option AV), Wi c w0 w' → R ≤ r' → ∃ w'', Wi c w0 w'' ∧ K253_334 p (b + dr : Nat) j hn nb na 1 h d9 d10 d11 ad d13 w' r' (rO 1 w'')) → ∃ w'', Wi c w0 w'' ∧ K253_252 p i j hn nb na 1 h b d10 dr ad d13 w r (rO 1 w'') := by
  intro d
  induction d with
  | zero =>
    intro i r w d10 d13 W hi hb hF hr K
    have a1 := A.2.1
    have a2 := A.2.2.1
    obtain ⟨w'', k1, k2⟩ := K w r (some (.inl b)) d10 (some (.inl dr)) d13 W (by omega)
    refine ⟨w'', k1, bK253_252 ⟨by omega, ?_⟩⟩
    rw [if_neg (by omega), show i = b + dr by omega]
    exact k2
  | succ d ih =>
    intro i r w d10 d13 W hi hb hF hr K
    have a1 := A.2.1
    have a2 := A.2.2.1
    have hc := Wi_c W
    have e1 := Wi_p (j := 1) W A.1 (by decide)
    have e2 := Wi_p (j := 2) W A.1 (by decide)
    have e3 := Wi_p (j := 3) W A.1 (by decide)
    have e4 := Wi_p (j := 4) W A.1 (by decide)
    have e6 := Wi_p (j := 6) W A.1 (by decide)
    have hFi := hF i (Nat.le_refl _) (by omega)
    have n1 : w0.2.2 (20 + 13 * p + 1) 1 = (nb : Nat) := A.2.2.2.1.1
    have n3 : w0.2.2 (20 + 13 * p + 3) 1 = (na : Nat) := A.2.2.2.1.2.1
    have A' : PA w.2.2 p nb na := (PA_of (p := p) W.1 (by omega)).elim (fun nb' h => h.elim (fun na' h => by
      have x1 : nb' = nb := by have := h.2.2.2.1.1; rw [e1, n1] at this; omega
      have x2 : na' = na := by have := h.2.2.2.1.2.1; rw [e3, n3] at this; omega
      subst x1; subst x2; exact h))
    obtain ⟨s, dg, Rs', Ps⟩ := q192 (p := p) (k := i) W.1 (by omega) A' (by omega)
    have W' := Wi_s W Rs' Ps
    have hc' := Wi_c W'
    have f1 := Wi_p (j := 1) W' A.1 (by decide)
    have f2 := Wi_p (j := 2) W' A.1 (by decide)
    have f3 := Wi_p (j := 3) W' A.1 (by decide)
    have f4 := Wi_p (j := 4) W' A.1 (by decide)
    have f6 := Wi_p (j := 6) W' A.1 (by decide)
    have d189 := q189 (p := p) (k := i) W'.1 (by omega) (by rw [f1, n1]; omega)
    rw [f6, hFi] at d189
    have fin : ∀ (r' : Nat) (d7 d13 : Option AV), R + 10 * d ≤ r' → ∃ w'', Wi c w0 w'' ∧ K253_321 p i j hn nb na d7 h b d10 dr ad d13 (wS w s) r' (rO 1 w'') := by
      intro r' d7 d13 hr'
      obtain ⟨w'', k1, k2⟩ := ih (i + 1) r' (wS w s) d10 d13 W' (by omega) hb (fun x h1 h2 => hF x (by omega) h2) hr' K
      exact ⟨w'', k1, bK253_321 (bK253_326 ⟨by omega, k2⟩)⟩
    rcases goal_in (O := w.2.2 (20 + 13 * p + 2)) (N := w.2.2 (20 + 13 * p + 4)) (F := w.2.2 (20 + 13 * p + 6)) (K := w.2.2 (20 + 13 * p + 8)) (nb := nb) (na := na) (p := i) with g | ⟨n, g, g1, g2, g3, g4, g5⟩
    · rw [g] at dg
      obtain ⟨w'', k1, k2⟩ := fin (r - 2 - 2) (some (.inl 1)) (some (.inl (-1))) (by omega)
      refine ⟨w'', k1, bK253_252 ⟨by omega, ?_⟩⟩
      rw [if_pos (by omega), if_neg (by decide)]
      refine ⟨by omega, _, _, dg, by omega, _, _, Dc_of d189, ?_⟩
      rw [if_pos rfl, if_pos rfl]
      exact k2
    · rw [g] at dg
      have dO := q188i (p := p) (k := i) (b := 0) W'.1 (by omega) (by unfold pl sd; rw [if_pos rfl, f1, n1]; omega)
      have dN := q188i (p := p) (k := n) (b := 1) W'.1 (by omega) (by unfold pl sd; rw [if_neg (by decide), f3, n3]; omega)
      have xO : px (wS w s).2.2 p 0 i = w0.2.2 (20 + 13 * p + 2) i := by unfold px sd; rw [if_pos rfl]; exact congrFun f2 i
      have xN : px (wS w s).2.2 p 1 n = w0.2.2 (20 + 13 * p + 4) n := by unfold px sd; rw [if_neg (by decide)]; exact congrFun f4 n
      rw [xO] at dO
      rw [xN] at dN
      rw [e2, e4] at g5
      have lO := A.2.2.2.2.2.1 i (by omega)
      have lN := A.2.2.2.2.2.2 n g2
      obtain ⟨w'', k1, k2⟩ := fin (r - 2 - 2 - 2 - 2 - 2) (some (.inl 1)) (some (.inl (n : Int))) (by omega)
      refine ⟨w'', k1, bK253_252 ⟨by omega, ?_⟩⟩
      rw [if_pos (by omega), if_neg (by decide)]
      refine ⟨by omega, _, _, dg, by omega, _, _, Dc_of d189, ?_⟩
      rw [if_pos rfl, if_neg (by omega), if_pos (by omega)]
      refine ⟨by omega, _, _, dO, by omega, _, _, dN, by omega, _, _, Dc_of (q177 lO lN (isLn_nn lO) (isLn_nn lN)), ?_⟩
      rw [if_pos g5]
      exact k2
theorem lw33 (A : PA w0.2.2 p nb na) (hp0 : (p : Int) < w0.2.2 0 3) {L : List St} (hL : L = hks (w0.2.2 (20 + 13 * p + 6)) nb na) : ∀ (l : List St) (h i j e r : Nat) (w : WS) (d9 d10 d11 d12 d13 : Option AV), Wi c w0 w → L.drop h = l → h ≤ L.length → DS (w0.2.2 (20 + 13 * p + 6)) nb na l i j e → (0 < h → e = 1) → 12 * l.length + 10 * (nb - i) + 2 ≤ r → ∃ w'', Wi c w0 w'' ∧ K253_33 p i j L.length nb na 1 h d9 d10 d11 d12 d13 w r (rO 1 w'') := by
  intro l
  have n1 : w0.2.2 (20 + 13 * p + 1) 1 = (nb : Nat) := A.2.2.2.1.1
  have n3 : w0.2.2 (20 + 13 * p + 3) 1 = (na : Nat) := A.2.2.2.1.2.1
  have a1 := A.2.1
  have a2 := A.2.2.1
  have hLn : L.length ≤ nb + 1 := by rw [hL]; exact hks_len A.2.2.2.1.2.2.2.2.1
  induction l with
  | nil =>
    intro h i j e r w d9 d10 d11 d12 d13 W hd hh D he hr
    have hlen : L.length ≤ h := by
      have := congrArg List.length hd
      rw [List.length_drop] at this
      have h0 : ([] : List St).length = 0 := rfl
      omega
    obtain ⟨D1, D2, D3, D4⟩ := D
    have K1 : ∀ (w' : WS) (r' : Nat) (d10 d13 : Option AV), Wi c w0 w' → 0 ≤ r' → ∃ w'', Wi c w0 w'' ∧ K253_252 p nb (j + (nb - i) : Nat) L.length nb na 1 h nb d10 (0 : Nat) (0 : Nat) d13 w' r' (rO 1 w'') := by
      intro w' r' d10 d13 W' _
      refine ⟨w', W', bK253_252 ⟨by omega, ?_⟩⟩
      rw [if_neg (by omega)]
      refine bK253_334 ⟨by omega, by omega, bK253_33 ?_⟩
      rw [if_neg (by omega)]
      refine bK253_345 ?_
      rw [if_neg (by decide), if_pos rfl, if_pos (by omega)]
      exact bK253_367 ⟨Or.inr rfl, rfl⟩
    obtain ⟨w'', k1, k2⟩ := lw188 (c := c) A hp0 (h := h) (hn := L.length) (b := nb) (dr := 0) (ad := 0) (R := 0) (nb - i) i j r w (some (.inl na)) d13 W (by omega) (Nat.le_refl _) (by omega) D4 (by omega) K1
    refine ⟨w'', k1, bK253_33 ?_⟩
    rw [if_pos (by omega), if_neg (by decide), if_neg (by omega)]
    refine bK253_65 ?_
    rw [if_neg (by omega)]
    refine bK253_87 ?_
    rw [if_neg (by omega)]
    refine bK253_108 ?_
    rw [if_neg (by omega)]
    have fin : ∀ d7 : Option AV, K253_166 p i j L.length nb na d7 h nb (some (.inl na)) (0 : Int) (0 : Int) d13 w r (rO 1 w'') := by
      intro d7
      refine bK253_166 ⟨by omega, ?_⟩
      rw [if_pos (by omega), if_pos (by omega)]
      exact bK253_181 (bK253_186 k2)
    refine bK253_129 ⟨by omega, by omega, ?_⟩
    rw [if_pos (by omega), if_pos (by omega)]
    by_cases y1 : (nb : Int) ≤ i
    · rw [if_pos y1]
      by_cases y2 : (h : Int) = 0
      · rw [if_pos y2]; exact fin _
      · rw [if_neg y2, if_pos (by omega)]; exact fin _
    · rw [if_neg y1]; exact fin _
  | cons q t ih =>
    intro h i j e r w d9 d10 d11 d12 d13 W hd hh D he hr
    have hlt : h < L.length := by
      have := congrArg List.length hd
      rw [List.length_drop, List.length_cons] at this
      omega
    have hq : L[h]? = some q := by
      have := List.getElem?_drop (xs := L) (i := h) (j := 0)
      rw [hd, Nat.add_zero] at this
      exact this.symm
    have ht : L.drop (h + 1) = t := by
      have := List.drop_drop (i := 1) (j := h) (l := L)
      rw [hd] at this
      exact this.symm
    obtain ⟨b, dr, s, ad⟩ := q
    obtain ⟨D1, D2, D3, D4, D5, D6⟩ := D
    dsimp only at D1 D2 D3 D4 D5 D6
    obtain ⟨B1, B2, -⟩ := DS_b t _ _ _ D6
    have hc := Wi_c W
    have e1 := Wi_p (j := 1) W A.1 (by decide)
    have e3 := Wi_p (j := 3) W A.1 (by decide)
    have e6 := Wi_p (j := 6) W A.1 (by decide)
    have hqw : (hkP w.2.2 (20 + 13 * p))[h]? = some (b, dr, s, ad) := by
      unfold hkP
      rw [e6, e1, e3, n1, n3, Int.toNat_natCast, Int.toNat_natCast, ← hL]
      exact hq
    have d0 : Dc 191 [vA 0, vI p, vI h, vI 0] w.2.2 (.inl (some (.inl (b : Int)))) w.2.2 := Dc_of (q191 (p := p) (w := 0) W.1 (by omega) hqw (by decide))
    have d1 : Dc 191 [vA 0, vI p, vI h, vI 1] w.2.2 (.inl (some (.inl (dr : Int)))) w.2.2 := Dc_of (q191 (p := p) (w := 1) W.1 (by omega) hqw (by decide))
    have d2 : Dc 191 [vA 0, vI p, vI h, vI 2] w.2.2 (.inl (some (.inl (s : Int)))) w.2.2 := Dc_of (q191 (p := p) (w := 2) W.1 (by omega) hqw (by decide))
    have d3 : Dc 191 [vA 0, vI p, vI h, vI 3] w.2.2 (.inl (some (.inl (ad : Int)))) w.2.2 := Dc_of (q191 (p := p) (w := 3) W.1 (by omega) hqw (by decide))
    rw [List.length_cons] at hr
    have K2 : ∀ (w' : WS) (r' : Nat) (d9 d10 d11 d13 : Option AV), Wi c w0 w' → 12 * t.length + 10 * (nb - (b + dr)) + 2 ≤ r' → ∃ w'', Wi c w0 w'' ∧ K253_334 p (b + dr : Nat) (j + (b - i) : Nat) L.length nb na 1 h d9 d10 d11 ad d13 w' r' (rO 1 w'') := by
      intro w' r' d9 d10 d11 d13 W' hR
      obtain ⟨w'', k1, k2⟩ := ih (h + 1) (b + dr) (s + ad) 1 r' w' d9 d10 d11 (some (.inl ad)) d13 W' ht (by omega) D6 (fun _ => rfl) hR
      refine ⟨w'', k1, bK253_334 ⟨by omega, by omega, ?_⟩⟩
      rw [show ((j + (b - i) : Nat) : Int) + (ad : Int) = ((s + ad : Nat) : Int) by omega]
      exact k2
    have K1 : ∀ (w' : WS) (r' : Nat) (d10 d13 : Option AV), Wi c w0 w' → 12 * t.length + 10 * (nb - (b + dr)) + 2 + 10 * dr ≤ r' → ∃ w'', Wi c w0 w'' ∧ K253_252 p b (j + (b - i) : Nat) L.length nb na 1 h b d10 dr ad d13 w' r' (rO 1 w'') := by
      intro w' r' d10 d13 W' hR
      exact lw252 (c := c) A hp0 (h := h) (hn := L.length) (b := b) (j := j + (b - i)) (dr := dr) (ad := ad) (R := 12 * t.length + 10 * (nb - (b + dr)) + 2) dr b r' w' d10 d13 W' rfl B1 D4 hR K2
    obtain ⟨w'', k1, k2⟩ := lw188 (c := c) A hp0 (h := h) (hn := L.length) (b := b) (dr := dr) (ad := ad) (R := 12 * t.length + 10 * (nb - (b + dr)) + 2 + 10 * dr) (b - i) i j (r - 3 - 3 - 3 - 3) w (some (.inl s)) d13 W (by omega) (by omega) (by omega) D3 (by omega) K1
    refine ⟨w'', k1, bK253_33 ?_⟩
    rw [if_pos (by omega), if_neg (by decide), if_pos (by omega)]
    refine ⟨by omega, _, _, d0, bK253_65 ?_⟩
    rw [if_pos (by omega)]
    refine ⟨by omega, _, _, d2, bK253_87 ?_⟩
    rw [if_pos (by omega)]
    refine ⟨by omega, _, _, d1, bK253_108 ?_⟩
    rw [if_pos (by omega)]
    refine ⟨by omega, _, _, d3, ?_⟩
    have fin : ∀ d7 : Option AV, K253_166 p i j L.length nb na d7 h b (some (.inl s)) dr ad d13 w (r - 3 - 3 - 3 - 3) (rO 1 w'') := by
      intro d7
      refine bK253_166 ⟨by omega, ?_⟩
      rw [if_neg (by omega)]
      exact bK253_181 (bK253_186 k2)
    refine bK253_129 ⟨by omega, by omega, ?_⟩
    rw [if_pos (by omega), if_pos (by omega)]
    by_cases y1 : (b : Int) ≤ i
    · rw [if_pos y1]
      by_cases y2 : (h : Int) = 0
      · rw [if_pos y2]; exact fin _
      · exfalso
        have := he (by omega)
        omega
    · rw [if_neg y1]; exact fin _
end
/-- isWhole answers 1 of each patch -/
theorem m253 {c : Int} {p : Nat} {w : WS} (H : Rel c w.2.2) (hp : (p : Int) < w.2.2 0 3) : ∃ w', Wi c w w' ∧ Lx 253 [vA 0, vI p] w (rO 1 w') := by
  obtain ⟨nb, na, A⟩ := PA_of H hp
  have n1 : w.2.2 (20 + 13 * p + 1) 1 = (nb : Nat) := A.2.2.2.1.1
  have n3 : w.2.2 (20 + 13 * p + 3) 1 = (na : Nat) := A.2.2.2.1.2.1
  have V := A.2.2.2.1.2.2.2.2.1
  have hlen := hks_len V
  obtain ⟨w', k1, k2⟩ := lw33 (c := c) A hp rfl _ 0 0 0 0 (800 - 1 - 40 - 40) w none none none none none (Wi_r H) (List.drop_zero) (Nat.zero_le _) (DS_0 V) (fun h => absurd h (by decide)) (by
    have := A.2.1
    omega)
  have d190 := Dc_of (q190 (p := p) H hp)
  have eh : hkP w.2.2 (20 + 13 * p) = hks (w.2.2 (20 + 13 * p + 6)) nb na := by
    unfold hkP
    rw [n1, n3, Int.toNat_natCast, Int.toNat_natCast]
  rw [eh] at d190
  have m0 := m250 (b := 0) H hp
  have m1 := m250 (b := 1) H hp
  rw [show pl w.2.2 p 0 = (nb : Nat) by unfold pl sd; rw [if_pos rfl]; exact n1] at m0
  rw [show pl w.2.2 p 1 = (na : Nat) by unfold pl sd; rw [if_neg (by decide)]; exact n3] at m1
  exact ⟨w', k1, lb253 ⟨by decide, _, _, d190, by decide, _, _, m0, by decide, _, _, m1, k2⟩⟩
end
-- DRAFT a7mk.lean
/-! New patches: what the class makes, by its own numbers. -/
noncomputable section
/-- a new patch p was made, of the texts O and N; nothing else that can be seen differs -/
def New (σ s : Sg) (p nb na : Nat) (O N : Nat → Int) : Prop := s 0 3 = (p : Int) + 1 ∧ (∀ x k, x < 682 → KP x k → ¬ (x = 0 ∧ k = 3) → ¬ (20 + 13 * p + 1 ≤ x ∧ x ≤ 20 + 13 * p + 10) → s x k = σ x k) ∧ s (20 + 13 * p + 1) 1 = (nb : Nat) ∧ s (20 + 13 * p + 3) 1 = (na : Nat) ∧ (∀ i, i < nb → s (20 + 13 * p + 2) i = O i) ∧ ∀ i, i < na → s (20 + 13 * p + 4) i = N i
theorem stNew {σ σ1 : Sg} {c : Int} {Q p nb na : Nat} (hp : σ 0 3 = (p : Nat)) (h24 : p < 24) (hQ : isPatch Q = true) (hQ2 : 332 ≤ Q) (w1 : WF σ1) (f1 : ∀ a k, a < 682 → KP a k → σ1 a k = σ a k) (P1 : PO σ1 Q 16) (hb : σ1 (Q + 1) 1 = (nb : Nat)) (ha : σ1 (Q + 3) 1 = (na : Nat)) : ∃ s, Dd 242 [vA 0, vA Q] σ1 (rI p s) ∧ New σ s p nb na (σ1 (Q + 2)) (σ1 (Q + 4)) ∧ ∀ i, i < nb → s (20 + 13 * p + 6) i = σ1 (Q + 6) i := by
  have hP := cpP (p := p) h24
  have hg := patch_gap hP.2.2.2.2.2.2.1 hQ (by omega)
  have e0 : σ1 0 3 = (p : Nat) := by rw [f1 0 3 (by decide) (by unfold KP; omega)]; exact hp
  have row : ∀ j, j = 1 ∨ j = 3 ∨ j = 5 → pbS σ1 (20 + 13 * p) Q (20 + 13 * p + j) 1 = σ1 (Q + j) 1 ∧ ∀ k : Nat, (k : Int) < σ1 (Q + j) 1 → pbS σ1 (20 + 13 * p) Q (20 + 13 * p + j + 1) k = σ1 (Q + j + 1) k := by
    intro j hj
    have p1 := P1.1
    have p2 := P1.2.1
    have p3 := P1.2.2.1
    refine pb_row (Or.inl hg) (by omega) ?_
    rcases hj with hj | hj | hj <;> subst hj <;> omega
  have up : ∀ x k, ¬ (x = 0 ∧ k = 3) → upS (pbS σ1 (20 + 13 * p) Q) 0 3 ((p : Int) + 1) x k = pbS σ1 (20 + 13 * p) Q x k := fun x k h => by
    unfold upS
    rw [if_neg h]
  refine ⟨_, d242_ok e0 h24 hQ (Or.inl (by omega)) (WF_pw w1), ⟨up_s, fun x k h1 h2 h3 h4 => ?_, ?_, ?_, fun i hi => ?_, fun i hi => ?_⟩, fun i hi => ?_⟩
  · rw [up x k h3, pb_off h4]
    exact f1 x k h1 h2
  · rw [up _ _ (by omega), (row 1 (by omega)).1]
    exact hb
  · rw [up _ _ (by omega), (row 3 (by omega)).1]
    exact ha
  · rw [up _ _ (by omega)]
    exact (row 1 (by omega)).2 i (by omega)
  · rw [up _ _ (by omega)]
    exact (row 3 (by omega)).2 i (by omega)
  · rw [up _ _ (by omega)]
    have p3 := P1.2.2.1
    exact (row 5 (by omega)).2 i (by omega)
theorem New_cg {σ s s2 : Sg} {p nb na : Nat} {O N O' N' : Nat → Int} (h : New σ s p nb na O N) (h2 : ∀ a, a < 682 → s2 a = s a) (hp : p < 24) (hO : ∀ i, i < nb → O i = O' i) (hN : ∀ i, i < na → N i = N' i) : New σ s2 p nb na O' N' := by
  obtain ⟨a1, a2, a3, a4, a5, a6⟩ := h
  refine ⟨by rw [h2 _ (by decide)]; exact a1, fun x k h1 h3 h4 h5 => by rw [h2 x h1]; exact a2 x k h1 h3 h4 h5, by rw [h2 _ (by omega)]; exact a3, by rw [h2 _ (by omega)]; exact a4, fun i hi => by rw [h2 _ (by omega), a5 i hi]; exact hO i hi, fun i hi => by rw [h2 _ (by omega), a6 i hi]; exact hN i hi⟩
/-- make -/
theorem c181 {σ : Sg} {c a3 : Int} {t u : Nat} (H : Rel c σ) (ht : t < 4) (hu : u < 4) (g7 : 0 ≤ a3 ∧ a3 < 3) (g8 : σ 0 3 < 24) : ∃ (p n1 n2 : Nat) (s2 : Sg), σ 0 3 = (p : Nat) ∧ p < 24 ∧ σ (2 + 2 * t) 1 = (n1 : Nat) ∧ σ (2 + 2 * u) 1 = (n2 : Nat) ∧ Dc 181 [vA 0, vI t, vI u, vI a3] σ (.inl (some (.inl p))) s2 ∧ Rel (c + 1) s2 ∧ New σ s2 p n1 n2 (σ (2 + 2 * t + 1)) (σ (2 + 2 * u + 1)) := by
  obtain ⟨n1, b1, r1, z1, m1, v1, l1⟩ := rt_two H (t := t) (by omega)
  obtain ⟨n2, b2, r2, z2, m2, v2, l2⟩ := rt_two H (t := u) (by omega)
  have hn := (rel_n H).1
  have e227 := d227_ok (σ := σ) (t := (t : Int)) (by omega)
  have f227 := d227_ok (σ := σ) (t := (u : Int)) (by omega)
  rw [tn] at e227 f227
  have G : GD (σ (2 + 2 * t + 1)) (σ (2 + 2 * u + 1)) n1 n2 (mtc a3 (σ (2 + 2 * t + 1)) (σ (2 + 2 * u + 1)) n1 n2) := mtc_GD
  obtain ⟨s1, a1', W1, a4', a5', a6'⟩ := d15 (way := a3) H.1 r1 r2 z1 z2 (by omega) (by omega) (by omega) (by omega)
  obtain ⟨M, hM⟩ : ∃ M, M = mtc a3 (σ (2 + 2 * t + 1)) (σ (2 + 2 * u + 1)) n1 n2 := ⟨_, rfl⟩
  rw [← hM] at a5' G
  obtain ⟨p379, c380, c382, c384, c386, c388⟩ := cpS379
  have c380' : cap (379 + 1) = 16 := c380
  have c382' : cap (379 + 3) = 16 := c382
  have c384' : cap (379 + 5) = 16 := c384
  have c386' : cap (379 + 7) = 16 := c386
  have c388' : cap (379 + 9) = 68 := c388
  have w337 : wR s1 337 := WF_w W1 (by decide +kernel)
  have a5'' : ∀ i, i < n1 → s1 (337 + 1) i = M i := a5'
  obtain ⟨s2, e1, e2, e3, e4, e5, e6, e7⟩ := d95 (P := 379) (x1 := 2 + 2 * t) (x2 := 2 + 2 * u) (x3 := 337) (nb := n1) (na := n2) (σ := s1) p379 (WF_w W1 r1) (WF_w W1 r2) w337 (by rw [a6' _ _ (by omega) (by omega)]; exact z1) (by rw [a6' _ _ (by omega) (by omega)]; exact z2) a4' (VF_cg a5'' G.1) (by omega) (by omega) (by omega) (by omega) (by omega) (by omega) (by omega) (by omega)
  have W2 : WF s2 := WF_np W1 p379 e2 e3 (by omega) (by omega) (by omega) (by omega) e7
  have h6 : ∀ i, i < n1 → s2 (379 + 6) i = M i := fun i hi => by rw [e6 i hi]; exact a5'' i hi
  have E2 : EQL (σ (2 + 2 * t + 1)) (σ (2 + 2 * u + 1)) (s2 (379 + 6)) n1 := fun x hx hne => by
    rw [h6 x hx] at hne ⊢
    exact G.2 x hx hne
  obtain ⟨s3, k1, k2, k3, k4, k5, k6⟩ := d108 (P := 379) (nb := n1) (na := n2) (O := σ (2 + 2 * t + 1)) (N := σ (2 + 2 * u + 1)) p379 W2 (by omega) (by omega) e2 (fun i hi => by rw [e4 i hi, a6' _ _ (by omega) (by omega)]) (fun i hi => by rw [e5 i hi, a6' _ _ (by omega) (by omega)]) l1 l2 E2 (by omega) (by omega)
  have q2 : ∀ i, i < n1 → s3 (379 + 2) i = σ (2 + 2 * t + 1) i := fun i hi => by rw [k6 _ _ (by omega), e4 i hi, a6' _ _ (by omega) (by omega)]
  have q4 : ∀ i, i < n2 → s3 (379 + 4) i = σ (2 + 2 * u + 1) i := fun i hi => by rw [k6 _ _ (by omega), e5 i hi, a6' _ _ (by omega) (by omega)]
  have V3 : VF (s3 (379 + 6)) n1 n2 := k2.2.2.2.2.1
  have W3 : WF s3 := WF_np W2 p379 k2 k5 (by omega) (by omega) (by omega) (by omega) (fun c k h => k6 c k (by omega))
  have P3 : PO s3 379 16 := by
    refine PO_of k2 (by omega) (by omega) (fun i hi e => ?_) (fun i hi => ?_) (fun i hi => ?_)
    · have y := V3.1 i hi
      rw [q2 i hi, q4 _ (by omega)]
      exact k3 i hi e
    · rw [q2 i hi]; exact l1 i hi
    · rw [q4 i hi]; exact l2 i hi
  have F1 : ∀ a k, a < 682 → KP a k → s3 a k = σ a k := fun a k h1 h2 => by rw [k6 a k (by omega), e7 a k (by omega), a6' a k (by omega) (by omega)]
  have G1 : ∀ a k, 682 ≤ a → s3 a k = σ a k := fun a k h1 => by rw [k6 a k (by omega), e7 a k (by omega), a6' a k (by omega) (by omega)]
  obtain ⟨p, hp⟩ := Int.eq_ofNat_of_zero_le hn.2.1
  obtain ⟨s9, hs, N9, -⟩ := stNew (c := c) hp (by omega) p379 (by decide) W3 F1 P3 k2.1 k2.2.1
  obtain ⟨s8, d1, d2, d3⟩ := fc_join (fc9 (a1 := t) (a2 := u) (a3 := a3) H) (b181 (Or.inl ⟨_, _, e227, r1, Or.inl ⟨_, _, f227, r2, Or.inl ⟨_, d236_ok g7, _, _, a1', by decide +kernel, s2, e1, s3, k1, Or.inl ⟨_, _, hs, rfl⟩⟩⟩⟩))
  exact ⟨p, n1, n2, s8, hp, by omega, z1, z2, d1, d2, New_cg N9 d3 (by omega) q2 q4⟩
/-- invert -/
theorem c182 {σ : Sg} {c : Int} {a : Nat} (H : Rel c σ) (ha0 : (a : Int) < σ 0 3) (g3 : σ 0 3 < 24) : ∃ (p nb na : Nat) (s2 : Sg), σ 0 3 = (p : Nat) ∧ p < 24 ∧ σ (20 + 13 * a + 1) 1 = (nb : Nat) ∧ σ (20 + 13 * a + 3) 1 = (na : Nat) ∧ Dc 182 [vA 0, vI a] σ (.inl (some (.inl p))) s2 ∧ Rel (c + 1) s2 ∧ New σ s2 p na nb (σ (20 + 13 * a + 4)) (σ (20 + 13 * a + 2)) ∧ ∀ i, i < na → s2 (20 + 13 * p + 6) i = σ (20 + 13 * a + 8) i := by
  have k1 : 0 ≤ (a : Int) ∧ (a : Int) < σ 0 3 := by omega
  have hn := (rel_n H).1
  obtain ⟨hP, q1, q2, w1, w3⟩ := po_pat H k1.2
  obtain ⟨nb, na, b1, b2, N, S⟩ := po_slot q1 q2 w1 w3
  obtain ⟨n1, n3, n5, n7, V, K, C1, C2⟩ := N
  have e230 := d230_ok (σ := σ) k1 hn.2.2
  rw [show ((a : Int)).toNat = a by omega] at e230
  obtain ⟨p351, c352, c354, c356, c358, c360⟩ := cpS351
  have c352' : cap (351 + 1) = 96 := c352
  have c354' : cap (351 + 3) = 96 := c354
  have c356' : cap (351 + 5) = 96 := c356
  have c358' : cap (351 + 7) = 96 := c358
  have c360' : cap (351 + 9) = 388 := c360
  have hlt : 20 + 13 * a < 351 := by omega
  have hgp := patch_gap hP p351 hlt
  obtain ⟨s1, a1', a2, a3, a4, a5, a6, a7⟩ := d95 (P := 351) (x1 := 20 + 13 * a + 3) (x2 := 20 + 13 * a + 1) (x3 := 20 + 13 * a + 7) (nb := na) (na := nb) (σ := σ) p351 (WF_w H.1 (pat_3 hP)) (WF_w H.1 (pat_1 hP)) (WF_w H.1 (pat_7 hP)) n3 n1 n7 (VF_K V K) (by omega) (by omega) (by omega) (by omega) (by omega) (by omega) (by omega) (by omega)
  have W1 : WF s1 := WF_np H.1 p351 a2 a3 (by omega) (by omega) (by omega) (by omega) a7
  have F1 : ∀ a k, a < 682 → KP a k → s1 a k = σ a k := fun a k h1 h2 => a7 a k (by omega)
  have G1 : ∀ a k, 682 ≤ a → s1 a k = σ a k := fun a k h1 => a7 a k (by omega)
  have A1 := a2.1
  have A3 := a2.2.1
  have q5 := q2.2.2.2.2.1
  have P1 : PO s1 351 16 := by
    refine PO_of a2 (by omega) (by omega) (fun i hi e => ?_) (fun i hi => ?_) (fun i hi => ?_)
    · have z6 : s1 (351 + 6) i = σ (20 + 13 * a + 8) i := a6 i hi
      rw [z6] at e
      rcases K.1 i hi with y | y
      · exact absurd y e
      have zz := q5 (σ (20 + 13 * a + 8) i).toNat (by omega)
      have y2 : σ (20 + 13 * a + 6) (σ (20 + 13 * a + 8) i).toNat = i := y.2.2
      rcases zz with zz | zz
      · omega
      · have z := zz.2.2.2
        rw [y2, show ((i : Nat) : Int).toNat = i by omega] at z
        rw [a4 i hi, z6, a5 _ (by omega)]
        exact z.symm
    · rw [a4 i hi]; exact q2.2.2.2.2.2.2.2.2.1 i (by omega)
    · rw [a5 i hi]; exact q2.2.2.2.2.2.2.2.1 i (by omega)
  have hd : Dd 3 [vA 350, vA (20 + 13 * a)] σ (rA 351 s1) := b3 hP ⟨s1, a1', rfl⟩
  obtain ⟨p, hp⟩ := Int.eq_ofNat_of_zero_le hn.2.1
  obtain ⟨s9, hs, N9, F9⟩ := stNew (c := c) hp (by omega) p351 (by decide) W1 F1 P1 A1 A3
  obtain ⟨s8, d1, d2, d3⟩ := fc_join (fc10 (a1 := a) H) (b182 (Or.inl ⟨_, _, e230, hP, _, _, hd, p351, Or.inl ⟨_, _, hs, rfl⟩⟩))
  exact ⟨p, nb, na, s8, hp, by omega, n1, n3, d1, d2, New_cg N9 d3 (by omega) a4 a5, fun i hi => by rw [d3 _ (by omega), F9 i hi]; exact a6 i hi⟩
/-- join -/
theorem c183 {σ : Sg} {c : Int} {a b : Nat} (H : Rel c σ) (ha0 : (a : Int) < σ 0 3) (hb0 : (b : Int) < σ 0 3) (hs9 : pS σ a 1 b 0) (g5 : σ 0 3 < 24) : ∃ (p nb na : Nat) (s2 : Sg), σ 0 3 = (p : Nat) ∧ p < 24 ∧ σ (20 + 13 * a + 1) 1 = (nb : Nat) ∧ σ (20 + 13 * b + 3) 1 = (na : Nat) ∧ Dc 183 [vA 0, vI a, vI b] σ (.inl (some (.inl p))) s2 ∧ Rel (c + 1) s2 ∧ New σ s2 p nb na (σ (20 + 13 * a + 2)) (σ (20 + 13 * b + 4)) := by
  have k1 : 0 ≤ (a : Int) ∧ (a : Int) < σ 0 3 := by omega
  have k2 : 0 ≤ (b : Int) ∧ (b : Int) < σ 0 3 := by omega
  have hn := (rel_n H).1
  obtain ⟨hP, q1, q2, w1, w3⟩ := po_pat H k1.2
  obtain ⟨nb, na, b1, b2, N, S⟩ := po_slot q1 q2 w1 w3
  obtain ⟨hQ, r1, r2, y1, y3⟩ := po_pat H k2.2
  obtain ⟨nb', na', b3, b4', N', S'⟩ := po_slot r1 r2 y1 y3
  have e230 := d230_ok (σ := σ) k1 hn.2.2
  have f230 := d230_ok (σ := σ) k2 hn.2.2
  rw [show ((a : Int)).toNat = a by omega] at e230
  rw [show ((b : Int)).toNat = b by omega] at f230
  obtain ⟨c1, c2⟩ := d237 hP hQ H.1 N N'
  have hf : FLW nb' na (σ (20 + 13 * a + 4)) (σ (20 + 13 * b + 2)) := by
    have z1 := N.2.1
    have z2 := N'.1
    obtain ⟨u1, u2⟩ := hs9
    unfold pl sd at u1
    unfold pl px sd at u2
    rw [if_neg (by decide), if_pos rfl] at u1 u2
    refine ⟨by omega, fun i hi => u2 i (by omega)⟩
  have ena := hf.1
  subst ena
  have gd : ∀ {P nb na : Nat}, NP σ P nb na → PO σ P 16 → ∀ i, i < nb → ¬ σ (P + 6) i = -1 → σ (P + 2) i = σ (P + 4) (σ (P + 6) i).toNat := by
    intro P nb na n h i hi e
    have n1 := n.1
    rcases h.2.2.2.2.1 i (by omega) with z | z
    · exact absurd z e
    · exact z.2.2.2
  obtain ⟨s1, a1', n2, W1, v1, v2, v3, fr⟩ := d4 H.1 hP hQ (by omega) (by omega) (by omega) (by omega) (by omega) N N' (gd N q2) (gd N' r2) hf.2
  obtain ⟨p351, -⟩ := cpS351
  have F1 : ∀ a k, a < 682 → KP a k → s1 a k = σ a k := fun a k h1 h2 => fr a k (by omega) (by omega) (by omega)
  have G1 : ∀ a k, 682 ≤ a → s1 a k = σ a k := fun a k h1 => fr a k (by omega) (by omega) (by omega)
  have g := jp_GD N.2.2.2.2.1 N'.2.2.2.2.1 (gd N q2) (gd N' r2) hf.2
  have P1 : PO s1 351 16 := by
    have z1 := N.1
    have z3 := N'.2.1
    refine PO_of n2 (by omega) (by omega) (fun i hi e => ?_) (fun i hi => ?_) (fun i hi => ?_)
    · have z6 : s1 (351 + 6) i = _ := v3 i hi
      rw [z6] at e ⊢
      rcases g.1.1 i hi with y | y
      · exact absurd y e
      have z2 : s1 (351 + 2) i = _ := v1 i hi
      rw [z2, g.2 i hi e]
      exact (v2 _ (by omega)).symm
    · have z2 : s1 (351 + 2) i = _ := v1 i hi
      rw [z2]; exact q2.2.2.2.2.2.2.2.1 i (by omega)
    · have z2 : s1 (351 + 4) i = _ := v2 i hi
      rw [z2]; exact r2.2.2.2.2.2.2.2.2.1 i (by omega)
  obtain ⟨p, hp⟩ := Int.eq_ofNat_of_zero_le hn.2.1
  obtain ⟨s9, hs, N9, F9⟩ := stNew (c := c) hp (by omega) p351 (by decide) W1 F1 P1 n2.1 n2.2.1
  obtain ⟨s8, d1, d2, d3⟩ := fc_join (fc11 (a1 := a) (a2 := b) H) (b183 (Or.inl ⟨_, _, e230, hP, Or.inl ⟨_, _, f230, hQ, Or.inl ⟨_, c1 hf, _, _, a1', p351, Or.inl ⟨_, _, hs, rfl⟩⟩⟩⟩))
  exact ⟨p, _, _, s8, hp, by omega, N.1, N'.2.1, d1, d2, New_cg N9 d3 (by omega) v1 v2⟩
/-- take -/
theorem c203 {σ : Sg} {c : Int} {t : Nat} (H : Rel c σ) (ht : (t : Int) < σ 402 3) (g3 : σ 0 3 < 24) : ∃ (p nb na : Nat) (s2 : Sg), σ 0 3 = (p : Nat) ∧ p < 24 ∧ σ (406 + 13 * t + 1) 1 = (nb : Nat) ∧ σ (406 + 13 * t + 3) 1 = (na : Nat) ∧ Dc 203 [vA 0, vI t] σ (.inl (some (.inl p))) s2 ∧ Rel (c + 1) s2 ∧ New σ s2 p nb na (σ (406 + 13 * t + 2)) (σ (406 + 13 * t + 4)) ∧ ∀ i, i < nb → s2 (20 + 13 * p + 6) i = σ (406 + 13 * t + 6) i := by
  have k1 : 0 ≤ (t : Int) ∧ (t : Int) < σ 402 3 := by omega
  obtain ⟨⟨n1, n2, n3⟩, ⟨n4, n5, n6⟩, -⟩ := rel_n H
  have hL := cpL (p := t) (by omega)
  have e231 := d231_ok (σ := σ) k1 n6
  rw [Int.toNat_natCast] at e231
  obtain ⟨p, hp⟩ := Int.eq_ofNat_of_zero_le n2
  obtain ⟨r1, r2, r3⟩ := H.2.2.2.2.2.1.2.2.2.2.2.2.2.2.2.2 t ht
  have hQ := hL.2.2.2.2.2.2.1
  obtain ⟨nb, hnb⟩ := Int.eq_ofNat_of_zero_le (H.1 _ (pat_1 hQ)).1
  obtain ⟨na, hna⟩ := Int.eq_ofNat_of_zero_le (H.1 _ (pat_3 hQ)).1
  obtain ⟨s9, hs, N9, F9⟩ := stNew (c := c) hp (by omega) hQ (by omega) H.1 (fun _ _ _ _ => rfl) r2 hnb hna
  obtain ⟨s8, d1, d2, d3⟩ := fc_join (fc31 (a1 := t) H) (b203 (Or.inl ⟨_, _, e231, hQ, Or.inl ⟨_, _, hs, rfl⟩⟩))
  exact ⟨p, nb, na, s8, hp, by omega, hnb, hna, d1, d2, New_cg N9 d3 (by omega) (fun _ _ => rfl) (fun _ _ => rfl), fun i hi => by rw [d3 _ (by omega)]; exact F9 i hi⟩
/-- the hunks of an inverse -/
def swq (q : St) : St := (q.2.2.1, q.2.2.2, q.1, q.2.1)
theorem DS_swap {F K : Nat → Int} {nb na : Nat} (I : IV F K nb na) : ∀ (l : List St) (i j e : Nat), DS F nb na l i j e → (∀ x, x < i → F x = -1 ∨ F x < (j : Int)) → DS K na nb (l.map swq) j i e := by
  intro l
  induction l with
  | nil =>
    intro i j e D _
    obtain ⟨D1, D2, D3, D4⟩ := D
    refine ⟨D2, D1, D3.symm, fun y h1 h2 => ?_⟩
    have hF := D4 (i + (y - j)) (by omega) (by omega)
    have hI := I.2 (i + (y - j)) (by omega) (by rw [hF]; omega)
    rw [hF, Int.toNat_natCast, show j + (i + (y - j) - i) = y by omega] at hI
    exact hI
  | cons q t ih =>
    intro i j e D P
    have D0 := D
    obtain ⟨b, dr, s, ad⟩ := q
    obtain ⟨D1, D2, D3, D4, D5, D6⟩ := D
    dsimp only at D1 D2 D3 D4 D5 D6
    obtain ⟨B1, B2, -⟩ := DS_b t _ _ _ D6
    refine ⟨by show j + e ≤ s; omega, by show b = i + (s - j); omega, fun y h1 h2 => ?_, fun y h1 h2 => ?_, by show 0 < ad + dr; omega, ?_⟩
    · have h2 : y < s := h2
      have hF := D3 (i + (y - j)) (by omega) (by omega)
      have hI := I.2 (i + (y - j)) (by omega) (by rw [hF]; omega)
      rw [hF, Int.toNat_natCast, show j + (i + (y - j) - i) = y by omega] at hI
      exact hI
    · exact DS_K D0 I P h1 h2
    · refine ih _ _ _ D6 (fun x hx => ?_)
      by_cases h1 : x < i
      · rcases P x h1 with h | h
        · exact Or.inl h
        · exact Or.inr (by show F x < ((s + ad : Nat) : Int); omega)
      · by_cases h2 : x < b
        · have := D3 x (by omega) h2
          exact Or.inr (by show F x < ((s + ad : Nat) : Int); omega)
        · exact Or.inl (D4 x (by omega) hx)
theorem hks_inv {F K : Nat → Int} {nb na : Nat} (V : VF F nb na) (I : IV F K nb na) : hks K na nb = (hks F nb na).map swq := DS_hks (DS_swap I _ 0 0 0 (DS_0 V) (fun x hx => absurd hx (Nat.not_lt_zero _)))
end
-- DRAFT a8tx.lean
/-! Texts, distances, patches put where they were made from. -/
noncomputable section
/-- the rows of changes of a patch -/
def chPt (σ : Sg) (p : Nat) : List Int := chg (σ (20 + 13 * p + 2)) (σ (20 + 13 * p + 4)) (hkP σ (20 + 13 * p))
def dstP (σ : Sg) (p q : Nat) : Int := ((chPt σ p).length : Nat) + ((chPt σ q).length : Nat) - 2 * lt (lv (chPt σ p)) (lv (chPt σ q)) (chPt σ p).length (chPt σ q).length (chPt σ p).length (chPt σ q).length
theorem dst_nn {σ : Sg} {p q : Nat} : 0 ≤ dstP σ p q := by
  have b := lt_b (f := lv (chPt σ p)) (g := lv (chPt σ q)) (ae := (chPt σ p).length) (be := (chPt σ q).length) (chPt σ p).length (chPt σ q).length
  unfold dstP
  omega
theorem dst_swap {σ : Sg} {p q : Nat} : dstP σ p q = dstP σ q p := by
  unfold dstP
  rw [lt_swap]
  omega
theorem lt_self {f : Nat → Int} {n : Nat} : ∀ i, i ≤ n → lt f f n n i i = (i : Nat) := by
  intro i
  induction i with
  | zero => intro _; rfl
  | succ i ih =>
    intro h
    rw [ltq_s, if_pos rfl, ih (by omega)]
    omega
theorem dst_same {σ : Sg} {p q : Nat} (h : chPt σ p = chPt σ q) : dstP σ p q = 0 := by
  unfold dstP
  rw [h, lt_self _ (Nat.le_refl _)]
  omega
theorem q194 {σ : Sg} {c : Int} {a b : Nat} (H : Rel c σ) (ha0 : (a : Int) < σ 0 3) (hb0 : (b : Int) < σ 0 3) : ∃ s, Dc 194 [vA 0, vI a, vI b] σ (.inl (some (.inl (dstP σ a b)))) s ∧ Rel c s ∧ Pe σ s := by
  have k1 : 0 ≤ (a : Int) ∧ (a : Int) < σ 0 3 := by omega
  have k2 : 0 ≤ (b : Int) ∧ (b : Int) < σ 0 3 := by omega
  have hn := (rel_n H).1
  obtain ⟨hP, q1, q2, w1, w3⟩ := po_pat H k1.2
  obtain ⟨nb, na, b1, b2, N, S⟩ := po_slot q1 q2 w1 w3
  obtain ⟨hQ, r1, r2, y1, y3⟩ := po_pat H k2.2
  obtain ⟨nb', na', b3, b4, N', S'⟩ := po_slot r1 r2 y1 y3
  have e230 := d230_ok (σ := σ) k1 hn.2.2
  have f230 := d230_ok (σ := σ) k2 hn.2.2
  rw [show ((a : Int)).toNat = a by omega] at e230
  rw [show ((b : Int)).toNat = b by omega] at f230
  obtain ⟨i345, c345, i347, c347⟩ := cpCh
  have V := N.2.2.2.2.1
  have V' := N'.2.2.2.2.1
  have n1 := N.1
  have n3 := N.2.1
  have n1' := N'.1
  have n3' := N'.2.1
  have bO : ∀ i, i < nb → 0 ≤ σ (20 + 13 * a + 2) i ∧ σ (20 + 13 * a + 2) i ≤ 1000000 := fun i hi => isLn_le (q2.2.2.2.2.2.2.2.1 i (by omega))
  have bN : ∀ i, i < na → 0 ≤ σ (20 + 13 * a + 4) i ∧ σ (20 + 13 * a + 4) i ≤ 1000000 := fun i hi => isLn_le (q2.2.2.2.2.2.2.2.2.1 i (by omega))
  have bO' : ∀ i, i < nb' → 0 ≤ σ (20 + 13 * b + 2) i ∧ σ (20 + 13 * b + 2) i ≤ 1000000 := fun i hi => isLn_le (r2.2.2.2.2.2.2.2.1 i (by omega))
  have bN' : ∀ i, i < na' → 0 ≤ σ (20 + 13 * b + 4) i ∧ σ (20 + 13 * b + 4) i ≤ 1000000 := fun i hi => isLn_le (r2.2.2.2.2.2.2.2.2.1 i (by omega))
  have bd : ∀ q, q ∈ hks (σ (20 + 13 * a + 6)) nb na → q.1 + q.2.1 ≤ nb ∧ q.2.2.1 + q.2.2.2 ≤ na := fun q hq => by
    obtain ⟨n, hn⟩ := List.getElem?_of_mem hq
    exact hks_bd V hn
  have bd' : ∀ q, q ∈ hks (σ (20 + 13 * b + 6)) nb' na' → q.1 + q.2.1 ≤ nb' ∧ q.2.2.1 + q.2.2.2 ≤ na' := fun q hq => by
    obtain ⟨n, hn⟩ := List.getElem?_of_mem hq
    exact hks_bd V' hn
  have ln := (chg_len (O := σ (20 + 13 * a + 2)) (N := σ (20 + 13 * a + 4)) V (nb + na) 0 0 (VI_0 V) (by omega)).1
  have ln' := (chg_len (O := σ (20 + 13 * b + 2)) (N := σ (20 + 13 * b + 4)) V' (nb' + na') 0 0 (VI_0 V') (by omega)).1
  obtain ⟨l1, hl1⟩ : ∃ l, l = chg (σ (20 + 13 * a + 2)) (σ (20 + 13 * a + 4)) (hks (σ (20 + 13 * a + 6)) nb na) := ⟨_, rfl⟩
  obtain ⟨l2, hl2⟩ : ∃ l, l = chg (σ (20 + 13 * b + 2)) (σ (20 + 13 * b + 4)) (hks (σ (20 + 13 * b + 6)) nb' na') := ⟨_, rfl⟩
  have ln1 : l1.length ≤ 33 := by rw [hl1]; unfold hks; omega
  have ln2 : l2.length ≤ 33 := by rw [hl2]; unfold hks; omega
  obtain ⟨s1, a1', a2', a3'⟩ := d18 (R := 345) hP i345 c345 (by omega) H.1 n1 n3 (fun _ _ => rfl) (fun _ _ => rfl) bO bN (PC_of N (by omega) (by omega)) bd (by rw [← hl1]; omega)
  rw [← hl1] at a2'
  have W1 : WF s1 := WF_row (r := 345) (fun x hx hne => a3' x 1 hne (row_nx i345 hx)) (Rw_wR i345 a2' (by omega)).2 H.1
  have N1 : NP s1 (20 + 13 * b) nb' na' := by
    have e : ∀ j, j ≤ 10 → s1 (20 + 13 * b + j) = σ (20 + 13 * b + j) := fun j hj => funext fun x => a3' _ _ (by omega) (by omega)
    unfold NP PCS
    rw [e 1 (by omega), e 3 (by omega), e 5 (by omega), e 6 (by omega), e 7 (by omega), e 8 (by omega), e 9 (by omega), e 10 (by omega)]
    exact N'
  have e6 : s1 (20 + 13 * b + 6) = σ (20 + 13 * b + 6) := funext fun x => a3' _ _ (by omega) (by omega)
  have PC1 := PC_of N1 (show nb' ≤ 100 by omega) (show na' ≤ 100 by omega)
  rw [e6] at PC1
  obtain ⟨s2, c1, c2, c3⟩ := d18 (R := 347) (O := σ (20 + 13 * b + 2)) (N := σ (20 + 13 * b + 4)) hQ i347 c347 (by omega) W1 N1.1 N1.2.1 (fun i _ => a3' _ _ (by omega) (by omega)) (fun i _ => a3' _ _ (by omega) (by omega)) bO' bN' PC1 bd' (by rw [← hl2]; omega)
  rw [← hl2] at c2
  have W2 : WF s2 := WF_row (r := 347) (fun x hx hne => c3 x 1 hne (row_nx i347 hx)) (Rw_wR i347 c2 (by omega)).2 W1
  have z1 : s2 345 1 = (l1.length : Nat) := by rw [c3 _ _ (by decide) (by decide)]; exact a2'.1
  have z2 : s2 347 1 = (l2.length : Nat) := c2.1
  obtain ⟨s3, e1, W3, e3⟩ := d16 W2 i345 i347 z1 z2 (by omega) (by omega) (by omega) (by omega)
  have f1 : ∀ i, i < l1.length → s2 (345 + 1) i = lv l1 i := fun i hi => by
    rw [c3 _ _ (by decide) (by decide)]
    exact a2'.2 i _ (lv_get hi)
  have f2 : ∀ i, i < l2.length → s2 (347 + 1) i = lv l2 i := fun i hi => c2.2 i _ (lv_get hi)
  rw [lt_cg f1 f2 l1.length l2.length (Nat.le_refl _) (Nat.le_refl _)] at e1
  obtain ⟨L, hL⟩ : ∃ L, L = lt (lv l1) (lv l2) l1.length l2.length l1.length l2.length := ⟨_, rfl⟩
  have bL := lt_b (f := lv l1) (g := lv l2) (ae := l1.length) (be := l2.length) l1.length l2.length
  rw [← hL] at e1 bL
  have d1 := d146 (σ := s2) i345
  have d2 := d146 (σ := s2) i347
  rw [z1] at d1
  rw [z2] at d2
  obtain ⟨D, hD⟩ : ∃ D, D = ((l1.length : Nat) : Int) + (l2.length : Nat) - 2 * L := ⟨_, rfl⟩
  have s3f : ∀ x k, ¬ (333 ≤ x ∧ x ≤ 349) → s3 x k = σ x k := fun x k y => by rw [e3 x k (by omega) (by omega) (by omega), c3 x k (by omega) (by omega), a3' x k (by omega) (by omega)]
  have hD2 : dstP σ a b = D := by
    unfold dstP chPt hkP
    rw [N.1, N.2.1, N'.1, N'.2.1, Int.toNat_natCast, Int.toNat_natCast, Int.toNat_natCast, Int.toNat_natCast, ← hl1, ← hl2, ← hL, hD]
  rw [hD2]
  have hA : Dd 194 [vA 0, vI a, vI b] σ (rI D s3) := by
    refine b194 (Or.inl ⟨_, _, e230, hP, Or.inl ⟨_, _, f230, hQ, D, s3, b17 ⟨_, a1', _, c1, _, _, d1, _, _, d2, by omega, _, _, e1, by omega, by omega, ?_⟩, rfl⟩⟩)
    rw [hD]
  exact ⟨s3, Dc_of hA, Rel_sc (Int.le_refl c) W3 (fun x k h => s3f x k (by unfold KP at h; omega)) H, fun x k h1 h2 h3 => s3f x k (by unfold KP at h2; omega)⟩
/-- a text was changed, and nothing else that can be seen -/
def TxN (σ s : Sg) (u n : Nat) (f : Nat → Int) : Prop := (∀ x k, x < 682 → KP x k → ¬ (x = 2 + 2 * u ∨ x = 2 + 2 * u + 1) → s x k = σ x k) ∧ s (2 + 2 * u) 1 = (n : Nat) ∧ ∀ i, i < n → s (2 + 2 * u + 1) i = f i
theorem c172 {σ : Sg} {c l : Int} {t p : Nat} (H : Rel c σ) (ht : t < 4) (hp : (p : Int) ≤ σ (2 + 2 * t) 1) (hl : isLn l = true) (hs : σ (2 + 2 * t) 1 < 16) : ∃ s2, Dc 172 [vA 0, vI t, vI p, vI l] σ (.inl (some (.inl (σ (2 + 2 * t) 1 + 1)))) s2 ∧ Rel (c + 1) s2 ∧ (∀ x k, x < 682 → KP x k → ¬ (x = 2 + 2 * t ∨ x = 2 + 2 * t + 1) → s2 x k = σ x k) ∧ s2 (2 + 2 * t) 1 = σ (2 + 2 * t) 1 + 1 ∧ s2 (2 + 2 * t + 1) p = l := by
  have h := p172 (l := l) H (t := (t : Int)) (p := (p : Int)) (by omega) (by rw [Int.toNat_natCast]; omega) hl (by rw [Int.toNat_natCast]; exact hs)
  rw [Int.toNat_natCast] at h
  obtain ⟨s8, d1, d2, d3⟩ := fc_join (fc0 (a1 := t) (a2 := p) (a3 := l) H) h
  refine ⟨s8, d1, d2, fun x k h1 h2 h3 => by rw [d3 x h1]; exact in_off (by omega) (by omega), by rw [d3 _ (by omega)]; exact in_sz, ?_⟩
  rw [d3 _ (by omega), in_val, if_pos rfl]
theorem c173 {σ : Sg} {c : Int} {t p : Nat} (H : Rel c σ) (ht : t < 4) (hp : (p : Int) < σ (2 + 2 * t) 1) : ∃ s2, Dc 173 [vA 0, vI t, vI p] σ (.inl (some (.inl (σ (2 + 2 * t + 1) p)))) s2 ∧ Rel (c + 1) s2 ∧ (∀ x k, x < 682 → KP x k → ¬ (x = 2 + 2 * t ∨ x = 2 + 2 * t + 1) → s2 x k = σ x k) ∧ s2 (2 + 2 * t) 1 = σ (2 + 2 * t) 1 - 1 := by
  have h := p173 H (t := (t : Int)) (p := (p : Int)) (by omega) (by rw [Int.toNat_natCast]; omega)
  rw [Int.toNat_natCast, Int.toNat_natCast] at h
  obtain ⟨s8, d1, d2, d3⟩ := fc_join (fc1 (a1 := t) (a2 := p) H) h
  exact ⟨s8, d1, d2, fun x k h1 h2 h3 => by rw [d3 x h1]; exact rm_off (by omega) (by omega), by rw [d3 _ (by omega)]; exact rm_sz⟩
theorem c174 {σ : Sg} {c : Int} {t u : Nat} (H : Rel c σ) (ht : t < 4) (hu : u < 4) : ∃ (n : Nat) (s2 : Sg), σ (2 + 2 * t) 1 = (n : Nat) ∧ n ≤ 16 ∧ Dc 174 [vA 0, vI t, vI u] σ (.inl (some (.inl (n : Int)))) s2 ∧ Rel (c + 1) s2 ∧ TxN σ s2 u n (σ (2 + 2 * t + 1)) := by
  have k1 : 0 ≤ (t : Int) ∧ (t : Int) < 4 := by omega
  have k2 : 0 ≤ (u : Int) ∧ (u : Int) < 4 := by omega
  obtain ⟨g1, g2, -⟩ := txl_ok H ht
  obtain ⟨n, hn⟩ := Int.eq_ofNat_of_zero_le g1
  obtain ⟨e, hr1⟩ := txt_ok (σ := σ) ht
  obtain ⟨f, hr2⟩ := txt_ok (σ := σ) hu
  have cc := cp_1 k2
  rw [Int.toNat_natCast] at cc
  have hcp : σ (2 + 2 * t) 1 ≤ (cap (2 + 2 * u) : Int) := by omega
  have d1 := d146 (σ := bcS σ (2 + 2 * u) (2 + 2 * t)) hr2
  rw [bc_sz hcp, hn] at d1
  have hF : Dd 174 [vA 0, vI t, vI u] σ (rI (n : Int) (bcS σ (2 + 2 * u) (2 + 2 * t))) := b174 (Or.inl ⟨_, _, e, hr1, Or.inl ⟨_, _, f, hr2, _, d155 hr2 (WF_w H.1 hr1), _, _, d1, rfl⟩⟩)
  obtain ⟨s8, d1, d2, d3⟩ := fc_join (fc2 (a1 := t) (a2 := u) H) hF
  refine ⟨n, s8, hn, by omega, d1, d2, fun x k h1 h2 h3 => by rw [d3 x h1]; exact bc_off (by omega) (by omega), by rw [d3 _ (by omega), bc_sz hcp]; exact hn, fun i hi => ?_⟩
  rw [d3 _ (by omega)]
  exact bc_val hcp (by omega) (by omega)
theorem rj_home : ∀ (r : List St) (h : Nat) (S : Int), rjF (r.map (fun q => (((q.1 : Nat) : Int), 0))) h S = S := by
  intro r
  induction r with
  | nil => intro h S; rfl
  | cons q r ih =>
    intro h S
    rw [List.map_cons]
    show rjF _ (h + 1) (if ((q.1 : Nat) : Int) = -1 then _ else S) = S
    rw [if_neg (by omega)]
    exact ih _ _
/-- putOn, on the text that the patch was made from -/
theorem c195 {σ : Sg} {c : Int} {a t fz : Nat} (H : Rel c σ) (ha0 : (a : Int) < σ 0 3) (ht : t < 4) (hf : fz ≤ 3) (hs9 : pT σ a 0 t) : ∃ (na : Nat) (s2 : Sg), σ (20 + 13 * a + 3) 1 = (na : Nat) ∧ Dc 195 [vA 0, vI a, vI t, vI fz] σ (.inl (some (.inl 0))) s2 ∧ Rel (c + 1) s2 ∧ (∀ x k, x < 682 → KP x k → ¬ (x = 2 + 2 * t ∨ x = 2 + 2 * t + 1) → ¬ (393 ≤ x ∧ x ≤ 394) → s2 x k = σ x k) ∧ s2 (2 + 2 * t) 1 = (na : Nat) ∧ (∀ i, i < na → s2 (2 + 2 * t + 1) i = σ (20 + 13 * a + 4) i) ∧ s2 393 1 = ((hkP σ (20 + 13 * a)).length : Nat) ∧ ∀ h q, (hkP σ (20 + 13 * a))[h]? = some q → s2 394 h = 10 * (q.1 : Nat) := by
  have k1 : 0 ≤ (a : Int) ∧ (a : Int) < σ 0 3 := by omega
  have k2 : 0 ≤ (t : Int) ∧ (t : Int) < 4 := by omega
  have hn := (rel_n H).1
  have ht4 : t < 4 := by omega
  have ha24 : a < 24 := by omega
  obtain ⟨x1, x2⟩ := H.2.2.2.2.1.2.2.2 a k1.2
  obtain ⟨-, -, -, -, -, -, hP, -⟩ := cpP (p := a) ha24
  obtain ⟨nb, na, hb1, hb2, N, S⟩ := po_slot x1 x2 (WF_w H.1 (pat_1 hP)).2.1 (WF_w H.1 (pat_3 hP)).2.1
  have V := N.2.2.2.2.1
  have rt := rel_t H (t := (t : Int)) k2
  rw [tn] at rt
  obtain ⟨rt1, rt2, rt3⟩ := rt
  obtain ⟨n, hnn⟩ := Int.eq_ofNat_of_zero_le rt2
  have hrow := el_1 (i := (t : Int)) k2
  rw [tn] at hrow
  have hct := cp_1 (i := (t : Int)) k2
  rw [tn] at hct
  have hct : cap (2 + 2 * t) = 16 := by omega
  have hTx := H.2.2.1 t ht4
  have hT : ∀ i, i < n → σ 683 (16 * t + i) = σ (2 + 2 * t + 1) i := fun i hi => (hTx.1.2 i (by omega)).symm
  obtain ⟨Z, hZ⟩ : ∃ Z, Z = puF (σ (20 + 13 * a + 2)) (σ (2 + 2 * t + 1)) nb n fz (hks (σ (20 + 13 * a + 6)) nb na) (hks (σ (20 + 13 * a + 6)) nb na) 0 0 0 := ⟨_, rfl⟩
  obtain ⟨M, hM⟩ : ∃ M, M = mdF (σ (2 + 2 * t + 1)) (σ (20 + 13 * a + 4)) n (hks (σ (20 + 13 * a + 6)) nb na) Z 0 := ⟨_, rfl⟩
  have D := DS_0 V
  have okz : okZ n fz (hks (σ (20 + 13 * a + 6)) nb na) Z 0 := by rw [hZ]; exact puF_ok _ 0 0 0 (Nat.zero_le _)
  obtain ⟨okp, okl⟩ := okZ_p _ Z 0 okz
  have hl := hks_len V
  have lnM : ∀ v, v ∈ M → isLn v = true := by
    rw [hM]
    exact mdF_ln (fun i hi => hTx.2 i (by rw [hnn]; omega)) (fun i hi => x2.2.2.2.2.2.2.2.2.1 i (by rw [N.2.1]; omega)) _ Z 0 0 0 0 D okz
  obtain ⟨cl1, cl2⟩ := d136 (P := 20 + 13 * a) (t := 2 + 2 * t) (n := n) (fz := fz) hP (by omega) hrow.2 (by omega) hct D ⟨by omega, by omega, by omega⟩ (by omega) (by omega) H.1 (PC_of N (by omega) (by omega)) ⟨WF_w H.1 (pat_1 hP), N.1, fun _ _ => rfl⟩ ⟨WF_w H.1 (pat_3 hP), N.2.1, fun _ _ => rfl⟩ ⟨WF_w H.1 hrow.2, hnn, fun _ _ => rfl⟩ hZ hM
  have e230 : Dd 230 [vA 0, vI a] σ (rA (20 + 13 * a) σ) := by
    have z := d230_ok (σ := σ) (k := (a : Int)) k1 (by omega)
    rw [tn] at z
    exact z
  have e227 : Dd 227 [vA 0, vI t] σ (rA (2 + 2 * t) σ) := by
    have z := d227_ok (σ := σ) (t := (t : Int)) k2
    rw [tn] at z
    exact z
  have e234 : Dd 234 [vA 0, vI fz, vI 0, vI 3] σ (rV σ) := d234_ok ⟨by omega, by omega⟩
  have n1 := N.1
  obtain ⟨u1, u2⟩ := hs9
  unfold pl sd at u1
  unfold pl px sd at u2
  rw [if_pos rfl] at u1 u2
  have hnn2 : n = nb := by omega
  subst hnn2
  have hTX : ∀ x, x < n → σ (2 + 2 * t + 1) x = σ (20 + 13 * a + 2) x := fun x hx => (u2 x (by omega)).symm
  have E : EQL (σ (20 + 13 * a + 2)) (σ (20 + 13 * a + 4)) (σ (20 + 13 * a + 6)) n := fun x hx hff => by
    rcases x2.2.2.2.2.1 x (by omega) with z | z
    · exact absurd z hff
    · exact z.2.2.2
  have hM2 : M = rlZ (σ (20 + 13 * a + 4)) 0 na := by rw [hM, hZ]; exact put_home D E hTX
  have hZ2 : Z = (hks (σ (20 + 13 * a + 6)) n na).map (fun q => (((q.1 : Nat) : Int), 0)) := by rw [hZ]; exact pu_home D hTX _ 0 0 rfl (fun q _ => Nat.zero_le _)
  have lM : M.length = na := by rw [hM2]; exact rl_len na 0
  obtain ⟨s, c1, c2, c3, c4, c5, c6⟩ := cl2 (by omega)
  have rj : rjF Z 0 0 = 0 := by rw [hZ2]; exact rj_home _ _ _
  rw [rj] at c5
  have hF : Dd 195 [vA 0, vI a, vI t, vI fz] σ (rI 0 s) := b195 (Or.inl ⟨_, _, e230, hP, Or.inl ⟨_, _, e227, hrow.2, Or.inl ⟨_, e234, 1, s, c1, by rw [if_neg (show ¬ (1 : Int) = 0 by decide)]; exact ⟨_, _, c5, rfl⟩⟩⟩⟩)
  obtain ⟨s8, d1, d2, d3⟩ := fc_join (fc23 (a1 := a) (a2 := t) (a3 := fz) H) hF
  have eh : hkP σ (20 + 13 * a) = hks (σ (20 + 13 * a + 6)) n na := by
    unfold hkP
    rw [N.1, N.2.1, Int.toNat_natCast, Int.toNat_natCast]
  refine ⟨na, s8, N.2.1, d1, d2, fun x k h1 h2 h3 h4 => ?_, ?_, fun i hi => ?_, ?_, fun h q hq => ?_⟩
  · rw [d3 x h1]
    exact c6 x k (by unfold KP at h2; omega) (by omega) (by omega)
  · rw [d3 _ (by omega), c4.1, lM]
  · rw [d3 _ (by omega)]
    refine c4.2 i _ ?_
    rw [hM2, rl_get na 0 i hi, Nat.zero_add]
  · rw [d3 _ (by decide), c3.1, eh, hZ2, List.length_map, List.length_map]
  · rw [d3 _ (by decide)]
    refine c3.2 h _ ?_
    rw [eh] at hq
    rw [hZ2, List.getElem?_map, List.getElem?_map, hq]
    show some (anI (((q.1 : Nat) : Int), 0)) = _
    unfold anI
    rw [if_neg (by show ¬ ((q.1 : Nat) : Int) = -1; omega)]
    congr 1
    show 10 * ((q.1 : Nat) : Int) + ((0 : Nat) : Int) = _
    omega
end
