/-! isWhole: hunks and pairs of any patch of the class make up both texts. -/
noncomputable section
/-- the rows in which a patch keeps what was found of moved lines -/
def knr (x : Nat) : Prop := 20 ≤ x ∧ x ≤ 331 ∧ 11 ≤ (x - 20) % 13
/-- what can be seen is the same -/
def Pe (σ s : Sg) : Prop := ∀ x k, x < 682 → KP x k → ¬ knr x → s x k = σ x k
theorem Pe_r (σ : Sg) : Pe σ σ := fun _ _ _ _ _ => rfl
theorem Pe_t {σ s s' : Sg} (h : Pe σ s) (h' : Pe s s') : Pe σ s' := fun x k h1 h2 h3 => (h' x k h1 h2 h3).trans (h x k h1 h2 h3)
/-- only what can't be seen differs -/
def Wi (c : Int) (w0 w : WS) : Prop := Rel c w.2.2 ∧ w.1 = w0.1 ∧ w.2.1 = w0.2.1 ∧ Pe w0.2.2 w.2.2
theorem Wi_r {c : Int} {w : WS} (H : Rel c w.2.2) : Wi c w w := ⟨H, rfl, rfl, Pe_r _⟩
theorem Wi_s {c : Int} {w0 w : WS} {s : Sg} (W : Wi c w0 w) (H : Rel c s) (h : Pe w.2.2 s) : Wi c w0 (wS w s) := ⟨H, W.2.1, W.2.2.1, Pe_t W.2.2.2 h⟩
theorem Wi_t {c : Int} {w0 w w' : WS} (W : Wi c w0 w) (W' : Wi c w w') : Wi c w0 w' := ⟨W'.1, W'.2.1.trans W.2.1, W'.2.2.1.trans W.2.2.1, Pe_t W.2.2.2 W'.2.2.2⟩
theorem Wi_p {c : Int} {w0 w : WS} {p j : Nat} (W : Wi c w0 w) (hp : p < 24) (hj : j ≤ 10) : w.2.2 (20 + 13 * p + j) = w0.2.2 (20 + 13 * p + j) :=
  funext fun k => W.2.2.2 _ k (by omega) (kp_3 (by omega)) (by unfold knr; omega)
theorem Wi_c {c : Int} {w0 w : WS} (W : Wi c w0 w) : w.2.2 0 3 = w0.2.2 0 3 := W.2.2.2 0 3 (by decide) (by unfold KP; omega) (by unfold knr; omega)
/-- what the relation says of a patch of the class -/
def PA (σ : Sg) (p nb na : Nat) : Prop := p < 24 ∧ nb ≤ 16 ∧ na ≤ 16 ∧ NP σ (20 + 13 * p) nb na ∧ EQL (σ (20 + 13 * p + 2)) (σ (20 + 13 * p + 4)) (σ (20 + 13 * p + 6)) nb ∧ (∀ i, i < nb → isLn (σ (20 + 13 * p + 2) i) = true) ∧ ∀ i, i < na → isLn (σ (20 + 13 * p + 4) i) = true
theorem PA_of {c : Int} {σ : Sg} {p : Nat} (H : Rel c σ) (hp : (p : Int) < σ 0 3) : ∃ nb na, PA σ p nb na := by
  have hn := (rel_n H).1
  obtain ⟨hP, q1, q2, w1, w3⟩ := po_pat H hp
  obtain ⟨nb, na, hb1, hb2, N, S⟩ := po_slot q1 q2 w1 w3
  refine ⟨nb, na, by omega, hb1, hb2, N, fun x hx hf => ?_, fun i hi => q2.2.2.2.2.2.2.2.1 i (by rw [N.1]; omega), fun i hi => q2.2.2.2.2.2.2.2.2.1 i (by rw [N.2.1]; omega)⟩
  rcases q2.2.2.2.2.1 x (by rw [N.1]; omega) with h | h
  · exact absurd h hf
  · exact h.2.2.2
theorem q192 {c : Int} {σ : Sg} {p k nb na : Nat} (H : Rel c σ) (hp : (p : Int) < σ 0 3) (A : PA σ p nb na) (hk : k < nb) : ∃ s, Dc 192 [vA 0, vI p, vI k] σ (.inl (some (.inl (goalZ (σ (20 + 13 * p + 2)) (σ (20 + 13 * p + 4)) (σ (20 + 13 * p + 6)) (σ (20 + 13 * p + 8)) nb na k)))) s ∧ Rel c s ∧ Pe σ s := by
  obtain ⟨e, hP, -, -, -⟩ := pat_ok H hp
  obtain ⟨h24, a1, a2, N, -, lO, lN⟩ := A
  have c11 : nb ≤ cap (20 + 13 * p + 11) := by
    have := (cpP (p := p) h24).2.2.2.2.2.1
    omega
  obtain ⟨s1, b1, W1, -, b4⟩ := d114 (p := k) hP H.1 N (by omega) (by omega) lO lN c11 (by omega)
  have e146 := d146 (σ := σ) (pat_1 hP)
  rw [N.1] at e146
  refine ⟨s1, Dc_of (b192 (Or.inl ⟨_, _, e, hP, _, _, e146, Or.inl ⟨_, d232_ok (by omega), _, _, b1, rfl⟩⟩)), Rel_kin h24 W1 (fun x k h => b4 x k (by omega) (by omega)) H, fun x k _ _ h2 => b4 x k (fun e => h2 ?_) (fun e => h2 ?_)⟩
  · unfold knr; omega
  · unfold knr; omega
section
variable {c : Int} {p nb na : Nat} {w0 : WS}
theorem lw188 (A : PA w0.2.2 p nb na) (hp0 : (p : Int) < w0.2.2 0 3) {h hn b dr ad R : Nat} : ∀ (d i j r : Nat) (w : WS) (d10 d13 : Option AV), Wi c w0 w → i + d = b → b ≤ nb → j + d ≤ na → (∀ x, i ≤ x → x < b → w0.2.2 (20 + 13 * p + 6) x = ((j + (x - i) : Nat) : Int)) → R + 8 * d ≤ r → (∀ (w' : WS) (r' : Nat) (d10 d13 : Option AV), Wi c w0 w' → R ≤ r' → ∃ w'', Wi c w0 w'' ∧ K253_252 p b (j + d : Nat) hn nb na 1 h b d10 dr ad d13 w' r' (rO 1 w'')) → ∃ w'', Wi c w0 w'' ∧ K253_188 p i j hn nb na 1 h b d10 dr ad d13 w r (rO 1 w'') := by
  intro d
  induction d with
  | zero =>
    intro i j r w d10 d13 W hi hb hj hF hr K
    obtain ⟨w'', k1, k2⟩ := K w r d10 d13 W (by omega)
    refine ⟨w'', k1, bK253_188 ?_⟩
    rw [if_neg (by omega), show i = b by omega]
    exact k2
  | succ d ih =>
    intro i j r w d10 d13 W hi hb hj hF hr K
    have hc := Wi_c W
    have e1 := Wi_p (j := 1) W A.1 (by decide)
    have e2 := Wi_p (j := 2) W A.1 (by decide)
    have e3 := Wi_p (j := 3) W A.1 (by decide)
    have e4 := Wi_p (j := 4) W A.1 (by decide)
    have e6 := Wi_p (j := 6) W A.1 (by decide)
    have e8 := Wi_p (j := 8) W A.1 (by decide)
    have hFi : w0.2.2 (20 + 13 * p + 6) i = (j : Int) := by
      rw [hF i (Nat.le_refl _) (by omega)]
      omega
    have a1 := A.2.1
    have a2 := A.2.2.1
    have n1 : w0.2.2 (20 + 13 * p + 1) 1 = (nb : Nat) := A.2.2.2.1.1
    have n3 : w0.2.2 (20 + 13 * p + 3) 1 = (na : Nat) := A.2.2.2.1.2.1
    have d189 := q189 (p := p) (k := i) W.1 (by omega) (by rw [e1, n1]; omega)
    rw [e6, hFi] at d189
    have dO := q188i (p := p) (k := i) (b := 0) W.1 (by omega) (by unfold pl sd; rw [if_pos rfl, e1, n1]; omega)
    have dN := q188i (p := p) (k := j) (b := 1) W.1 (by omega) (by unfold pl sd; rw [if_neg (by decide), e3, n3]; omega)
    have xO : px w.2.2 p 0 i = w0.2.2 (20 + 13 * p + 2) i := by unfold px sd; rw [if_pos rfl]; exact congrFun e2 i
    have xN : px w.2.2 p 1 j = w0.2.2 (20 + 13 * p + 4) j := by unfold px sd; rw [if_neg (by decide)]; exact congrFun e4 j
    rw [xO] at dO
    rw [xN] at dN
    have hE : w0.2.2 (20 + 13 * p + 2) i = w0.2.2 (20 + 13 * p + 4) j := by
      have := A.2.2.2.2.1 i (by omega) (by rw [hFi]; omega)
      rw [hFi, Int.toNat_natCast] at this
      exact this
    have A' : PA w.2.2 p nb na := (PA_of (p := p) W.1 (by omega)).elim (fun nb' h => h.elim (fun na' h => by
      have x1 : nb' = nb := by have := h.2.2.2.1.1; rw [e1, n1] at this; omega
      have x2 : na' = na := by have := h.2.2.2.1.2.1; rw [e3, n3] at this; omega
      subst x1; subst x2; exact h))
    obtain ⟨s, dg, Rs', Ps⟩ := q192 (p := p) (k := i) W.1 (by omega) A' (by omega)
    rw [goal_pair (by rw [e6, hFi]; omega)] at dg
    obtain ⟨w'', k1, k2⟩ := ih (i + 1) (j + 1) (r - 2 - 2 - 2 - 2) (wS w s) d10 d13 (Wi_s W Rs' Ps) (by omega) hb (by omega) (fun x h1 h2 => by rw [hF x (by omega) h2]; congr 1; omega) (by omega) (fun w' r' d10 d13 W' hR => by
      have := K w' r' d10 d13 W' hR
      rw [show j + 1 + d = j + (d + 1) by omega]
      exact this)
    refine ⟨w'', k1, bK253_188 ?_⟩
    rw [if_pos (by omega), if_neg (by decide)]
    refine ⟨by omega, _, _, Dc_of d189, ?_⟩
    rw [if_pos rfl]
    refine ⟨by omega, _, _, dO, by omega, _, _, dN, ?_⟩
    rw [if_pos hE]
    refine ⟨by omega, _, _, dg, ?_⟩
    rw [if_pos rfl]
    exact bK253_241 ⟨by omega, by omega, k2⟩
theorem lw252 (A : PA w0.2.2 p nb na) (hp0 : (p : Int) < w0.2.2 0 3) {h hn b j dr ad R : Nat} : ∀ (d i r : Nat) (w : WS) (d10 d13 : Option AV), Wi c w0 w → i + d = b + dr → b + dr ≤ nb → (∀ x, i ≤ x → x < b + dr → w0.2.2 (20 + 13 * p + 6) x = -1) → R + 10 * d ≤ r → (∀ (w' : WS) (r' : Nat) (d9 d10 d11 d13 : Option AV), Wi c w0 w' → R ≤ r' → ∃ w'', Wi c w0 w'' ∧ K253_334 p (b + dr : Nat) j hn nb na 1 h d9 d10 d11 ad d13 w' r' (rO 1 w'')) → ∃ w'', Wi c w0 w'' ∧ K253_252 p i j hn nb na 1 h b d10 dr ad d13 w r (rO 1 w'') := by
  intro d
  induction d with
  | zero =>
    intro i r w d10 d13 W hi hb hF hr K
    have a1 := A.2.1
    have a2 := A.2.2.1
    obtain ⟨w'', k1, k2⟩ := K w r (some (.inl b)) d10 (some (.inl dr)) d13 W (by omega)
    refine ⟨w'', k1, bK253_252 ⟨by omega, ?_⟩⟩
    rw [if_neg (by omega), show i = b + dr by omega]
    exact k2
  | succ d ih =>
    intro i r w d10 d13 W hi hb hF hr K
    have a1 := A.2.1
    have a2 := A.2.2.1
    have hc := Wi_c W
    have e1 := Wi_p (j := 1) W A.1 (by decide)
    have e2 := Wi_p (j := 2) W A.1 (by decide)
    have e3 := Wi_p (j := 3) W A.1 (by decide)
    have e4 := Wi_p (j := 4) W A.1 (by decide)
    have e6 := Wi_p (j := 6) W A.1 (by decide)
    have hFi := hF i (Nat.le_refl _) (by omega)
    have n1 : w0.2.2 (20 + 13 * p + 1) 1 = (nb : Nat) := A.2.2.2.1.1
    have n3 : w0.2.2 (20 + 13 * p + 3) 1 = (na : Nat) := A.2.2.2.1.2.1
    have A' : PA w.2.2 p nb na := (PA_of (p := p) W.1 (by omega)).elim (fun nb' h => h.elim (fun na' h => by
      have x1 : nb' = nb := by have := h.2.2.2.1.1; rw [e1, n1] at this; omega
      have x2 : na' = na := by have := h.2.2.2.1.2.1; rw [e3, n3] at this; omega
      subst x1; subst x2; exact h))
    obtain ⟨s, dg, Rs', Ps⟩ := q192 (p := p) (k := i) W.1 (by omega) A' (by omega)
    have W' := Wi_s W Rs' Ps
    have hc' := Wi_c W'
    have f1 := Wi_p (j := 1) W' A.1 (by decide)
    have f2 := Wi_p (j := 2) W' A.1 (by decide)
    have f3 := Wi_p (j := 3) W' A.1 (by decide)
    have f4 := Wi_p (j := 4) W' A.1 (by decide)
    have f6 := Wi_p (j := 6) W' A.1 (by decide)
    have d189 := q189 (p := p) (k := i) W'.1 (by omega) (by rw [f1, n1]; omega)
    rw [f6, hFi] at d189
    have fin : ∀ (r' : Nat) (d7 d13 : Option AV), R + 10 * d ≤ r' → ∃ w'', Wi c w0 w'' ∧ K253_321 p i j hn nb na d7 h b d10 dr ad d13 (wS w s) r' (rO 1 w'') := by
      intro r' d7 d13 hr'
      obtain ⟨w'', k1, k2⟩ := ih (i + 1) r' (wS w s) d10 d13 W' (by omega) hb (fun x h1 h2 => hF x (by omega) h2) hr' K
      exact ⟨w'', k1, bK253_321 (bK253_326 ⟨by omega, k2⟩)⟩
    rcases goal_in (O := w.2.2 (20 + 13 * p + 2)) (N := w.2.2 (20 + 13 * p + 4)) (F := w.2.2 (20 + 13 * p + 6)) (K := w.2.2 (20 + 13 * p + 8)) (nb := nb) (na := na) (p := i) with g | ⟨n, g, g1, g2, g3, g4, g5⟩
    · rw [g] at dg
      obtain ⟨w'', k1, k2⟩ := fin (r - 2 - 2) (some (.inl 1)) (some (.inl (-1))) (by omega)
      refine ⟨w'', k1, bK253_252 ⟨by omega, ?_⟩⟩
      rw [if_pos (by omega), if_neg (by decide)]
      refine ⟨by omega, _, _, dg, by omega, _, _, Dc_of d189, ?_⟩
      rw [if_pos rfl, if_pos rfl]
      exact k2
    · rw [g] at dg
      have dO := q188i (p := p) (k := i) (b := 0) W'.1 (by omega) (by unfold pl sd; rw [if_pos rfl, f1, n1]; omega)
      have dN := q188i (p := p) (k := n) (b := 1) W'.1 (by omega) (by unfold pl sd; rw [if_neg (by decide), f3, n3]; omega)
      have xO : px (wS w s).2.2 p 0 i = w0.2.2 (20 + 13 * p + 2) i := by unfold px sd; rw [if_pos rfl]; exact congrFun f2 i
      have xN : px (wS w s).2.2 p 1 n = w0.2.2 (20 + 13 * p + 4) n := by unfold px sd; rw [if_neg (by decide)]; exact congrFun f4 n
      rw [xO] at dO
      rw [xN] at dN
      rw [e2, e4] at g5
      have lO := A.2.2.2.2.2.1 i (by omega)
      have lN := A.2.2.2.2.2.2 n g2
      obtain ⟨w'', k1, k2⟩ := fin (r - 2 - 2 - 2 - 2 - 2) (some (.inl 1)) (some (.inl (n : Int))) (by omega)
      refine ⟨w'', k1, bK253_252 ⟨by omega, ?_⟩⟩
      rw [if_pos (by omega), if_neg (by decide)]
      refine ⟨by omega, _, _, dg, by omega, _, _, Dc_of d189, ?_⟩
      rw [if_pos rfl, if_neg (by omega), if_pos (by omega)]
      refine ⟨by omega, _, _, dO, by omega, _, _, dN, by omega, _, _, Dc_of (q177 lO lN (isLn_nn lO) (isLn_nn lN)), ?_⟩
      rw [if_pos g5]
      exact k2
theorem lw33 (A : PA w0.2.2 p nb na) (hp0 : (p : Int) < w0.2.2 0 3) {L : List St} (hL : L = hks (w0.2.2 (20 + 13 * p + 6)) nb na) : ∀ (l : List St) (h i j e r : Nat) (w : WS) (d9 d10 d11 d12 d13 : Option AV), Wi c w0 w → L.drop h = l → h ≤ L.length → DS (w0.2.2 (20 + 13 * p + 6)) nb na l i j e → (0 < h → e = 1) → 12 * l.length + 10 * (nb - i) + 2 ≤ r → ∃ w'', Wi c w0 w'' ∧ K253_33 p i j L.length nb na 1 h d9 d10 d11 d12 d13 w r (rO 1 w'') := by
  intro l
  have n1 : w0.2.2 (20 + 13 * p + 1) 1 = (nb : Nat) := A.2.2.2.1.1
  have n3 : w0.2.2 (20 + 13 * p + 3) 1 = (na : Nat) := A.2.2.2.1.2.1
  have a1 := A.2.1
  have a2 := A.2.2.1
  have hLn : L.length ≤ nb + 1 := by rw [hL]; exact hks_len A.2.2.2.1.2.2.2.2.1
  induction l with
  | nil =>
    intro h i j e r w d9 d10 d11 d12 d13 W hd hh D he hr
    have hlen : L.length ≤ h := by
      have := congrArg List.length hd
      rw [List.length_drop] at this
      have h0 : ([] : List St).length = 0 := rfl
      omega
    obtain ⟨D1, D2, D3, D4⟩ := D
    have K1 : ∀ (w' : WS) (r' : Nat) (d10 d13 : Option AV), Wi c w0 w' → 0 ≤ r' → ∃ w'', Wi c w0 w'' ∧ K253_252 p nb (j + (nb - i) : Nat) L.length nb na 1 h nb d10 (0 : Nat) (0 : Nat) d13 w' r' (rO 1 w'') := by
      intro w' r' d10 d13 W' _
      refine ⟨w', W', bK253_252 ⟨by omega, ?_⟩⟩
      rw [if_neg (by omega)]
      refine bK253_334 ⟨by omega, by omega, bK253_33 ?_⟩
      rw [if_neg (by omega)]
      refine bK253_345 ?_
      rw [if_neg (by decide), if_pos rfl, if_pos (by omega)]
      exact bK253_367 ⟨Or.inr rfl, rfl⟩
    obtain ⟨w'', k1, k2⟩ := lw188 (c := c) A hp0 (h := h) (hn := L.length) (b := nb) (dr := 0) (ad := 0) (R := 0) (nb - i) i j r w (some (.inl na)) d13 W (by omega) (Nat.le_refl _) (by omega) D4 (by omega) K1
    refine ⟨w'', k1, bK253_33 ?_⟩
    rw [if_pos (by omega), if_neg (by decide), if_neg (by omega)]
    refine bK253_65 ?_
    rw [if_neg (by omega)]
    refine bK253_87 ?_
    rw [if_neg (by omega)]
    refine bK253_108 ?_
    rw [if_neg (by omega)]
    have fin : ∀ d7 : Option AV, K253_166 p i j L.length nb na d7 h nb (some (.inl na)) (0 : Int) (0 : Int) d13 w r (rO 1 w'') := by
      intro d7
      refine bK253_166 ⟨by omega, ?_⟩
      rw [if_pos (by omega), if_pos (by omega)]
      exact bK253_181 (bK253_186 k2)
    refine bK253_129 ⟨by omega, by omega, ?_⟩
    rw [if_pos (by omega), if_pos (by omega)]
    by_cases y1 : (nb : Int) ≤ i
    · rw [if_pos y1]
      by_cases y2 : (h : Int) = 0
      · rw [if_pos y2]; exact fin _
      · rw [if_neg y2, if_pos (by omega)]; exact fin _
    · rw [if_neg y1]; exact fin _
  | cons q t ih =>
    intro h i j e r w d9 d10 d11 d12 d13 W hd hh D he hr
    have hlt : h < L.length := by
      have := congrArg List.length hd
      rw [List.length_drop, List.length_cons] at this
      omega
    have hq : L[h]? = some q := by
      have := List.getElem?_drop (xs := L) (i := h) (j := 0)
      rw [hd, Nat.add_zero] at this
      exact this.symm
    have ht : L.drop (h + 1) = t := by
      have := List.drop_drop (i := 1) (j := h) (l := L)
      rw [hd] at this
      exact this.symm
    obtain ⟨b, dr, s, ad⟩ := q
    obtain ⟨D1, D2, D3, D4, D5, D6⟩ := D
    dsimp only at D1 D2 D3 D4 D5 D6
    obtain ⟨B1, B2, -⟩ := DS_b t _ _ _ D6
    have hc := Wi_c W
    have e1 := Wi_p (j := 1) W A.1 (by decide)
    have e3 := Wi_p (j := 3) W A.1 (by decide)
    have e6 := Wi_p (j := 6) W A.1 (by decide)
    have hqw : (hkP w.2.2 (20 + 13 * p))[h]? = some (b, dr, s, ad) := by
      unfold hkP
      rw [e6, e1, e3, n1, n3, Int.toNat_natCast, Int.toNat_natCast, ← hL]
      exact hq
    have d0 : Dc 191 [vA 0, vI p, vI h, vI 0] w.2.2 (.inl (some (.inl (b : Int)))) w.2.2 := Dc_of (q191 (p := p) (w := 0) W.1 (by omega) hqw (by decide))
    have d1 : Dc 191 [vA 0, vI p, vI h, vI 1] w.2.2 (.inl (some (.inl (dr : Int)))) w.2.2 := Dc_of (q191 (p := p) (w := 1) W.1 (by omega) hqw (by decide))
    have d2 : Dc 191 [vA 0, vI p, vI h, vI 2] w.2.2 (.inl (some (.inl (s : Int)))) w.2.2 := Dc_of (q191 (p := p) (w := 2) W.1 (by omega) hqw (by decide))
    have d3 : Dc 191 [vA 0, vI p, vI h, vI 3] w.2.2 (.inl (some (.inl (ad : Int)))) w.2.2 := Dc_of (q191 (p := p) (w := 3) W.1 (by omega) hqw (by decide))
    rw [List.length_cons] at hr
    have K2 : ∀ (w' : WS) (r' : Nat) (d9 d10 d11 d13 : Option AV), Wi c w0 w' → 12 * t.length + 10 * (nb - (b + dr)) + 2 ≤ r' → ∃ w'', Wi c w0 w'' ∧ K253_334 p (b + dr : Nat) (j + (b - i) : Nat) L.length nb na 1 h d9 d10 d11 ad d13 w' r' (rO 1 w'') := by
      intro w' r' d9 d10 d11 d13 W' hR
      obtain ⟨w'', k1, k2⟩ := ih (h + 1) (b + dr) (s + ad) 1 r' w' d9 d10 d11 (some (.inl ad)) d13 W' ht (by omega) D6 (fun _ => rfl) hR
      refine ⟨w'', k1, bK253_334 ⟨by omega, by omega, ?_⟩⟩
      rw [show ((j + (b - i) : Nat) : Int) + (ad : Int) = ((s + ad : Nat) : Int) by omega]
      exact k2
    have K1 : ∀ (w' : WS) (r' : Nat) (d10 d13 : Option AV), Wi c w0 w' → 12 * t.length + 10 * (nb - (b + dr)) + 2 + 10 * dr ≤ r' → ∃ w'', Wi c w0 w'' ∧ K253_252 p b (j + (b - i) : Nat) L.length nb na 1 h b d10 dr ad d13 w' r' (rO 1 w'') := by
      intro w' r' d10 d13 W' hR
      exact lw252 (c := c) A hp0 (h := h) (hn := L.length) (b := b) (j := j + (b - i)) (dr := dr) (ad := ad) (R := 12 * t.length + 10 * (nb - (b + dr)) + 2) dr b r' w' d10 d13 W' rfl B1 D4 hR K2
    obtain ⟨w'', k1, k2⟩ := lw188 (c := c) A hp0 (h := h) (hn := L.length) (b := b) (dr := dr) (ad := ad) (R := 12 * t.length + 10 * (nb - (b + dr)) + 2 + 10 * dr) (b - i) i j (r - 3 - 3 - 3 - 3) w (some (.inl s)) d13 W (by omega) (by omega) (by omega) D3 (by omega) K1
    refine ⟨w'', k1, bK253_33 ?_⟩
    rw [if_pos (by omega), if_neg (by decide), if_pos (by omega)]
    refine ⟨by omega, _, _, d0, bK253_65 ?_⟩
    rw [if_pos (by omega)]
    refine ⟨by omega, _, _, d2, bK253_87 ?_⟩
    rw [if_pos (by omega)]
    refine ⟨by omega, _, _, d1, bK253_108 ?_⟩
    rw [if_pos (by omega)]
    refine ⟨by omega, _, _, d3, ?_⟩
    have fin : ∀ d7 : Option AV, K253_166 p i j L.length nb na d7 h b (some (.inl s)) dr ad d13 w (r - 3 - 3 - 3 - 3) (rO 1 w'') := by
      intro d7
      refine bK253_166 ⟨by omega, ?_⟩
      rw [if_neg (by omega)]
      exact bK253_181 (bK253_186 k2)
    refine bK253_129 ⟨by omega, by omega, ?_⟩
    rw [if_pos (by omega), if_pos (by omega)]
    by_cases y1 : (b : Int) ≤ i
    · rw [if_pos y1]
      by_cases y2 : (h : Int) = 0
      · rw [if_pos y2]; exact fin _
      · exfalso
        have := he (by omega)
        omega
    · rw [if_neg y1]; exact fin _
end
/-- isWhole answers 1 of each patch -/
theorem m253 {c : Int} {p : Nat} {w : WS} (H : Rel c w.2.2) (hp : (p : Int) < w.2.2 0 3) : ∃ w', Wi c w w' ∧ Lx 253 [vA 0, vI p] w (rO 1 w') := by
  obtain ⟨nb, na, A⟩ := PA_of H hp
  have n1 : w.2.2 (20 + 13 * p + 1) 1 = (nb : Nat) := A.2.2.2.1.1
  have n3 : w.2.2 (20 + 13 * p + 3) 1 = (na : Nat) := A.2.2.2.1.2.1
  have V := A.2.2.2.1.2.2.2.2.1
  have hlen := hks_len V
  obtain ⟨w', k1, k2⟩ := lw33 (c := c) A hp rfl _ 0 0 0 0 (800 - 1 - 40 - 40) w none none none none none (Wi_r H) (List.drop_zero) (Nat.zero_le _) (DS_0 V) (fun h => absurd h (by decide)) (by
    have := A.2.1
    omega)
  have d190 := Dc_of (q190 (p := p) H hp)
  have eh : hkP w.2.2 (20 + 13 * p) = hks (w.2.2 (20 + 13 * p + 6)) nb na := by
    unfold hkP
    rw [n1, n3, Int.toNat_natCast, Int.toNat_natCast]
  rw [eh] at d190
  have m0 := m250 (b := 0) H hp
  have m1 := m250 (b := 1) H hp
  rw [show pl w.2.2 p 0 = (nb : Nat) by unfold pl sd; rw [if_pos rfl]; exact n1] at m0
  rw [show pl w.2.2 p 1 = (na : Nat) by unfold pl sd; rw [if_neg (by decide)]; exact n3] at m1
  exact ⟨w', k1, lb253 ⟨by decide, _, _, d190, by decide, _, _, m0, by decide, _, _, m1, k2⟩⟩
end
