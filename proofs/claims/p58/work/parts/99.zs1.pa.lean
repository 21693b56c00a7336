/-! The law: patches compared, made, put where they were made from. -/
noncomputable section
theorem sd_le (b : Int) : sd b + 1 ≤ 10 := by unfold sd; split <;> omega
theorem Wi_pl {c : Int} {w0 w : WS} {p : Nat} (W : Wi c w0 w) (hp : p < 24) (b : Int) : pl w.2.2 p b = pl w0.2.2 p b ∧ ∀ k, px w.2.2 p b k = px w0.2.2 p b k := by
  have h := sd_le b
  refine ⟨?_, fun k => ?_⟩
  · unfold pl
    rw [Wi_p W hp (by omega)]
  · unfold px
    rw [Nat.add_assoc, Wi_p W hp h]
theorem Wi_pS {c : Int} {w0 w : WS} {p q : Nat} {b e : Int} (W : Wi c w0 w) (hp : p < 24) (hq : q < 24) : pS w.2.2 p b q e ↔ pS w0.2.2 p b q e := by
  unfold pS
  obtain ⟨a1, a2⟩ := Wi_pl W hp b
  obtain ⟨b1, b2⟩ := Wi_pl W hq e
  rw [a1, b1]
  exact ⟨fun h => ⟨h.1, fun k hk => by rw [← a2, ← b2]; exact h.2 k hk⟩, fun h => ⟨h.1, fun k hk => by rw [a2, b2]; exact h.2 k hk⟩⟩
theorem Wi_PEQ {c : Int} {w0 w : WS} {p q : Nat} (W : Wi c w0 w) (hp : p < 24) (hq : q < 24) : PEQ w.2.2 (20 + 13 * p) (20 + 13 * q) ↔ PEQ w0.2.2 (20 + 13 * p) (20 + 13 * q) := by
  unfold PEQ smP
  rw [Wi_p (j := 1) W hp (by decide), Wi_p (j := 3) W hp (by decide), Wi_p (j := 5) W hp (by decide), Wi_p (j := 1) W hq (by decide), Wi_p (j := 3) W hq (by decide), Wi_p (j := 5) W hq (by decide)]
  have f : ∀ x j, x < 24 → j ≤ 9 → w.2.2 (20 + 13 * x + j + 1) = w0.2.2 (20 + 13 * x + j + 1) := fun x j h1 h2 => Wi_p (j := j + 1) W h1 (by omega)
  rw [f p 1 hp (by decide), f p 3 hp (by decide), f p 5 hp (by decide), f q 1 hq (by decide), f q 3 hq (by decide), f q 5 hq (by decide)]
theorem Wi_hk {c : Int} {w0 w : WS} {p : Nat} (W : Wi c w0 w) (hp : p < 24) : hkP w.2.2 (20 + 13 * p) = hkP w0.2.2 (20 + 13 * p) := by
  unfold hkP
  rw [Wi_p (j := 6) W hp (by decide), Wi_p (j := 1) W hp (by decide), Wi_p (j := 3) W hp (by decide)]
theorem Wi_dst {c : Int} {w0 w : WS} {p q : Nat} (W : Wi c w0 w) (hp : p < 24) (hq : q < 24) : dstP w.2.2 p q = dstP w0.2.2 p q := by
  have e : ∀ p, p < 24 → chPt w.2.2 p = chPt w0.2.2 p := fun p hp => by
    unfold chPt
    rw [Wi_p (j := 2) W hp (by decide), Wi_p (j := 4) W hp (by decide), Wi_hk W hp]
  unfold dstP
  rw [e p hp, e q hq]
theorem chg_cg {O N O' N' : Nat → Int} : ∀ (l : List (Nat × Nat × Nat × Nat)), (∀ q, q ∈ l → (∀ x, q.1 ≤ x → x < q.1 + q.2.1 → O x = O' x) ∧ ∀ x, q.2.2.1 ≤ x → x < q.2.2.1 + q.2.2.2 → N x = N' x) → chg O N l = chg O' N' l := by
  intro l
  induction l with
  | nil => intro _; rfl
  | cons q t ih =>
    intro h
    obtain ⟨h1, h2⟩ := h q List.mem_cons_self
    have sc : ∀ (f g : Nat → Int) (b a : Nat), (∀ x, a ≤ x → x < a + b → f x = g x) → sq f a b = sq g a b := by
      intro f g b
      induction b with
      | zero => intro a _; rfl
      | succ b ihb =>
        intro a hx
        unfold sq
        rw [hx a (Nat.le_refl _) (by omega), ihb (a + 1) (fun x y1 y2 => hx x (by omega) (by omega))]
    unfold chg chl
    rw [ih (fun q hq => h q (List.mem_cons_of_mem _ hq)), sc (fun x => 100000 + O x) (fun x => 100000 + O' x) _ _ (fun x y1 y2 => by show _ + O x = _ + O' x; rw [h1 x y1 y2]), sc (fun x => 200000 + N x) (fun x => 200000 + N' x) _ _ (fun x y1 y2 => by show _ + N x = _ + N' x; rw [h2 x y1 y2])]
theorem PEQ_ch {c : Int} {σ : Sg} {p q : Nat} (H : Rel c σ) (hp : (p : Int) < σ 0 3) (hq : (q : Int) < σ 0 3) (h : PEQ σ (20 + 13 * p) (20 + 13 * q)) : chPt σ p = chPt σ q := by
  obtain ⟨nb, na, A⟩ := PA_of H hp
  obtain ⟨nb', na', B⟩ := PA_of H hq
  obtain ⟨n1, n3, n5, n7, V, -⟩ := A.2.2.2.1
  obtain ⟨m1, m3, m5, m7, V', -⟩ := B.2.2.2.1
  obtain ⟨⟨e1, f1⟩, ⟨e3, f3⟩, ⟨e5, f5⟩⟩ := h
  have x1 : nb' = nb := by omega
  have x2 : na' = na := by omega
  subst x1
  subst x2
  have eh : hkP σ (20 + 13 * p) = hkP σ (20 + 13 * q) := by
    unfold hkP
    rw [n1, n3, m1, m3, Int.toNat_natCast, Int.toNat_natCast]
    exact hkF_congr (fun i hi => f5 i (by omega)) _ _ _
  unfold chPt
  rw [← eh]
  refine chg_cg _ (fun z hz => ?_)
  unfold hkP at hz
  rw [n1, n3, Int.toNat_natCast, Int.toNat_natCast] at hz
  obtain ⟨i, hi⟩ := List.getElem?_of_mem hz
  obtain ⟨b1, b2⟩ := hks_bd V hi
  exact ⟨fun x _ h2 => f1 x (by omega), fun x _ h2 => f3 x (by omega)⟩
theorem q193b {σ : Sg} {c : Int} {p q : Nat} (H : Rel c σ) (hp : (p : Int) < σ 0 3) (hq : (q : Int) < σ 0 3) : ∃ v : Int, (v = 0 ∨ v = 1) ∧ (v = 1 ↔ PEQ σ (20 + 13 * p) (20 + 13 * q)) ∧ Dc 193 [vA 0, vI p, vI q] σ (.inl (some (.inl v))) σ := by
  obtain ⟨d1, d2⟩ := q193 H hp hq
  by_cases h : PEQ σ (20 + 13 * p) (20 + 13 * q)
  · exact ⟨1, Or.inr rfl, ⟨fun _ => h, fun _ => rfl⟩, Dc_of (d1 h)⟩
  · exact ⟨0, Or.inl rfl, ⟨fun e => absurd e (by decide), fun e => absurd e h⟩, Dc_of (d2 h)⟩
theorem m255 {c : Int} {p q : Nat} {w : WS} (H : Rel c w.2.2) (hp : (p : Int) < w.2.2 0 3) (hq : (q : Int) < w.2.2 0 3) : ∃ w', Wi c w w' ∧ Lx 255 [vA 0, vI p, vI q] w (rO 1 w') := by
  have hn := (rel_n H).1
  have p24 : p < 24 := by omega
  have q24 : q < 24 := by omega
  obtain ⟨s1, d1, R1, P1⟩ := q194 H hp hq
  have W1 := Wi_s (Wi_r H) R1 P1
  have c1 := Wi_c W1
  obtain ⟨s2, d2, R2, P2⟩ := q194 (a := q) (b := p) W1.1 (by omega) (by omega)
  rw [Wi_dst W1 q24 p24, dst_swap] at d2
  have W2 := Wi_s W1 R2 P2
  have c2 := Wi_c W2
  obtain ⟨v1, x1, y1, e1⟩ := q193b (p := q) (q := p) W2.1 (by omega) (by omega)
  obtain ⟨v2, x2, y2, e2⟩ := q193b (p := p) (q := q) W2.1 (by omega) (by omega)
  obtain ⟨v3, x3, y3, e3⟩ := q193b (p := p) (q := p) W2.1 (by omega) (by omega)
  have v3e : v3 = 1 := y3.mpr PE_r
  subst v3e
  have v12 : v1 = v2 := by
    rcases x1 with h | h <;> rcases x2 with h' | h'
    · rw [h, h']
    · have := y1.mpr (PE_f (y2.mp h')); omega
    · have := y2.mpr (PE_f (y1.mp h)); omega
    · rw [h, h']
  obtain ⟨w3, W3, m3⟩ := m253 (p := p) W2.1 (by omega)
  have W3' := Wi_t W2 W3
  have c3 := Wi_c W3'
  obtain ⟨v4, x4, y4, e4⟩ := q193b (p := p) (q := q) W3'.1 (by omega) (by omega)
  -- the end, whichever way
  have fin : ∀ (x4' : Int) (d5 : Option AV) (d3 : Option AV) (r : Nat), 1000 ≤ r → (x4' = 0 ∨ (pS w.2.2 p 0 q 0 ∧ pS w.2.2 p 1 q 1)) → K255_106 p q d3 x4' d5 1 (wS (wS w s1) s2) r (rO 1 w3) := by
    intro x4' d5 d3 r hr hx
    refine bK255_106 ?_
    rw [if_neg (by decide)]
    refine ⟨by omega, _, _, m3, ?_⟩
    rw [if_neg (by decide)]
    by_cases hpq : (p : Int) = q
    · rw [if_pos hpq]
      exact bK255_146 (bK255_151 ⟨Or.inr rfl, rfl⟩)
    · rw [if_neg hpq]
      by_cases h0 : x4' = 0
      · rw [if_pos h0]
        exact bK255_146 (bK255_151 ⟨Or.inr rfl, rfl⟩)
      · rw [if_neg h0]
        obtain ⟨hs0, hs1⟩ := hx.resolve_left h0
        have t0 := (Wi_pS W3' p24 q24).mpr hs0
        have t1 := (Wi_pS W3' p24 q24).mpr hs1
        obtain ⟨v5, x5, y5, m5⟩ := m256 (p := p) (q := q) W3'.1 (by omega) (by omega) t0.1
        refine ⟨by omega, _, _, e4, by omega, _, _, m5, ?_⟩
        have ev : v4 = v5 := by
          have key : PEQ w3.2.2 (20 + 13 * p) (20 + 13 * q) ↔ ∀ k : Nat, (k : Int) < pl w3.2.2 p 0 → w3.2.2 (20 + 13 * p + 6) k = w3.2.2 (20 + 13 * q + 6) k := by
            obtain ⟨nb, na, A⟩ := PA_of (p := p) W3'.1 (by omega)
            obtain ⟨nb', na', B⟩ := PA_of (p := q) W3'.1 (by omega)
            have n1 := A.2.2.2.1.1
            have n5 := A.2.2.2.1.2.2.1
            have m1 := B.2.2.2.1.1
            have m5 := B.2.2.2.1.2.2.1
            unfold pS pl px sd at t0 t1
            rw [if_pos rfl] at t0
            rw [if_neg (by decide)] at t1
            unfold pl sd
            rw [if_pos rfl]
            obtain ⟨g1, g2⟩ := t0
            obtain ⟨g3, g4⟩ := t1
            exact ⟨fun h k hk => h.2.2.2 k (by omega), fun h => ⟨⟨g1, g2⟩, ⟨g3, g4⟩, ⟨by omega, fun k hk => h k (by omega)⟩⟩⟩
          rcases x4 with h | h <;> rcases x5 with h' | h'
          · rw [h, h']
          · have := y4.mpr (key.mpr (y5.mp h')); omega
          · have := y5.mpr (key.mp (y4.mp h)); omega
          · rw [h, h']
        rw [if_pos ev]
        exact bK255_146 (bK255_151 ⟨Or.inr rfl, rfl⟩)
  have eqd : PEQ w.2.2 (20 + 13 * p) (20 + 13 * q) → dstP w.2.2 p q = 0 := fun h => dst_same (PEQ_ch H hp hq h)
  have K88 : ∀ (y0 : Int) (d5 : Option AV) (r : Nat), 1002 ≤ r → (y0 = 0 ∨ (pS w.2.2 p 0 q 0 ∧ pS w.2.2 p 1 q 1)) → K255_88 p q (dstP w.2.2 p q) y0 d5 (wS (wS w s1) s2) r (rO 1 w3) := by
    intro y0 d5 r hr hy
    refine bK255_88 ?_
    by_cases h0 : dstP w.2.2 p q = 0
    · rw [if_pos h0]
      exact bK255_101 (fin _ _ _ _ (by omega) hy)
    · rw [if_neg h0]
      refine ⟨by omega, _, _, e2, ?_⟩
      have : v2 = 0 := by
        rcases x2 with h | h
        · exact h
        · exact absurd (eqd ((Wi_PEQ W2 p24 q24).mp (y2.mp h))) h0
      rw [if_pos this]
      exact bK255_101 (fin _ _ _ _ (by omega) hy)
  have K34 : ∀ (y0 : Int) (d4 d5 : Option AV) (r : Nat), 1020 ≤ r → ((y0 = 0 ∧ ¬ (pS w.2.2 p 0 q 0 ∧ pS w.2.2 p 1 q 1)) ∨ (y0 = 1 ∧ pS w.2.2 p 0 q 0 ∧ pS w.2.2 p 1 q 1)) → K255_34 p q (dstP w.2.2 p q) d4 d5 y0 (wS w s1) r (rO 1 w3) := by
    intro y0 d4 d5 r hr hy
    refine bK255_34 ?_
    rw [if_pos dst_nn]
    refine ⟨by omega, _, _, d2, ?_⟩
    rw [if_pos rfl]
    refine ⟨by omega, _, _, e1, by omega, _, _, e2, ?_⟩
    rw [if_pos v12]
    refine ⟨by omega, _, _, e3, ?_⟩
    rw [if_neg (by decide)]
    by_cases h0 : y0 = 0
    · rw [if_pos h0]
      refine ⟨by omega, _, _, e2, ?_⟩
      have : v2 = 0 := by
        rcases x2 with h | h
        · exact h
        · exfalso
          have hP := (Wi_PEQ W2 p24 q24).mp (y2.mp h)
          rcases hy with ⟨-, hy⟩ | ⟨hy, -⟩
          · refine hy ⟨?_, ?_⟩
            · unfold pS pl px sd; rw [if_pos rfl]; exact hP.1
            · unfold pS pl px sd; rw [if_neg (by decide)]; exact hP.2.1
          · omega
      rw [if_pos this]
      exact K88 _ _ _ (by omega) (Or.inl h0)
    · rw [if_neg h0]
      rcases hy with ⟨hy, -⟩ | ⟨-, hy⟩
      · exact absurd hy h0
      · exact K88 _ _ _ (by omega) (Or.inr hy)
  refine ⟨w3, W3', lb255 ⟨by decide, _, _, d1, by decide, ?_⟩⟩
  obtain ⟨a1, a2⟩ := m252 (b := 0) (e := 0) (p := p) (q := q) W1.1 (by omega) (by omega)
  obtain ⟨b1, b2⟩ := m252 (b := 1) (e := 1) (p := p) (q := q) W1.1 (by omega) (by omega)
  by_cases h0 : pS w.2.2 p 0 q 0
  · refine ⟨_, _, a1 ((Wi_pS W1 p24 q24).mpr h0), ?_⟩
    rw [if_neg (by decide)]
    by_cases h1 : pS w.2.2 p 1 q 1
    · refine ⟨by decide, _, _, b1 ((Wi_pS W1 p24 q24).mpr h1), ?_⟩
      rw [if_neg (by decide)]
      exact K34 _ _ _ _ (by decide) (Or.inr ⟨rfl, h0, h1⟩)
    · refine ⟨by decide, _, _, b2 (fun h => h1 ((Wi_pS W1 p24 q24).mp h)), ?_⟩
      rw [if_pos rfl]
      exact bK255_33 (K34 _ _ _ _ (by decide) (Or.inl ⟨rfl, fun h => h1 h.2⟩))
  · refine ⟨_, _, a2 (fun h => h0 ((Wi_pS W1 p24 q24).mp h)), ?_⟩
    rw [if_pos rfl]
    exact bK255_33 (K34 _ _ _ _ (by decide) (Or.inl ⟨rfl, fun h => h0 h.1⟩))
/-- what a new patch says of its texts -/
theorem New_pT {σ s : Sg} {p nb na t u : Nat} {O N : Nat → Int} (h : New σ s p nb na O N) (ht : t < 4) (hu : u < 4) (h1 : σ (2 + 2 * t) 1 = (nb : Nat)) (h2 : σ (2 + 2 * u) 1 = (na : Nat)) (hO : O = σ (2 + 2 * t + 1)) (hN : N = σ (2 + 2 * u + 1)) : pT s p 0 t ∧ pT s p 1 u := by
  obtain ⟨a1, a2, a3, a4, a5, a6⟩ := h
  have f : ∀ x k, 2 ≤ x → x ≤ 9 → s x k = σ x k := fun x k g1 g2 => a2 x k (by omega) (by unfold KP; omega) (by omega) (by omega)
  unfold pT pl px sd
  rw [if_pos rfl, if_neg (by decide)]
  refine ⟨⟨by rw [a3, f (2 + 2 * t) _ (by omega) (by omega), h1], fun k hk => ?_⟩, ⟨by rw [a4, f (2 + 2 * u) _ (by omega) (by omega), h2], fun k hk => ?_⟩⟩
  · rw [a3] at hk
    rw [f (2 + 2 * t + 1) _ (by omega) (by omega)]
    exact (a5 k (by omega)).trans (by rw [hO])
  · rw [a4] at hk
    rw [f (2 + 2 * u + 1) _ (by omega) (by omega)]
    exact (a6 k (by omega)).trans (by rw [hN])
theorem Wi_tx {c : Int} {w0 w : WS} {x : Nat} (W : Wi c w0 w) (h : 2 ≤ x ∧ x ≤ 9) : w.2.2 x = w0.2.2 x := funext fun k => W.2.2.2 x k (by omega) (by unfold KP; omega) (by unfold knr; omega)
theorem Wi_pT {c : Int} {w0 w : WS} {p t : Nat} {b : Int} (W : Wi c w0 w) (hp : p < 24) (ht : t < 4) : pT w.2.2 p b t ↔ pT w0.2.2 p b t := by
  unfold pT
  obtain ⟨a1, a2⟩ := Wi_pl W hp b
  rw [a1, Wi_tx W (x := 2 + 2 * t) (by omega), Wi_tx W (x := 2 + 2 * t + 1) (by omega)]
  exact ⟨fun h => ⟨h.1, fun k hk => by rw [← a2]; exact h.2 k hk⟩, fun h => ⟨h.1, fun k hk => by rw [a2]; exact h.2 k hk⟩⟩
/-- the loop over the places of putOn -/
theorem ll254 {w : WS} {c : Int} {p t : Nat} {d1 d3 d4 d5 d6 : Option AV} (H : Rel c w.2.2) (hp : (p : Int) < w.2.2 0 3) (ht : t < 4) {L : List St} (hL : hkP w.2.2 (20 + 13 * p) = L) (h1 : w.2.2 393 1 = (L.length : Nat)) (h2 : ∀ (h : Nat) (q : St), L[h]? = some q → w.2.2 394 h = 10 * (q.1 : Nat)) (hb : ∀ (h : Nat) (q : St), L[h]? = some q → q.1 ≤ 16) (hlen : L.length ≤ 17) : ∀ (d i r : Nat), i + d = L.length → 5 * d + 2 ≤ r → K254_190 d1 t d3 d4 d5 d6 p 1 (w.2.2 (2 + 2 * t) 1) i w r (rO 1 w) := by
  intro d
  have d190 := Dc_of (q190 (p := p) H hp)
  rw [hL] at d190
  induction d with
  | zero =>
    intro i r hi hr
    refine bK254_190 ⟨by omega, _, _, d190, ?_⟩
    rw [if_neg (by omega)]
    refine bK254_240 ?_
    rw [if_neg (by decide)]
    refine ⟨by omega, _, _, Dc_of (q175 (σ := w.2.2) ht), ?_⟩
    rw [if_pos rfl]
    exact bK254_260 ⟨Or.inr rfl, rfl⟩
  | succ d ih =>
    intro i r hi hr
    obtain ⟨q, hq⟩ : ∃ q, L[i]? = some q := ⟨_, List.getElem?_eq_getElem (by omega)⟩
    have d196 := Dc_of (q196 (h := i) H (by omega))
    rw [h2 i q hq] at d196
    have d191 := Dc_of (q191 (p := p) (h := i) (w := 0) (q := q) H hp (by rw [hL]; exact hq) (by decide))
    have hz : hkN q 0 = ((q.1 : Nat) : Int) := rfl
    rw [hz] at d191
    have := hb i q hq
    refine bK254_190 ⟨by omega, _, _, d190, ?_⟩
    rw [if_pos (by omega), if_neg (by decide)]
    refine ⟨by omega, _, _, d196, by omega, _, _, d191, ⟨?_, ?_⟩, ?_⟩
    · show -2147483648 ≤ 10 * ((q.1 : Nat) : Int); omega
    · show 10 * ((q.1 : Nat) : Int) ≤ 2147483647; omega
    simp only [wSs, if_true]
    exact bK254_232 ⟨by omega, ih (i + 1) _ (by omega) (by omega)⟩
/-- makes -/
theorem m254 {n t u fz : Nat} {a3 : Int} {w : WS} (L : LI n w) (ht : t < 4) (hu : u < 4) (g7 : 0 ≤ a3 ∧ a3 < 3) (hf : fz ≤ 3) (g8 : w.2.2 0 3 < 24) : ∃ w', LI n w' ∧ Sc w w' ∧ Lx 254 [vA 0, vA 682, vI t, vI u, vI a3, vI fz] w (rO 1 w') := by
  obtain ⟨p, n1, n2, s2, hp, p24, z1, z2, d1, R1, N1⟩ := c181 (t := t) (u := u) L.2.1 ht hu g7 g8
  have L1 := LI_new L R1 N1
  obtain ⟨wA, hwA⟩ : ∃ wA, wA = wS (wU w 682 0 ((p : Int) + 1)) s2 := ⟨_, rfl⟩
  have e0 : w.2.1 682 ((0 : Int)).toNat = (p : Nat) := L.2.2.1.trans hp
  have cA : wA.2.2 0 3 = (p : Int) + 1 := by rw [hwA]; exact N1.1
  have sA : wA.2.2 = s2 := by rw [hwA]; rfl
  rw [← hwA] at L1
  obtain ⟨T0, T1⟩ := New_pT N1 ht hu z1 z2 rfl rfl
  rw [← sA] at T0 T1
  have m0 := m251 (p := p) (t := t) (b := 0) L1.2.1 (by omega) ht T0
  have m1 := m251 (p := p) (t := u) (b := 1) L1.2.1 (by omega) hu T1
  obtain ⟨w3, W3, m3⟩ := m253 (p := p) L1.2.1 (by omega)
  have c3 := Wi_c W3
  obtain ⟨s4, d4, R4, P4⟩ := q194 (a := p) (b := p) W3.1 (by omega) (by omega)
  rw [dst_same rfl] at d4
  have W4 := Wi_s W3 R4 P4
  have c4 := Wi_c W4
  obtain ⟨w5, hw5⟩ : ∃ w5, w5 = wS w3 s4 := ⟨_, rfl⟩
  rw [← hw5] at W4 c4
  have L5 := LI_W L1 W4
  have T0' := (Wi_pT W4 p24 ht).mpr T0
  have T1' := (Wi_pT W4 p24 hu).mpr T1
  have scA : Sc w wA := by rw [hwA]; exact Sc_u (by decide) rfl
  have sc5 : Sc w w5 := Sc_t scA (Sc_e W4.2.2.1)
  obtain ⟨v, hv⟩ : ∃ v : Nat, v = if (u + 1) % 4 = t then (u + 2) % 4 else (u + 1) % 4 := ⟨_, rfl⟩
  have hvi : (if Int.tmod ((u : Int) + 1) 4 = (t : Int) then Int.tmod ((u : Int) + 2) 4 else Int.tmod ((u : Int) + 1) 4) = (v : Int) := by
    have t1 : Int.tmod ((u : Int) + 1) 4 = (((u + 1) % 4 : Nat) : Int) := rfl
    have t2 : Int.tmod ((u : Int) + 2) 4 = (((u + 2) % 4 : Nat) : Int) := rfl
    rw [t1, t2, hv]
    by_cases y : (u + 1) % 4 = t
    · rw [if_pos (by omega), if_pos y]
    · rw [if_neg (by omega), if_neg y]
  have hv4 : v < 4 := by rw [hv]; split <;> omega
  -- from the second part on
  have key : ∃ w', LI n w' ∧ Sc w5 w' ∧ ∀ (d4 d8 d9 d10 : Option AV), K254_106 t u d4 fz v p d8 d9 d10 1 w5 (1400 - 4 - 150 - 150 - 800 - 2) (rO 1 w') := by
    by_cases y1 : (v : Int) = t
    · refine ⟨w5, L5, Sc_r _, fun _ _ _ _ => bK254_106 ?_⟩
      rw [if_pos y1]
      exact bK254_120 ⟨Or.inr rfl, rfl⟩
    by_cases y2 : (v : Int) = u
    · refine ⟨w5, L5, Sc_r _, fun _ _ _ _ => bK254_106 ?_⟩
      rw [if_neg y1, if_pos y2]
      exact bK254_120 ⟨Or.inr rfl, rfl⟩
    obtain ⟨m, s6, g1, g2, d6, R6, X6⟩ := c174 (t := t) (u := v) L5.2.1 ht hv4
    have L6 := LI_txt L5 R6 (fun x k h1 h2 h3 _ => X6.1 x k h1 h2 h3) hv4
    obtain ⟨w6, hw6⟩ : ∃ w6, w6 = wS (wU w5 682 5 (c5n (w5.2.1 682 5) v)) s6 := ⟨_, rfl⟩
    have s6e : w6.2.2 = s6 := by rw [hw6]; rfl
    rw [← hw6] at L6
    have r6 : ∀ j, j ≤ 10 → s6 (20 + 13 * p + j) = w5.2.2 (20 + 13 * p + j) := fun j hj => funext fun k => X6.1 _ k (by omega) (by unfold KP; omega) (by omega)
    have c6 : s6 0 3 = w5.2.2 0 3 := X6.1 0 3 (by decide) (by unfold KP; omega) (by omega)
    have T6 : pT w6.2.2 p 0 v := by
      rw [s6e]
      unfold pT pl px sd at T0' ⊢
      rw [if_pos rfl] at T0' ⊢
      rw [r6 1 (by decide)]
      refine ⟨by rw [T0'.1, X6.2.1, g1], fun k hk => ?_⟩
      have r7 : s6 (20 + 13 * p + 1 + 1) = w5.2.2 (20 + 13 * p + 1 + 1) := r6 2 (by decide)
      rw [r7, T0'.2 k hk, X6.2.2 k (by have := T0'.1; omega)]
    obtain ⟨na, s8, q1, d8, R8, f8, q2, q3, q4, q5⟩ := c195 (a := p) (t := v) (fz := fz) L6.2.1 (by rw [s6e]; omega) hv4 hf T6
    have L8 : LI n (wS w6 s8) := by
      refine LI_on (w' := wS w6 s8) L6 rfl R8 (fun x k h1 h2 _ h3 _ _ _ h4 => f8 x k h1 h2 (by omega) h4) ?_ (fun _ _ _ _ _ => rfl) ?_
      · show w6.2.1 682 0 = s8 0 3
        rw [f8 0 3 (by decide) (by unfold KP; omega) (by omega) (by omega)]
        exact L6.2.2.1
      · have e5 : w6.2.1 682 5 = c5n (w5.2.1 682 5) v := by rw [hw6]; show upS w5.2.1 682 5 (c5n (w5.2.1 682 5) v) 682 5 = _; exact up_s
        show w6.2.1 682 5 = 0 ∨ _
        by_cases h9 : w5.2.1 682 5 = (v : Int) + 1
        · left; rw [e5]; unfold c5n; rw [if_pos h9]
        · refine Or.inr ⟨rfl, fun t' ht' e k => ?_⟩
          rw [e5] at e
          unfold c5n at e
          rw [if_neg h9] at e
          exact ⟨f8 _ k (by omega) (by unfold KP; omega) (by omega) (by omega), f8 _ k (by omega) (by unfold KP; omega) (by omega) (by omega)⟩
    obtain ⟨w8, hw8⟩ : ∃ w8, w8 = wS w6 s8 := ⟨_, rfl⟩
    have s8e : w8.2.2 = s8 := by rw [hw8]; rfl
    rw [← hw8] at L8
    have r8 : ∀ j, j ≤ 10 → s8 (20 + 13 * p + j) = s6 (20 + 13 * p + j) := fun j hj => funext fun k => (f8 _ k (by omega) (by unfold KP; omega) (by omega) (by omega)).trans (by rw [s6e])
    have tx8 : ∀ x k, 2 ≤ x → x ≤ 9 → ¬ (x = 2 + 2 * v ∨ x = 2 + 2 * v + 1) → s8 x k = w5.2.2 x k := fun x k h1 h2 h3 => by rw [f8 x k (by omega) (by unfold KP; omega) h3 (by omega), s6e, X6.1 x k (by omega) (by unfold KP; omega) h3]
    have T8 : smP w8.2.2 (2 + 2 * v) (2 + 2 * u) := by
      rw [s8e]
      unfold pT pl px sd at T1'
      rw [if_neg (by decide)] at T1'
      rw [s6e, r6 3 (by decide)] at q1
      have r7 : w6.2.2 (20 + 13 * p + 4) = w5.2.2 (20 + 13 * p + 3 + 1) := by rw [s6e]; exact r6 4 (by decide)
      have := T1'.1
      refine ⟨by rw [q2, tx8 _ _ (by omega) (by omega) (by omega)]; omega, fun k hk => ?_⟩
      rw [q2] at hk
      rw [q3 k (by omega), r7, T1'.2 k (by omega), tx8 _ _ (by omega) (by omega) (by omega)]
    have m8 := m247 (t := v) (u := u) L8.2.1 hv4 hu T8
    have hk8 : hkP w8.2.2 (20 + 13 * p) = hkP w6.2.2 (20 + 13 * p) := by
      unfold hkP
      rw [s8e, s6e, r8 6 (by decide), r8 1 (by decide), r8 3 (by decide)]
    have h24 := L8.2.2.1
    have c8 : w8.2.2 0 3 = w5.2.2 0 3 := by rw [s8e, f8 0 3 (by decide) (by unfold KP; omega) (by omega) (by omega), s6e]; exact c6
    obtain ⟨nb', na', A8⟩ := PA_of (p := p) L8.2.1 (by omega)
    have hbd : ∀ (h : Nat) (q : St), (hkP w6.2.2 (20 + 13 * p))[h]? = some q → q.1 ≤ 16 := by
      intro h q hq
      rw [← hk8] at hq
      unfold hkP at hq
      rw [A8.2.2.2.1.1, A8.2.2.2.1.2.1, Int.toNat_natCast, Int.toNat_natCast] at hq
      have := (hks_bd A8.2.2.2.1.2.2.2.2.1 hq).1
      have := A8.2.1
      omega
    have hlen : (hkP w6.2.2 (20 + 13 * p)).length ≤ 17 := by
      rw [← hk8]
      unfold hkP
      rw [A8.2.2.2.1.1, A8.2.2.2.1.2.1, Int.toNat_natCast, Int.toNat_natCast]
      have := hks_len A8.2.2.2.1.2.2.2.2.1
      have := A8.2.1
      omega
    have et : w8.2.2 (2 + 2 * t) 1 = (m : Nat) := by rw [s8e, tx8 _ _ (by omega) (by omega) (by omega)]; exact g1
    have fin := fun (d1 d3 d4 d5 d6 : Option AV) (r : Nat) (hr : 87 ≤ r) => ll254 (w := w8) (p := p) (t := t) (d1 := d1) (d3 := d3) (d4 := d4) (d5 := d5) (d6 := d6) L8.2.1 (by omega) ht hk8 (by rw [s8e]; exact q4) (fun h q hq => by rw [s8e]; exact q5 h q hq) hbd hlen (hkP w6.2.2 (20 + 13 * p)).length 0 r (Nat.zero_add _) (by omega)
    rw [et] at fin
    refine ⟨w8, L8, ?_, fun d4 d8' d9 d10 => bK254_106 ?_⟩
    · rw [hw8, hw6]
      exact Sc_u (by decide) rfl
    rw [if_neg y1, if_neg y2]
    refine ⟨L5.1, ⟨by decide, by decide⟩, by omega, fun _ => L5.1, fun _ => ⟨by decide, by decide⟩, bK254_142 ⟨L5.1, ⟨by decide, by decide⟩, by decide, _, _, d6, ?_⟩⟩
    rw [if_neg (by decide)]
    have hw6' : w6 = wS (wU w5 682 ((5 : Int)).toNat (if w5.2.1 682 ((5 : Int)).toNat = (v : Int) + 1 then 0 else w5.2.1 682 ((5 : Int)).toNat)) s6 := hw6
    rw [← hw6']
    refine ⟨by decide, _, _, d8, ?_⟩
    rw [if_pos rfl, ← hw8]
    refine ⟨by decide, _, _, m8, ?_⟩
    rw [if_neg (by decide)]
    exact bK254_185 (fin _ _ _ _ _ _ (by decide))
  obtain ⟨w', L', S', K'⟩ := key
  refine ⟨w', L', Sc_t sc5 S', lb254 ⟨by omega, fun _ => by omega, fun _ => by omega, ?_⟩⟩
  rw [hvi]
  refine bK254_22 ⟨L.1, ⟨by decide, by decide⟩, L.1, ⟨by decide, by decide⟩, ?_⟩
  rw [e0]
  refine ⟨by omega, L.1, ⟨by decide, by decide⟩, by decide, _, _, d1, ?_⟩
  rw [if_pos rfl]
  have hwA' : wA = wS (wU w 682 ((0 : Int)).toNat ((p : Int) + 1)) s2 := hwA
  rw [← hwA']
  refine ⟨by decide, _, _, Dc_of (b187 rfl), L1.1, ⟨by decide, by decide⟩, ?_⟩
  have e1 : wA.2.1 682 ((0 : Int)).toNat = (p : Int) + 1 := by rw [hwA]; show upS w.2.1 682 0 ((p : Int) + 1) 682 0 = _; exact up_s
  show (if wA.2.2 0 3 = wA.2.1 682 ((0 : Int)).toNat then _ else _)
  rw [e1, if_pos cA]
  refine ⟨by decide, _, _, m0, ?_⟩
  rw [if_neg (by decide)]
  refine ⟨by decide, _, _, m1, ?_⟩
  rw [if_neg (by decide)]
  refine ⟨by decide, _, _, m3, ?_⟩
  rw [if_neg (by decide)]
  refine ⟨by decide, _, _, d4, ?_⟩
  rw [if_pos rfl, ← hw5]
  exact K' _ _ _ _
end
