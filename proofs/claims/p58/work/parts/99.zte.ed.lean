/-! The stack, of the law: edits, isStack. -/
noncomputable section
theorem LI_eq {n : Nat} {w : WS} {s : Sg} {c : Int} (L : LI n w) (hR : Rel c s) (h : ∀ a, a < 682 → s a = w.2.2 a) : LI n (wS w s) :=
  LI_on (w' := wS w s) L rfl hR (fun x k h1 _ _ _ _ _ _ _ => by show s x k = _; rw [h x h1]) (by show w.2.1 682 0 = s 0 3; rw [h 0 (by decide)]; exact L.2.2.1) (fun _ _ _ _ _ => rfl) (Or.inr ⟨rfl, fun t ht _ k => ⟨by show s _ k = _; rw [h _ (by omega)], by show s _ k = _; rw [h _ (by omega)]⟩⟩)
theorem isLn_ed : ∀ j, j < 9 → isLn (20001 + ((j : Nat) : Int)) = true := by decide +kernel
/-- the first hunk that adds -/
theorem ll271 {w : WS} {c x2 x3 : Int} {p : Nat} {l : List St} {d7 d8 : Option AV} {o : Ro} (H : Rel c w.2.2) (hp : (p : Int) < w.2.2 0 3) (hl : hkP w.2.2 (20 + 13 * p) = l) (h17 : l.length ≤ 17) : ∀ (d i r : Nat), i + d = l.length → (∀ (h rr : Nat), r ≤ rr + 4 * d + 4 → (h = l.length ∨ ∃ q, l[h]? = some q ∧ 0 < q.2.2.2) → K271_70 x2 x3 p 1 h d7 d8 w rr o) → 4 * d + 4 ≤ r → K271_41 x2 x3 p 1 i d7 d8 w r o := by
  have e190 := Dc_of (q190 H hp)
  rw [hl] at e190
  intro d
  induction d with
  | zero =>
    intro i r hi K hr
    refine bK271_41 ⟨by omega, _, _, e190, ?_⟩
    rw [if_neg (by omega), wSs, show i = l.length by omega]
    exact K _ _ (by omega) (Or.inl rfl)
  | succ d ih =>
    intro i r hi K hr
    have hq : l[i]? = some l[i] := List.getElem?_eq_getElem (by omega)
    obtain ⟨q, hqq⟩ : ∃ q, q = l[i]'(by omega) := ⟨_, rfl⟩
    rw [← hqq] at hq
    have e191 := Dc_of (q191 (w := 3) H hp (by rw [hl]; exact hq) (by decide))
    have ev : hkN q 3 = (q.2.2.2 : Int) := rfl
    rw [ev] at e191
    refine bK271_41 ⟨by omega, _, _, e190, ?_⟩
    rw [if_pos (by omega), wSs]
    refine ⟨by omega, _, _, e191, ?_⟩
    rw [wSs]
    by_cases hz : q.2.2.2 = 0
    · rw [if_pos (by omega)]
      exact ⟨by omega, ih (i + 1) _ (by omega) (fun h rr hrr hh => K h rr (by omega) hh) (by omega)⟩
    · rw [if_neg (by omega)]
      exact K _ _ (by omega) (Or.inr ⟨q, hq, by omega⟩)
theorem m271 {n k b : Nat} {w : WS} (L : LI n w) (hk : (k : Int) < w.2.1 682 3) (g8 : w.2.2 0 3 < 23) : ∃ w', LI n w' ∧ Sc w w' ∧ Lx 271 [vA 0, vA 682, vI k, vI b] w (rO 1 w') := by
  have hk' : (k : Int) < w.2.2 402 3 := by rw [← L.2.2.2.2.2.1]; exact hk
  obtain ⟨p, nb, na, s1, hp, p24, z1, z3, d1, R1, N1, F1⟩ := c203 L.2.1 hk' (by omega)
  have k0 : w.2.1 682 ((0 : Int)).toNat = (p : Int) := by
    have := L.2.2.1
    rw [hp] at this
    exact this
  obtain ⟨w1, hw1⟩ : ∃ w1, w1 = wS (wU w 682 0 ((p : Int) + 1)) s1 := ⟨_, rfl⟩
  have L1 : LI n w1 := by rw [hw1]; exact LI_new L R1 N1
  have e1 : w1.2.2 = s1 := by rw [hw1]; rfl
  have c01 : s1 0 3 = (p : Int) + 1 := N1.1
  obtain ⟨w2, W2, l253⟩ := m253 (p := p) (w := w1) L1.2.1 (by rw [e1]; omega)
  have L2 := LI_W L1 W2
  have A1 : PA s1 p nb na := PA_new R1 N1
  have Sr : SRw s1 w2.2.2 p := by
    have := SRw_wi W2 (a := p) p24
    rw [e1] at this
    exact this
  have A2 : PA w2.2.2 p nb na := SRw_PA Sr A1
  have c02 : w2.2.2 0 3 = (p : Int) + 1 := by rw [Wi_c W2, e1]; exact c01
  -- the layer is as it was
  have f1 : ∀ x i, 402 ≤ x → x ≤ 472 → w2.2.2 x i = w.2.2 x i := fun x i h1 h2 => by
    rw [W2.2.2.2 x i (by omega) (by unfold KP; omega) (by unfold knr; omega), e1]
    exact N1.2.1 x i (by omega) (by unfold KP; omega) (by omega) (by omega)
  obtain ⟨y1, y2, y3, y4, y5, y6, y7, y8, y9⟩ := ly_at L.2.1 hk'
  have enb : lnb w.2.2 k = nb := by unfold lnb; rw [z1]; exact tn _
  have ena : lna w.2.2 k = na := by unfold lna; rw [z3]; exact tn _
  rw [enb, ena] at y5
  have hl : hkP w2.2.2 (20 + 13 * p) = hks (w.2.2 (406 + 13 * k + 6)) nb na := by
    rw [PA_hk A2]
    exact hks_cg (fun i hi => by rw [Sr 6 (by decide)]; exact F1 i hi)
  have hl17 := hks_len y5.2.2.2.2.1
  have S2 : Sc w w2 := Sc_t (Sc_u (a := 682) (k := 0) (v := (p : Int) + 1) (by decide) (by rw [hw1]; rfl)) (Sc_e W2.2.2.1)
  have top : ∀ {o : Ro}, (∀ r, 198 ≤ r → K271_36 k b p none none none none 1 w2 r o) → Lx 271 [vA 0, vA 682, vI k, vI b] w o := fun {o} K => by
    refine lb271 ?_
    rw [k0]
    refine ⟨L.1, ⟨by decide, by decide⟩, L.1, ⟨by decide, by decide⟩, by omega, L.1, ⟨by decide, by decide⟩, by decide, _, s1, d1, ?_⟩
    rw [if_pos rfl]
    rw [hw1] at l253
    refine ⟨by decide, 1, w2, l253, ?_⟩
    rw [if_neg (show ¬ (1 : Int) = 0 by decide)]
    exact K _ (by decide)
  obtain ⟨l, hld⟩ : ∃ l, l = hks (w.2.2 (406 + 13 * k + 6)) nb na := ⟨_, rfl⟩
  rw [← hld] at hl hl17
  have e190 := Dc_of (q190 (p := p) L2.2.1 (by omega))
  rw [hl] at e190
  by_cases hex : ∃ (h : Nat) (q : St), l[h]? = some q ∧ 0 < q.2.2.2 ∧ ∀ h' : Nat, h' < h → ∀ q' : St, l[h']? = some q' → q'.2.2.2 = 0
  · obtain ⟨h, q, hq, hq0, hmin⟩ := hex
    have hlt := (List.getElem?_eq_some_iff.mp hq).1
    obtain ⟨place, hpl⟩ : ∃ place, place = q.2.2.1 := ⟨_, rfl⟩
    have bd := (DS_b _ _ _ _ (DS_0 y5.2.2.2.2.1)).2.2 q (by rw [← hld]; exact List.mem_of_getElem? hq)
    have hK : w.2.2 (406 + 13 * k + 8) place = -1 := hkK y5.2.2.2.2.1 y5.2.2.2.2.2.1 (by rw [← hld]; exact hq) place (by omega) (by omega)
    have e191 := Dc_of (q191 (w := 2) L2.2.1 (p := p) (by omega) (by rw [hl]; exact hq) (by decide))
    have ev : hkN q 2 = (place : Int) := by rw [hpl]; rfl
    rw [ev] at e191
    have e188 := q188i (σ := w2.2.2) (b := 1) (k := place) (p := p) L2.2.1 (by omega) (by
      show (place : Int) < w2.2.2 (20 + 13 * p + 3) 1
      rw [A2.2.2.2.1.2.1]; omega)
    obtain ⟨line, hline⟩ : ∃ line, line = w2.2.2 (406 + 13 * k + 4) place := ⟨_, rfl⟩
    have epx : px w2.2.2 p 1 place = line := by
      show w2.2.2 (20 + 13 * p + 4) place = line
      rw [hline, f1 (406 + 13 * k + 4) place (by omega) (by omega), Sr 4 (by decide)]
      exact N1.2.2.2.2.2 place (by omega)
    rw [epx] at e188
    obtain ⟨s3, s4, d3, d4, R4, E4⟩ := c206b (σ := w2.2.2) (k := k) (place := place) (l := 20001 + ((b % 9 : Nat) : Int)) L2.2.1 (by rw [f1 402 3 (by decide) (by decide)]; exact hk') (by rw [f1 _ _ (by omega) (by omega), z3]; omega) (by rw [f1 _ _ (by omega) (by omega)]; exact hK) (isLn_ed _ (Nat.mod_lt _ (by decide)))
    rw [← hline] at d3 d4
    have L4 : LI n (wS w2 s4) := LI_eq L2 R4 E4
    have c04 : s4 0 3 = ((p + 1 : Nat) : Int) := by rw [E4 0 (by decide), c02]; omega
    obtain ⟨p', nb5, na5, s5, hp5, p24', u1, u3, d5, R5, N5, F5⟩ := c203 (σ := s4) (t := k) R4 (by rw [E4 402 (by decide), f1 402 3 (by decide) (by decide)]; exact hk') (by omega)
    have ep : p' = p + 1 := by omega
    subst ep
    have enb5 : nb5 = nb := by
      rw [E4 _ (by omega), f1 _ _ (by omega) (by omega), z1] at u1
      omega
    have ena5 : na5 = na := by
      rw [E4 _ (by omega), f1 _ _ (by omega) (by omega), z3] at u3
      omega
    subst enb5
    subst ena5
    have L5 : LI n (wS (wU (wS w2 s4) 682 0 (((p + 1 : Nat) : Int) + 1)) s5) := LI_new L4 R5 N5
    have Sr5 : SRw s4 s5 p := SRw_new N5 (by omega) p24'
    have Sr4 : SRw w2.2.2 s4 p := fun j hj => E4 _ (by omega)
    have A5 : PA s5 p nb5 na5 := SRw_PA Sr5 (SRw_PA Sr4 A2)
    have B5 : PA s5 (p + 1) nb5 na5 := PA_new R5 N5
    have SrA := SRw_t Sr (SRw_t Sr4 Sr5)
    have peq : PEQ s5 (20 + 13 * p) (20 + 13 * (p + 1)) := by
      refine PEQ_of A5 B5 (fun i hi => ?_) (fun i hi => ?_) (fun i hi => ?_)
      · rw [SrA 2 (by decide), N1.2.2.2.2.1 i hi, N5.2.2.2.2.1 i hi, E4 _ (by omega)]
        exact (f1 _ _ (by omega) (by omega)).symm
      · rw [SrA 4 (by decide), N1.2.2.2.2.2 i hi, N5.2.2.2.2.2 i hi, E4 _ (by omega)]
        exact (f1 _ _ (by omega) (by omega)).symm
      · rw [SrA 6 (by decide), F1 i hi, F5 i hi, E4 _ (by omega)]
        exact (f1 _ _ (by omega) (by omega)).symm
    have c05 : s5 0 3 = ((p + 1 : Nat) : Int) + 1 := N5.1
    have e193 := Dc_of ((q193 (p := p) (q := p + 1) R5 (by omega) (by omega)).1 peq)
    have k04 : (wS w2 s4).2.1 682 ((0 : Int)).toNat = (p : Int) + 1 := by
      have : (wS w2 s4).2.1 682 0 = s4 0 3 := L4.2.2.1
      rw [c04] at this
      exact this
    have S5 : Sc w (wS (wU (wS w2 s4) 682 0 (((p + 1 : Nat) : Int) + 1)) s5) := Sc_t S2 (Sc_t (Sc_e rfl) (Sc_u (w := wS w2 s4) (by decide) rfl))
    have K156 : ∀ (d3 d5 d6 d7 d8 : Option AV) (r : Nat), 4 ≤ r → K271_156 k d3 p d5 d6 d7 d8 1 (wS w2 s4) r (rO 1 (wS (wU (wS w2 s4) 682 0 (((p + 1 : Nat) : Int) + 1)) s5)) := fun d3 d5' d6 d7 d8 r hr => by
      refine bK271_156 ?_
      rw [k04]
      refine ⟨L4.1, ⟨by decide, by decide⟩, by omega, L4.1, ⟨by decide, by decide⟩, ?_⟩
      rw [if_neg (show ¬ (1 : Int) = 0 by decide)]
      refine ⟨by omega, _, s5, d5, by omega, ?_⟩
      rw [if_pos (show ((p + 1 : Nat) : Int) = (p : Int) + 1 from rfl)]
      refine ⟨by omega, by omega, 1, s5, e193, ?_⟩
      rw [if_neg (show ¬ (1 : Int) = 0 by decide)]
      exact bK271_200 ⟨Or.inr rfl, rfl⟩
    have em : (20001 : Int) + Int.tmod (b : Int) 9 = 20001 + ((b % 9 : Nat) : Int) := rfl
    have b9 : b % 9 < 9 := Nat.mod_lt _ (by decide)
    -- the loop ends at the first hunk that adds
    have K70 : ∀ (d7 d8 : Option AV) (r : Nat), 20 ≤ r → K271_70 k b p 1 h d7 d8 w2 r (rO 1 (wS (wU (wS w2 s4) 682 0 (((p + 1 : Nat) : Int) + 1)) s5)) := fun d7 d8 r hr => by
      refine bK271_70 ?_
      rw [if_neg (show ¬ (1 : Int) = 0 by decide)]
      refine ⟨by omega, _, _, e190, ?_⟩
      rw [if_neg (by omega), wSs]
      refine ⟨by omega, _, _, e191, by omega, _, _, e188, by omega, by omega, line, s3, ?_, ?_⟩
      · rw [em]
        exact d3
      rw [if_pos rfl]
      refine ⟨by omega, _, s4, d4, by omega, ?_⟩
      rw [em, if_pos rfl]
      exact K156 _ _ _ _ _ _ (by omega)
    have loop : ∀ (d i r : Nat), i + d = h → 4 * d + 30 ≤ r → ∀ (d7 d8 : Option AV), K271_41 k b p 1 i d7 d8 w2 r (rO 1 (wS (wU (wS w2 s4) 682 0 (((p + 1 : Nat) : Int) + 1)) s5)) := by
      intro d
      induction d with
      | zero =>
        intro i r hi hr d7 d8
        have ei : i = h := by omega
        subst ei
        have e3 := Dc_of (q191 (w := 3) L2.2.1 (p := p) (by omega) (by rw [hl]; exact hq) (by decide))
        have ev : hkN q 3 = (q.2.2.2 : Int) := rfl
        rw [ev] at e3
        refine bK271_41 ⟨by omega, _, _, e190, ?_⟩
        rw [if_pos (by omega), wSs]
        refine ⟨by omega, _, _, e3, ?_⟩
        rw [if_neg (by omega), wSs]
        exact K70 _ _ _ (by omega)
      | succ d ih =>
        intro i r hi hr d7 d8
        obtain ⟨q', hq'⟩ : ∃ q', l[i]? = some q' := ⟨l[i]'(by omega), List.getElem?_eq_getElem (by omega)⟩
        have e3 := Dc_of (q191 (w := 3) L2.2.1 (p := p) (by omega) (by rw [hl]; exact hq') (by decide))
        have ev : hkN q' 3 = (q'.2.2.2 : Int) := rfl
        rw [ev, hmin i (by omega) q' hq'] at e3
        refine bK271_41 ⟨by omega, _, _, e190, ?_⟩
        rw [if_pos (by omega), wSs]
        refine ⟨by omega, _, _, e3, ?_⟩
        rw [if_pos (by rfl), wSs]
        exact ⟨by omega, ih (i + 1) _ (by omega) (by omega) _ _⟩
    exact ⟨_, L5, S5, top (fun r hr => bK271_36 (loop h 0 _ (by omega) (by omega) _ _))⟩
  · -- no hunk adds
    have all0 : ∀ (i : Nat) (q : St), l[i]? = some q → q.2.2.2 = 0 := by
      intro i
      induction i using Nat.strongRecOn with
      | _ i ih =>
        intro q hq
        apply Classical.byContradiction
        intro hne
        exact hex ⟨i, q, hq, by omega, fun h' hh' q' hq' => ih h' hh' q' hq'⟩
    refine ⟨w2, L2, S2, top (fun r hr => bK271_36 (ll271 (w := w2) (c := 1000) L2.2.1 (by omega) hl (by omega) l.length 0 _ (by omega) (fun h rr hrr hh => ?_) (by omega)))⟩
    rcases hh with hh | ⟨q, q1, q2⟩
    · refine bK271_70 ?_
      rw [if_neg (show ¬ (1 : Int) = 0 by decide)]
      refine ⟨by omega, _, _, e190, ?_⟩
      rw [if_pos (by omega), wSs]
      exact bK271_86 ⟨Or.inr rfl, rfl⟩
    · have := all0 h q q1
      omega
/-- isStack -/
theorem ll272a {n h : Nat} {w0 : WS} {x2 : Int} {d7 : Option AV} (hn : n ≤ 1000) (h3 : w0.2.1 682 3 = (h : Nat)) (h5 : h ≤ 5) : ∀ (d k : Nat) (w : WS), k + d = h → LI n w → w.2.1 = w0.2.1 → ∃ w', LI n w' ∧ w'.2.1 = w0.2.1 ∧ ∀ (o : Ro) (r : Nat) (d6 : Option AV), (∀ (rr : Nat) (d5 d6 : Option AV), r ≤ rr + 2 * d → K272_84 x2 1 0 d5 d6 d7 w' rr o) → 2 * d ≤ r → K272_22 x2 1 0 k d6 d7 w r o := by
  intro d
  induction d with
  | zero =>
    intro k w hk L he
    refine ⟨w, L, he, fun o r d6 K _ => bK272_22 ⟨L.1, ⟨by decide, by decide⟩, ?_⟩⟩
    have e : w.2.1 682 ((3 : Int)).toNat = (h : Int) := by rw [he]; exact h3
    rw [e, if_neg (by omega)]
    exact K r _ _ (by omega)
  | succ d ih =>
    intro k w hk L he
    have e : w.2.1 682 ((3 : Int)).toNat = (h : Int) := by rw [he]; exact h3
    have e3 : w.2.2 402 3 = (h : Nat) := by rw [← L.2.2.2.2.2.1, he]; exact h3
    obtain ⟨v, s, v1, v2, -, d2, R, P⟩ := q211 (k := k) L.2.1 (by omega)
    have W : Wi 1000 w (wS w s) := Wi_s (Wi_r L.2.1) R P
    have L1 := LI_W L W
    have e3s : s 402 3 = (h : Nat) := by rw [P 402 3 (by decide) (by unfold KP; omega) (by unfold knr; omega)]; exact e3
    have d9 := Dc_of (q209 (k := k) R (by omega))
    obtain ⟨w', b1, b2, b3⟩ := ih (k + 1) (wS w s) (by omega) L1 he
    refine ⟨w', b1, b2, fun o r d6 K hr => bK272_22 ⟨L.1, ⟨by decide, by decide⟩, ?_⟩⟩
    rw [e, if_pos (by omega), if_neg (show ¬ (1 : Int) = 0 by decide)]
    refine ⟨by omega, v, s, d2, by omega, _, s, d9, by omega, L.1, by omega, ?_⟩
    have nm : (wS (wS w s) s).2.1 682 (6 + (k : Int)).toNat = s 472 k := by
      show w.2.1 682 _ = _
      rw [show (6 + (k : Int)).toNat = 6 + k by omega]
      exact L1.2.2.2.2.2.2.2.1 k (by show (k : Int) < s 402 3; omega)
    rw [nm, if_pos rfl, if_pos v1, if_pos v2, wSS]
    refine bK272_77 ⟨by omega, ?_⟩
    exact b3 o _ _ (fun rr d5 d6 hrr => K rr d5 d6 (by omega)) (by omega)
theorem ll272b {w : WS} {c x2 : Int} {m : Nat} {d5 d6 d7 : Option AV} {o : Ro} (H : Rel c w.2.2) (hm : w.2.2 (tpR w.2.2) 1 = (m : Nat)) (hm16 : m ≤ 16) : ∀ (d i r : Nat), i + d = m → (∀ rr, r ≤ rr + d → K272_84 x2 1 m d5 d6 d7 w rr o) → d ≤ r → K272_84 x2 1 i d5 d6 d7 w r o := by
  intro d
  induction d with
  | zero =>
    intro i r hi K _
    rw [show i = m by omega]
    exact K r (by omega)
  | succ d ih =>
    intro i r hi K hr
    have hv := q210i (i := i) H (by omega)
    have hnn := top_nn (i := i) H (by omega)
    refine bK272_84 ⟨by omega, _, _, hv, ?_⟩
    rw [if_neg (by omega), wSs]
    exact ⟨by omega, ih (i + 1) _ (by omega) (fun rr hrr => K rr (by omega)) (by omega)⟩
theorem ll272c {n h m : Nat} {w : WS} {x2 x5 : Int} {d3 : Option AV} {o : Ro} {r : Nat} (L : LI n w) (h3 : w.2.1 682 3 = (h : Nat)) (h5 : h ≤ 5) (K : K272_135 x2 d3 m x5 1 h w r o) : ∀ (d i : Nat) (x6 : Int), i + d = h → (x6 = 1 ∨ (x6 = 0 ∧ ∃ j, i ≤ j ∧ j < h ∧ w.2.1 682 (6 + j) = x5)) → K272_135 x2 d3 m x5 x6 i w r o := by
  have e : w.2.1 682 ((3 : Int)).toNat = (h : Int) := h3
  intro d
  induction d with
  | zero =>
    intro i x6 hi hx
    rcases hx with hx | ⟨hx, j, j1, j2, j3⟩
    · rw [hx, show i = h by omega]
      exact K
    · omega
  | succ d ih =>
    intro i x6 hi hx
    refine bK272_135 ⟨L.1, ⟨by decide, by decide⟩, ?_⟩
    rw [e, if_pos (by omega)]
    rcases hx with hx | ⟨hx, j, j1, j2, j3⟩
    · rw [if_neg (by omega)]
      exact bK272_160 (bK272_165 ⟨by omega, ih (i + 1) 1 (by omega) (Or.inl rfl)⟩)
    · rw [if_pos hx]
      refine ⟨by omega, L.1, by omega, ?_⟩
      rw [show (6 + (i : Int)).toNat = 6 + i by omega]
      by_cases hv : w.2.1 682 (6 + i) = x5
      · rw [if_pos hv]
        exact bK272_160 (bK272_165 ⟨by omega, ih (i + 1) 1 (by omega) (Or.inl rfl)⟩)
      · rw [if_neg hv]
        refine bK272_165 ⟨by omega, ih (i + 1) 0 (by omega) (Or.inr ⟨rfl, j, ?_, j2, j3⟩)⟩
        have : ¬ j = i := fun e => hv (e ▸ j3)
        omega
theorem fin272 {w : WS} {v : Int} {r : Nat} {d0 d1 d2 d4 d5 d6 d7 : Option AV} (h1 : 1 ≤ v) (h2 : v ≤ 24) : K272_229 d0 d1 d2 1 d4 d5 d6 d7 v w r (rO 1 w) := by
  refine bK272_229 ?_
  rw [if_neg (show ¬ (1 : Int) = 0 by decide), if_pos h1, if_pos h2]
  exact bK272_253 ⟨Or.inr rfl, rfl⟩
theorem ll272d {n h a : Nat} {w : WS} (L : LI n w) (h3 : w.2.1 682 3 = (h : Nat)) : ∃ w', LI n w' ∧ w'.2.1 = w.2.1 ∧ ∀ (r : Nat) (d4 d5 d6 d7 : Option AV), 1 ≤ r → K272_208 a 1 d4 d5 d6 d7 w r (rO 1 w') := by
  have e : w.2.1 682 ((3 : Int)).toNat = (h : Int) := h3
  have e3 : w.2.2 402 3 = (h : Nat) := by rw [← L.2.2.2.2.2.1]; exact h3
  have ea : Int.tmod (a : Int) 3 = ((a % 3 : Nat) : Int) := rfl
  by_cases g : h ≤ 4
  · by_cases g2 : 0 < a % 3
    · refine ⟨w, L, rfl, fun r d4 d5 d6 d7 hr => bK272_208 ⟨L.1, ⟨by decide, by decide⟩, ?_⟩⟩
      rw [e, if_pos (by omega), ea, if_pos (by omega)]
      exact bK272_221 (fin272 (by decide) (by decide))
    · obtain ⟨v, s, v1, v2, d, R, P⟩ := q212 L.2.1 (by omega)
      refine ⟨wS w s, LI_W L (Wi_s (Wi_r L.2.1) R P), rfl, fun r d4 d5 d6 d7 hr => bK272_208 ⟨L.1, ⟨by decide, by decide⟩, ?_⟩⟩
      rw [e, if_pos (by omega), ea, if_neg (by omega)]
      exact ⟨by omega, v, s, d, fin272 v1 v2⟩
  · refine ⟨w, L, rfl, fun r d4 d5 d6 d7 hr => bK272_208 ⟨L.1, ⟨by decide, by decide⟩, ?_⟩⟩
    rw [e, if_neg (by omega)]
    exact bK272_221 (fin272 (by decide) (by decide))
theorem m272 {n a : Nat} {w : WS} (L : LI n w) (hn : n ≤ 1000) : ∃ w', LI n w' ∧ Sc w w' ∧ Lx 272 [vA 0, vA 682, vI a] w (rO 1 w') := by
  have hb := LI_b L
  obtain ⟨h, hh⟩ := Int.eq_ofNat_of_zero_le hb.1
  have h3 : w.2.1 682 3 = (h : Nat) := by rw [L.2.2.2.2.2.1]; exact hh
  have h5 : h ≤ 5 := by omega
  obtain ⟨w1, L1, e1, K1⟩ := ll272a (x2 := (a : Int)) (d7 := none) hn h3 h5 h 0 w (by omega) L rfl
  have top : ∀ {o : Ro}, (∀ (rr : Nat) (d5 d6 : Option AV), 90 ≤ rr → K272_84 a 1 0 d5 d6 none w1 rr o) → Lx 272 [vA 0, vA 682, vI a] w o := fun {o} K => by
    refine lb272 ⟨by decide, _, _, Dc_of (b208 rfl), L.1, ⟨by decide, by decide⟩, ?_⟩
    rw [wSs]
    have e : w.2.1 682 ((3 : Int)).toNat = w.2.2 402 3 := L.2.2.2.2.2.1
    rw [e, if_pos rfl]
    exact bK272_15 (K1 o 100 none (fun rr d5 d6 hrr => K rr d5 d6 (by omega)) (by omega))
  have h31 : w1.2.1 682 3 = (h : Nat) := by rw [e1]; exact h3
  obtain ⟨m, hm⟩ := Int.eq_ofNat_of_zero_le (rel_top16 L1.2.1).1
  have hm : w1.2.2 (tpR w1.2.2) 1 = (m : Nat) := hm
  have hm16 : m ≤ 16 := by
    have : w1.2.2 (tpR w1.2.2) 1 ≤ 16 := (rel_top16 L1.2.1).2
    omega
  have o210 : Dc 210 [vA 0, vI m] w1.2.2 (.inl (some (.inl (-1)))) w1.2.2 := q210o L1.2.1 (by omega)
  by_cases m0 : m = 0
  · obtain ⟨w2, L2, e2, K2⟩ := ll272d (a := a) L1 h31
    refine ⟨w2, L2, Sc_e (e2.trans e1), top (fun rr d5 d6 hrr => ll272b (c := 1000) L1.2.1 hm hm16 m 0 rr (by omega) (fun r hr => ?_) (by omega))⟩
    refine bK272_84 ⟨by omega, _, _, o210, ?_⟩
    rw [if_pos rfl, if_neg (by omega), wSs]
    exact K2 _ _ _ _ _ (by omega)
  have am : a % m < m := Nat.mod_lt _ (by omega)
  obtain ⟨v, s, v1, d2, W, fr⟩ := q213 (p := a % m) L1.2.1 (by rw [hm]; omega)
  have L2 : LI n (wS w1 s) := LI_FK L1 hn W fr
  have eT : tpR s = tpR w1.2.2 := by unfold tpR; rw [fr 402 3 (by omega)]
  have tin := tp_in (σ := w1.2.2) ⟨(LI_b L1).1, (LI_b L1).2.1⟩
  have hm2 : s (tpR s) 1 = (m : Nat) := by
    rw [eT, ← hm]
    refine fr _ 1 ?_
    unfold tpR blw
    split <;> omega
  obtain ⟨v', s', u1, u2, d3, W', fr'⟩ := q214 (p := a % m) L2.2.1 (by show _ < s (tpR s) 1; rw [hm2]; omega)
  have L3 : LI n (wS w1 s') := by
    have := LI_FK L2 hn W' fr'
    rw [wSS] at this
    exact this
  have eT' : tpR s' = tpR s := by unfold tpR; rw [fr' 402 3 (by omega)]; rfl
  have hm3 : s' (tpR s') 1 = (m : Nat) := by
    rw [eT', ← hm2]
    refine fr' _ 1 ?_
    unfold tpR blw
    split <;> omega
  obtain ⟨v'', s'', u1', u2', d4, W'', fr''⟩ := q214 (p := a % m) L3.2.1 (by show _ < s' (tpR s') 1; rw [hm3]; omega)
  have L4 : LI n (wS w1 s'') := by
    have := LI_FK L3 hn W'' fr''
    rw [wSS] at this
    exact this
  obtain ⟨w5, L5, e5, K5⟩ := ll272d (a := a) L4 h31
  have em : Int.tmod (a : Int) (m : Int) = ((a % m : Nat) : Int) := rfl
  refine ⟨w5, L5, Sc_e (e5.trans e1), top (fun rr d5 d6 hrr => ll272b (c := 1000) L1.2.1 hm hm16 m 0 rr (by omega) (fun r hr => ?_) (by omega))⟩
  refine bK272_84 ⟨by omega, _, _, o210, ?_⟩
  rw [if_pos rfl, if_pos (by omega), if_neg (show ¬ (1 : Int) = 0 by decide), wSs, em]
  refine ⟨by omega, by omega, v, s, d2, bK272_130 (ll272c (h := h) L2 h31 h5 ?_ h 0 _ (by omega) ?_)⟩
  · refine bK272_135 ⟨L2.1, ⟨by decide, by decide⟩, ?_⟩
    have e : (wS w1 s).2.1 682 ((3 : Int)).toNat = (h : Int) := h31
    rw [e, if_neg (by omega), if_neg (show ¬ (1 : Int) = 0 by decide), em]
    refine ⟨by omega, by omega, v', s', d3, ?_⟩
    rw [if_pos u1]
    refine ⟨by omega, by omega, v'', s'', d4, ?_⟩
    rw [if_pos u2', wSS, wSS]
    exact bK272_207 (K5 _ _ _ _ _ (by omega))
  · rcases v1 with v1 | ⟨j, j1, j2⟩
    · rw [if_pos v1]; exact Or.inl rfl
    · by_cases hv : v = -1
      · rw [if_pos hv]; exact Or.inl rfl
      · rw [if_neg hv]
        have e3 : w1.2.2 402 3 = (h : Nat) := by rw [← L1.2.2.2.2.2.1]; exact h31
        exact Or.inr ⟨rfl, j, Nat.zero_le _, by omega, by rw [j2]; exact L1.2.2.2.2.2.2.2.1 j j1⟩
end
