/-! The law: two patches past each other, and back. -/
noncomputable section
theorem m263_3 {n : Nat} {w : WS} {p q a b : Nat} (L : LI n w) (hp : (p : Int) < w.2.2 0 3) (hq : (q : Int) < w.2.2 0 3) (g : w.2.2 0 3 ≤ 20) (ha : a % 4 = 3) (hs : pS w.2.2 p 1 q 0) (NT : ¬ TCH (hkP w.2.2 (20 + 13 * p)) (hkP w.2.2 (20 + 13 * q))) : ∃ w', LI n w' ∧ Sc w w' ∧ Lx 263 [vA 0, vA 682, vI p, vI q, vI a, vI b] w (rO 1 w') := by
  have e0 : w.2.1 682 ((0 : Int)).toNat = w.2.2 0 3 := L.2.2.1
  have ea : Int.tmod (a : Int) 4 = 3 := by
    have : Int.tmod (a : Int) 4 = ((a % 4 : Nat) : Int) := rfl
    rw [this, ha]; rfl
  obtain ⟨nb, na, nc, b', M, f, a', g', A, B, r, l1, l2, l3, l4, l5, X⟩ := c185 L.2.1 hp hq (by omega) hs NT
  rcases X with ⟨-, dx⟩ | ⟨M16, k, hk, k24, ⟨s2, d1, R1, N1, F1⟩, -⟩
  · exact m263_x L hp hq (by omega) (dx 1)
  have pk : p < k := by omega
  have qk : q < k := by omega
  have hA1 := A.2.1
  have hA2 := A.2.2.1
  have hB2 := B.2.2.1
  -- the second one
  have P1 := SRw_new N1 pk k24
  have Q1 := SRw_new N1 qk k24
  have hs1 : pS s2 p 1 q 0 := SRw_pS P1 Q1 hs
  have NT1 : ¬ TCH (hkP s2 (20 + 13 * p)) (hkP s2 (20 + 13 * q)) := by rw [SRw_hk P1, SRw_hk Q1]; exact NT
  have c1 := N1.1
  obtain ⟨v1, v1a, v1b, dd1⟩ := q184 (a := p) (b := q) R1 (by omega) (by omega) hs1
  have v1z : v1 = 0 := by
    rcases v1a with h | h
    · exact h
    · exact absurd (v1b.mp h) NT1
  subst v1z
  obtain ⟨nb2, na2, nc2, b2, M2, f2, a2, g2, A2, B2, r2, -, -, -, -, -, X2⟩ := c185 (a := p) (b := q) R1 (by omega) (by omega) (by omega) hs1 NT1
  obtain ⟨y1, y2⟩ := PA_u (SRw_PA P1 A) A2
  obtain ⟨y3, y4⟩ := PA_u (SRw_PA Q1 B) B2
  subst y1
  subst y2
  subst y4
  rw [SRw_mv P1 Q1, r] at r2
  cases r2
  rcases X2 with ⟨hx, -⟩ | ⟨-, k', hk', k24', -, ⟨s3, d2, R2, N2, F2⟩⟩
  · omega
  have hkk : k' = k + 1 := by omega
  subst hkk
  have L3 := LI_new2 L R2 N1 N2
  obtain ⟨wB, hwB⟩ : ∃ wB, wB = wS (wU w 682 0 ((k : Int) + 2)) s3 := ⟨_, rfl⟩
  have cB : wB.2.2 0 3 = (k : Int) + 2 := by rw [hwB]; show s3 0 3 = _; rw [N2.1]; omega
  have sB : wB.2.2 = s3 := by rw [hwB]; rfl
  have tB : wB.2.1 682 0 = (k : Int) + 2 := by rw [hwB]; show upS w.2.1 682 0 ((k : Int) + 2) 682 0 = _; exact up_s
  have scB : Sc w wB := by rw [hwB]; exact Sc_u (by decide) rfl
  rw [← hwB] at L3
  have P2 := SRw_t P1 (SRw_new N2 (by omega) k24')
  have Q2 := SRw_t Q1 (SRw_new N2 (by omega) k24')
  have K2 := SRw_new N2 (show k < k + 1 by omega) k24'
  have AK : PA s3 k nb2 M.length := SRw_PA K2 (PA_new R1 N1)
  have AK1 : PA s3 (k + 1) M.length nc2 := PA_new R2 N2
  obtain ⟨u1, u2, u3, u4⟩ := PA_0 (SRw_PA P2 A)
  obtain ⟨t1, t2, t3, t4⟩ := PA_0 (SRw_PA Q2 B)
  have z0 := New_0 N1
  have z1 := New_1 N1
  have z2 := New_0 N2
  have z3 := New_1 N2
  have S1 : pS s3 k 0 p 0 := pS_of (n := nb2) (O := w.2.2 (20 + 13 * p + 2)) (by rw [(SRw_pl K2 0).1]; exact z0.1) (fun i hi => by rw [(SRw_pl K2 0).2]; exact z0.2 i hi) u1 (fun i hi => by rw [u2, P2 2 (by decide)])
  have S2 : pS s3 k 1 (k + 1) 0 := pS_of (n := M.length) (O := gv M) (by rw [(SRw_pl K2 1).1]; exact z1.1) (fun i hi => by rw [(SRw_pl K2 1).2]; exact z1.2 i hi) z2.1 z2.2
  have S3 : pS s3 (k + 1) 1 q 1 := pS_of (n := nc2) (O := w.2.2 (20 + 13 * q + 4)) z3.1 (fun i hi => by rw [z3.2 i hi, Q1 4 (by decide)]) t3 (fun i hi => by rw [t4, Q2 4 (by decide)])
  have f0 := (m252 (p := p) (q := q) (b := 1) (e := 0) L.2.1 hp hq).1 hs
  have f1 := (m252 (p := k) (q := p) (b := 0) (e := 0) L3.2.1 (by omega) (by omega)).1 (by rw [sB]; exact S1)
  have f2' := (m252 (p := k) (q := k + 1) (b := 1) (e := 0) L3.2.1 (by omega) (by omega)).1 (by rw [sB]; exact S2)
  have f3 := (m252 (p := k + 1) (q := q) (b := 1) (e := 1) L3.2.1 (by omega) (by omega)).1 (by rw [sB]; exact S3)
  obtain ⟨w5, W5, f5⟩ := m253 (p := k) L3.2.1 (by omega)
  have c5 := Wi_c W5
  obtain ⟨w6, W6', f6⟩ := m253 (p := k + 1) W5.1 (by omega)
  have W6 := Wi_t W5 W6'
  have c6 := Wi_c W6
  have L6 := LI_W L3 W6
  -- what the exchanged ones are
  have EX : EQL (w.2.2 (20 + 13 * p + 2)) (w.2.2 (20 + 13 * p + 4)) (w.2.2 (20 + 13 * p + 6)) nb2 := A.2.2.2.2.1
  have fl := (pS_flw A.2.2.2.1 B.2.2.2.1).mp hs
  have EY : EQL (w.2.2 (20 + 13 * p + 4)) (w.2.2 (20 + 13 * q + 4)) (w.2.2 (20 + 13 * q + 6)) na2 := fun i hi e => by
    rw [fl.2 i hi]
    exact B.2.2.2.2.1 i hi e
  obtain ⟨-, -, -, -, VA, IA, -⟩ := A.2.2.2.1
  obtain ⟨-, -, -, -, VB, IB, -⟩ := B.2.2.2.1
  have NT0 : ¬ TCH (hks (w.2.2 (20 + 13 * p + 6)) nb2 na2) (hks (w.2.2 (20 + 13 * q + 6)) na2 nc2) := by rw [← PA_hk A, ← PA_hk B]; exact NT
  have ek : ∀ i, i < nb2 → s3 (20 + 13 * k + 6) i = gv f i := fun i hi => by rw [K2 6 (by decide)]; exact F1 i hi
  have ek1 : ∀ i, i < M.length → s3 (20 + 13 * (k + 1) + 6) i = gv g' i := F2
  have IK : IV (gv f) (s3 (20 + 13 * k + 8)) nb2 M.length := IV_cgF ek AK.2.2.2.1.2.2.2.2.2.1
  have IL : IV (gv g') (s3 (20 + 13 * (k + 1) + 8)) M.length nc2 := IV_cgF ek1 AK1.2.2.2.1.2.2.2.2.2.1
  obtain ⟨o1, o2, o3⟩ := mv_more VA IA VB IB EX EY NT0 r IK IL
  have hkK : hkP s3 (20 + 13 * k) = hks (gv f) nb2 M.length := by
    rw [PA_hk AK]
    exact hkF_congr ek _ _ _
  have hkK1 : hkP s3 (20 + 13 * (k + 1)) = hks (gv g') M.length nc2 := by
    rw [PA_hk AK1]
    exact hkF_congr ek1 _ _ _
  have D6k := SRw_wi W6 (a := k) (by omega)
  have D6k1 := SRw_wi W6 (a := k + 1) (by omega)
  have D6p := SRw_wi W6 (a := p) (by omega)
  have D6q := SRw_wi W6 (a := q) (by omega)
  rw [sB] at D6k D6k1 D6p D6q
  have NT6 : ¬ TCH (hkP w6.2.2 (20 + 13 * k)) (hkP w6.2.2 (20 + 13 * (k + 1))) := by rw [SRw_hk D6k, SRw_hk D6k1, hkK, hkK1]; exact o1
  have hs6 : pS w6.2.2 k 1 (k + 1) 0 := SRw_pS D6k D6k1 S2
  obtain ⟨v6, v6a, v6b, dd6⟩ := q184 (a := k) (b := k + 1) W6.1 (by omega) (by omega) hs6
  have v6z : v6 = 0 := by
    rcases v6a with h | h
    · exact h
    · exact absurd (v6b.mp h) NT6
  subst v6z
  have dk := Dc_of (q190 (σ := w6.2.2) (p := k) W6.1 (by omega))
  have dk1 := Dc_of (q190 (σ := w6.2.2) (p := k + 1) W6.1 (by omega))
  have dp := Dc_of (q190 (σ := w6.2.2) (p := p) W6.1 (by omega))
  have dq := Dc_of (q190 (σ := w6.2.2) (p := q) W6.1 (by omega))
  have eH1 : (hkP w6.2.2 (20 + 13 * k)).length = (hkP w6.2.2 (20 + 13 * q)).length := by rw [SRw_hk D6k, SRw_hk D6q, SRw_hk Q2, hkK, o2, PA_hk B]
  have eH2 : (hkP w6.2.2 (20 + 13 * (k + 1))).length = (hkP w6.2.2 (20 + 13 * p)).length := by rw [SRw_hk D6k1, SRw_hk D6p, SRw_hk P2, hkK1, o3, PA_hk A]
  rw [eH1] at dk
  rw [eH2] at dk1
  -- and back
  obtain ⟨nb7, nm7, nc7, b7, M7, f7, a7, g7, A7, B7, r7, m1, m2, m3, m4, m5, X7⟩ := c185 (a := k) (b := k + 1) W6.1 (by omega) (by omega) (by omega) hs6 NT6
  obtain ⟨y1, y2⟩ := PA_u (SRw_PA D6k AK) A7
  obtain ⟨y3, y4⟩ := PA_u (SRw_PA D6k1 AK1) B7
  subst y1
  subst y2
  subst y4
  obtain ⟨b8, M8, f8, a8, g8, r8, n1, n2, n3, n4, n5, x1, x2, x3, x4, x5⟩ := mv_back (w := nb7 + M.length + nc7) VA IA VB IB EX EY NT0 r IK IL (by omega)
  have r9 : mvP s3 k (k + 1) nb7 M.length nc7 = (b8, M8, f8, a8, g8) := by
    rw [← r8]
    unfold mvP
    refine mvW_cg ek (fun _ _ => rfl) ek1 (fun _ _ => rfl) (fun i hi => ?_) (fun i hi => ?_) (fun i hi => ?_) _ _ _ _ _ _ _ _ _
    · rw [K2 2 (by decide)]; exact N1.2.2.2.2.1 i hi
    · rw [K2 4 (by decide)]; exact N1.2.2.2.2.2 i hi
    · rw [N2.2.2.2.2.2 i hi, Q1 4 (by decide)]
  rw [SRw_mv D6k D6k1, r9] at r7
  cases r7
  have D7p := SRw_t P2 D6p
  have D7q := SRw_t Q2 D6q
  have hM7 : M7.length ≤ 16 := by omega
  rcases X7 with ⟨hx, -⟩ | ⟨-, k9, hk9, k924, ⟨s8, d8, R8, N8, F8⟩, ⟨s9, d9, R9, N9, F9⟩⟩
  · omega
  have hk2 : k9 = k + 2 := by omega
  subst hk2
  have c8 := N8.1
  have c9 := N9.1
  have eM : M7.length = na2 := n2
  -- the first one
  have E8 : PEQ s8 (20 + 13 * (k + 2)) (20 + 13 * p) := by
    have p8 := SRw_new N8 (show p < k + 2 by omega) k924
    have A8 := PA_new R8 N8
    rw [eM] at A8
    refine PEQ_of A8 (SRw_PA p8 (SRw_PA D7p A)) (fun i hi => ?_) (fun i hi => ?_) (fun i hi => ?_)
    · rw [p8 2 (by decide), D7p 2 (by decide), N8.2.2.2.2.1 i hi, D6k 2 (by decide), K2 2 (by decide)]
      exact N1.2.2.2.2.1 i hi
    · rw [p8 4 (by decide), D7p 4 (by decide), N8.2.2.2.2.2 i (by omega)]
      exact atL_at x2 (by omega)
    · rw [p8 6 (by decide), D7p 6 (by decide), F8 i hi]
      exact atL_at x3 (by omega)
  have E9 : PEQ s9 (20 + 13 * (k + 2)) (20 + 13 * q) := by
    have q9 := SRw_new N9 (show q < k + 2 by omega) k924
    have A9 := PA_new R9 N9
    rw [eM] at A9
    refine PEQ_of A9 (SRw_PA q9 (SRw_PA D7q B)) (fun i hi => ?_) (fun i hi => ?_) (fun i hi => ?_)
    · rw [q9 2 (by decide), D7q 2 (by decide), N9.2.2.2.2.1 i (by omega), ← fl.2 i hi]
      exact atL_at x2 (by omega)
    · rw [q9 4 (by decide), D7q 4 (by decide), N9.2.2.2.2.2 i hi, D6k1 4 (by decide), N2.2.2.2.2.2 i hi, Q1 4 (by decide)]
    · rw [q9 6 (by decide), D7q 6 (by decide), F9 i (by omega)]
      exact atL_at x5 (by omega)
  have e6 : w6.2.1 682 ((0 : Int)).toNat = (k : Int) + 2 := by
    rw [W6.2.2.1]
    exact tB
  have fin : ∃ w', LI n w' ∧ Sc w6 w' ∧ ∀ (d1 d4 d7 d8 : Option AV) (rr : Nat), 7 ≤ rr → K263_461 d1 p q d4 b k d7 d8 k ((k : Int) + 1) (if Int.tmod (b : Int) 2 = 0 then 1 else 0) (wU w6 682 ((0 : Int)).toNat ((k : Int) + 2 + 1)) rr (rO 1 w') := by
    by_cases hb : Int.tmod (b : Int) 2 = 0
    · refine ⟨wS (wU w6 682 0 (((k + 2 : Nat) : Int) + 1)) s8, LI_new L6 R8 N8, Sc_u (by decide) rfl, fun _ _ _ _ rr hrr => bK263_461 ⟨by omega, ?_⟩⟩
      rw [if_pos hb]
      refine ⟨_, _, d8, by omega, ?_⟩
      rw [if_pos (show ((k + 2 : Nat) : Int) = (k : Int) + 2 from rfl), if_pos hb]
      refine ⟨by omega, bK263_488 ⟨by omega, _, _, Dc_of ((q193 (p := k + 2) (q := p) R8 (by omega) (by omega)).1 E8), ?_⟩⟩
      rw [if_neg (by decide)]
      exact bK263_499 ⟨Or.inr rfl, rfl⟩
    · refine ⟨wS (wU w6 682 0 (((k + 2 : Nat) : Int) + 1)) s9, LI_new L6 R9 N9, Sc_u (by decide) rfl, fun _ _ _ _ rr hrr => bK263_461 ⟨by omega, ?_⟩⟩
      rw [if_neg hb]
      refine ⟨_, _, d9, by omega, ?_⟩
      rw [if_pos (show ((k + 2 : Nat) : Int) = (k : Int) + 2 from rfl), if_neg hb]
      refine ⟨by omega, bK263_488 ⟨by omega, _, _, Dc_of ((q193 (p := k + 2) (q := q) R9 (by omega) (by omega)).1 E9), ?_⟩⟩
      rw [if_neg (by decide)]
      exact bK263_499 ⟨Or.inr rfl, rfl⟩
  obtain ⟨w', L', S', K'⟩ := fin
  refine ⟨w', L', Sc_t (Sc_t scB (Sc_e W6.2.2.1)) S', lb263 ⟨L.1, ⟨by decide, by decide⟩, ?_⟩⟩
  rw [if_neg (by omega), if_neg (by omega)]
  refine ⟨by decide, _, _, f0, ?_⟩
  rw [if_neg (by decide), if_neg (by omega)]
  refine ⟨by decide, _, _, lb257 ⟨by decide, Or.inl ⟨_, _, d1, rfl⟩⟩, ?_⟩
  rw [if_neg (show ¬ (k : Int) = -2 by omega)]
  have e0' : (wS w s2).2.1 682 ((0 : Int)).toNat = (k : Int) := e0.trans hk
  refine ⟨L.1, ⟨by decide, by decide⟩, ?_⟩
  rw [e0', e0, hk]
  refine ⟨by omega, L.1, ⟨by decide, by decide⟩, by decide, _, _, dd1, ?_⟩
  rw [if_pos rfl, if_pos rfl]
  refine ⟨by decide, _, _, d2, by omega, ?_⟩
  rw [if_pos (show ((k + 1 : Nat) : Int) = (k : Int) + 1 from rfl)]
  have hwB' : wB = wS (wS (wU (wS w s2) 682 ((0 : Int)).toNat ((k : Int) + 2)) s2) s3 := hwB
  rw [← hwB']
  refine ⟨by decide, _, _, f1, ?_⟩
  rw [if_neg (by decide)]
  refine ⟨by omega, by decide, _, _, f2', ?_⟩
  rw [if_neg (by decide)]
  refine ⟨by omega, by decide, _, _, f3, ?_⟩
  rw [if_neg (by decide)]
  refine bK263_342 ?_
  rw [if_neg (by decide)]
  refine ⟨by decide, _, _, f5, ?_⟩
  rw [if_neg (by decide)]
  refine ⟨by omega, by decide, _, _, f6, ?_⟩
  rw [if_neg (by decide)]
  refine ⟨by omega, by decide, _, _, dd6, ?_⟩
  rw [if_pos rfl]
  refine ⟨by decide, _, _, dk, by decide, _, _, dq, ?_⟩
  rw [if_pos rfl]
  refine ⟨by omega, by decide, _, _, dk1, by decide, _, _, dp, ?_⟩
  rw [if_pos rfl]
  simp only [wSs]
  refine bK263_417 ⟨L6.1, ⟨by decide, by decide⟩, ?_⟩
  rw [e6, if_pos (by omega), if_neg (by decide)]
  refine ⟨L6.1, ⟨by decide, by decide⟩, by omega, L6.1, ⟨by decide, by decide⟩, by omega, ?_⟩
  exact K' _ _ _ _ _ (by decide)
theorem m263 {n : Nat} {w : WS} {p q a b : Nat} (L : LI n w) (hp : (p : Int) < w.2.2 0 3) (hq : (q : Int) < w.2.2 0 3) (g : w.2.2 0 3 ≤ 20) : ∃ w', LI n w' ∧ Sc w w' ∧ Lx 263 [vA 0, vA 682, vI p, vI q, vI a, vI b] w (rO 1 w') := by
  by_cases h0 : a % 4 = 0
  · exact m263_0 L hp g h0
  by_cases h1 : a % 4 = 1
  · exact m263_1 L hp g h1
  by_cases hs : pS w.2.2 p 1 q 0
  · by_cases h2 : a % 4 = 2
    · exact m263_2 L hp hq g h2 hs
    · by_cases ht : TCH (hkP w.2.2 (20 + 13 * p)) (hkP w.2.2 (20 + 13 * q))
      · exact m263_x L hp hq (by omega) (c185x L.2.1 hp hq (Or.inr ⟨hs, ht⟩))
      · exact m263_3 L hp hq g (by omega) hs ht
  · exact m263_x L hp hq ⟨h0, h1, fun h => hs h.2⟩ (c185x L.2.1 hp hq (Or.inl hs))
end
