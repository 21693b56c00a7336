-- DRAFT x1.lean
/-! The law: two patches past each other, and back. -/
noncomputable section
theorem m263_3 {n : Nat} {w : WS} {p q a b : Nat} (L : LI n w) (hp : (p : Int) < w.2.2 0 3) (hq : (q : Int) < w.2.2 0 3) (g : w.2.2 0 3 ≤ 20) (ha : a % 4 = 3) (hs : pS w.2.2 p 1 q 0) (NT : ¬ TCH (hkP w.2.2 (20 + 13 * p)) (hkP w.2.2 (20 + 13 * q))) : ∃ w', LI n w' ∧ Sc w w' ∧ Lx 263 [vA 0, vA 682, vI p, vI q, vI a, vI b] w (rO 1 w') := by
  have e0 : w.2.1 682 ((0 : Int)).toNat = w.2.2 0 3 := L.2.2.1
  have ea : Int.tmod (a : Int) 4 = 3 := by
    have : Int.tmod (a : Int) 4 = ((a % 4 : Nat) : Int) := rfl
    rw [this, ha]; rfl
  obtain ⟨nb, na, nc, b', M, f, a', g', A, B, r, l1, l2, l3, l4, l5, X⟩ := c185 L.2.1 hp hq (by omega) hs NT
  rcases X with ⟨-, dx⟩ | ⟨M16, k, hk, k24, ⟨s2, d1, R1, N1, F1⟩, -⟩
  · exact m263_x L hp hq (by omega) (dx 1)
  have pk : p < k := by omega
  have qk : q < k := by omega
  have hA1 := A.2.1
  have hA2 := A.2.2.1
  have hB2 := B.2.2.1
  -- the second one
  have P1 := SRw_new N1 pk k24
  have Q1 := SRw_new N1 qk k24
  have hs1 : pS s2 p 1 q 0 := SRw_pS P1 Q1 hs
  have NT1 : ¬ TCH (hkP s2 (20 + 13 * p)) (hkP s2 (20 + 13 * q)) := by rw [SRw_hk P1, SRw_hk Q1]; exact NT
  have c1 := N1.1
  obtain ⟨v1, v1a, v1b, dd1⟩ := q184 (a := p) (b := q) R1 (by omega) (by omega) hs1
  have v1z : v1 = 0 := by
    rcases v1a with h | h
    · exact h
    · exact absurd (v1b.mp h) NT1
  subst v1z
  obtain ⟨nb2, na2, nc2, b2, M2, f2, a2, g2, A2, B2, r2, -, -, -, -, -, X2⟩ := c185 (a := p) (b := q) R1 (by omega) (by omega) (by omega) hs1 NT1
  obtain ⟨y1, y2⟩ := PA_u (SRw_PA P1 A) A2
  obtain ⟨y3, y4⟩ := PA_u (SRw_PA Q1 B) B2
  subst y1
  subst y2
  subst y4
  rw [SRw_mv P1 Q1, r] at r2
  cases r2
  rcases X2 with ⟨hx, -⟩ | ⟨-, k', hk', k24', -, ⟨s3, d2, R2, N2, F2⟩⟩
  · omega
  have hkk : k' = k + 1 := by omega
  subst hkk
  have L3 := LI_new2 L R2 N1 N2
  obtain ⟨wB, hwB⟩ : ∃ wB, wB = wS (wU w 682 0 ((k : Int) + 2)) s3 := ⟨_, rfl⟩
  have cB : wB.2.2 0 3 = (k : Int) + 2 := by rw [hwB]; show s3 0 3 = _; rw [N2.1]; omega
  have sB : wB.2.2 = s3 := by rw [hwB]; rfl
  have tB : wB.2.1 682 0 = (k : Int) + 2 := by rw [hwB]; show upS w.2.1 682 0 ((k : Int) + 2) 682 0 = _; exact up_s
  have scB : Sc w wB := by rw [hwB]; exact Sc_u (by decide) rfl
  rw [← hwB] at L3
  have P2 := SRw_t P1 (SRw_new N2 (by omega) k24')
  have Q2 := SRw_t Q1 (SRw_new N2 (by omega) k24')
  have K2 := SRw_new N2 (show k < k + 1 by omega) k24'
  have AK : PA s3 k nb2 M.length := SRw_PA K2 (PA_new R1 N1)
  have AK1 : PA s3 (k + 1) M.length nc2 := PA_new R2 N2
  obtain ⟨u1, u2, u3, u4⟩ := PA_0 (SRw_PA P2 A)
  obtain ⟨t1, t2, t3, t4⟩ := PA_0 (SRw_PA Q2 B)
  have z0 := New_0 N1
  have z1 := New_1 N1
  have z2 := New_0 N2
  have z3 := New_1 N2
  have S1 : pS s3 k 0 p 0 := pS_of (n := nb2) (O := w.2.2 (20 + 13 * p + 2)) (by rw [(SRw_pl K2 0).1]; exact z0.1) (fun i hi => by rw [(SRw_pl K2 0).2]; exact z0.2 i hi) u1 (fun i hi => by rw [u2, P2 2 (by decide)])
  have S2 : pS s3 k 1 (k + 1) 0 := pS_of (n := M.length) (O := gv M) (by rw [(SRw_pl K2 1).1]; exact z1.1) (fun i hi => by rw [(SRw_pl K2 1).2]; exact z1.2 i hi) z2.1 z2.2
  have S3 : pS s3 (k + 1) 1 q 1 := pS_of (n := nc2) (O := w.2.2 (20 + 13 * q + 4)) z3.1 (fun i hi => by rw [z3.2 i hi, Q1 4 (by decide)]) t3 (fun i hi => by rw [t4, Q2 4 (by decide)])
  have f0 := (m252 (p := p) (q := q) (b := 1) (e := 0) L.2.1 hp hq).1 hs
  have f1 := (m252 (p := k) (q := p) (b := 0) (e := 0) L3.2.1 (by omega) (by omega)).1 (by rw [sB]; exact S1)
  have f2' := (m252 (p := k) (q := k + 1) (b := 1) (e := 0) L3.2.1 (by omega) (by omega)).1 (by rw [sB]; exact S2)
  have f3 := (m252 (p := k + 1) (q := q) (b := 1) (e := 1) L3.2.1 (by omega) (by omega)).1 (by rw [sB]; exact S3)
  obtain ⟨w5, W5, f5⟩ := m253 (p := k) L3.2.1 (by omega)
  have c5 := Wi_c W5
  obtain ⟨w6, W6', f6⟩ := m253 (p := k + 1) W5.1 (by omega)
  have W6 := Wi_t W5 W6'
  have c6 := Wi_c W6
  have L6 := LI_W L3 W6
  -- what the exchanged ones are
  have EX : EQL (w.2.2 (20 + 13 * p + 2)) (w.2.2 (20 + 13 * p + 4)) (w.2.2 (20 + 13 * p + 6)) nb2 := A.2.2.2.2.1
  have fl := (pS_flw A.2.2.2.1 B.2.2.2.1).mp hs
  have EY : EQL (w.2.2 (20 + 13 * p + 4)) (w.2.2 (20 + 13 * q + 4)) (w.2.2 (20 + 13 * q + 6)) na2 := fun i hi e => by
    rw [fl.2 i hi]
    exact B.2.2.2.2.1 i hi e
  obtain ⟨-, -, -, -, VA, IA, -⟩ := A.2.2.2.1
  obtain ⟨-, -, -, -, VB, IB, -⟩ := B.2.2.2.1
  have NT0 : ¬ TCH (hks (w.2.2 (20 + 13 * p + 6)) nb2 na2) (hks (w.2.2 (20 + 13 * q + 6)) na2 nc2) := by rw [← PA_hk A, ← PA_hk B]; exact NT
  have ek : ∀ i, i < nb2 → s3 (20 + 13 * k + 6) i = gv f i := fun i hi => by rw [K2 6 (by decide)]; exact F1 i hi
  have ek1 : ∀ i, i < M.length → s3 (20 + 13 * (k + 1) + 6) i = gv g' i := F2
  have IK : IV (gv f) (s3 (20 + 13 * k + 8)) nb2 M.length := IV_cgF ek AK.2.2.2.1.2.2.2.2.2.1
  have IL : IV (gv g') (s3 (20 + 13 * (k + 1) + 8)) M.length nc2 := IV_cgF ek1 AK1.2.2.2.1.2.2.2.2.2.1
  obtain ⟨o1, o2, o3⟩ := mv_more VA IA VB IB EX EY NT0 r IK IL
  have hkK : hkP s3 (20 + 13 * k) = hks (gv f) nb2 M.length := by
    rw [PA_hk AK]
    exact hkF_congr ek _ _ _
  have hkK1 : hkP s3 (20 + 13 * (k + 1)) = hks (gv g') M.length nc2 := by
    rw [PA_hk AK1]
    exact hkF_congr ek1 _ _ _
  have D6k := SRw_wi W6 (a := k) (by omega)
  have D6k1 := SRw_wi W6 (a := k + 1) (by omega)
  have D6p := SRw_wi W6 (a := p) (by omega)
  have D6q := SRw_wi W6 (a := q) (by omega)
  rw [sB] at D6k D6k1 D6p D6q
  have NT6 : ¬ TCH (hkP w6.2.2 (20 + 13 * k)) (hkP w6.2.2 (20 + 13 * (k + 1))) := by rw [SRw_hk D6k, SRw_hk D6k1, hkK, hkK1]; exact o1
  have hs6 : pS w6.2.2 k 1 (k + 1) 0 := SRw_pS D6k D6k1 S2
  obtain ⟨v6, v6a, v6b, dd6⟩ := q184 (a := k) (b := k + 1) W6.1 (by omega) (by omega) hs6
  have v6z : v6 = 0 := by
    rcases v6a with h | h
    · exact h
    · exact absurd (v6b.mp h) NT6
  subst v6z
  have dk := Dc_of (q190 (σ := w6.2.2) (p := k) W6.1 (by omega))
  have dk1 := Dc_of (q190 (σ := w6.2.2) (p := k + 1) W6.1 (by omega))
  have dp := Dc_of (q190 (σ := w6.2.2) (p := p) W6.1 (by omega))
  have dq := Dc_of (q190 (σ := w6.2.2) (p := q) W6.1 (by omega))
  have eH1 : (hkP w6.2.2 (20 + 13 * k)).length = (hkP w6.2.2 (20 + 13 * q)).length := by rw [SRw_hk D6k, SRw_hk D6q, SRw_hk Q2, hkK, o2, PA_hk B]
  have eH2 : (hkP w6.2.2 (20 + 13 * (k + 1))).length = (hkP w6.2.2 (20 + 13 * p)).length := by rw [SRw_hk D6k1, SRw_hk D6p, SRw_hk P2, hkK1, o3, PA_hk A]
  rw [eH1] at dk
  rw [eH2] at dk1
  sorry
end
