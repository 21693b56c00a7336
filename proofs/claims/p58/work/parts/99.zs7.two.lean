/-! The law: new patches out of two. -/
noncomputable section
/-- patch a is as it was -/
def SRw (σ s : Sg) (a : Nat) : Prop := ∀ j, j ≤ 10 → s (20 + 13 * a + j) = σ (20 + 13 * a + j)
theorem SRw_t {σ s s' : Sg} {a : Nat} (h : SRw σ s a) (h' : SRw s s' a) : SRw σ s' a := fun j hj => (h' j hj).trans (h j hj)
theorem SRw_new {σ s : Sg} {p nb na a : Nat} {O N : Nat → Int} (h : New σ s p nb na O N) (ha : a < p) (hp : p < 24) : SRw σ s a := fun _ hj => New_row h ha hp hj
theorem SRw_wi {c : Int} {w0 w : WS} {a : Nat} (W : Wi c w0 w) (ha : a < 24) : SRw w0.2.2 w.2.2 a := fun _ hj => Wi_p W ha hj
theorem SRw_PA {σ s : Sg} {a nb na : Nat} (h : SRw σ s a) (A : PA σ a nb na) : PA s a nb na := by
  obtain ⟨a1, a2, a3, a4, a5, a6, a7⟩ := A
  refine ⟨a1, a2, a3, NP_fr (fun c x hc => ?_) a4, by rw [h 2 (by decide), h 4 (by decide), h 6 (by decide)]; exact a5, by rw [h 2 (by decide)]; exact a6, by rw [h 4 (by decide)]; exact a7⟩
  have := h (c - (20 + 13 * a)) (by omega)
  rw [show 20 + 13 * a + (c - (20 + 13 * a)) = c by omega] at this
  rw [this]
theorem SRw_hk {σ s : Sg} {a : Nat} (h : SRw σ s a) : hkP s (20 + 13 * a) = hkP σ (20 + 13 * a) := by
  unfold hkP
  rw [h 6 (by decide), h 1 (by decide), h 3 (by decide)]
theorem SRw_pl {σ s : Sg} {a : Nat} (h : SRw σ s a) (b : Int) : pl s a b = pl σ a b ∧ ∀ k, px s a b k = px σ a b k := by
  have hb := sd_le b
  refine ⟨?_, fun k => ?_⟩
  · unfold pl; rw [h _ (by omega)]
  · unfold px; rw [Nat.add_assoc, h _ hb]
theorem SRw_pS {σ s : Sg} {p q : Nat} {b e : Int} (h : SRw σ s p) (h' : SRw σ s q) (H : pS σ p b q e) : pS s p b q e := by
  unfold pS
  rw [(SRw_pl h b).1, (SRw_pl h' e).1]
  exact ⟨H.1, fun k hk => by rw [(SRw_pl h b).2, (SRw_pl h' e).2]; exact H.2 k hk⟩
theorem SRw_mv {σ s : Sg} {p q nb na nc : Nat} (h : SRw σ s p) (h' : SRw σ s q) : mvP s p q nb na nc = mvP σ p q nb na nc := by
  unfold mvP
  rw [h 6 (by decide), h 8 (by decide), h 2 (by decide), h 4 (by decide), h' 6 (by decide), h' 8 (by decide), h' 4 (by decide)]
theorem PA_new {c : Int} {σ s : Sg} {p nb na : Nat} {O N : Nat → Int} (R : Rel c s) (h : New σ s p nb na O N) : PA s p nb na := by
  obtain ⟨nb', na', A⟩ := PA_of (p := p) R (by rw [h.1]; omega)
  have a1 := A.2.2.2.1.1
  have a3 := A.2.2.2.1.2.1
  have b1 := h.2.2.1
  have b3 := h.2.2.2.1
  have e1 : nb' = nb := by omega
  have e2 : na' = na := by omega
  subst e1
  subst e2
  exact A
theorem PA_hk {σ : Sg} {p nb na : Nat} (A : PA σ p nb na) : hkP σ (20 + 13 * p) = hks (σ (20 + 13 * p + 6)) nb na := hkP_n A.2.2.2.1
theorem PA_u {σ : Sg} {p nb na nb' na' : Nat} (A : PA σ p nb na) (B : PA σ p nb' na') : nb' = nb ∧ na' = na := by
  have a1 := A.2.2.2.1.1
  have a3 := A.2.2.2.1.2.1
  have b1 := B.2.2.2.1.1
  have b3 := B.2.2.2.1.2.1
  omega
theorem IV_cgF {F F' K : Nat → Int} {nb na : Nat} (h : ∀ i, i < nb → F i = F' i) (I : IV F K nb na) : IV F' K nb na := by
  refine ⟨fun j hj => ?_, fun i hi e => ?_⟩
  · rcases I.1 j hj with e | ⟨e1, e2, e3⟩
    · exact Or.inl e
    · exact Or.inr ⟨e1, e2, by rw [← h _ (by omega)]; exact e3⟩
  · rw [← h i hi] at e ⊢
    exact I.2 i hi e
theorem atL_at {f : Nat → Int} {l : List Int} (h : atL f l 0) {x : Nat} (hx : x < l.length) : gv l x = f x := by
  have := h x _ (gv_at hx)
  rw [Nat.zero_add] at this
  exact this.symm
/-- the same patch -/
theorem PEQ_of {σ : Sg} {p q nb na : Nat} (A : PA σ p nb na) (B : PA σ q nb na) (h2 : ∀ i, i < nb → σ (20 + 13 * p + 2) i = σ (20 + 13 * q + 2) i) (h4 : ∀ i, i < na → σ (20 + 13 * p + 4) i = σ (20 + 13 * q + 4) i) (h6 : ∀ i, i < nb → σ (20 + 13 * p + 6) i = σ (20 + 13 * q + 6) i) : PEQ σ (20 + 13 * p) (20 + 13 * q) := by
  obtain ⟨a1, a3, a5, -⟩ := A.2.2.2.1
  obtain ⟨b1, b3, b5, -⟩ := B.2.2.2.1
  exact ⟨⟨a1.trans b1.symm, fun k hk => h2 k (by omega)⟩, ⟨a3.trans b3.symm, fun k hk => h4 k (by omega)⟩, ⟨a5.trans b5.symm, fun k hk => h6 k (by omega)⟩⟩
theorem m263_0 {n : Nat} {w : WS} {p a : Nat} {x3 b : Int} (L : LI n w) (hp : (p : Int) < w.2.2 0 3) (g : w.2.2 0 3 ≤ 20) (ha : a % 4 = 0) : ∃ w', LI n w' ∧ Sc w w' ∧ Lx 263 [vA 0, vA 682, vI p, vI x3, vI a, vI b] w (rO 1 w') := by
  have e0 : w.2.1 682 ((0 : Int)).toNat = w.2.2 0 3 := L.2.2.1
  have ea : Int.tmod (a : Int) 4 = 0 := by
    have : Int.tmod (a : Int) 4 = ((a % 4 : Nat) : Int) := rfl
    rw [this, ha]; rfl
  obtain ⟨k, nb, na, s2, hk, k24, n1, n3, d, R, N, F⟩ := c182 L.2.1 hp (by omega)
  obtain ⟨nb', na', A⟩ := PA_of L.2.1 hp
  have x1 := A.2.2.2.1.1
  have x3' := A.2.2.2.1.2.1
  have y1 : nb' = nb := by omega
  have y2 : na' = na := by omega
  subst y1
  subst y2
  have hA16 := A.2.1
  have hA16' := A.2.2.1
  have pk : p < k := by omega
  have L2 := LI_new L R N
  obtain ⟨wB, hwB⟩ : ∃ wB, wB = wS (wU w 682 0 ((k : Int) + 1)) s2 := ⟨_, rfl⟩
  have sB : wB.2.2 = s2 := by rw [hwB]; rfl
  have cB : wB.2.2 0 3 = (k : Int) + 1 := by rw [sB]; exact N.1
  have scB : Sc w wB := by rw [hwB]; exact Sc_u (by decide) rfl
  rw [← hwB] at L2
  obtain ⟨u1, u2, u3, u4⟩ := PA_0 (SRw_PA (SRw_new N pk k24) A)
  have z0 := New_0 N
  have z1 := New_1 N
  have r2 := New_row (j := 2) N pk k24 (by decide)
  have r4 := New_row (j := 4) N pk k24 (by decide)
  have S1 : pS wB.2.2 k 0 p 1 := by
    rw [sB]
    exact pS_of (n := na') (O := w.2.2 (20 + 13 * p + 4)) z0.1 z0.2 u3 (fun i hi => by rw [u4, r4])
  have S2 : pS wB.2.2 k 1 p 0 := by
    rw [sB]
    exact pS_of (n := nb') (O := w.2.2 (20 + 13 * p + 2)) z1.1 z1.2 u1 (fun i hi => by rw [u2, r2])
  have f1 := (m252 (p := k) (q := p) (b := 0) (e := 1) L2.2.1 (by omega) (by omega)).1 S1
  have f2 := (m252 (p := k) (q := p) (b := 1) (e := 0) L2.2.1 (by omega) (by omega)).1 S2
  have dk := Dc_of (q190 (σ := wB.2.2) (p := k) L2.2.1 (by omega))
  have dp := Dc_of (q190 (σ := wB.2.2) (p := p) L2.2.1 (by omega))
  have el : (hkP wB.2.2 (20 + 13 * k)).length = (hkP wB.2.2 (20 + 13 * p)).length := by
    rw [sB, New_hk N F, SRw_hk (SRw_new N pk k24), PA_hk A, hks_inv A.2.2.2.1.2.2.2.2.1 A.2.2.2.1.2.2.2.2.2.1, List.length_map]
  rw [el] at dk
  obtain ⟨w5, W5, f5⟩ := m253 (p := k) L2.2.1 (by omega)
  refine ⟨w5, LI_W L2 W5, Sc_t scB (Sc_e W5.2.2.1), lb263 ⟨L.1, ⟨by decide, by decide⟩, ?_⟩⟩
  rw [if_pos ea]
  refine ⟨L.1, ⟨by decide, by decide⟩, ?_⟩
  rw [e0, hk]
  refine ⟨by omega, L.1, ⟨by decide, by decide⟩, by decide, _, _, d, ?_⟩
  rw [if_pos rfl]
  have hwB' : wB = wS (wU w 682 ((0 : Int)).toNat ((k : Int) + 1)) s2 := hwB
  rw [← hwB']
  refine ⟨by decide, _, _, f1, ?_⟩
  rw [if_neg (by decide)]
  refine ⟨by decide, _, _, f2, ?_⟩
  rw [if_neg (by decide)]
  refine ⟨by decide, _, _, dk, by decide, _, _, dp, ?_⟩
  rw [if_pos rfl]
  refine ⟨by decide, _, _, f5, ?_⟩
  rw [if_neg (by decide)]
  exact bK263_81 ⟨Or.inr rfl, rfl⟩
theorem m263_1 {n : Nat} {w : WS} {p a b : Nat} {x3 : Int} (L : LI n w) (hp : (p : Int) < w.2.2 0 3) (g : w.2.2 0 3 ≤ 20) (ha : a % 4 = 1) : ∃ w', LI n w' ∧ Sc w w' ∧ Lx 263 [vA 0, vA 682, vI p, vI x3, vI a, vI b] w (rO 1 w') := by
  have ea : Int.tmod (a : Int) 4 = 1 := by
    have : Int.tmod (a : Int) 4 = ((a % 4 : Nat) : Int) := rfl
    rw [this, ha]; rfl
  have dp := Dc_of (q190 (σ := w.2.2) (p := p) L.2.1 hp)
  obtain ⟨l, hl⟩ : ∃ l, l = (hkP w.2.2 (20 + 13 * p)).length := ⟨_, rfl⟩
  rw [← hl] at dp
  by_cases h0 : l = 0
  · refine ⟨w, L, Sc_r _, lb263 ⟨L.1, ⟨by decide, by decide⟩, ?_⟩⟩
    rw [if_neg (by omega), if_pos ea]
    refine ⟨by decide, _, _, dp, ?_⟩
    rw [if_pos (by omega)]
    exact bK263_119 (bK263_124 ⟨Or.inr rfl, rfl⟩)
  · obtain ⟨w', L', S', f⟩ := m264 (a := p) (h := a / 4 % l) (b := b) L hp (by omega) (by rw [← hl]; exact Nat.mod_lt _ (by omega))
    refine ⟨w', L', S', lb263 ⟨L.1, ⟨by decide, by decide⟩, ?_⟩⟩
    rw [if_neg (by omega), if_pos ea]
    refine ⟨by decide, _, _, dp, ?_⟩
    rw [if_neg (by omega)]
    refine ⟨by decide, _, _, dp, by omega, by decide, ?_⟩
    refine ⟨_, _, f, ?_⟩
    rw [if_neg (by decide)]
    exact bK263_119 (bK263_124 ⟨Or.inr rfl, rfl⟩)
theorem m263_2 {n : Nat} {w : WS} {p q a : Nat} {b : Int} (L : LI n w) (hp : (p : Int) < w.2.2 0 3) (hq : (q : Int) < w.2.2 0 3) (g : w.2.2 0 3 ≤ 20) (ha : a % 4 = 2) (hs : pS w.2.2 p 1 q 0) : ∃ w', LI n w' ∧ Sc w w' ∧ Lx 263 [vA 0, vA 682, vI p, vI q, vI a, vI b] w (rO 1 w') := by
  have e0 : w.2.1 682 ((0 : Int)).toNat = w.2.2 0 3 := L.2.2.1
  have ea : Int.tmod (a : Int) 4 = 2 := by
    have : Int.tmod (a : Int) 4 = ((a % 4 : Nat) : Int) := rfl
    rw [this, ha]; rfl
  obtain ⟨k, nb, na, s2, hk, k24, n1, n3, d, R, N⟩ := c183 L.2.1 hp hq hs (by omega)
  obtain ⟨nb', nx, A⟩ := PA_of L.2.1 hp
  obtain ⟨ny, na', B⟩ := PA_of L.2.1 hq
  have x1 := A.2.2.2.1.1
  have x3 := B.2.2.2.1.2.1
  have y1 : nb' = nb := by omega
  have y2 : na' = na := by omega
  subst y1
  subst y2
  have pk : p < k := by omega
  have qk : q < k := by omega
  have L2 := LI_new L R N
  obtain ⟨wB, hwB⟩ : ∃ wB, wB = wS (wU w 682 0 ((k : Int) + 1)) s2 := ⟨_, rfl⟩
  have sB : wB.2.2 = s2 := by rw [hwB]; rfl
  have cB : wB.2.2 0 3 = (k : Int) + 1 := by rw [sB]; exact N.1
  have scB : Sc w wB := by rw [hwB]; exact Sc_u (by decide) rfl
  rw [← hwB] at L2
  obtain ⟨u1, u2, u3, u4⟩ := PA_0 (SRw_PA (SRw_new N pk k24) A)
  obtain ⟨t1, t2, t3, t4⟩ := PA_0 (SRw_PA (SRw_new N qk k24) B)
  have z0 := New_0 N
  have z1 := New_1 N
  have S1 : pS wB.2.2 k 0 p 0 := by
    rw [sB]
    exact pS_of (n := nb') (O := w.2.2 (20 + 13 * p + 2)) z0.1 z0.2 u1 (fun i hi => by rw [u2, New_row (j := 2) N pk k24 (by decide)])
  have S2 : pS wB.2.2 k 1 q 1 := by
    rw [sB]
    exact pS_of (n := na') (O := w.2.2 (20 + 13 * q + 4)) z1.1 z1.2 t3 (fun i hi => by rw [t4, New_row (j := 4) N qk k24 (by decide)])
  have f0 := (m252 (p := p) (q := q) (b := 1) (e := 0) L.2.1 hp hq).1 hs
  have f1 := (m252 (p := k) (q := p) (b := 0) (e := 0) L2.2.1 (by omega) (by omega)).1 S1
  have f2 := (m252 (p := k) (q := q) (b := 1) (e := 1) L2.2.1 (by omega) (by omega)).1 S2
  obtain ⟨w5, W5, f5⟩ := m253 (p := k) L2.2.1 (by omega)
  refine ⟨w5, LI_W L2 W5, Sc_t scB (Sc_e W5.2.2.1), lb263 ⟨L.1, ⟨by decide, by decide⟩, ?_⟩⟩
  rw [if_neg (by omega), if_neg (by omega)]
  refine ⟨by decide, _, _, f0, ?_⟩
  rw [if_neg (by decide), if_pos ea]
  refine ⟨L.1, ⟨by decide, by decide⟩, ?_⟩
  rw [e0, hk]
  refine ⟨by omega, L.1, ⟨by decide, by decide⟩, by decide, _, _, d, ?_⟩
  rw [if_pos rfl]
  have hwB' : wB = wS (wU w 682 ((0 : Int)).toNat ((k : Int) + 1)) s2 := hwB
  rw [← hwB']
  refine ⟨by decide, _, _, f1, ?_⟩
  rw [if_neg (by decide)]
  refine ⟨by decide, _, _, f2, ?_⟩
  rw [if_neg (by decide)]
  refine ⟨by decide, _, _, f5, ?_⟩
  rw [if_neg (by decide)]
  exact bK263_227 ⟨Or.inr rfl, rfl⟩
/-- past is refused -/
theorem m263_x {n : Nat} {w : WS} {p q a : Nat} {b : Int} (L : LI n w) (hp : (p : Int) < w.2.2 0 3) (hq : (q : Int) < w.2.2 0 3) (ha : ¬ a % 4 = 0 ∧ ¬ a % 4 = 1 ∧ ¬ (a % 4 = 2 ∧ pS w.2.2 p 1 q 0)) (dx : Dc 185 [vA 0, vI p, vI q, vI 1] w.2.2 (.inr 2) w.2.2) : ∃ w', LI n w' ∧ Sc w w' ∧ Lx 263 [vA 0, vA 682, vI p, vI q, vI a, vI b] w (rO 1 w') := by
  have e0 : w.2.1 682 ((0 : Int)).toNat = w.2.2 0 3 := L.2.2.1
  have ea : Int.tmod (a : Int) 4 = ((a % 4 : Nat) : Int) := rfl
  obtain ⟨a1, a2, a3⟩ := ha
  obtain ⟨f1, f2⟩ := m252 (p := p) (q := q) (b := 1) (e := 0) L.2.1 hp hq
  refine ⟨w, L, Sc_r _, lb263 ⟨L.1, ⟨by decide, by decide⟩, ?_⟩⟩
  rw [if_neg (by omega), if_neg (by omega)]
  by_cases hs : pS w.2.2 p 1 q 0
  · refine ⟨by decide, _, _, f1 hs, ?_⟩
    have a4 : ¬ a % 4 = 2 := fun h => a3 ⟨h, hs⟩
    rw [if_neg (by decide), if_neg (by omega)]
    refine ⟨by decide, _, _, lb257 ⟨by decide, Or.inr ⟨_, dx, rfl⟩⟩, ?_⟩
    rw [if_pos rfl]
    refine ⟨by decide, _, _, Dc_of (b187 (σ := w.2.2) rfl), ?_⟩
    rw [if_pos e0.symm]
    exact bK263_258 ⟨Or.inr rfl, rfl⟩
  · refine ⟨by decide, _, _, f2 hs, ?_⟩
    rw [if_pos rfl]
    refine ⟨by decide, _, _, lb257 ⟨by decide, Or.inr ⟨_, dx, rfl⟩⟩, ?_⟩
    rw [if_pos rfl]
    refine ⟨by decide, _, _, Dc_of (b187 (σ := w.2.2) rfl), ?_⟩
    rw [if_pos e0.symm]
    exact bK263_162 ⟨Or.inr rfl, rfl⟩
end
