/-! New patches: what the class makes, by its own numbers. -/
noncomputable section
/-- a new patch p was made, of the texts O and N; nothing else that can be seen differs -/
def New (σ s : Sg) (p nb na : Nat) (O N : Nat → Int) : Prop := s 0 3 = (p : Int) + 1 ∧ (∀ x k, x < 682 → KP x k → ¬ (x = 0 ∧ k = 3) → ¬ (20 + 13 * p + 1 ≤ x ∧ x ≤ 20 + 13 * p + 10) → s x k = σ x k) ∧ s (20 + 13 * p + 1) 1 = (nb : Nat) ∧ s (20 + 13 * p + 3) 1 = (na : Nat) ∧ (∀ i, i < nb → s (20 + 13 * p + 2) i = O i) ∧ ∀ i, i < na → s (20 + 13 * p + 4) i = N i
theorem stNew {σ σ1 : Sg} {c : Int} {Q p nb na : Nat} (hp : σ 0 3 = (p : Nat)) (h24 : p < 24) (hQ : isPatch Q = true) (hQ2 : 332 ≤ Q) (w1 : WF σ1) (f1 : ∀ a k, a < 682 → KP a k → σ1 a k = σ a k) (P1 : PO σ1 Q 16) (hb : σ1 (Q + 1) 1 = (nb : Nat)) (ha : σ1 (Q + 3) 1 = (na : Nat)) : ∃ s, Dd 242 [vA 0, vA Q] σ1 (rI p s) ∧ New σ s p nb na (σ1 (Q + 2)) (σ1 (Q + 4)) ∧ ∀ i, i < nb → s (20 + 13 * p + 6) i = σ1 (Q + 6) i := by
  have hP := cpP (p := p) h24
  have hg := patch_gap hP.2.2.2.2.2.2.1 hQ (by omega)
  have e0 : σ1 0 3 = (p : Nat) := by rw [f1 0 3 (by decide) (by unfold KP; omega)]; exact hp
  have row : ∀ j, j = 1 ∨ j = 3 ∨ j = 5 → pbS σ1 (20 + 13 * p) Q (20 + 13 * p + j) 1 = σ1 (Q + j) 1 ∧ ∀ k : Nat, (k : Int) < σ1 (Q + j) 1 → pbS σ1 (20 + 13 * p) Q (20 + 13 * p + j + 1) k = σ1 (Q + j + 1) k := by
    intro j hj
    have p1 := P1.1
    have p2 := P1.2.1
    have p3 := P1.2.2.1
    refine pb_row (Or.inl hg) (by omega) ?_
    rcases hj with hj | hj | hj <;> subst hj <;> omega
  have up : ∀ x k, ¬ (x = 0 ∧ k = 3) → upS (pbS σ1 (20 + 13 * p) Q) 0 3 ((p : Int) + 1) x k = pbS σ1 (20 + 13 * p) Q x k := fun x k h => by
    unfold upS
    rw [if_neg h]
  refine ⟨_, d242_ok e0 h24 hQ (Or.inl (by omega)) (WF_pw w1), ⟨up_s, fun x k h1 h2 h3 h4 => ?_, ?_, ?_, fun i hi => ?_, fun i hi => ?_⟩, fun i hi => ?_⟩
  · rw [up x k h3, pb_off h4]
    exact f1 x k h1 h2
  · rw [up _ _ (by omega), (row 1 (by omega)).1]
    exact hb
  · rw [up _ _ (by omega), (row 3 (by omega)).1]
    exact ha
  · rw [up _ _ (by omega)]
    exact (row 1 (by omega)).2 i (by omega)
  · rw [up _ _ (by omega)]
    exact (row 3 (by omega)).2 i (by omega)
  · rw [up _ _ (by omega)]
    have p3 := P1.2.2.1
    exact (row 5 (by omega)).2 i (by omega)
theorem New_cg {σ s s2 : Sg} {p nb na : Nat} {O N O' N' : Nat → Int} (h : New σ s p nb na O N) (h2 : ∀ a, a < 682 → s2 a = s a) (hp : p < 24) (hO : ∀ i, i < nb → O i = O' i) (hN : ∀ i, i < na → N i = N' i) : New σ s2 p nb na O' N' := by
  obtain ⟨a1, a2, a3, a4, a5, a6⟩ := h
  refine ⟨by rw [h2 _ (by decide)]; exact a1, fun x k h1 h3 h4 h5 => by rw [h2 x h1]; exact a2 x k h1 h3 h4 h5, by rw [h2 _ (by omega)]; exact a3, by rw [h2 _ (by omega)]; exact a4, fun i hi => by rw [h2 _ (by omega), a5 i hi]; exact hO i hi, fun i hi => by rw [h2 _ (by omega), a6 i hi]; exact hN i hi⟩
/-- make -/
theorem c181 {σ : Sg} {c a3 : Int} {t u : Nat} (H : Rel c σ) (ht : t < 4) (hu : u < 4) (g7 : 0 ≤ a3 ∧ a3 < 3) (g8 : σ 0 3 < 24) : ∃ (p n1 n2 : Nat) (s2 : Sg), σ 0 3 = (p : Nat) ∧ p < 24 ∧ σ (2 + 2 * t) 1 = (n1 : Nat) ∧ σ (2 + 2 * u) 1 = (n2 : Nat) ∧ Dc 181 [vA 0, vI t, vI u, vI a3] σ (.inl (some (.inl p))) s2 ∧ Rel (c + 1) s2 ∧ New σ s2 p n1 n2 (σ (2 + 2 * t + 1)) (σ (2 + 2 * u + 1)) := by
  obtain ⟨n1, b1, r1, z1, m1, v1, l1⟩ := rt_two H (t := t) (by omega)
  obtain ⟨n2, b2, r2, z2, m2, v2, l2⟩ := rt_two H (t := u) (by omega)
  have hn := (rel_n H).1
  have e227 := d227_ok (σ := σ) (t := (t : Int)) (by omega)
  have f227 := d227_ok (σ := σ) (t := (u : Int)) (by omega)
  rw [tn] at e227 f227
  have G : GD (σ (2 + 2 * t + 1)) (σ (2 + 2 * u + 1)) n1 n2 (mtc a3 (σ (2 + 2 * t + 1)) (σ (2 + 2 * u + 1)) n1 n2) := mtc_GD
  obtain ⟨s1, a1', W1, a4', a5', a6'⟩ := d15 (way := a3) H.1 r1 r2 z1 z2 (by omega) (by omega) (by omega) (by omega)
  obtain ⟨M, hM⟩ : ∃ M, M = mtc a3 (σ (2 + 2 * t + 1)) (σ (2 + 2 * u + 1)) n1 n2 := ⟨_, rfl⟩
  rw [← hM] at a5' G
  obtain ⟨p379, c380, c382, c384, c386, c388⟩ := cpS379
  have c380' : cap (379 + 1) = 16 := c380
  have c382' : cap (379 + 3) = 16 := c382
  have c384' : cap (379 + 5) = 16 := c384
  have c386' : cap (379 + 7) = 16 := c386
  have c388' : cap (379 + 9) = 68 := c388
  have w337 : wR s1 337 := WF_w W1 (by decide +kernel)
  have a5'' : ∀ i, i < n1 → s1 (337 + 1) i = M i := a5'
  obtain ⟨s2, e1, e2, e3, e4, e5, e6, e7⟩ := d95 (P := 379) (x1 := 2 + 2 * t) (x2 := 2 + 2 * u) (x3 := 337) (nb := n1) (na := n2) (σ := s1) p379 (WF_w W1 r1) (WF_w W1 r2) w337 (by rw [a6' _ _ (by omega) (by omega)]; exact z1) (by rw [a6' _ _ (by omega) (by omega)]; exact z2) a4' (VF_cg a5'' G.1) (by omega) (by omega) (by omega) (by omega) (by omega) (by omega) (by omega) (by omega)
  have W2 : WF s2 := WF_np W1 p379 e2 e3 (by omega) (by omega) (by omega) (by omega) e7
  have h6 : ∀ i, i < n1 → s2 (379 + 6) i = M i := fun i hi => by rw [e6 i hi]; exact a5'' i hi
  have E2 : EQL (σ (2 + 2 * t + 1)) (σ (2 + 2 * u + 1)) (s2 (379 + 6)) n1 := fun x hx hne => by
    rw [h6 x hx] at hne ⊢
    exact G.2 x hx hne
  obtain ⟨s3, k1, k2, k3, k4, k5, k6⟩ := d108 (P := 379) (nb := n1) (na := n2) (O := σ (2 + 2 * t + 1)) (N := σ (2 + 2 * u + 1)) p379 W2 (by omega) (by omega) e2 (fun i hi => by rw [e4 i hi, a6' _ _ (by omega) (by omega)]) (fun i hi => by rw [e5 i hi, a6' _ _ (by omega) (by omega)]) l1 l2 E2 (by omega) (by omega)
  have q2 : ∀ i, i < n1 → s3 (379 + 2) i = σ (2 + 2 * t + 1) i := fun i hi => by rw [k6 _ _ (by omega), e4 i hi, a6' _ _ (by omega) (by omega)]
  have q4 : ∀ i, i < n2 → s3 (379 + 4) i = σ (2 + 2 * u + 1) i := fun i hi => by rw [k6 _ _ (by omega), e5 i hi, a6' _ _ (by omega) (by omega)]
  have V3 : VF (s3 (379 + 6)) n1 n2 := k2.2.2.2.2.1
  have W3 : WF s3 := WF_np W2 p379 k2 k5 (by omega) (by omega) (by omega) (by omega) (fun c k h => k6 c k (by omega))
  have P3 : PO s3 379 16 := by
    refine PO_of k2 (by omega) (by omega) (fun i hi e => ?_) (fun i hi => ?_) (fun i hi => ?_)
    · have y := V3.1 i hi
      rw [q2 i hi, q4 _ (by omega)]
      exact k3 i hi e
    · rw [q2 i hi]; exact l1 i hi
    · rw [q4 i hi]; exact l2 i hi
  have F1 : ∀ a k, a < 682 → KP a k → s3 a k = σ a k := fun a k h1 h2 => by rw [k6 a k (by omega), e7 a k (by omega), a6' a k (by omega) (by omega)]
  have G1 : ∀ a k, 682 ≤ a → s3 a k = σ a k := fun a k h1 => by rw [k6 a k (by omega), e7 a k (by omega), a6' a k (by omega) (by omega)]
  obtain ⟨p, hp⟩ := Int.eq_ofNat_of_zero_le hn.2.1
  obtain ⟨s9, hs, N9, -⟩ := stNew (c := c) hp (by omega) p379 (by decide) W3 F1 P3 k2.1 k2.2.1
  obtain ⟨s8, d1, d2, d3⟩ := fc_join (fc9 (a1 := t) (a2 := u) (a3 := a3) H) (b181 (Or.inl ⟨_, _, e227, r1, Or.inl ⟨_, _, f227, r2, Or.inl ⟨_, d236_ok g7, _, _, a1', by decide +kernel, s2, e1, s3, k1, Or.inl ⟨_, _, hs, rfl⟩⟩⟩⟩))
  exact ⟨p, n1, n2, s8, hp, by omega, z1, z2, d1, d2, New_cg N9 d3 (by omega) q2 q4⟩
/-- invert -/
theorem c182 {σ : Sg} {c : Int} {a : Nat} (H : Rel c σ) (ha0 : (a : Int) < σ 0 3) (g3 : σ 0 3 < 24) : ∃ (p nb na : Nat) (s2 : Sg), σ 0 3 = (p : Nat) ∧ p < 24 ∧ σ (20 + 13 * a + 1) 1 = (nb : Nat) ∧ σ (20 + 13 * a + 3) 1 = (na : Nat) ∧ Dc 182 [vA 0, vI a] σ (.inl (some (.inl p))) s2 ∧ Rel (c + 1) s2 ∧ New σ s2 p na nb (σ (20 + 13 * a + 4)) (σ (20 + 13 * a + 2)) ∧ ∀ i, i < na → s2 (20 + 13 * p + 6) i = σ (20 + 13 * a + 8) i := by
  have k1 : 0 ≤ (a : Int) ∧ (a : Int) < σ 0 3 := by omega
  have hn := (rel_n H).1
  obtain ⟨hP, q1, q2, w1, w3⟩ := po_pat H k1.2
  obtain ⟨nb, na, b1, b2, N, S⟩ := po_slot q1 q2 w1 w3
  obtain ⟨n1, n3, n5, n7, V, K, C1, C2⟩ := N
  have e230 := d230_ok (σ := σ) k1 hn.2.2
  rw [show ((a : Int)).toNat = a by omega] at e230
  obtain ⟨p351, c352, c354, c356, c358, c360⟩ := cpS351
  have c352' : cap (351 + 1) = 96 := c352
  have c354' : cap (351 + 3) = 96 := c354
  have c356' : cap (351 + 5) = 96 := c356
  have c358' : cap (351 + 7) = 96 := c358
  have c360' : cap (351 + 9) = 388 := c360
  have hlt : 20 + 13 * a < 351 := by omega
  have hgp := patch_gap hP p351 hlt
  obtain ⟨s1, a1', a2, a3, a4, a5, a6, a7⟩ := d95 (P := 351) (x1 := 20 + 13 * a + 3) (x2 := 20 + 13 * a + 1) (x3 := 20 + 13 * a + 7) (nb := na) (na := nb) (σ := σ) p351 (WF_w H.1 (pat_3 hP)) (WF_w H.1 (pat_1 hP)) (WF_w H.1 (pat_7 hP)) n3 n1 n7 (VF_K V K) (by omega) (by omega) (by omega) (by omega) (by omega) (by omega) (by omega) (by omega)
  have W1 : WF s1 := WF_np H.1 p351 a2 a3 (by omega) (by omega) (by omega) (by omega) a7
  have F1 : ∀ a k, a < 682 → KP a k → s1 a k = σ a k := fun a k h1 h2 => a7 a k (by omega)
  have G1 : ∀ a k, 682 ≤ a → s1 a k = σ a k := fun a k h1 => a7 a k (by omega)
  have A1 := a2.1
  have A3 := a2.2.1
  have q5 := q2.2.2.2.2.1
  have P1 : PO s1 351 16 := by
    refine PO_of a2 (by omega) (by omega) (fun i hi e => ?_) (fun i hi => ?_) (fun i hi => ?_)
    · have z6 : s1 (351 + 6) i = σ (20 + 13 * a + 8) i := a6 i hi
      rw [z6] at e
      rcases K.1 i hi with y | y
      · exact absurd y e
      have zz := q5 (σ (20 + 13 * a + 8) i).toNat (by omega)
      have y2 : σ (20 + 13 * a + 6) (σ (20 + 13 * a + 8) i).toNat = i := y.2.2
      rcases zz with zz | zz
      · omega
      · have z := zz.2.2.2
        rw [y2, show ((i : Nat) : Int).toNat = i by omega] at z
        rw [a4 i hi, z6, a5 _ (by omega)]
        exact z.symm
    · rw [a4 i hi]; exact q2.2.2.2.2.2.2.2.2.1 i (by omega)
    · rw [a5 i hi]; exact q2.2.2.2.2.2.2.2.1 i (by omega)
  have hd : Dd 3 [vA 350, vA (20 + 13 * a)] σ (rA 351 s1) := b3 hP ⟨s1, a1', rfl⟩
  obtain ⟨p, hp⟩ := Int.eq_ofNat_of_zero_le hn.2.1
  obtain ⟨s9, hs, N9, F9⟩ := stNew (c := c) hp (by omega) p351 (by decide) W1 F1 P1 A1 A3
  obtain ⟨s8, d1, d2, d3⟩ := fc_join (fc10 (a1 := a) H) (b182 (Or.inl ⟨_, _, e230, hP, _, _, hd, p351, Or.inl ⟨_, _, hs, rfl⟩⟩))
  exact ⟨p, nb, na, s8, hp, by omega, n1, n3, d1, d2, New_cg N9 d3 (by omega) a4 a5, fun i hi => by rw [d3 _ (by omega), F9 i hi]; exact a6 i hi⟩
/-- join -/
theorem c183 {σ : Sg} {c : Int} {a b : Nat} (H : Rel c σ) (ha0 : (a : Int) < σ 0 3) (hb0 : (b : Int) < σ 0 3) (hs9 : pS σ a 1 b 0) (g5 : σ 0 3 < 24) : ∃ (p nb na : Nat) (s2 : Sg), σ 0 3 = (p : Nat) ∧ p < 24 ∧ σ (20 + 13 * a + 1) 1 = (nb : Nat) ∧ σ (20 + 13 * b + 3) 1 = (na : Nat) ∧ Dc 183 [vA 0, vI a, vI b] σ (.inl (some (.inl p))) s2 ∧ Rel (c + 1) s2 ∧ New σ s2 p nb na (σ (20 + 13 * a + 2)) (σ (20 + 13 * b + 4)) := by
  have k1 : 0 ≤ (a : Int) ∧ (a : Int) < σ 0 3 := by omega
  have k2 : 0 ≤ (b : Int) ∧ (b : Int) < σ 0 3 := by omega
  have hn := (rel_n H).1
  obtain ⟨hP, q1, q2, w1, w3⟩ := po_pat H k1.2
  obtain ⟨nb, na, b1, b2, N, S⟩ := po_slot q1 q2 w1 w3
  obtain ⟨hQ, r1, r2, y1, y3⟩ := po_pat H k2.2
  obtain ⟨nb', na', b3, b4', N', S'⟩ := po_slot r1 r2 y1 y3
  have e230 := d230_ok (σ := σ) k1 hn.2.2
  have f230 := d230_ok (σ := σ) k2 hn.2.2
  rw [show ((a : Int)).toNat = a by omega] at e230
  rw [show ((b : Int)).toNat = b by omega] at f230
  obtain ⟨c1, c2⟩ := d237 hP hQ H.1 N N'
  have hf : FLW nb' na (σ (20 + 13 * a + 4)) (σ (20 + 13 * b + 2)) := by
    have z1 := N.2.1
    have z2 := N'.1
    obtain ⟨u1, u2⟩ := hs9
    unfold pl sd at u1
    unfold pl px sd at u2
    rw [if_neg (by decide), if_pos rfl] at u1 u2
    refine ⟨by omega, fun i hi => u2 i (by omega)⟩
  have ena := hf.1
  subst ena
  have gd : ∀ {P nb na : Nat}, NP σ P nb na → PO σ P 16 → ∀ i, i < nb → ¬ σ (P + 6) i = -1 → σ (P + 2) i = σ (P + 4) (σ (P + 6) i).toNat := by
    intro P nb na n h i hi e
    have n1 := n.1
    rcases h.2.2.2.2.1 i (by omega) with z | z
    · exact absurd z e
    · exact z.2.2.2
  obtain ⟨s1, a1', n2, W1, v1, v2, v3, fr⟩ := d4 H.1 hP hQ (by omega) (by omega) (by omega) (by omega) (by omega) N N' (gd N q2) (gd N' r2) hf.2
  obtain ⟨p351, -⟩ := cpS351
  have F1 : ∀ a k, a < 682 → KP a k → s1 a k = σ a k := fun a k h1 h2 => fr a k (by omega) (by omega) (by omega)
  have G1 : ∀ a k, 682 ≤ a → s1 a k = σ a k := fun a k h1 => fr a k (by omega) (by omega) (by omega)
  have g := jp_GD N.2.2.2.2.1 N'.2.2.2.2.1 (gd N q2) (gd N' r2) hf.2
  have P1 : PO s1 351 16 := by
    have z1 := N.1
    have z3 := N'.2.1
    refine PO_of n2 (by omega) (by omega) (fun i hi e => ?_) (fun i hi => ?_) (fun i hi => ?_)
    · have z6 : s1 (351 + 6) i = _ := v3 i hi
      rw [z6] at e ⊢
      rcases g.1.1 i hi with y | y
      · exact absurd y e
      have z2 : s1 (351 + 2) i = _ := v1 i hi
      rw [z2, g.2 i hi e]
      exact (v2 _ (by omega)).symm
    · have z2 : s1 (351 + 2) i = _ := v1 i hi
      rw [z2]; exact q2.2.2.2.2.2.2.2.1 i (by omega)
    · have z2 : s1 (351 + 4) i = _ := v2 i hi
      rw [z2]; exact r2.2.2.2.2.2.2.2.2.1 i (by omega)
  obtain ⟨p, hp⟩ := Int.eq_ofNat_of_zero_le hn.2.1
  obtain ⟨s9, hs, N9, F9⟩ := stNew (c := c) hp (by omega) p351 (by decide) W1 F1 P1 n2.1 n2.2.1
  obtain ⟨s8, d1, d2, d3⟩ := fc_join (fc11 (a1 := a) (a2 := b) H) (b183 (Or.inl ⟨_, _, e230, hP, Or.inl ⟨_, _, f230, hQ, Or.inl ⟨_, c1 hf, _, _, a1', p351, Or.inl ⟨_, _, hs, rfl⟩⟩⟩⟩))
  exact ⟨p, _, _, s8, hp, by omega, N.1, N'.2.1, d1, d2, New_cg N9 d3 (by omega) v1 v2⟩
/-- take -/
theorem c203 {σ : Sg} {c : Int} {t : Nat} (H : Rel c σ) (ht : (t : Int) < σ 402 3) (g3 : σ 0 3 < 24) : ∃ (p nb na : Nat) (s2 : Sg), σ 0 3 = (p : Nat) ∧ p < 24 ∧ σ (406 + 13 * t + 1) 1 = (nb : Nat) ∧ σ (406 + 13 * t + 3) 1 = (na : Nat) ∧ Dc 203 [vA 0, vI t] σ (.inl (some (.inl p))) s2 ∧ Rel (c + 1) s2 ∧ New σ s2 p nb na (σ (406 + 13 * t + 2)) (σ (406 + 13 * t + 4)) ∧ ∀ i, i < nb → s2 (20 + 13 * p + 6) i = σ (406 + 13 * t + 6) i := by
  have k1 : 0 ≤ (t : Int) ∧ (t : Int) < σ 402 3 := by omega
  obtain ⟨⟨n1, n2, n3⟩, ⟨n4, n5, n6⟩, -⟩ := rel_n H
  have hL := cpL (p := t) (by omega)
  have e231 := d231_ok (σ := σ) k1 n6
  rw [Int.toNat_natCast] at e231
  obtain ⟨p, hp⟩ := Int.eq_ofNat_of_zero_le n2
  obtain ⟨r1, r2, r3⟩ := H.2.2.2.2.2.1.2.2.2.2.2.2.2.2.2.2 t ht
  have hQ := hL.2.2.2.2.2.2.1
  obtain ⟨nb, hnb⟩ := Int.eq_ofNat_of_zero_le (H.1 _ (pat_1 hQ)).1
  obtain ⟨na, hna⟩ := Int.eq_ofNat_of_zero_le (H.1 _ (pat_3 hQ)).1
  obtain ⟨s9, hs, N9, F9⟩ := stNew (c := c) hp (by omega) hQ (by omega) H.1 (fun _ _ _ _ => rfl) r2 hnb hna
  obtain ⟨s8, d1, d2, d3⟩ := fc_join (fc31 (a1 := t) H) (b203 (Or.inl ⟨_, _, e231, hQ, Or.inl ⟨_, _, hs, rfl⟩⟩))
  exact ⟨p, nb, na, s8, hp, by omega, hnb, hna, d1, d2, New_cg N9 d3 (by omega) (fun _ _ => rfl) (fun _ _ => rfl), fun i hi => by rw [d3 _ (by omega)]; exact F9 i hi⟩
/-- the hunks of an inverse -/
def swq (q : St) : St := (q.2.2.1, q.2.2.2, q.1, q.2.1)
theorem DS_swap {F K : Nat → Int} {nb na : Nat} (I : IV F K nb na) : ∀ (l : List St) (i j e : Nat), DS F nb na l i j e → (∀ x, x < i → F x = -1 ∨ F x < (j : Int)) → DS K na nb (l.map swq) j i e := by
  intro l
  induction l with
  | nil =>
    intro i j e D _
    obtain ⟨D1, D2, D3, D4⟩ := D
    refine ⟨D2, D1, D3.symm, fun y h1 h2 => ?_⟩
    have hF := D4 (i + (y - j)) (by omega) (by omega)
    have hI := I.2 (i + (y - j)) (by omega) (by rw [hF]; omega)
    rw [hF, Int.toNat_natCast, show j + (i + (y - j) - i) = y by omega] at hI
    exact hI
  | cons q t ih =>
    intro i j e D P
    have D0 := D
    obtain ⟨b, dr, s, ad⟩ := q
    obtain ⟨D1, D2, D3, D4, D5, D6⟩ := D
    dsimp only at D1 D2 D3 D4 D5 D6
    obtain ⟨B1, B2, -⟩ := DS_b t _ _ _ D6
    refine ⟨by show j + e ≤ s; omega, by show b = i + (s - j); omega, fun y h1 h2 => ?_, fun y h1 h2 => ?_, by show 0 < ad + dr; omega, ?_⟩
    · have h2 : y < s := h2
      have hF := D3 (i + (y - j)) (by omega) (by omega)
      have hI := I.2 (i + (y - j)) (by omega) (by rw [hF]; omega)
      rw [hF, Int.toNat_natCast, show j + (i + (y - j) - i) = y by omega] at hI
      exact hI
    · exact DS_K D0 I P h1 h2
    · refine ih _ _ _ D6 (fun x hx => ?_)
      by_cases h1 : x < i
      · rcases P x h1 with h | h
        · exact Or.inl h
        · exact Or.inr (by show F x < ((s + ad : Nat) : Int); omega)
      · by_cases h2 : x < b
        · have := D3 x (by omega) h2
          exact Or.inr (by show F x < ((s + ad : Nat) : Int); omega)
        · exact Or.inl (D4 x (by omega) hx)
theorem hks_inv {F K : Nat → Int} {nb na : Nat} (V : VF F nb na) (I : IV F K nb na) : hks K na nb = (hks F nb na).map swq := DS_hks (DS_swap I _ 0 0 0 (DS_0 V) (fun x hx => absurd hx (Nat.not_lt_zero _)))
end
