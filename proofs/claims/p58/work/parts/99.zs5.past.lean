/-! past and depends, of the class. -/
noncomputable section
/-- two patches exchanged, as lists -/
def mvP (σ : Sg) (a b nb na nc : Nat) : List Int × List Int × List Int × List Int × List Int := mvW (σ (20 + 13 * a + 6)) (σ (20 + 13 * a + 8)) (σ (20 + 13 * b + 6)) (σ (20 + 13 * b + 8)) (σ (20 + 13 * a + 2)) (σ (20 + 13 * a + 4)) (σ (20 + 13 * b + 4)) nb na nc (nb + na + nc) 0 0 0 [] [] [] [] []
theorem hkP_n {σ : Sg} {P nb na : Nat} (N : NP σ P nb na) : hkP σ P = hks (σ (P + 6)) nb na := by
  unfold hkP
  rw [N.1, N.2.1, Int.toNat_natCast, Int.toNat_natCast]
theorem pS_flw {σ : Sg} {a b nb na nb' nc : Nat} (N : NP σ (20 + 13 * a) nb na) (N' : NP σ (20 + 13 * b) nb' nc) : pS σ a 1 b 0 ↔ FLW nb' na (σ (20 + 13 * a + 4)) (σ (20 + 13 * b + 2)) := by
  have z1 := N.2.1
  have z2 := N'.1
  unfold pS pl px sd
  rw [if_neg (by decide), if_pos rfl]
  constructor
  · intro ⟨u1, u2⟩
    exact ⟨by omega, fun i hi => u2 i (by omega)⟩
  · intro ⟨u1, u2⟩
    exact ⟨by omega, fun i hi => u2 i (by omega)⟩
theorem q184 {σ : Sg} {c : Int} {a b : Nat} (H : Rel c σ) (ha : (a : Int) < σ 0 3) (hb : (b : Int) < σ 0 3) (hs : pS σ a 1 b 0) : ∃ v : Int, (v = 0 ∨ v = 1) ∧ (v = 1 ↔ TCH (hkP σ (20 + 13 * a)) (hkP σ (20 + 13 * b))) ∧ Dc 184 [vA 0, vI a, vI b] σ (.inl (some (.inl v))) σ := by
  have k1 : 0 ≤ (a : Int) ∧ (a : Int) < σ 0 3 := by omega
  have k2 : 0 ≤ (b : Int) ∧ (b : Int) < σ 0 3 := by omega
  have hn := (rel_n H).1
  obtain ⟨hP, q1, q2, w1, w3⟩ := po_pat H k1.2
  obtain ⟨nb, na, b1, b2, N, S⟩ := po_slot q1 q2 w1 w3
  obtain ⟨hQ, r1, r2, y1, y3⟩ := po_pat H k2.2
  obtain ⟨nb', na', b3, b4, N', S'⟩ := po_slot r1 r2 y1 y3
  have e230 := d230_ok (σ := σ) k1 hn.2.2
  have f230 := d230_ok (σ := σ) k2 hn.2.2
  rw [show ((a : Int)).toNat = a by omega] at e230
  rw [show ((b : Int)).toNat = b by omega] at f230
  obtain ⟨c1, c2⟩ := d237 hP hQ H.1 N N'
  have hf := (pS_flw N N').mp hs
  obtain ⟨t1, t2⟩ := d6 hP hQ (WF_w H.1 (pat_9 hP)) (WF_w H.1 (pat_9 hQ)) (PC_of N (by omega) (by omega)) (PC_of N' (by omega) (by omega))
  rw [hkP_n N, hkP_n N']
  by_cases e : TCH (hks (σ (20 + 13 * a + 6)) nb na) (hks (σ (20 + 13 * b + 6)) nb' na')
  · exact ⟨1, Or.inr rfl, ⟨fun _ => e, fun _ => rfl⟩, Dc_of (b184 (Or.inl ⟨_, _, e230, hP, Or.inl ⟨_, _, f230, hQ, Or.inl ⟨_, c1 hf, _, _, t1 e, Or.inr rfl, rfl⟩⟩⟩))⟩
  · exact ⟨0, Or.inl rfl, ⟨fun h => absurd h (by decide), fun h => absurd h e⟩, Dc_of (b184 (Or.inl ⟨_, _, e230, hP, Or.inl ⟨_, _, f230, hQ, Or.inl ⟨_, c1 hf, _, _, t2 e, Or.inl rfl, rfl⟩⟩⟩))⟩
/-- past refused: they do not follow each other, or touch -/
theorem c185x {σ : Sg} {c a3 : Int} {a b : Nat} (H : Rel c σ) (ha : (a : Int) < σ 0 3) (hb : (b : Int) < σ 0 3) (hs : ¬ pS σ a 1 b 0 ∨ (pS σ a 1 b 0 ∧ TCH (hkP σ (20 + 13 * a)) (hkP σ (20 + 13 * b)))) : Dc 185 [vA 0, vI a, vI b, vI a3] σ (.inr 2) σ := by
  have k1 : 0 ≤ (a : Int) ∧ (a : Int) < σ 0 3 := by omega
  have k2 : 0 ≤ (b : Int) ∧ (b : Int) < σ 0 3 := by omega
  have hn := (rel_n H).1
  obtain ⟨hP, q1, q2, w1, w3⟩ := po_pat H k1.2
  obtain ⟨nb, na, b1, b2, N, S⟩ := po_slot q1 q2 w1 w3
  obtain ⟨hQ, r1, r2, y1, y3⟩ := po_pat H k2.2
  obtain ⟨nb', na', b3, b4, N', S'⟩ := po_slot r1 r2 y1 y3
  have e230 := d230_ok (σ := σ) k1 hn.2.2
  have f230 := d230_ok (σ := σ) k2 hn.2.2
  rw [show ((a : Int)).toNat = a by omega] at e230
  rw [show ((b : Int)).toNat = b by omega] at f230
  obtain ⟨c1, c2⟩ := d237 hP hQ H.1 N N'
  rcases hs with hs | ⟨hs, tc⟩
  · exact Dc_of (b185 (Or.inl ⟨_, _, e230, hP, Or.inl ⟨_, _, f230, hQ, Or.inr ⟨_, _, c2 (fun h => hs ((pS_flw N N').mpr h)), rfl⟩⟩⟩))
  · rw [hkP_n N, hkP_n N'] at tc
    obtain ⟨t1, t2⟩ := d6 hP hQ (WF_w H.1 (pat_9 hP)) (WF_w H.1 (pat_9 hQ)) (PC_of N (by omega) (by omega)) (PC_of N' (by omega) (by omega))
    exact Dc_of (b185 (Or.inl ⟨_, _, e230, hP, Or.inl ⟨_, _, f230, hQ, Or.inl ⟨_, c1 ((pS_flw N N').mp hs), _, _, t1 tc, by
        rw [if_neg (show ¬ (1 : Int) = 0 by decide)]
        exact b185_52 rfl⟩⟩⟩))
/-- past, of two that follow each other and don't touch -/
theorem c185 {σ : Sg} {c : Int} {a b : Nat} (H : Rel c σ) (ha : (a : Int) < σ 0 3) (hb : (b : Int) < σ 0 3) (g24 : σ 0 3 < 24) (hs : pS σ a 1 b 0) (NT : ¬ TCH (hkP σ (20 + 13 * a)) (hkP σ (20 + 13 * b))) : ∃ (nb na nc : Nat) (b' M f a' g : List Int), PA σ a nb na ∧ PA σ b na nc ∧ mvP σ a b nb na nc = (b', M, f, a', g) ∧ b'.length = nb ∧ M.length + na = nb + nc ∧ f.length = nb ∧ a'.length = nc ∧ g.length = M.length ∧ ((16 < M.length ∧ ∀ a3 : Int, Dc 185 [vA 0, vI a, vI b, vI a3] σ (.inr 2) σ) ∨ (M.length ≤ 16 ∧ ∃ p : Nat, σ 0 3 = (p : Nat) ∧ p < 24 ∧
    (∃ s2, Dc 185 [vA 0, vI a, vI b, vI 1] σ (.inl (some (.inl p))) s2 ∧ Rel (c + 1) s2 ∧ New σ s2 p nb M.length (σ (20 + 13 * a + 2)) (gv M) ∧ ∀ i, i < nb → s2 (20 + 13 * p + 6) i = gv f i) ∧
    (∃ s2, Dc 185 [vA 0, vI a, vI b, vI 0] σ (.inl (some (.inl p))) s2 ∧ Rel (c + 1) s2 ∧ New σ s2 p M.length nc (gv M) (σ (20 + 13 * b + 4)) ∧ ∀ i, i < M.length → s2 (20 + 13 * p + 6) i = gv g i))) := by
  have k1 : 0 ≤ (a : Int) ∧ (a : Int) < σ 0 3 := by omega
  have k2 : 0 ≤ (b : Int) ∧ (b : Int) < σ 0 3 := by omega
  have hn := (rel_n H).1
  obtain ⟨hP, q1, q2, w1, w3⟩ := po_pat H k1.2
  obtain ⟨nb, na, hb1, hb2, N, S⟩ := po_slot q1 q2 w1 w3
  obtain ⟨hQ, r1, r2, y1, y3⟩ := po_pat H k2.2
  obtain ⟨nb', nc, hb3, hb4, N', S'⟩ := po_slot r1 r2 y1 y3
  have e230 := d230_ok (σ := σ) k1 hn.2.2
  have f230 := d230_ok (σ := σ) k2 hn.2.2
  rw [show ((a : Int)).toNat = a by omega] at e230
  rw [show ((b : Int)).toNat = b by omega] at f230
  have ha24 : a < 24 := by omega
  have hb24 : b < 24 := by omega
  obtain ⟨c1, c2⟩ := d237 hP hQ H.1 N N'
  have hf := (pS_flw N N').mp hs
  have ena := hf.1
  subst ena
  rw [hkP_n N, hkP_n N'] at NT
  obtain ⟨t1, t2⟩ := d6 hP hQ (WF_w H.1 (pat_9 hP)) (WF_w H.1 (pat_9 hQ)) (PC_of N (by omega) (by omega)) (PC_of N' (by omega) (by omega))
  have e6 := t2 NT
  have EX : EQL (σ (20 + 13 * a + 2)) (σ (20 + 13 * a + 4)) (σ (20 + 13 * a + 6)) nb := fun i hi e => GDg N q2 i hi e
  have EY : EQL (σ (20 + 13 * a + 4)) (σ (20 + 13 * b + 4)) (σ (20 + 13 * b + 6)) na := fun i hi e => by
    rw [hf.2 i hi]
    exact GDg N' r2 i hi e
  have lX : ∀ i, i < nb → isLn (σ (20 + 13 * a + 2) i) = true := fun i hi => q2.2.2.2.2.2.2.2.1 i (by rw [N.1]; omega)
  have lZ : ∀ i, i < nc → isLn (σ (20 + 13 * b + 4) i) = true := fun i hi => r2.2.2.2.2.2.2.2.2.1 i (by rw [N'.2.1]; omega)
  obtain ⟨b', M, f, a', g, u1, u2, u3, u4, u5, u6, u7, u8, u9, -⟩ := d297 (σ := σ) (s := a) (t := b) (K := σ (20 + 13 * a + 8)) (L := σ (20 + 13 * b + 8)) (Y := σ (20 + 13 * a + 4)) (by omega) (by omega) (by omega) (by omega) (by omega) (by omega) N.2.2.2.2.1 N'.2.2.2.2.1 N.2.2.2.2.2.1 N'.2.2.2.2.2.1 EX EY lX lZ NT S S'
  obtain ⟨nbA, naA, A⟩ := PA_of H ha
  obtain ⟨nbB, naB, B⟩ := PA_of H hb
  have A1 := A.2.2.2.1.1
  have A3 := A.2.2.2.1.2.1
  have B1 := B.2.2.2.1.1
  have B3 := B.2.2.2.1.2.1
  have z1 := N.1
  have z3 := N.2.1
  have y1 := N'.1
  have y3 := N'.2.1
  have w1 : nbA = nb := by omega
  have w2 : naA = na := by omega
  have w3 : nbB = na := by omega
  have w4 : naB = nc := by omega
  subst w1
  subst w2
  subst w4
  rw [w3] at B
  have e7 : Dd 7 [vA 350, vA (20 + 13 * a), vA (20 + 13 * b)] σ (rI (M.length : Nat) σ) := by
    have p1 := d146 (σ := σ) (pat_1 hP)
    rw [N.1] at p1
    have p2 := d146 (σ := σ) (pat_3 hQ)
    rw [N'.2.1] at p2
    have p3 := d146 (σ := σ) (pat_1 hQ)
    rw [N'.1] at p3
    refine b7 hP hQ ⟨_, _, p1, _, _, p2, by omega, _, _, p3, by omega, ?_⟩
    rw [show ((nbA : Nat) : Int) + ((naB : Nat) : Int) - ((naA : Nat) : Int) = ((M.length : Nat) : Int) by omega]
  refine ⟨nbA, naA, naB, b', M, f, a', g, A, B, u1, u2, u3, u4, u5, u6, ?_⟩
  by_cases g5 : 16 < M.length
  · refine Or.inl ⟨g5, fun a3 => Dc_of (b185 (Or.inl ⟨_, _, e230, hP, Or.inl ⟨_, _, f230, hQ, Or.inl ⟨_, c1 hf, _, _, e6, by
      rw [if_pos rfl]
      refine ⟨_, _, e7, ?_⟩
      rw [if_pos (by omega)]
      exact b185_52 rfl⟩⟩⟩))⟩
  obtain ⟨s8, a1', a2', W8, a4'⟩ := mp_c hP hQ (by omega) (by omega) H.1 N N' hf.2 (by omega) (by omega) u2 u5 u1
  obtain ⟨po1, po2⟩ := FIN8_PO a2' (by omega) (by omega) (by omega) u7 u8 u9 (by rw [u2]; exact lX) (by rw [u5]; exact lZ)
  have F1 : ∀ a k, a < 682 → KP a k → s8 a k = σ a k := fun a k h1 h2 => a4' a k (by omega) (by omega)
  obtain ⟨p, hp⟩ := Int.eq_ofNat_of_zero_le hn.2.1
  have fin : ∀ (a3 : Int) (Q n1 n2 : Nat), isPatch Q = true → 332 ≤ Q → Dd 2 [vA 350, vI a3] s8 (rA Q s8) → PO s8 Q 16 → s8 (Q + 1) 1 = (n1 : Nat) → s8 (Q + 3) 1 = (n2 : Nat) → ∃ s2, Dc 185 [vA 0, vI a, vI b, vI a3] σ (.inl (some (.inl p))) s2 ∧ Rel (c + 1) s2 ∧ New σ s2 p n1 n2 (s8 (Q + 2)) (s8 (Q + 4)) ∧ ∀ i, i < n1 → s2 (20 + 13 * p + 6) i = s8 (Q + 6) i := by
    intro a3 Q n1 n2 hQQ hQ2 e2 PQ k1' k2'
    obtain ⟨s9, hs, N9, F9⟩ := stNew (c := c) hp (by omega) hQQ hQ2 W8 F1 PQ k1' k2'
    obtain ⟨s10, d1, d2, d3⟩ := fc_join (fc13 (a1 := a) (a2 := b) (a3 := a3) H) (b185 (Or.inl ⟨_, _, e230, hP, Or.inl ⟨_, _, f230, hQ, Or.inl ⟨_, c1 hf, _, _, e6, by
      rw [if_pos rfl]
      refine ⟨_, _, e7, ?_⟩
      rw [if_neg (by omega)]
      exact ⟨s8, a1', Q, s8, e2, hQQ, Or.inl ⟨_, _, hs, rfl⟩⟩⟩⟩⟩))
    exact ⟨s10, d1, d2, New_cg N9 d3 (by omega) (fun _ _ => rfl) (fun _ _ => rfl), fun i hi => by rw [d3 _ (by omega)]; exact F9 i hi⟩
  obtain ⟨⟨f1, -, f3, f4, f5, -⟩, ⟨f7, -, f9, f10, f11, -⟩⟩ := a2'
  refine Or.inr ⟨by omega, p, hp, by omega, ?_, ?_⟩
  · obtain ⟨s2, d1, d2, d3, d4⟩ := fin 1 351 nbA M.length WDp351.1 (by decide) (b2 (by rw [if_neg (by decide)])) po1 (by rw [f1.1]; exact congrArg _ u2) f1.2.1
    refine ⟨s2, d1, d2, New_cg d3 (fun _ _ => rfl) (by omega) (fun i hi => ?_) (fun i hi => f4 i _ (gv_at hi)), fun i hi => by rw [d4 i hi]; exact f5 i _ (gv_at (by show i < f.length; omega))⟩
    have hi' : i < b'.length := by omega
    rw [f3 i _ (gv_at hi'), u7 i _ (gv_at hi')]
  · obtain ⟨s2, d1, d2, d3, d4⟩ := fin 0 364 M.length naB WDp364.1 (by decide) (b2 (by rw [if_pos rfl])) po2 f7.1 (by rw [f7.2.1]; exact congrArg _ u5)
    refine ⟨s2, d1, d2, New_cg d3 (fun _ _ => rfl) (by omega) (fun i hi => f9 i _ (gv_at hi)) (fun i hi => ?_), fun i hi => by rw [d4 i hi]; exact f11 i _ (gv_at (by show i < g.length; omega))⟩
    have hi' : i < a'.length := by omega
    rw [f10 i _ (gv_at hi'), u8 i _ (gv_at hi')]
end
