/-! past, both sides. -/
noncomputable section
theorem FIN8_w {σ s : Sg} {r : List Int × List Int × List Int × List Int × List Int} (w : WF σ) (h : FIN8 s r) (B : BD r) (fr : ∀ c x, ¬ (352 ≤ c ∧ c ≤ 361) → ¬ (365 ≤ c ∧ c ≤ 374) → s c x = σ c x) : WF s := by
  obtain ⟨b1, b2, b3⟩ := B
  obtain ⟨⟨n1, w1, -⟩, ⟨n2, w2, -⟩⟩ := h
  obtain ⟨p1, c1, c3, c5, c7, c9⟩ := WDp351
  obtain ⟨p2, e1, e3, e5, e7, e9⟩ := WDp364
  obtain ⟨s', hs'⟩ : ∃ s' : Sg, s' = fun c x => if 365 ≤ c ∧ c ≤ 374 then σ c x else s c x := ⟨_, rfl⟩
  have z1 : ∀ c x, 365 ≤ c ∧ c ≤ 374 → s' c x = σ c x := fun c x h => by rw [hs']; show (if 365 ≤ c ∧ c ≤ 374 then σ c x else s c x) = _; rw [if_pos h]
  have z2 : ∀ c x, ¬ (365 ≤ c ∧ c ≤ 374) → s' c x = s c x := fun c x h => by rw [hs']; show (if 365 ≤ c ∧ c ≤ 374 then σ c x else s c x) = _; rw [if_neg h]
  have W1 : WF s' := WF_np w p1 (NP_fr (fun c x h => z2 c x (by omega)) n1) ⟨w1.1, by rw [z2 _ _ (by decide)]; exact w1.2⟩ (by omega) (by omega) (by omega) (by omega) (fun c x h => by
    by_cases y : 365 ≤ c ∧ c ≤ 374
    · exact z1 c x y
    · rw [z2 c x y]; exact fr c x (by omega) y)
  exact WF_np W1 p2 n2 w2 (by omega) (by omega) (by omega) (by omega) (fun c x h => (z2 c x (by omega)).symm)
theorem GDg {σ : Sg} {P nb na : Nat} (n : NP σ P nb na) (h : PO σ P 16) : ∀ i, i < nb → ¬ σ (P + 6) i = -1 → σ (P + 2) i = σ (P + 4) (σ (P + 6) i).toNat := by
  intro i hi e
  have n1 := n.1
  rcases h.2.2.2.2.1 i (by omega) with z | z
  · exact absurd z e
  · exact z.2.2.2
/-- movePast, two patches that follow each other and don't touch -/
theorem mp_c {σ : Sg} {P Q nb na nc : Nat} {b M f a g : List Int} (hP : isPatch P = true) (hQ : isPatch Q = true) (eP : P + 12 < 350 ∨ 376 < P) (eQ : Q + 12 < 350 ∨ 376 < Q) (w : WF σ) (N : NP σ P nb na) (N' : NP σ Q na nc) (hf : ∀ k, k < na → σ (P + 4) k = σ (Q + 2) k) (hn : nb ≤ 96 ∧ na ≤ 96 ∧ nc ≤ 96) (hM : M.length ≤ 96) (hb : b.length = nb) (ha : a.length = nc) (r : mvW (σ (P + 6)) (σ (P + 8)) (σ (Q + 6)) (σ (Q + 8)) (σ (P + 2)) (σ (P + 4)) (σ (Q + 4)) nb na nc (nb + na + nc) 0 0 0 [] [] [] [] [] = (b, M, f, a, g)) : ∃ s, Dd 8 [vA 350, vA P, vA Q] σ (rV s) ∧ FIN8 s (b, M, f, a, g) ∧ WF s ∧ ∀ c x, ¬ (352 ≤ c ∧ c ≤ 361) → ¬ (365 ≤ c ∧ c ≤ 374) → s c x = σ c x := by
  have B : BD (b, M, f, a, g) := ⟨by show b.length ≤ 96; omega, hM, by show a.length ≤ 96; omega⟩
  have B' := B
  rw [← r] at B'
  obtain ⟨s, a1, a2, a3⟩ := d8 (σ := σ) (nb := nb) (na := na) (nc := nc) (F := σ (P + 6)) (K := σ (P + 8)) (G := σ (Q + 6)) (L := σ (Q + 8)) (X := σ (P + 2)) (Y := σ (P + 4)) (Z := σ (Q + 4)) hP hQ eP eQ (by omega) ⟨WF_w w (pat_1 hP), N.1, fun _ _ => rfl⟩ ⟨WF_w w (pat_3 hP), N.2.1, fun _ _ => rfl⟩ ⟨WF_w w (pat_5 hP), N.2.2.1, fun _ _ => rfl⟩ ⟨WF_w w (pat_7 hP), N.2.2.2.1, fun _ _ => rfl⟩ ⟨WF_w w (pat_1 hQ), N'.1, fun i hi => (hf i hi).symm⟩ ⟨WF_w w (pat_3 hQ), N'.2.1, fun _ _ => rfl⟩ ⟨WF_w w (pat_5 hQ), N'.2.2.1, fun _ _ => rfl⟩ ⟨WF_w w (pat_7 hQ), N'.2.2.2.1, fun _ _ => rfl⟩ B'
  rw [r] at a2
  exact ⟨s, a1, a2, FIN8_w w a2 B a3, a3⟩
/-- what the two patches are then -/
theorem FIN8_PO {s : Sg} {b M f a g : List Int} {X Z : Nat → Int} (h : FIN8 s (b, M, f, a, g)) (hM : M.length ≤ 16) (hb : b.length ≤ 16) (ha : a.length ≤ 16) (bv : ∀ (x : Nat) (v : Int), b[x]? = some v → v = X x) (av : ∀ (x : Nat) (v : Int), a[x]? = some v → v = Z x) (lv : ∀ (x : Nat) (v : Int), M[x]? = some v → isLn v = true) (lX : ∀ i, i < b.length → isLn (X i) = true) (lZ : ∀ i, i < a.length → isLn (Z i) = true) : PO s 351 16 ∧ PO s 364 16 := by
  obtain ⟨⟨n1, w1, v1, v2, v3, v4⟩, ⟨n2, w2, u1, u2, u3, u4⟩⟩ := h
  refine ⟨PO_of n1 (by show ((b.length : Nat) : Int) ≤ 16; omega) (by show ((M.length : Nat) : Int) ≤ 16; omega) v4 (fun i hi => ?_) (fun i hi => ?_), PO_of n2 (by show ((M.length : Nat) : Int) ≤ 16; omega) (by show ((a.length : Nat) : Int) ≤ 16; omega) u4 (fun i hi => ?_) (fun i hi => ?_)⟩
  · have hi : i < b.length := hi
    rw [v1 i _ (gv_at hi), bv i _ (gv_at hi)]
    exact lX i hi
  · have hi : i < M.length := hi
    rw [v2 i _ (gv_at hi)]
    exact lv i _ (gv_at hi)
  · have hi : i < M.length := hi
    rw [u1 i _ (gv_at hi)]
    exact lv i _ (gv_at hi)
  · have hi : i < a.length := hi
    rw [u2 i _ (gv_at hi), av i _ (gv_at hi)]
    exact lZ i hi
/-- past -/
theorem o13 {σ : Sg} {c a1 a2 a3 : Int} (H : Rel c σ) : OpR 403 303 [vA 0, vI a1, vI a2, vI a3, vA 726] [vA 682, vI a1, vI a2, vI a3] σ (c + 1) := by
  by_cases g1 : a1 < 0
  · exact x13_0 H g1
  by_cases g2 : σ 0 3 ≤ a1
  · exact x13_1 H g2
  have k1 : 0 ≤ a1 ∧ a1 < σ 0 3 := by omega
  by_cases g3 : a2 < 0
  · exact x13_2 H k1 g3
  by_cases g4 : σ 0 3 ≤ a2
  · exact x13_3 H k1 g4
  have k2 : 0 ≤ a2 ∧ a2 < σ 0 3 := by omega
  obtain ⟨a, rfl⟩ := Int.eq_ofNat_of_zero_le k1.1
  obtain ⟨b, rfl⟩ := Int.eq_ofNat_of_zero_le k2.1
  have hn := (rel_n H).1
  obtain ⟨hP, q1, q2, w1, w3⟩ := po_pat H k1.2
  obtain ⟨nb, na, hb1, hb2, N, S⟩ := po_slot q1 q2 w1 w3
  obtain ⟨hQ, r1, r2, y1, y3⟩ := po_pat H k2.2
  obtain ⟨nb', nc, hb3, hb4, N', S'⟩ := po_slot r1 r2 y1 y3
  have e230 := d230_ok (σ := σ) k1 hn.2.2
  have f230 := d230_ok (σ := σ) k2 hn.2.2
  rw [show ((a : Int)).toNat = a by omega] at e230
  rw [show ((b : Int)).toNat = b by omega] at f230
  have ha24 : a < 24 := by omega
  have hb24 : b < 24 := by omega
  obtain ⟨c1, c2⟩ := d237 hP hQ H.1 N N'
  have m0 : ∀ {s : Sg} {o : Rs}, s 682 3 = σ 682 3 → C303_21 a b a3 none none 1 s o → Dd 303 [vA 682, vI a, vI b, vI a3] s o := by
    intro s o h hh
    refine b303 ⟨_, _, d248_ok (by omega), ?_⟩
    rw [if_neg (show ¬ (1 : Int) = 0 by decide)]
    refine ⟨_, _, d248_ok (by omega), ?_⟩
    rw [if_neg (show ¬ (1 : Int) = 0 by decide)]
    exact hh
  have m104 : ∀ (s : Sg) (d1 d2 d4 d5 : Option AV), C303_104 d1 d2 a3 d4 d5 s (rI 0 (upS s 682 0 2)) := fun s d1 d2 d4 d5 => by
    refine b303_104 (b303_109 ⟨_, _, d245, ?_⟩)
    rw [if_neg (show ¬ (2 : Int) = 0 by decide), if_pos rfl]
  by_cases hf : FLW nb' na (σ (20 + 13 * a + 4)) (σ (20 + 13 * b + 2))
  · have ena := hf.1
    subst ena
    obtain ⟨t1, t2⟩ := d6 hP hQ (WF_w H.1 (pat_9 hP)) (WF_w H.1 (pat_9 hQ)) (PC_of N (by omega) (by omega)) (PC_of N' (by omega) (by omega))
    -- the reference, up to whether they touch
    have m21 : ∀ {s : Sg}, (∀ c k, 682 ≤ c → ¬ c = 726 → s c k = σ c k) → ∃ (z : Int) (σ' : Sg), (z = 0 ∨ z = 1) ∧ (z = 1 ↔ TCH (hks (σ (20 + 13 * a + 6)) nb na) (hks (σ (20 + 13 * b + 6)) na nc)) ∧ (∀ c k, ¬ (700 ≤ c ∧ c ≤ 704) → σ' c k = s c k) ∧ ∀ {o : Rs}, (if z = 0 then C303_51 a b a3 1 none 1 σ' o else C303_50 a b a3 1 none σ' o) → Dd 303 [vA 682, vI a, vI b, vI a3] s o := by
      intro s hs
      have fr0 : ∀ c k, 685 ≤ c ∧ c ≤ 689 → s c k = σ c k := fun c k h => hs c k (by omega) (by omega)
      obtain ⟨z, s2, d1, d2, d3, d4⟩ := d292 (s := a) (t := b) (σ := s) (by omega) (by omega) (by omega) (by omega) (by omega) (by omega) N.2.2.2.2.1 N'.2.2.2.2.1 (Slot_fr fr0 S) (Slot_fr fr0 S')
      refine ⟨z, s2, d2, d3, d4, fun {o} hh => m0 (hs _ _ (by decide) (by decide)) (b303_21 ?_)⟩
      rw [if_neg (show ¬ (1 : Int) = 0 by decide)]
      refine ⟨_, _, (d290 (by omega) (by omega) (by omega) (Slot_fr fr0 S) (Slot_fr fr0 S')).1 hf, ?_⟩
      rw [if_neg (show ¬ (1 : Int) = 0 by decide)]
      exact ⟨_, _, d1, hh⟩
    by_cases tc : TCH (hks (σ (20 + 13 * a + 6)) nb na) (hks (σ (20 + 13 * b + 6)) na nc)
    · -- they touch
      have e6 := t1 tc
      have hA := b403 (x3 := a3) (Or.inr (Or.inr ⟨_, b185 (Or.inl ⟨_, _, e230, hP, Or.inl ⟨_, _, f230, hQ, Or.inl ⟨_, c1 hf, _, _, e6, by
        rw [if_neg (show ¬ (1 : Int) = 0 by decide)]
        exact b185_52 rfl⟩⟩⟩), rfl⟩))
      obtain ⟨z, s2, z1, z2, z3, z4⟩ := m21 (s := σ) (fun _ _ _ _ => rfl)
      refine op_full2 H (kx := 2) (σ1 := σ) (by decide) H.1 (fun _ _ _ _ => rfl) (fun _ _ _ => rfl) hA ⟨upS s2 682 0 2, 0, z4 ?_, up_s, fun x k h => by rw [up_a (by omega)]; exact z3 x k (by omega), fun x k h h' h2 h3 => ?_⟩
      · rw [if_neg (by have := z2.mpr tc; omega)]
        refine b303_50 (b303_51 ?_)
        rw [if_pos rfl]
        refine b303_68 ?_
        rw [if_neg (show ¬ (1 : Int) = 0 by decide), if_pos rfl]
        exact m104 _ _ _ _ _
      · have : upS s2 682 0 2 x k = s2 x k := by unfold upS; rw [if_neg (by omega)]
        rw [this]
        exact z3 x k (by omega)
    · have e6 := t2 tc
      have EX : EQL (σ (20 + 13 * a + 2)) (σ (20 + 13 * a + 4)) (σ (20 + 13 * a + 6)) nb := fun i hi e => GDg N q2 i hi e
      have EY : EQL (σ (20 + 13 * a + 4)) (σ (20 + 13 * b + 4)) (σ (20 + 13 * b + 6)) na := fun i hi e => by
        rw [hf.2 i hi]
        exact GDg N' r2 i hi e
      have lX : ∀ i, i < nb → isLn (σ (20 + 13 * a + 2) i) = true := fun i hi => q2.2.2.2.2.2.2.2.1 i (by rw [N.1]; omega)
      have lZ : ∀ i, i < nc → isLn (σ (20 + 13 * b + 4) i) = true := fun i hi => r2.2.2.2.2.2.2.2.2.1 i (by rw [N'.2.1]; omega)
      have pass : ∀ (s : Sg), (∀ c k, 685 ≤ c ∧ c ≤ 689 → s c k = σ c k) → _ := fun s hs => d297 (σ := s) (s := a) (t := b) (K := σ (20 + 13 * a + 8)) (L := σ (20 + 13 * b + 8)) (Y := σ (20 + 13 * a + 4)) (by omega) (by omega) (by omega) (by omega) (by omega) (by omega) N.2.2.2.2.1 N'.2.2.2.2.1 N.2.2.2.2.2.1 N'.2.2.2.2.2.1 EX EY lX lZ tc (Slot_fr hs S) (Slot_fr hs S')
      obtain ⟨b', M, f, a', g, u1, u2, u3, u4, u5, u6, u7, u8, u9, -⟩ := pass σ (fun _ _ _ => rfl)
      have e7 : Dd 7 [vA 350, vA (20 + 13 * a), vA (20 + 13 * b)] σ (rI (M.length : Nat) σ) := by
        have p1 := d146 (σ := σ) (pat_1 hP)
        rw [N.1] at p1
        have p2 := d146 (σ := σ) (pat_3 hQ)
        rw [N'.2.1] at p2
        have p3 := d146 (σ := σ) (pat_1 hQ)
        rw [N'.1] at p3
        refine b7 hP hQ ⟨_, _, p1, _, _, p2, by omega, _, _, p3, by omega, ?_⟩
        rw [show ((nb : Nat) : Int) + ((nc : Nat) : Int) - ((na : Nat) : Int) = ((M.length : Nat) : Int) by omega]
      -- the reference, past the passing
      have mP : ∀ {s : Sg}, (∀ c k, 682 ≤ c → ¬ c = 726 → s c k = σ c k) → ∃ s3, (∀ {o : Rs}, C303_68 (some (vI a)) (some (vI b)) a3 1 1 s3 o → Dd 303 [vA 682, vI a, vI b, vI a3] s o) ∧ Slot s3 39 nb M.length (σ (20 + 13 * a + 2)) (gv M) (gv f) ∧ Slot s3 40 M.length nc (gv M) (σ (20 + 13 * b + 4)) (gv g) ∧ ∀ c x, ¬ c = 690 → ¬ (700 ≤ c ∧ c ≤ 704) → ¬ (685 ≤ c ∧ c ≤ 687 ∧ 3900 ≤ x ∧ x < 4100) → ¬ ((c = 688 ∨ c = 689) ∧ (x = 39 ∨ x = 40)) → s3 c x = s c x := by
        intro s hs
        obtain ⟨z, s2, z1, z2, z3, z4⟩ := m21 hs
        have hz : z = 0 := by
          rcases z1 with e | e
          · exact e
          · exact absurd (z2.mp e) tc
        obtain ⟨b2, M2, f2, a2, g2, v1, -, -, -, -, -, -, -, -, s3, v2, v3, v4, v5⟩ := pass s2 (fun c k h => by rw [z3 c k (by omega)]; exact hs c k (by omega) (by omega))
        rw [u1] at v1
        cases v1
        refine ⟨s3, fun {o} hh => z4 ?_, v3, v4, fun c x h1 h2 h3 h4 => by rw [v5 c x h1 h2 h3 h4]; exact z3 c x h2⟩
        rw [if_pos hz]
        refine b303_51 ?_
        rw [if_neg (show ¬ (1 : Int) = 0 by decide)]
        exact ⟨s3, v2, hh⟩
      by_cases g5 : 16 < M.length
      · -- the text between would be too long
        have hA := b403 (x3 := a3) (Or.inr (Or.inr ⟨_, b185 (Or.inl ⟨_, _, e230, hP, Or.inl ⟨_, _, f230, hQ, Or.inl ⟨_, c1 hf, _, _, e6, by
          rw [if_pos rfl]
          refine ⟨_, _, e7, ?_⟩
          rw [if_pos (by omega)]
          exact b185_52 rfl⟩⟩⟩), rfl⟩))
        obtain ⟨s3, v1, v2, v3, v4⟩ := mP (s := σ) (fun _ _ _ _ => rfl)
        refine op_full2 H (kx := 2) (σ1 := σ) (by decide) H.1 (fun _ _ _ _ => rfl) (fun _ _ _ => rfl) hA ⟨upS s3 682 0 2, 0, v1 (b303_68 ?_), up_s, fun x k h => by rw [up_a (by omega)]; exact v4 x k (by omega) (by omega) (by omega) (by omega), fun x k h h' h2 h3 => ?_⟩
        · rw [if_neg (show ¬ (1 : Int) = 0 by decide), if_neg (show ¬ (1 : Int) = 0 by decide), show ((39 : Int)).toNat = 39 from rfl, v2.2.1, if_neg (by omega)]
          exact m104 _ _ _ _ _
        · have : upS s3 682 0 2 x k = s3 x k := by unfold upS; rw [if_neg (by omega)]
          rw [this]
          exact v4 x k (by omega) (by omega) (by omega) (by omega)
      obtain ⟨s8, a1', a2', W8, a4'⟩ := mp_c hP hQ (by omega) (by omega) H.1 N N' hf.2 (by omega) (by omega) u2 u5 u1
      obtain ⟨po1, po2⟩ := FIN8_PO a2' (by omega) (by omega) (by omega) u7 u8 u9 (by rw [u2]; exact lX) (by rw [u5]; exact lZ)
      have F1 : ∀ a k, a < 682 → KP a k → s8 a k = σ a k := fun a k h1 h2 => a4' a k (by omega) (by omega)
      have G1 : ∀ a k, 682 ≤ a → s8 a k = σ a k := fun a k h1 => a4' a k (by omega) (by omega)
      have fin : ∀ (Q y n1 n2 : Nat) (O T F' : Nat → Int), isPatch Q = true → 332 ≤ Q → (y = 39 ∨ y = 40) → Dd 2 [vA 350, vI a3] s8 (rA Q s8) → PO s8 Q 16 → s8 (Q + 1) 1 = (n1 : Nat) → s8 (Q + 3) 1 = (n2 : Nat) → n1 ≤ 16 → n2 ≤ 16 → (if a3 = 0 then (40 : Int) else 39) = (y : Nat) → (∀ i, i < n1 → O i = s8 (Q + 2) i) → (∀ i, i < n2 → T i = s8 (Q + 4) i) → (∀ i, i < n1 → F' i = s8 (Q + 6) i) → (∀ s3, Slot s3 39 nb M.length (σ (20 + 13 * a + 2)) (gv M) (gv f) → Slot s3 40 M.length nc (gv M) (σ (20 + 13 * b + 4)) (gv g) → Slot s3 y n1 n2 O T F') → OpR 403 303 [vA 0, vI a, vI b, vI a3, vA 726] [vA 682, vI a, vI b, vI a3] σ (c + 1) := by
        intro Q y n1 n2 O T F' hQQ hQ2 hy e2 PQ k1' k2' m1 m2 ey hO hT hF hSl
        by_cases g6 : σ 0 3 < 24
        · obtain ⟨p, hp⟩ := Int.eq_ofNat_of_zero_le hn.2.1
          refine op_st2 H hp (by omega) hQQ hQ2 W8 F1 G1 PQ k1' k2' (fun s hs => b403 (Or.inl ⟨_, _, b185 (Or.inl ⟨_, _, e230, hP, Or.inl ⟨_, _, f230, hQ, Or.inl ⟨_, c1 hf, _, _, e6, by
            rw [if_pos rfl]
            refine ⟨_, _, e7, ?_⟩
            rw [if_neg (by omega)]
            exact ⟨s8, a1', Q, s8, e2, hQQ, Or.inl ⟨_, _, hs, rfl⟩⟩⟩⟩⟩), rfl⟩)) (fun s hs => ?_)
          obtain ⟨s3, v1, v2, v3, v4⟩ := mP hs
          have SL := hSl s3 v2 v3
          have e3 : s3 682 3 = (p : Nat) := by rw [v4 _ _ (by decide) (by decide) (by decide) (by decide), hs _ _ (by decide) (by decide), hn.1, hp]
          have e3' : upS s3 682 0 0 682 3 = (p : Nat) := by rw [up_k (by decide)]; exact e3
          have S5 : Slot (upS s3 682 0 0) y n1 n2 O T F' := Slot_fr (fun c k h => by rw [up_a (by omega)]) SL
          have S6 : Slot (cpyS (upS s3 682 0 0) y p) p n1 n2 O T F' := Slot_cpy (by omega) (by omega) S5
          refine ⟨upS (cpyS (upS s3 682 0 0) y p) 682 3 ((p : Int) + 1), v1 (b303_68 ?_), ?_, up_s, fun x k h => ?_, fun x k h1 h2 h3 h4 h5 h6 h7 h8 => ?_, ?_⟩
          · rw [if_neg (show ¬ (1 : Int) = 0 by decide), if_neg (show ¬ (1 : Int) = 0 by decide), show ((39 : Int)).toNat = 39 from rfl, v2.2.1, if_pos (by omega), e3, if_neg (by omega)]
            refine b303_109 ⟨_, _, d245, ?_⟩
            rw [if_pos rfl, if_neg (show ¬ (1 : Int) = 0 by decide), ey]
            exact b303_129 ⟨_, _, d289_ok (by omega) e3' (by omega), rfl⟩
          · rw [up_k (by decide), cpy_out (by omega) (by omega), up_s]
          · rw [up_a (by omega), cpy_out (by omega) (by omega), up_a (by omega)]
            exact v4 x k (by omega) (by omega) (by omega) (by omega)
          · have : upS (cpyS (upS s3 682 0 0) y p) 682 3 ((p : Int) + 1) x k = cpyS (upS s3 682 0 0) y p x k := by unfold upS; rw [if_neg h4]
            rw [this, cpy_out h5 h6]
            have : upS s3 682 0 0 x k = s3 x k := by unfold upS; rw [if_neg (by omega)]
            rw [this, v4 x k (by omega) (by omega) (by omega) (by omega)]
            exact hs x k h1 (by omega)
          · exact Slot_fr (fun c k h => by rw [up_a (by omega)]) (Slot_cg (fun i hi => (hO i hi).symm) (fun i hi => (hT i hi).symm) (fun i hi => (hF i hi).symm) S6)
        · have hfull : Dd 242 [vA 0, vA Q] s8 (rX 2 s8) := d242_full (by rw [F1 0 3 (by decide) (kq_P (by omega))]; exact g6)
          have hA := b403 (x3 := a3) (Or.inr (Or.inr ⟨_, b185 (Or.inl ⟨_, _, e230, hP, Or.inl ⟨_, _, f230, hQ, Or.inl ⟨_, c1 hf, _, _, e6, by
            rw [if_pos rfl]
            refine ⟨_, _, e7, ?_⟩
            rw [if_neg (by omega)]
            exact ⟨s8, a1', Q, s8, e2, hQQ, Or.inr ⟨_, _, hfull, rfl⟩⟩⟩⟩⟩), rfl⟩))
          obtain ⟨s3, v1, v2, v3, v4⟩ := mP (s := s8) (fun x k h _ => G1 x k h)
          have e3 : s3 682 3 = 24 := by
            rw [v4 _ _ (by decide) (by decide) (by decide) (by decide), G1 _ _ (by decide)]
            omega
          refine op_full2 H (kx := 2) (σ1 := s8) (by decide) W8 F1 G1 hA ⟨upS s3 682 0 2, 0, v1 (b303_68 ?_), up_s, fun x k h => by rw [up_a (by omega)]; exact v4 x k (by omega) (by omega) (by omega) (by omega), fun x k h h' h2 h3 => ?_⟩
          · rw [if_neg (show ¬ (1 : Int) = 0 by decide), if_neg (show ¬ (1 : Int) = 0 by decide), show ((39 : Int)).toNat = 39 from rfl, v2.2.1, if_pos (by omega), e3, if_pos rfl]
            exact m104 _ _ _ _ _
          · have : upS s3 682 0 2 x k = s3 x k := by unfold upS; rw [if_neg (by omega)]
            rw [this, v4 x k (by omega) (by omega) (by omega) (by omega)]
            exact G1 x k h
      obtain ⟨⟨f1, -, f3, f4, f5, -⟩, ⟨f7, -, f9, f10, f11, -⟩⟩ := a2'
      by_cases g7 : a3 = 0
      · refine fin 364 40 M.length nc (gv M) (σ (20 + 13 * b + 4)) (gv g) WDp364.1 (by decide) (Or.inr rfl) (b2 (by rw [if_pos g7])) po2 f7.1 (by rw [f7.2.1]; exact congrArg _ u5) (by omega) hb4 (by rw [if_pos g7]; rfl) (fun i hi => (f9 i _ (gv_at hi)).symm) (fun i hi => ?_) (fun i hi => (f11 i _ (gv_at (by show i < g.length; omega))).symm) (fun s3 _ h => h)
        have hi' : i < a'.length := by omega
        rw [f10 i _ (gv_at hi'), u8 i _ (gv_at hi')]
      · refine fin 351 39 nb M.length (σ (20 + 13 * a + 2)) (gv M) (gv f) WDp351.1 (by decide) (Or.inl rfl) (b2 (by rw [if_neg g7])) po1 (by rw [f1.1]; exact congrArg _ u2) f1.2.1 hb1 (by omega) (by rw [if_neg g7]; rfl) (fun i hi => ?_) (fun i hi => (f4 i _ (gv_at hi)).symm) (fun i hi => (f5 i _ (gv_at (by show i < f.length; omega))).symm) (fun s3 h _ => h)
        have hi' : i < b'.length := by omega
        rw [f3 i _ (gv_at hi'), u7 i _ (gv_at hi')]
  · refine op_x H (kx := 2) (b := 0) (by decide) (b403 (Or.inr (Or.inr ⟨_, b185 (Or.inl ⟨_, _, e230, hP, Or.inl ⟨_, _, f230, hQ, Or.inr ⟨_, _, c2 hf, rfl⟩⟩⟩), rfl⟩))) (m0 rfl (b303_21 ?_))
    rw [if_neg (show ¬ (1 : Int) = 0 by decide)]
    refine ⟨_, _, (d290 (by omega) (by omega) (by omega) S S').2 hf, ?_⟩
    rw [if_pos rfl]
    refine b303_50 (b303_51 ?_)
    rw [if_pos rfl]
    refine b303_68 ?_
    rw [if_neg (show ¬ (1 : Int) = 0 by decide), if_pos rfl]
    exact m104 _ _ _ _ _
end
