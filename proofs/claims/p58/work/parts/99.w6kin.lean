/-! movedTo. -/
noncomputable section
theorem gst_no {O N F K : Nat → Int} {nb na p n : Nat} {s : Int × Nat × Nat} (h : ¬ knB O N F K nb na p n = true) : gst O N F K nb na p n s = s := by
  unfold gst
  rw [if_neg h]
theorem gfo_no {O N F K : Nat → Int} {nb na p : Nat} : ∀ (e d n : Nat) (s : Int × Nat × Nat), (∀ x, x < e → ¬ knB O N F K nb na p (n + x) = true) → gfo O N F K nb na p (e + d) n s = gfo O N F K nb na p d (n + e) s := by
  intro e
  induction e with
  | zero => intro d n s _; rw [Nat.zero_add, Nat.add_zero]
  | succ e ih =>
    intro d n s h
    rw [show e + 1 + d = (e + d) + 1 by omega]
    show gfo O N F K nb na p (e + d) (n + 1) (gst O N F K nb na p n s) = _
    have h0 : ¬ knB O N F K nb na p n = true := h 0 (by omega)
    rw [gst_no h0, ih d (n + 1) s (fun x hx => by rw [show n + 1 + x = n + (x + 1) by omega]; exact h (x + 1) (by omega)), show n + 1 + e = n + (e + 1) by omega]
/-- a line that has its partner could be no other -/
theorem kn_pr {O N F K : Nat → Int} {nb na p n x : Nat} (I : IV F K nb na) (hx : x < nb) (h : F x = (n : Int)) : ¬ knB O N F K nb na p n = true := fun e => by
  have z := (knB_i.mp e).2.2.2.2.1
  rw [IV_at I hx h] at z
  omega
/-- all new lines of a hunk -/
theorem l314h {σ0 : Sg} {s nb na p hp h : Nat} {O N F K : Nat → Int} {l : List St} {o d n a o' d' n' a' : Nat} (C : CXK σ0 s nb na p hp O N F K l o d n a) (hq : l[h]? = some (o', d', n', a')) : ∀ (w x : Nat) (st : Int × Nat × Nat) (x5 x6 : Int) (σ : Sg), x + w = n' + a' → n' ≤ x → SB st → RLk p st x5 x6 → Sm σ0 σ → Zl σ → ∃ (st' : Int × Nat × Nat) (x5' x6' : Int) (σ' : Sg), (∀ e, gfo O N F K nb na p (w + e) x st = gfo O N F K nb na p e (n' + a') st') ∧ SB st' ∧ RLk p st' x5' x6' ∧ Sm σ0 σ' ∧ Zl σ' ∧ ∀ {u : Rs}, (∀ d9 d10 d11 d12 d13 d14 d15 : Option AV, C314_22 s p hp (st'.2.2 : Nat) x5' x6' st'.1 ((h + 1 : Nat) : Int) d9 d10 d11 d12 d13 d14 d15 σ' u) → ∀ d10 d11 d12 d13 d14 d15 : Option AV, C314_47 s p hp (st.2.2 : Nat) x5 x6 st.1 h x d10 d11 d12 d13 d14 d15 σ u := by
  have CC := C
  obtain ⟨c1, c2, c3, c4, c5, c6, c7, c8, c9, c10, c11, c12, c13, c14⟩ := C
  obtain ⟨f1, f2, f3, f4, f5, f6, f7⟩ := DS_nb c8 c9 hq
  have hlh := (List.getElem?_eq_some_iff.mp hq).1
  intro w
  induction w with
  | zero =>
    intro x st x5 x6 σ hx hx2 hs hR sm Z
    refine ⟨st, x5, x6, σ, fun e => by rw [Nat.zero_add, show x = n' + a' by omega], hs, hR, sm, Z, fun {u} hu d10 d11 d12 d13 d14 d15 => b314_47 ?_⟩
    obtain ⟨-, -, v2, v3⟩ := HK_at c6 hq
    have v2 : σ 702 h = (n' : Nat) := by rw [sm _ _ (by decide)]; exact v2
    have v3 : σ 703 h = (a' : Nat) := by rw [sm _ _ (by decide)]; exact v3
    rw [tn, v2, v3, show (h : Int) + 1 = ((h + 1 : Nat) : Int) by omega]
    refine ⟨by omega, by omega, by omega, ?_⟩
    rw [if_neg (by omega)]
    exact ⟨by omega, hu _ _ _ _ _ _ _⟩
  | succ w ih =>
    intro x st x5 x6 σ hx hx2 hs hR sm Z
    obtain ⟨σ1, y5, y6, a1, a2, a3, a4⟩ := l314n CC hq (x := x) ⟨hx2, by omega⟩ hs hR sm Z
    obtain ⟨st', z5, z6, σ', g1, g2, g3, g4, g5, g6⟩ := ih (x + 1) (gst O N F K nb na p x st) y5 y6 σ1 (by omega) (by omega) (gst_SB (by omega) (by omega) hs) a3 a1 a2
    refine ⟨st', z5, z6, σ', fun e => ?_, g2, g3, g4, g5, fun {u} hu => a4 (fun d10 d11 d12 d13 d14 d15 => b314_385 ⟨by omega, ?_⟩)⟩
    · rw [show w + 1 + e = (w + e) + 1 by omega]
      show gfo O N F K nb na p (w + e) (x + 1) (gst O N F K nb na p x st) = _
      exact g1 e
    · rw [show (x : Int) + 1 = ((x + 1 : Nat) : Int) by omega]
      exact g6 hu _ _ _ _ _ _
/-- all hunks -/
theorem l314 {σ0 : Sg} {s nb na p hp : Nat} {O N F K : Nat → Int} {l : List St} {o d n a : Nat} (C : CXK σ0 s nb na p hp O N F K l o d n a) : ∀ (w h i j e : Nat) (st : Int × Nat × Nat) (x5 x6 : Int) (σ : Sg), h + w = l.length → DS F nb na (l.drop h) i j e → SB st → RLk p st x5 x6 → Sm σ0 σ → Zl σ → ∃ σ', Sm σ0 σ' ∧ Zl σ' ∧ ∀ d9 d10 d11 d12 d13 d14 d15 : Option AV, C314_22 s p hp (st.2.2 : Nat) x5 x6 st.1 h d9 d10 d11 d12 d13 d14 d15 σ (rI (gfo O N F K nb na p (na - j) j st).1 σ') := by
  have CC := C
  obtain ⟨c1, c2, c3, c4, c5, c6, c7, c8, c9, c10, c11, c12, c13, c14⟩ := C
  intro w
  induction w with
  | zero =>
    intro h i j e st x5 x6 σ hh D hs hR sm Z
    have eh : h = l.length := by omega
    rw [eh, List.drop_length] at D
    obtain ⟨d1, d2, d3, d4⟩ := D
    have eg : gfo O N F K nb na p (na - j) j st = st := by
      have z := gfo_no (O := O) (N := N) (F := F) (K := K) (nb := nb) (na := na) (p := p) (na - j) 0 j st (fun x hx => kn_pr (x := i + x) c9 (by omega) (by rw [d4 (i + x) (by omega) (by omega)]; congr 1; omega))
      rw [Nat.add_zero] at z
      rw [z]
      rfl
    refine ⟨σ, sm, Z, fun d9 d10 d11 d12 d13 d14 d15 => b314_22 ?_⟩
    rw [show ((0 : Int)).toNat = 0 from rfl, sm _ _ (by decide), c7, if_neg (by omega), eg]
  | succ w ih =>
    intro h i j e st x5 x6 σ hh D hs hR sm Z
    have hlt : h < l.length := by omega
    obtain ⟨q, hq⟩ : ∃ q, l[h]? = some q := ⟨l[h], List.getElem?_eq_getElem hlt⟩
    have hd : l.drop h = q :: l.drop (h + 1) := by
      rw [List.drop_eq_getElem_cons hlt]
      rw [List.getElem?_eq_getElem hlt] at hq
      rw [Option.some.inj hq]
    rw [hd] at D
    have bb := (DS_b _ _ _ _ D).2.2 q List.mem_cons_self
    obtain ⟨o', d', n', a'⟩ := q
    obtain ⟨v1, v2, v3, v4, v5, v6⟩ := D
    have w1 : i + e ≤ o' := v1
    have w2 : n' = j + (o' - i) := v2
    have w3 : ∀ x, i ≤ x → x < o' → F x = ((j + (x - i) : Nat) : Int) := v3
    have w6 : DS F nb na (l.drop (h + 1)) (o' + d') (n' + a') 1 := v6
    have b1 : o' + d' ≤ nb := bb.2.1
    have b2 : n' + a' ≤ na := bb.2.2.2
    obtain ⟨st', y5, y6, σ1, g1, g2, g3, g4, g5, g6⟩ := l314h CC hq a' n' st x5 x6 σ rfl (Nat.le_refl _) hs hR sm Z
    obtain ⟨σ', k1, k2, k3⟩ := ih (h + 1) (o' + d') (n' + a') 1 st' y5 y6 σ1 (by omega) w6 g2 g3 g4 g5
    refine ⟨σ', k1, k2, fun d9 d10 d11 d12 d13 d14 d15 => b314_22 ?_⟩
    have eg : gfo O N F K nb na p (na - j) j st = gfo O N F K nb na p (na - (n' + a')) (n' + a') st' := by
      have z := gfo_no (O := O) (N := N) (F := F) (K := K) (nb := nb) (na := na) (p := p) (n' - j) (a' + (na - (n' + a'))) j st (fun x hx => kn_pr (x := i + x) c9 (by omega) (by rw [w3 (i + x) (by omega) (by omega)]; congr 1; omega))
      rw [show n' - j + (a' + (na - (n' + a'))) = na - j by omega, show j + (n' - j) = n' by omega] at z
      rw [z]
      exact g1 _
    obtain ⟨-, -, x2, -⟩ := HK_at c6 hq
    have x2 : σ 702 h = (n' : Nat) := by rw [sm _ _ (by decide)]; exact x2
    rw [show ((0 : Int)).toNat = 0 from rfl, sm _ _ (by decide), c7, if_pos (by omega), if_neg (by omega), tn, x2, eg]
    exact ⟨by omega, g6 k3 _ _ _ _ _ _⟩
/-- movedPlace -/
theorem d315 {σ : Sg} {s nb na p : Nat} {O N F K : Nat → Int} (hs : s < 44) (hb : nb ≤ 99) (ha : na ≤ 16) (V : VF F nb na) (I : IV F K nb na) (lO : ∀ i, i < nb → isLn (O i) = true) (lN : ∀ i, i < na → isLn (N i) = true) (S : Slot σ s nb na O N F) (hp : p < nb) (Z : Zl σ) : ∃ σ', Dd 315 [vA 682, vI s, vI p] σ (rI (goalZ O N F K nb na p) σ') ∧ Zl σ' ∧ HK σ' 0 0 (hks F nb na) ∧ σ' 704 0 = ((hks F nb na).length : Nat) ∧ ∀ c k, ¬ c = 695 → ¬ (700 ≤ c ∧ c ≤ 704) → σ' c k = σ c k := by
  have hlen := hks_len V
  have D := DS_0 V
  obtain ⟨s1, a1, a2, a3, a4, a5⟩ := d280 (s := s) (wh := 0) (f := F) (σ := σ) hs (by decide) (by omega) (by omega) V S.1 S.2.1 S.2.2.2.2
  obtain ⟨l, hl⟩ : ∃ l, l = hks F nb na := ⟨_, rfl⟩
  rw [← hl] at a1 a2 a3 a4 D hlen
  rw [← hl]
  have S1 : Slot s1 s nb na O N F := Slot_fr (fun c k h => a5 c k (by omega) (by omega)) S
  have Z1 : Zl s1 := Zl_fr (fun k => a5 _ _ (by omega) (by omega)) Z
  obtain ⟨v, b1, b2⟩ := d312 (p := p) a2 (by omega) a3 (by omega) (fun h q hq => by
    have z := (DS_b _ _ _ _ D).2.2 q (List.mem_of_getElem? hq)
    omega)
  rcases b2 with ⟨e1, e2⟩ | ⟨h, q, e1, e2, e3, e4⟩
  · -- no hunk drops the line
    have hF : ¬ F p = -1 := fun e => by
      obtain ⟨h, q, w1, w2, w3⟩ := DS_oc l 0 0 0 p D (Nat.zero_le _) hp e
      exact e2 h q w1 ⟨w2, w3⟩
    have eg : goalZ O N F K nb na p = -1 := by
      unfold goalZ
      have z := gfo_no (O := O) (N := N) (F := F) (K := K) (nb := nb) (na := na) (p := p) na 0 0 (-1, 0, 1) (fun x _ hh => hF (knB_i.mp hh).2.2.2.1)
      rw [Nat.add_zero] at z
      rw [z]
      rfl
    refine ⟨s1, b315 ⟨_, s1, a1, _, s1, b314 ⟨v, s1, b1, ?_⟩, rfl⟩, Z1, a2, a3, fun c k _ h2 => a5 c k (by omega) (by omega)⟩
    rw [e1, eg]
    refine b314_22 ?_
    by_cases y : (0 : Int) < s1 704 ((0 : Int)).toNat
    · rw [if_pos y, if_pos rfl]
    · rw [if_neg y]
  · obtain ⟨o, d, n, a⟩ := q
    have C : CXK s1 s nb na p h O N F K l o d n a := ⟨hs, hb, ha, by omega, S1, a2, a3, D, I, lO, lN, e2, e3, e4⟩
    obtain ⟨σ', k1, k2, k3⟩ := l314 C l.length 0 0 0 0 (-1, 0, 1) 0 0 s1 (by omega) D ⟨by decide, by decide, by decide, by decide⟩ (Or.inl ⟨rfl, rfl, rfl, rfl⟩) Sm_r Z1
    refine ⟨σ', b315 ⟨_, s1, a1, _, σ', b314 ⟨v, s1, b1, ?_⟩, rfl⟩, k2, fun h' q' hq' => by rw [k1 _ _ (by decide), k1 _ _ (by decide), k1 _ _ (by decide), k1 _ _ (by decide)]; exact a2 h' q' hq', by rw [k1 _ _ (by decide)]; exact a3, fun c k h1 h2 => by rw [k1 c k h1]; exact a5 c k (by omega) (by omega)⟩
    rw [e1]
    exact k3 _ _ _ _ _ _ _
/-- destination -/
theorem d114 {σ : Sg} {P nb na p : Nat} (hP : isPatch P = true) (w : WF σ) (N : NP σ P nb na) (hb : nb ≤ 100) (ha : na ≤ 100) (lO : ∀ i, i < nb → isLn (σ (P + 2) i) = true) (lN : ∀ i, i < na → isLn (σ (P + 4) i) = true) (c11 : nb ≤ cap (P + 11)) (hp : p ≤ 100) : ∃ s, Dd 114 [vA P, vI p] σ (rI (goalZ (σ (P + 2)) (σ (P + 4)) (σ (P + 6)) (σ (P + 8)) nb na p) s) ∧ WF s ∧ KIN s P nb na (σ (P + 2)) (σ (P + 4)) (σ (P + 6)) (σ (P + 8)) ∧ ∀ c k, ¬ c = P + 11 → ¬ c = P + 12 → s c k = σ c k := by
  have V : RVs σ P nb na (σ (P + 2)) (σ (P + 4)) (σ (P + 6)) (σ (P + 8)) := ⟨⟨WF_w w (pat_1 hP), N.1, fun _ _ => rfl⟩, ⟨WF_w w (pat_3 hP), N.2.1, fun _ _ => rfl⟩, ⟨WF_w w (pat_5 hP), N.2.2.1, fun _ _ => rfl⟩, ⟨WF_w w (pat_7 hP), N.2.2.2.1, fun _ _ => rfl⟩⟩
  obtain ⟨s, a1, a2, a3, a4⟩ := d115 hP V hb ha lO lN c11
  have V' : RVs s P nb na (σ (P + 2)) (σ (P + 4)) (σ (P + 6)) (σ (P + 8)) := RVs_fr (fun c k h => a4 c k (by omega) (by omega)) V
  have KI : KIN s P nb na (σ (P + 2)) (σ (P + 4)) (σ (P + 6)) (σ (P + 8)) := ⟨V', ⟨pat_11 hP, by rw [a2]; omega⟩, a2, a3⟩
  refine ⟨s, b114 hP ⟨s, a1, _, _, d117 hP KI hb ha hp, rfl⟩, fun x hx => ?_, KI, a4⟩
  by_cases y : x = P + 11
  · rw [y, a2]; omega
  · rw [a4 x 1 y (row_nx (pat_11 hP) hx)]
    exact w x hx
/-- nothing that the relation speaks of lies in a patch's row of likenesses -/
theorem Rel_kin {σ s : Sg} {c : Int} {a : Nat} (ha : a < 24) (w : WF s) (h : ∀ x k, ¬ (20 + 13 * a + 11 ≤ x ∧ x ≤ 20 + 13 * a + 12) → s x k = σ x k) (H : Rel c σ) : Rel c s := by
  obtain ⟨h1, h2, h3, h4, h5, h6, h7, h8, h9⟩ := H
  obtain ⟨p1, p2, p3, p4⟩ := h5
  have e0 := h 0 3 (by omega)
  have e1 := h 682 3 (by omega)
  refine ⟨w, Zl_fr (fun k => h _ _ (by omega)) h2, RT_fr (fun x k hx => h x k (by omega)) h3, RB_fr (fun x k hx => h x k (by omega)) h4, ⟨by omega, by omega, by omega, fun p hp => ?_⟩, RSt_fr (Int.le_refl _) (fun x k hx => h x k (by omega)) h6, RU_fr (fun x k hx => h x k (by omega)) h7, RF_fr (fun x k hx => h x k (by omega)) h8, RD_fr (fun x k hx => h x k (by omega)) h9⟩
  rw [e0] at hp
  obtain ⟨g1, g2⟩ := p4 p hp
  exact ⟨PR_fr (fun x k hx => h x k (by omega)) (fun x k hx => h x k (by omega)) g1, PO_fr (fun x k hx => h x k (by omega)) g2⟩
/-- movedTo -/
theorem o20 {σ : Sg} {c a1 a2 : Int} (H : Rel c σ) : OpR 409 316 [vA 0, vI a1, vI a2, vA 726] [vA 682, vI a1, vI a2] σ (c + 1) := by
  by_cases g1 : a1 < 0
  · exact x20_0 H g1
  by_cases g2 : σ 0 3 ≤ a1
  · exact x20_1 H g2
  have k1 : 0 ≤ a1 ∧ a1 < σ 0 3 := by omega
  by_cases g3 : a2 < 0
  · exact x20_2 H k1 g3
  by_cases g4 : σ ((20 + 13 * ((a1)).toNat) + 1) 1 ≤ a2
  · exact x20_3 H k1 g4
  obtain ⟨a, rfl⟩ := Int.eq_ofNat_of_zero_le k1.1
  obtain ⟨p, rfl⟩ := Int.eq_ofNat_of_zero_le (show 0 ≤ a2 by omega)
  rw [tn] at g4
  have hn := (rel_n H).1
  obtain ⟨hP, q1, q2, w1, w3⟩ := po_pat H k1.2
  obtain ⟨nb, na, hb1, hb2, N, S⟩ := po_slot q1 q2 w1 w3
  rw [N.1] at g4
  have e230 := d230_ok (σ := σ) k1 hn.2.2
  rw [show ((a : Int)).toNat = a by omega] at e230
  have ha24 : a < 24 := by omega
  have lX : ∀ i, i < nb → isLn (σ (20 + 13 * a + 2) i) = true := fun i hi => q2.2.2.2.2.2.2.2.1 i (by rw [N.1]; omega)
  have lZ : ∀ i, i < na → isLn (σ (20 + 13 * a + 4) i) = true := fun i hi => q2.2.2.2.2.2.2.2.2.1 i (by rw [N.2.1]; omega)
  have c11 : nb ≤ cap (20 + 13 * a + 11) := by
    have := (cpP (p := a) ha24).2.2.2.2.2.1
    omega
  obtain ⟨s1, b1, W1, -, b4⟩ := d114 (p := p) hP H.1 N (by omega) (by omega) lX lZ c11 (by omega)
  obtain ⟨v, hv⟩ : ∃ v, v = goalZ (σ (20 + 13 * a + 2)) (σ (20 + 13 * a + 4)) (σ (20 + 13 * a + 6)) (σ (20 + 13 * a + 8)) nb na p := ⟨_, rfl⟩
  rw [← hv] at b1
  have e146 := d146 (σ := σ) (pat_1 hP)
  rw [N.1] at e146
  have hA := b409 (Or.inl ⟨_, _, b192 (Or.inl ⟨_, _, e230, hP, _, _, e146, Or.inl ⟨_, d232_ok (by omega), _, _, b1, rfl⟩⟩), rfl⟩)
  have hs1 : ∀ c k, 682 ≤ c → ¬ c = 726 → upS s1 726 ((0 : Int).toNat) v c k = σ c k := fun c k h1 h2 => by
    rw [up_a h2]
    exact b4 c k (by omega) (by omega)
  obtain ⟨s2, hs2⟩ : ∃ s2, s2 = upS (upS s1 726 ((0 : Int).toNat) v) 682 0 0 := ⟨_, rfl⟩
  have fr2 : ∀ c k, 682 ≤ c → ¬ c = 726 → ¬ (c = 682 ∧ k = 0) → s2 c k = σ c k := fun c k h1 h2 h3 => by
    have : s2 c k = upS s1 726 ((0 : Int).toNat) v c k := by
      rw [hs2]
      unfold upS
      rw [if_neg h3]
    rw [this]
    exact hs1 c k h1 h2
  have S2 : Slot s2 a nb na (σ (20 + 13 * a + 2)) (σ (20 + 13 * a + 4)) (σ (20 + 13 * a + 6)) := Slot_fr (fun c k h => fr2 c k (by omega) (by omega) (by omega)) S
  obtain ⟨s3, d1, d2, -, -, d5⟩ := d315 (σ := s2) (s := a) (p := p) (by omega) (by omega) hb2 N.2.2.2.2.1 N.2.2.2.2.2.1 lX lZ S2 (by omega) (Zl_fr (fun k => fr2 _ _ (by decide) (by decide) (by omega)) H.2.1)
  rw [← hv] at d1
  have hB : Dd 316 [vA 682, vI a, vI p] (upS s1 726 ((0 : Int).toNat) v) (rI v s3) := by
    have e3 := hs1 682 3 (by decide) (by decide)
    have e8 := hs1 688 a (by decide) (by decide)
    refine b316 ⟨1, s2, b308 ⟨_, _, d248_ok (by rw [e3]; omega), ?_⟩, ?_⟩
    · rw [if_neg (show ¬ (1 : Int) = 0 by decide), tn, e8, S.1]
      refine ⟨by omega, _, _, d246, ?_⟩
      rw [if_pos (show 0 ≤ (p : Int) ∧ (p : Int) < ((nb : Nat) : Int) by omega), if_neg (show ¬ (1 : Int) = 0 by decide)]
      refine b308_27 ⟨_, _, d245, ?_, ?_⟩
      · rw [if_pos rfl]
        exact Or.inr rfl
      · rw [if_pos rfl, ← hs2]
    · rw [if_neg (show ¬ (1 : Int) = 0 by decide)]
      exact ⟨_, s3, d1, rfl⟩
  have off : ∀ c k, ¬ c = 695 → ¬ (700 ≤ c ∧ c ≤ 704) → ¬ c = 726 → ¬ (c = 682 ∧ k = 0) → ¬ (20 + 13 * a + 11 ≤ c ∧ c ≤ 20 + 13 * a + 12) → s3 c k = σ c k := fun c k h1 h2 h3 h4 h5 => by
    rw [d5 c k h1 h2]
    by_cases y : 682 ≤ c
    · exact fr2 c k y h3 h4
    · rw [hs2, up_a (by omega), up_a (by omega)]
      exact b4 c k (by omega) (by omega)
  obtain ⟨s4, hs4⟩ : ∃ s4 : Sg, s4 = fun c k => if c = 695 then σ c k else s3 c k := ⟨_, rfl⟩
  have z1 : ∀ c k, ¬ c = 695 → s4 c k = s3 c k := fun c k h => by rw [hs4]; show (if c = 695 then σ c k else s3 c k) = _; rw [if_neg h]
  have z2 : ∀ k, s4 695 k = σ 695 k := fun k => by rw [hs4]; show (if 695 = 695 then σ 695 k else s3 695 k) = _; rw [if_pos rfl]
  obtain ⟨s5, hs5⟩ : ∃ s5 : Sg, s5 = fun c k => if 20 + 13 * a + 11 ≤ c ∧ c ≤ 20 + 13 * a + 12 then σ c k else s4 c k := ⟨_, rfl⟩
  have z3 : ∀ c k, ¬ (20 + 13 * a + 11 ≤ c ∧ c ≤ 20 + 13 * a + 12) → s5 c k = s4 c k := fun c k h => by rw [hs5]; show (if 20 + 13 * a + 11 ≤ c ∧ c ≤ 20 + 13 * a + 12 then σ c k else s4 c k) = _; rw [if_neg h]
  have z4 : ∀ c k, 20 + 13 * a + 11 ≤ c ∧ c ≤ 20 + 13 * a + 12 → s5 c k = σ c k := fun c k h => by rw [hs5]; show (if 20 + 13 * a + 11 ≤ c ∧ c ≤ 20 + 13 * a + 12 then σ c k else s4 c k) = _; rw [if_pos h]
  have lo : ∀ x k, x < 682 → s3 x k = s1 x k := fun x k h => by rw [d5 x k (by omega) (by omega), hs2, up_a (by omega), up_a (by omega)]
  have W4 : WF s4 := WF_fr (fun x k h => by rw [z1 x k (by omega)]; exact lo x k h) W1
  have W5 : WF s5 := fun x hx => by
    by_cases y : 20 + 13 * a + 11 ≤ x ∧ x ≤ 20 + 13 * a + 12
    · rw [z4 x 1 y]
      exact H.1 x hx
    · rw [z3 x 1 y]
      exact W4 x hx
  refine op_fin hA hB ?_ (fun _ => ?_) (fun x k h => ?_) (fun x k h => off x k (by omega) (by omega) (by omega) (by omega) (by omega)) (Rel_L (σ := s4) (Int.le_refl _) (fun x k h => (z1 x k (by omega)).symm) d2 (Rel_kin (σ := s5) ha24 W4 (fun x k h => (z3 x k h).symm) (Rel_sc (by omega) W5 (fun x k h => ?_) H)))
  · rw [d5 _ _ (by decide) (by decide), hs2, up_s]
  · rw [d5 _ _ (by decide) (by decide), hs2, up_a (by decide)]
    exact up_s
  · rw [up_a (by omega)]
    exact b4 x k (by omega) (by omega)
  · by_cases y : 20 + 13 * a + 11 ≤ x ∧ x ≤ 20 + 13 * a + 12
    · exact z4 x k y
    · rw [z3 x k y]
      by_cases y2 : x = 695
      · rw [y2]; exact z2 k
      · rw [z1 x k y2]
        exact off x k y2 (by omega) (by omega) (by omega) y
end
