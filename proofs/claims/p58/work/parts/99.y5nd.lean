/-! What a patch of the stack needs: the reference's side, and the call. -/
noncomputable section
/-- a call that answers a number, with scratch patches and scratch slots -/
theorem op_full0 {w m : Nat} {aw am : List AV} {σ s1 : Sg} {c v : Int} (H : Rel c σ) (w1 : WF s1) (f1 : ∀ a k, a < 682 → KP a k → s1 a k = σ a k) (g1 : ∀ a k, 682 ≤ a → s1 a k = σ a k) (hA : Dd w aw σ (rI 0 (upS s1 726 0 v))) (hB : ∃ s2, Dd m am (upS s1 726 0 v) (rI v s2) ∧ s2 682 0 = 0 ∧ (∀ a k, a < 682 ∨ 726 ≤ a → s2 a k = upS s1 726 0 v a k) ∧ ∀ a k, 682 ≤ a → KP a k → ¬ (685 ≤ a ∧ a ≤ 687 ∧ 2900 ≤ k) → ¬ ((a = 688 ∨ a = 689) ∧ 29 ≤ k) → s2 a k = σ a k) : OpR w m aw am σ (c + 1) := by
  obtain ⟨s2, b1, b2, b3, b4⟩ := hB
  have n6 : ∀ a k, ¬ a = 726 → upS s1 726 0 v a k = s1 a k := fun a k h => up_a h
  refine op_fin hA b1 b2 (fun _ => ?_) (fun a k h => by rw [n6 a k (by omega)]; exact g1 a k (by omega)) (fun a k h => by rw [b3 a k (by omega), n6 a k (by omega)]; exact g1 a k (by omega)) (Rel_hi (σ := rsH σ s2) (fun a k h h' => (rsH_n h h').symm) (Rel_sc (by omega) (WF_fr (fun a k h => by rw [rsH_n (by omega) (by omega), b3 a k (by omega)]; exact n6 a k (by omega)) w1) (fun a k h => ?_) H))
  · rw [b3 726 0 (by omega)]
    exact up_s
  · by_cases y : (685 ≤ a ∧ a ≤ 687 ∧ 2900 ≤ k) ∨ ((a = 688 ∨ a = 689) ∧ 29 ≤ k)
    · unfold rsH
      rw [if_pos y]
    · rw [rsH_n (fun e => y (Or.inl e)) (fun e => y (Or.inr e))]
      by_cases h' : a < 682
      · rw [b3 a k (by omega), n6 a k (by omega)]; exact f1 a k h' h
      · exact b4 a k (by omega) h (fun e => y (Or.inl e)) (fun e => y (Or.inr e))
theorem HM_se {s σ : Sg} {u t : Nat} {p : Pt} (a : SEq s u σ t) (z : p.1 ≤ 96 ∧ p.2.1 ≤ 96) (H : HM σ t p) : HM s u p := se_slot a (by omega) (by omega) H
theorem HM_fr {s σ : Sg} {t : Nat} {p : Pt} (h : ∀ c k, 685 ≤ c ∧ c ≤ 689 → s c k = σ c k) (H : HM σ t p) : HM s t p := Slot_fr h H
theorem se_ex {s σ : Sg} {su sv u : Nat} (fr : ∀ c x, ¬ c = 690 → ¬ (700 ≤ c ∧ c ≤ 704) → ¬ (685 ≤ c ∧ c ≤ 687 ∧ ((100 * su ≤ x ∧ x < 100 * su + 100) ∨ (100 * sv ≤ x ∧ x < 100 * sv + 100))) → ¬ ((c = 688 ∨ c = 689) ∧ (x = su ∨ x = sv)) → s c x = σ c x) (h1 : ¬ u = su) (h2 : ¬ u = sv) : SEq s u σ u :=
  ⟨fr _ _ (by decide) (by decide) (by omega) (by omega), fr _ _ (by decide) (by decide) (by omega) (by omega), fun c k hk hc => fr _ _ (by omega) (by omega) (by omega) (by omega)⟩
theorem l356 {many : Nat} (h4 : many ≤ 4) : ∀ (gs : List Pt) (g : Nat) (p : Pt) (pre : List Pt) (σ : Sg), g + gs.length = many → pre.length = g → chF p gs → okP p → (∀ q, q ∈ gs → okP q) → p.1 ≤ 16 + 16 * g → (∀ q, q ∈ gs → q.1 ≤ 96 ∧ q.2.1 ≤ 96) → (∀ q, q ∈ pre → q.1 ≤ 96 ∧ q.2.1 ≤ 96) → HM σ 41 p → (∀ x q, pre[x]? = some q → HM σ (34 + x) q) → (∀ x q, gs[x]? = some q → HM σ (29 + (g + x)) q) → (pgo gs p = none ∧ ∃ s, C356_4 many 1 g σ (rI 0 s) ∧ ∀ c k, ¬ c = 690 → ¬ (700 ≤ c ∧ c ≤ 704) → ¬ (685 ≤ c ∧ c ≤ 687 ∧ 3400 ≤ k) → ¬ ((c = 688 ∨ c = 689) ∧ 34 ≤ k) → s c k = σ c k) ∨ ∃ ms s, pgo gs p = some ms ∧ C356_4 many 1 g σ (rI 1 s) ∧ (∀ x q, (pre ++ ms)[x]? = some q → HM s (34 + x) q) ∧ ∀ c k, ¬ c = 690 → ¬ (700 ≤ c ∧ c ≤ 704) → ¬ (685 ≤ c ∧ c ≤ 687 ∧ 3400 ≤ k) → ¬ ((c = 688 ∨ c = 689) ∧ 34 ≤ k) → s c k = σ c k := by
  intro gs
  induction gs with
  | nil =>
    intro g p pre σ h1 h3 C Gp Gs z hz hz2 hp hpre hgs
    have h1 : g + 0 = many := h1
    refine Or.inr ⟨[], σ, rfl, b356_4 ?_, fun x q h => ?_, fun _ _ _ _ _ _ => rfl⟩
    · rw [if_neg (by omega)]
      exact ⟨Or.inr rfl, rfl⟩
    · rw [List.append_nil] at h
      exact hpre x q h
  | cons q gs ih =>
    intro g p pre σ h1 h3 C Gp Gs z hz hz2 hp hpre hgs
    have h1 : g + (gs.length + 1) = many := h1
    have Gq := Gs q List.mem_cons_self
    have Z := sz_of Gp Gq C.1 z (by omega)
    have hzz := Z
    obtain ⟨z1, z2, z3, z4⟩ := hzz
    have c1 := C.1.1
    have hq := hgs 0 q rfl
    rw [Nat.add_zero] at hq
    obtain ⟨v, s1, d1, d2, d3, d4⟩ := d292 (s := 41) (t := 29 + g) (σ := σ) (by omega) (by omega) (by omega) (by omega) (by omega) (by omega) Gp.1 Gq.1 hp hq
    have go : ∀ {o : Rs}, C356_31 many (some (vI 1)) g (if v = 0 then 1 else 0) s1 o → C356_4 many 1 g σ o := by
      intro o h
      refine b356_4 ?_
      rw [if_pos (by omega), if_neg (show ¬ (1 : Int) = 0 by decide), show 29 + (g : Int) = ((29 + g : Nat) : Int) by omega]
      exact ⟨by omega, v, s1, d1, h⟩
    by_cases T : tcP p q
    · have hv : v = 1 := d3.mpr T
      subst hv
      refine Or.inl ⟨pgo_t T, s1, go ?_, fun c k h h' _ _ => d4 c k h'⟩
      rw [if_neg (show ¬ (1 : Int) = 0 by decide)]
      refine b356_31 ?_
      rw [if_pos rfl]
      refine b356_60 ⟨by omega, b356_4 ?_⟩
      by_cases y : (g : Int) + 1 < (many : Int)
      · rw [if_pos y, if_pos rfl]
        exact ⟨Or.inl rfl, rfl⟩
      · rw [if_neg y]
        exact ⟨Or.inl rfl, rfl⟩
    · have hv : v = 0 := by
        rcases d2 with e | e
        · exact e
        · exact absurd (d3.mp e) T
      subst hv
      have f1 : ∀ c k, 685 ≤ c ∧ c ≤ 689 → s1 c k = σ c k := fun c k h => d4 c k (by omega)
      obtain ⟨-, -, -, -, -, -, -, -, s2, e1, e2, e3, e4⟩ := ex_slot (σ := s1) (s := 41) (t := 29 + g) (su := 34 + g) (sv := 42) (by omega) (by omega) (by omega) (by omega) (by omega) (by omega) (by omega) (by omega) (by omega) Gp Gq C.1 T Z (HM_fr f1 hp) (HM_fr f1 hq)
      obtain ⟨b1, b2, b3, b4, b5, b6⟩ := ex_ok Gp Gq C.1 T Z
      have c2 : (exU p q).1 + p.2.1 = p.1 + q.2.1 := b5
      have c3 := Gq.2.2.2.2.2
      have c4 := Gp.2.2.2.2.2
      have c5 : (exL p q).2.1 + p.2.1 = p.1 + q.2.1 := b5
      have c6 := d288 (σ := s2) (s := 42) (t := 41) (by omega) (by omega)
      have fr : ∀ c k, ¬ c = 690 → ¬ (700 ≤ c ∧ c ≤ 704) → ¬ (685 ≤ c ∧ c ≤ 687 ∧ 3400 ≤ k) → ¬ ((c = 688 ∨ c = 689) ∧ 34 ≤ k) → cpyS s2 42 41 c k = σ c k := fun c k y1 y2 y3 y4 => by
        rw [cpy_out (by omega) (by omega), e4 c k y1 y2 (by omega) (by omega)]
        exact d4 c k y2
      have fL : ∀ u, ¬ u = 34 + g → ¬ u = 42 → ¬ u = 41 → SEq (cpyS s2 42 41) u σ u := fun u y1 y2 y3 => by
        refine se_t (se_o y3) (se_t (se_ex e4 y1 y2) ⟨f1 _ _ (by omega), f1 _ _ (by omega), fun c k _ hc => f1 _ _ (by omega)⟩)
      have zL : (exL p q).1 ≤ 96 ∧ (exL p q).2.1 ≤ 96 := ⟨by rw [b4]; omega, by omega⟩
      have zU : (exU p q).1 ≤ 96 ∧ (exU p q).2.1 ≤ 96 := ⟨by omega, by rw [b6]; omega⟩
      have go1 : ∀ {o : Rs}, C356_4 many 1 ((g + 1 : Nat) : Int) (cpyS s2 42 41) o → C356_4 many 1 g σ o := by
        intro o h
        refine go ?_
        rw [if_pos rfl]
        refine b356_31 ?_
        rw [if_neg (show ¬ (1 : Int) = 0 by decide), show 29 + (g : Int) = ((29 + g : Nat) : Int) by omega, show 34 + (g : Int) = ((34 + g : Nat) : Int) by omega]
        refine ⟨by omega, by omega, s2, e1, _, c6, b356_60 ⟨by omega, ?_⟩⟩
        rw [show (g : Int) + 1 = ((g + 1 : Nat) : Int) by omega]
        exact h
      rcases ih (g + 1) (exU p q) (pre ++ [exL p q]) (cpyS s2 42 41) (by omega) (by rw [List.length_append, h3]; rfl) (chF_U C.2) b2 (fun q h => Gs q (List.mem_cons_of_mem _ h)) (by omega) (fun q h => hz q (List.mem_cons_of_mem _ h)) (fun a h => by
          rcases List.mem_append.mp h with h | h
          · exact hz2 a h
          · rw [List.mem_singleton.mp h]
            exact zL) (HM_se se_c zU e3) (fun x a h => by
          by_cases y : x < g
          · rw [List.getElem?_append_left (by omega)] at h
            exact HM_se (fL (34 + x) (by omega) (by omega) (by omega)) (hz2 a (List.mem_of_getElem? h)) (hpre x a h)
          · rw [List.getElem?_append_right (by omega)] at h
            have hx := (List.getElem?_eq_some_iff.mp h).1
            rw [List.length_singleton] at hx
            rw [show x - pre.length = 0 by omega] at h
            cases h
            rw [show x = g by omega]
            exact HM_se (se_o (by omega)) zL e2) (fun x a h => by
          have hx := (List.getElem?_eq_some_iff.mp h).1
          have z := hgs (x + 1) a h
          rw [show g + (x + 1) = g + 1 + x by omega] at z
          exact HM_se (fL _ (by omega) (by omega) (by omega)) (hz a (List.mem_cons_of_mem _ (List.mem_of_getElem? h))) z) with ⟨n1, s', n2, n3⟩ | ⟨ms, s', n1, n2, n3, n4⟩
      · refine Or.inl ⟨by rw [pgo_n T, n1]; rfl, s', go1 n2, fun c k y1 y2 y3 y4 => by rw [n3 c k y1 y2 y3 y4]; exact fr c k y1 y2 y3 y4⟩
      · refine Or.inr ⟨exL p q :: ms, s', by rw [pgo_n T, n1]; rfl, go1 n2, fun x a h => n3 x a (by rw [List.append_assoc]; exact h), fun c k y1 y2 y3 y4 => by rw [n4 c k y1 y2 y3 y4]; exact fr c k y1 y2 y3 y4⟩
/-- the walk down -/
theorem l357 {P : Nat → Pt} {d1} : ∀ (j : Nat) (G : List Pt) (S : Int) (d5 : Option AV) (σ : Sg), ndI P j G → (∀ i, i < j → HM σ (24 + i) (P i)) → (∀ x q, G[x]? = some q → HM σ (29 + x) q) → ∃ s, C357_41 d1 (G.length : Nat) S ((j : Int) - 1) d5 σ (rI (ndF P j G S) s) ∧ ∀ c k, ¬ c = 690 → ¬ (700 ≤ c ∧ c ≤ 704) → ¬ (685 ≤ c ∧ c ≤ 687 ∧ 2900 ≤ k) → ¬ ((c = 688 ∨ c = 689) ∧ 29 ≤ k) → s c k = σ c k := by
  intro j
  induction j with
  | zero =>
    intro G S d5 σ I hP hG
    refine ⟨σ, b357_41 ?_, fun _ _ _ _ _ _ => rfl⟩
    rw [if_neg (by omega)]
    rfl
  | succ j ih =>
    intro G S d5 σ I hP hG
    obtain ⟨g1, g2, g3, g4, g5, g6, g7⟩ := ndI_g I
    have hL := I.2.2.2.1
    have c6 := d288 (σ := σ) (s := 24 + j) (t := 41) (by omega) (by omega)
    have zP : ∀ i, i < j + 1 → (P i).1 ≤ 96 ∧ (P i).2.1 ≤ 96 := fun i hi => by
      have z := I.1 i hi
      omega
    have kp : HM (cpyS σ (24 + j) 41) 41 (P j) := HM_se se_c (zP j (by omega)) (hP j (by omega))
    have kg : ∀ x q, G[x]? = some q → HM (cpyS σ (24 + j) 41) (29 + x) q := fun x q h => HM_se (se_o (by have := (List.getElem?_eq_some_iff.mp h).1; omega)) (g7 q (List.mem_of_getElem? h)) (hG x q h)
    have fc : ∀ c k, ¬ (685 ≤ c ∧ c ≤ 687 ∧ 2900 ≤ k) → ¬ ((c = 688 ∨ c = 689) ∧ 29 ≤ k) → cpyS σ (24 + j) 41 c k = σ c k := fun c k y1 y2 => cpy_out (by omega) (by omega)
    have go : ∀ {o : Rs} (v : Int) (s : Sg), C356_4 (G.length : Nat) 1 ((0 : Nat) : Int) (cpyS σ (24 + j) 41) (rI v s) → (if v = 0 then C357_100 d1 (G.length : Nat) S (j : Int) (G.length : Nat) s o else C357_68 d1 (G.length : Nat) S (j : Int) 0 s o) → C357_41 d1 (G.length : Nat) S (((j + 1 : Nat) : Int) - 1) d5 σ o := by
      intro o v s h1 h2
      refine b357_41 ?_
      rw [show ((j + 1 : Nat) : Int) - 1 = (j : Int) by omega, if_pos (by omega), show 24 + (j : Int) = ((24 + j : Nat) : Int) by omega]
      exact ⟨by omega, _, c6, v, s, b356 h1, h2⟩
    rcases l356 (many := G.length) g1 G 0 (P j) [] (cpyS σ (24 + j) 41) (by omega) rfl g2 g3 g4 (by omega) g7 (fun q h => by cases h) kp (fun x q h => by simp at h) (fun x q h => by rw [Nat.zero_add]; exact kg x q h) with ⟨n1, s, n2, n3⟩ | ⟨ms, s, n1, n2, n3, n4⟩
    · obtain ⟨s', a1, a2, a3, a4⟩ := l357a (d1 := d1) (x2 := (G.length : Nat)) (x3 := S) (x4 := (j : Int)) G.length s (by omega)
      have c7 := d288 (σ := s') (s := 24 + j) (t := 29) (by omega) (by omega)
      have sg : ∀ u, u < 34 → SEq s u (cpyS σ (24 + j) 41) u := fun u hu => ⟨n3 _ _ (by decide) (by decide) (by omega) (by omega), n3 _ _ (by decide) (by decide) (by omega) (by omega), fun c k hk hc => n3 _ _ (by omega) (by omega) (by omega) (by omega)⟩
      have sl : ∀ u, u < 29 → SEq (cpyS s' (24 + j) 29) u σ u := fun u hu => se_t (se_o (by omega)) (se_t (a3 u (by omega)) (se_t (sg u (by omega)) (se_o (by omega))))
      obtain ⟨s3, e1, e2⟩ := ih (P j :: G) (iOr S (iShl 1 (j : Int))) (some (vI 0)) (cpyS s' (24 + j) 29) (ndI_n I) (fun i hi => HM_se (sl (24 + i) (by omega)) (zP i (by omega)) (hP i (by omega))) (fun x q h => by
        have hx := (List.getElem?_eq_some_iff.mp h).1
        rw [List.length_cons] at hx
        cases x with
        | zero =>
          cases h
          exact HM_se (se_t se_c (se_t (a3 (24 + j) (by omega)) (se_t (sg (24 + j) (by omega)) (se_o (by omega))))) (zP j (by omega)) (hP j (by omega))
        | succ x =>
          have h : G[x]? = some q := h
          have y1 := a2 (29 + (x + 1)) (by omega) (by omega)
          rw [show 29 + (x + 1) - 1 = 29 + x by omega] at y1
          exact HM_se (se_t (se_o (by omega)) (se_t y1 (sg (29 + x) (by omega)))) (g7 q (List.mem_of_getElem? h)) (kg x q h))
      refine ⟨s3, go 0 s n2 ?_, fun c k y1 y2 y3 y4 => ?_⟩
      · rw [if_pos rfl, ndF_n n1]
        refine a1 (b357_100 ?_)
        rw [if_neg (show ¬ (0 : Int) < 0 by decide), show 24 + (j : Int) = ((24 + j : Nat) : Int) by omega]
        refine ⟨by omega, _, c7, by omega, b357_148 ⟨by omega, ?_⟩⟩
        rw [List.length_cons] at e1
        rw [show ((G.length : Nat) : Int) + 1 = ((G.length + 1 : Nat) : Int) by omega, show (j : Int) + (-1) = (j : Int) - 1 by omega]
        exact e1
      · rw [e2 c k y1 y2 y3 y4, cpy_out (by omega) (by omega)]
        by_cases y5 : 685 ≤ c ∧ c ≤ 689
        · have e : s' c k = s c k := by
            by_cases y6 : c = 688
            · subst y6
              exact (a3 k (by omega)).1
            · by_cases y7 : c = 689
              · subst y7
                exact (a3 k (by omega)).2.1
              · have z := (a3 (k / 100) (by omega)).2.2 c (k % 100) (by omega) (by omega)
                rw [show 100 * (k / 100) + k % 100 = k by omega] at z
                exact z
          rw [e, n3 c k y1 y2 (by omega) (by omega)]
          exact fc c k y3 y4
        · rw [a4 c k y5, n3 c k y1 y2 (by omega) (by omega)]
          exact fc c k y3 y4
    · obtain ⟨J, hl⟩ := ndI_s I n1
      obtain ⟨s', a1, a2, a3, a4⟩ := l357b (d1 := d1) (x2 := G.length) (x3 := S) (x4 := (j : Int)) (by omega) G.length 0 s (by omega)
      have sg : ∀ u, u < 34 → SEq s u (cpyS σ (24 + j) 41) u := fun u hu => ⟨n4 _ _ (by decide) (by decide) (by omega) (by omega), n4 _ _ (by decide) (by decide) (by omega) (by omega), fun c k hk hc => n4 _ _ (by omega) (by omega) (by omega) (by omega)⟩
      have hz : ∀ q, q ∈ ms → q.1 ≤ 96 ∧ q.2.1 ≤ 96 := by
        obtain ⟨g, r, e, h1, h2, -⟩ := J.2.2.2.2
        subst e
        rw [List.length_cons] at hl
        exact chF_sz r 0 g h1 (J.2.2.1 g List.mem_cons_self) (fun q h => J.2.2.1 q (List.mem_cons_of_mem _ h)) (by omega) (by omega)
      obtain ⟨s3, e1, e2⟩ := ih ms S (some (vI (G.length : Nat))) s' J (fun i hi => HM_se (se_t (a3 (24 + i) (by omega)) (se_t (sg (24 + i) (by omega)) (se_o (by omega)))) (zP i (by omega)) (hP i (by omega))) (fun x q h => by
        have hx := (List.getElem?_eq_some_iff.mp h).1
        have z := n3 x q h
        have y1 := a2 (29 + x) (by omega) (by omega)
        rw [show 29 + x + 5 = 34 + x by omega] at y1
        exact HM_se y1 (hz q (List.mem_of_getElem? h)) z)
      refine ⟨s3, go 1 s n2 ?_, fun c k y1 y2 y3 y4 => ?_⟩
      · rw [if_neg (show ¬ (1 : Int) = 0 by decide), ndF_s n1]
        refine a1 (b357_148 ⟨by omega, ?_⟩)
        rw [hl] at e1
        rw [show (j : Int) + (-1) = (j : Int) - 1 by omega]
        exact e1
      · rw [e2 c k y1 y2 y3 y4]
        by_cases y5 : 685 ≤ c ∧ c ≤ 689
        · have e : s' c k = s c k := by
            by_cases y6 : c = 688
            · subst y6
              exact (a3 k (by omega)).1
            · by_cases y7 : c = 689
              · subst y7
                exact (a3 k (by omega)).2.1
              · have z := (a3 (k / 100) (by omega)).2.2 c (k % 100) (by omega) (by omega)
                rw [show 100 * (k / 100) + k % 100 = k by omega] at z
                exact z
          rw [e, n4 c k y1 y2 (by omega) (by omega)]
          exact fc c k y3 y4
        · rw [a4 c k y5, n4 c k y1 y2 (by omega) (by omega)]
          exact fc c k y3 y4
/-- the patches of the stack, as pure things -/
def stP (σ : Sg) (i : Nat) : Pt := ((σ (406 + 13 * i + 1) 1).toNat, (σ (406 + 13 * i + 3) 1).toNat, σ (406 + 13 * i + 2), σ (406 + 13 * i + 4), σ (406 + 13 * i + 6))
theorem stP_ok {σ : Sg} {c : Int} (H : Rel c σ) {i : Nat} (hi : (i : Int) < σ 402 3) : okP (stP σ i) ∧ (stP σ i).1 ≤ 16 ∧ (stP σ i).2.1 ≤ 16 ∧ HC σ (406 + 13 * i) (stP σ i) ∧ HM σ (24 + i) (stP σ i) ∧ (((i + 1 : Nat) : Int) < σ 402 3 → chP (stP σ i) (stP σ (i + 1))) := by
  have hS : RSt c σ := H.2.2.2.2.2.1
  obtain ⟨h1, h2, h3, h4, h5, h6, h7, h8, h9, h10, h11⟩ := hS
  obtain ⟨x1, x2, x3⟩ := h11 i hi
  obtain ⟨-, -, -, -, -, -, hP, -⟩ := cpL (p := i) (by omega)
  obtain ⟨nb, na, hb1, hb2, N, S⟩ := po_slot x1 x2 (WF_w H.1 (pat_1 hP)).2.1 (WF_w H.1 (pat_3 hP)).2.1
  have e1 : (stP σ i).1 = nb := by show (σ (406 + 13 * i + 1) 1).toNat = nb; rw [N.1]; exact tn _
  have e2 : (stP σ i).2.1 = na := by show (σ (406 + 13 * i + 3) 1).toNat = na; rw [N.2.1]; exact tn _
  refine ⟨⟨by rw [e1, e2]; exact N.2.2.2.2.1, ⟨_, by rw [e1, e2]; exact N.2.2.2.2.2.1⟩, by rw [e1]; exact fun x hx e => GDg N x2 x hx e, fun x hx => x2.2.2.2.2.2.2.2.1 x (by rw [N.1]; omega), fun x hx => x2.2.2.2.2.2.2.2.2.1 x (by rw [N.2.1]; omega), by omega⟩, by omega, by omega, ⟨by rw [e1, e2]; exact N, fun _ _ => rfl, fun _ _ => rfl, fun _ _ => rfl⟩, ?_, fun hi2 => ?_⟩
  · unfold HM
    rw [e1, e2]
    exact S
  · obtain ⟨y1, y2, y3⟩ := h11 (i + 1) hi2
    have hbl : blw (i + 1) = 406 + 13 * i + 3 := by unfold blw; rw [if_neg (by omega), Nat.add_sub_cancel]
    rw [hbl] at y3
    refine ⟨?_, fun x hx => ?_⟩
    · show (σ (406 + 13 * (i + 1) + 1) 1).toNat = (σ (406 + 13 * i + 3) 1).toNat
      rw [y3.1]
    · show σ (406 + 13 * i + 4) x = σ (406 + 13 * (i + 1) + 2) x
      refine (y3.2 x ?_).symm
      rw [y3.1, N.2.1]
      omega
/-- needs -/
theorem o39 {σ : Sg} {c a1 : Int} (H : Rel c σ) : OpR 427 357 [vA 0, vI a1, vA 726] [vA 682, vI a1] σ (c + 1) := by
  by_cases g1 : a1 < 0
  · exact x39_0 H g1
  by_cases g2 : σ 402 3 ≤ a1
  · exact x39_1 H g2
  obtain ⟨k, rfl⟩ := Int.eq_ofNat_of_zero_le (show 0 ≤ a1 by omega)
  have hS : RSt c σ := H.2.2.2.2.2.1
  have h5 := hS.2.1
  have h40 := hS.2.2.1
  have hk : (k : Int) < σ 402 3 := by omega
  have st : ∀ i, i ≤ k → _ := fun i hi => stP_ok H (i := i) (by omega)
  have I : ndI (stP σ) k [stP σ k] := ⟨fun i hi => ⟨(st i (by omega)).1, (st i (by omega)).2.1, (st i (by omega)).2.2.1⟩, fun i hi => (st i (by omega)).2.2.2.2.2 (by omega), fun q h => by rw [List.mem_singleton.mp h]; exact (st k (Nat.le_refl _)).1, by show 1 + k ≤ 5; omega, stP σ k, [], rfl, trivial, (st k (Nat.le_refl _)).2.1, fun i hi => by subst hi; exact (st i (by omega)).2.2.2.2.2 (by omega)⟩
  obtain ⟨s, a1, a2, a3⟩ := d162 (σ := σ) (P := stP σ) (k := k) (by omega) I H.1 (fun i hi => (st i hi).2.2.2.1)
  have hA := b427 (x1 := (k : Int)) (Or.inl ⟨_, _, b211 (Or.inl ⟨_, d232_ok ⟨by omega, hk⟩, _, _, a1, rfl⟩), rfl⟩)
  obtain ⟨v, hv⟩ : ∃ v, v = ndF (stP σ) k [stP σ k] 0 := ⟨_, rfl⟩
  rw [← hv] at hA
  have lo : ∀ a x, 682 ≤ a → ¬ a = 726 → upS s 726 0 v a x = σ a x := fun a x h h' => by rw [up_a h']; exact a3 a x (by omega) (by omega)
  have lo2 : ∀ a x, 682 ≤ a → ¬ a = 726 → ¬ (a = 682 ∧ x = 0) → upS (upS s 726 0 v) 682 0 0 a x = σ a x := fun a x h h' h2 => by
    have : upS (upS s 726 0 v) 682 0 0 a x = upS s 726 0 v a x := by unfold upS; rw [if_neg (by omega)]
    rw [this]
    exact lo a x h h'
  refine op_full0 H a2 (fun a x h h' => by unfold KP at h'; exact a3 a x (by omega) (by omega)) (fun a x h => a3 a x (by omega) (by omega)) hA ?_
  have zP : ∀ i, i ≤ k → (stP σ i).1 ≤ 96 ∧ (stP σ i).2.1 ≤ 96 := fun i hi => by
    have z := st i hi
    omega
  have c6 := d288 (σ := upS (upS s 726 0 v) 682 0 0) (s := 24 + k) (t := 29) (by omega) (by omega)
  have sg : ∀ u, SEq (upS (upS s 726 0 v) 682 0 0) u σ u := fun u => ⟨lo2 _ _ (by omega) (by omega) (by omega), lo2 _ _ (by omega) (by omega) (by omega), fun c x _ hc => lo2 _ _ (by omega) (by omega) (by omega)⟩
  obtain ⟨s3, e1, e2⟩ := l357 (P := stP σ) (d1 := some (vI (k : Nat))) k [stP σ k] 0 none (cpyS (upS (upS s 726 0 v) 682 0 0) (24 + k) 29) I (fun i hi => HM_se (se_t (se_o (by omega)) (sg _)) (zP i (by omega)) (st i (by omega)).2.2.2.2.1) (fun x q h => by
    cases x with
    | zero => cases h; exact HM_se (se_t se_c (sg _)) (zP k (Nat.le_refl _)) (st k (Nat.le_refl _)).2.2.2.2.1
    | succ x => simp at h)
  have fr : ∀ a x, ¬ a = 690 → ¬ (700 ≤ a ∧ a ≤ 704) → ¬ (685 ≤ a ∧ a ≤ 687 ∧ 2900 ≤ x) → ¬ ((a = 688 ∨ a = 689) ∧ 29 ≤ x) → s3 a x = upS (upS s 726 0 v) 682 0 0 a x := fun a x y1 y2 y3 y4 => by
    rw [e2 a x y1 y2 y3 y4]
    exact cpy_out (by omega) (by omega)
  refine ⟨s3, b357 ⟨_, _, d340_ok ⟨by omega, by rw [lo _ _ (by decide) (by decide)]; omega⟩, ?_⟩, ?_, fun a x h => ?_, fun a x h h' y1 y2 => ?_⟩
  · rw [if_neg (show ¬ (1 : Int) = 0 by decide)]
    refine b357_14 ⟨_, _, d245, ?_⟩
    rw [if_pos rfl, if_neg (show ¬ (1 : Int) = 0 by decide), show 24 + (k : Int) = ((24 + k : Nat) : Int) by omega]
    rw [← hv] at e1
    exact ⟨by omega, _, c6, by omega, e1⟩
  · rw [fr _ _ (by decide) (by decide) (by decide) (by decide)]
    exact up_s
  · rw [fr a x (by omega) (by omega) (by omega) (by omega), up_a (by omega)]
  · unfold KP at h'
    rw [fr a x (by omega) (by omega) y1 y2]
    exact lo2 a x h (by omega) (by omega)
end
