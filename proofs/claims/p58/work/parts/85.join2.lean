/-! join, the class's side. -/
noncomputable section
theorem at_on {σ : Sg} {a n : Nat} {f : Nat → Int} (hz : σ a 1 = (n : Nat)) (hf : ∀ i, i < n → σ (a + 1) i = f i) {i : Nat} (hi : i < n) : atS σ a (i : Int) = f i := by
  unfold atS
  rw [if_pos (by omega), show ((i : Nat) : Int).toNat = i by omega]
  exact hf i hi
theorem st_in {σ : Sg} {a n : Nat} {v : Int} (hz : σ a 1 = (n : Nat)) {i : Nat} (hi : i < n) : stS σ a (i : Int) v = upS σ (a + 1) i v := by
  unfold stS
  rw [if_pos (by omega), show ((i : Nat) : Int).toNat = i by omega]
theorem VF_cg {f g : Nat → Int} {nb na : Nat} (h : ∀ i, i < nb → g i = f i) (V : VF f nb na) : VF g nb na := by
  refine ⟨fun i hi => by rw [h i hi]; exact V.1 i hi, fun i i' h1 h2 h3 h4 => ?_⟩
  rw [h i (by omega)] at h3 ⊢
  rw [h i' h2] at h4 ⊢
  exact V.2 i i' h1 h2 h3 h4
theorem hks_cg {f g : Nat → Int} {nb na : Nat} (h : ∀ i, i < nb → g i = f i) : hks g nb na = hks f nb na := hkF_congr h _ _ _
theorem WF_e {σ s : Sg} (h : ∀ a, isRow a = true → s a 1 = σ a 1) (H : WF σ) : WF s := by
  intro a ha
  rw [h a ha]
  exact H a ha
theorem l5a {q : Nat × Nat × Nat × Nat} {nb na : Nat} {O N G : Nat → Int} {d1 : Option AV} {σ0 : Sg} (h1 : nb ≤ 100) (h2 : na ≤ 100) (hb : q.1 + q.2.1 ≤ nb) (ha : q.2.2.1 + q.2.2.2 ≤ na) (w1 : wR σ0 352) (w2 : wR σ0 354) (w3 : wR σ0 377) (z1 : σ0 352 1 = (nb : Nat)) (z2 : σ0 354 1 = (na : Nat)) (z3 : σ0 377 1 = (nb : Nat)) (hO : ∀ i, i < nb → σ0 353 i = O i) (hN : ∀ i, i < na → σ0 355 i = N i) : ∀ (d k : Nat) (σ : Sg), k + d = pt O N q → (∀ c x, ¬ c = 378 → σ c x = σ0 c x) → (∀ x, x < nb → σ 378 x = pe1 q G k 0 x) → ∃ s, (∀ {o : Rs}, C5_93 d1 ((q.1 + pt O N q : Nat) : Int) ((q.2.2.1 + pt O N q : Nat) : Int) ((q.1 + q.2.1 : Nat) : Int) ((q.2.2.1 + q.2.2.2 : Nat) : Int) s o → C5_38 d1 ((q.1 + k : Nat) : Int) ((q.2.2.1 + k : Nat) : Int) ((q.1 + q.2.1 : Nat) : Int) ((q.2.2.1 + q.2.2.2 : Nat) : Int) σ o) ∧ (∀ x, x < nb → s 378 x = pe1 q G (pt O N q) 0 x) ∧ ∀ c x, ¬ c = 378 → s c x = σ0 c x := by
  obtain ⟨b1, b2, b3, b4⟩ := pt_b (O := O) (N := N) (q := q)
  have r1 : ∀ (σ : Sg) (i : Nat), (∀ c x, ¬ c = 378 → σ c x = σ0 c x) → i < nb → Dd 147 [vA 352, vI i] σ (rI (O i) σ) := by
    intro σ i hf hi
    have e := d147 (σ := σ) (a := 352) (i := (i : Int)) ⟨w1.1, by rw [hf _ _ (by decide)]; exact w1.2⟩
    rw [at_on (n := nb) (f := O) (by rw [hf _ _ (by decide)]; exact z1) (fun i hi => by rw [hf _ _ (by decide)]; exact hO i hi) hi] at e
    exact e
  have r2 : ∀ (σ : Sg) (i : Nat), (∀ c x, ¬ c = 378 → σ c x = σ0 c x) → i < na → Dd 147 [vA 354, vI i] σ (rI (N i) σ) := by
    intro σ i hf hi
    have e := d147 (σ := σ) (a := 354) (i := (i : Int)) ⟨w2.1, by rw [hf _ _ (by decide)]; exact w2.2⟩
    rw [at_on (n := na) (f := N) (by rw [hf _ _ (by decide)]; exact z2) (fun i hi => by rw [hf _ _ (by decide)]; exact hN i hi) hi] at e
    exact e
  intro d
  induction d with
  | zero =>
    intro k σ hk hf hG
    have e : k = pt O N q := by omega
    subst e
    refine ⟨σ, fun {o} hh => b5_38 ?_, hG, hf⟩
    by_cases y1 : pt O N q < q.2.1
    · rw [if_pos (by omega)]
      by_cases y2 : pt O N q < q.2.2.2
      · rw [if_pos (by omega)]
        refine ⟨_, _, r1 σ _ hf (by omega), _, _, r2 σ _ hf (by omega), ?_⟩
        rw [if_neg (b4 y1 y2)]
        exact hh
      · rw [if_neg (by omega)]
        exact hh
    · rw [if_neg (by omega)]
      exact hh
  | succ d ih =>
    intro k σ hk hf hG
    obtain ⟨s, a1, a2, a3⟩ := ih (k + 1) (upS σ 378 (q.1 + k) ((q.2.2.1 + k : Nat) : Int)) (by omega) (fun c x hc => by rw [up_a hc]; exact hf c x hc) (fun x hx => by
      by_cases e : x = q.1 + k
      · rw [e, up_s]
        unfold pe1
        rw [if_pos (by omega)]
        congr 1
        omega
      · rw [up_k e, hG x hx]
        unfold pe1
        by_cases y : q.1 ≤ x ∧ x < q.1 + k
        · rw [if_pos y, if_pos (by omega)]
        · rw [if_neg y, if_neg (show ¬ (q.1 ≤ x ∧ x < q.1 + (k + 1)) by omega)])
    refine ⟨s, fun {o} hh => b5_38 ?_, a2, a3⟩
    have e := d148 (σ := σ) (a := 377) (i := ((q.1 + k : Nat) : Int)) (v := ((q.2.2.1 + k : Nat) : Int)) ⟨w3.1, by rw [hf _ _ (by decide)]; exact w3.2⟩
    rw [st_in (n := nb) (by rw [hf _ _ (by decide)]; exact z3) (by omega)] at e
    rw [if_pos (by omega), if_pos (by omega)]
    refine ⟨_, _, r1 σ _ hf (by omega), _, _, r2 σ _ hf (by omega), ?_⟩
    rw [if_pos (b3 k (by omega))]
    refine ⟨_, e, by omega, by omega, ?_⟩
    have z := a1 hh
    rw [show ((q.1 + (k + 1) : Nat) : Int) = ((q.1 + k : Nat) : Int) + 1 by omega, show ((q.2.2.1 + (k + 1) : Nat) : Int) = ((q.2.2.1 + k : Nat) : Int) + 1 by omega] at z
    exact z
theorem l5b {q : Nat × Nat × Nat × Nat} {nb na : Nat} {O N G : Nat → Int} {d1 : Option AV} {σ0 : Sg} (h1 : nb ≤ 100) (h2 : na ≤ 100) (hb : q.1 + q.2.1 ≤ nb) (ha : q.2.2.1 + q.2.2.2 ≤ na) (w1 : wR σ0 352) (w2 : wR σ0 354) (w3 : wR σ0 377) (z1 : σ0 352 1 = (nb : Nat)) (z2 : σ0 354 1 = (na : Nat)) (z3 : σ0 377 1 = (nb : Nat)) (hO : ∀ i, i < nb → σ0 353 i = O i) (hN : ∀ i, i < na → σ0 355 i = N i) : ∀ (d k : Nat) (σ : Sg), k + d = pu O N q → (∀ c x, ¬ c = 378 → σ c x = σ0 c x) → (∀ x, x < nb → σ 378 x = pe1 q G (pt O N q) k x) → ∃ s, C5_93 d1 ((q.1 + pt O N q : Nat) : Int) ((q.2.2.1 + pt O N q : Nat) : Int) ((q.1 + q.2.1 - k : Nat) : Int) ((q.2.2.1 + q.2.2.2 - k : Nat) : Int) σ (rV s) ∧ (∀ x, x < nb → s 378 x = pe O N q G x) ∧ ∀ c x, ¬ c = 378 → s c x = σ0 c x := by
  obtain ⟨b1, b2, b3, b4⟩ := pu_b (O := O) (N := N) (q := q)
  have r1 : ∀ (σ : Sg) (i : Nat), (∀ c x, ¬ c = 378 → σ c x = σ0 c x) → i < nb → Dd 147 [vA 352, vI i] σ (rI (O i) σ) := by
    intro σ i hf hi
    have e := d147 (σ := σ) (a := 352) (i := (i : Int)) ⟨w1.1, by rw [hf _ _ (by decide)]; exact w1.2⟩
    rw [at_on (n := nb) (f := O) (by rw [hf _ _ (by decide)]; exact z1) (fun i hi => by rw [hf _ _ (by decide)]; exact hO i hi) hi] at e
    exact e
  have r2 : ∀ (σ : Sg) (i : Nat), (∀ c x, ¬ c = 378 → σ c x = σ0 c x) → i < na → Dd 147 [vA 354, vI i] σ (rI (N i) σ) := by
    intro σ i hf hi
    have e := d147 (σ := σ) (a := 354) (i := (i : Int)) ⟨w2.1, by rw [hf _ _ (by decide)]; exact w2.2⟩
    rw [at_on (n := na) (f := N) (by rw [hf _ _ (by decide)]; exact z2) (fun i hi => by rw [hf _ _ (by decide)]; exact hN i hi) hi] at e
    exact e
  intro d
  induction d with
  | zero =>
    intro k σ hk hf hG
    have e : k = pu O N q := by omega
    subst e
    refine ⟨σ, b5_93 ?_, hG, hf⟩
    by_cases y1 : pt O N q + pu O N q < q.2.1
    · rw [if_pos (by omega)]
      by_cases y2 : pt O N q + pu O N q < q.2.2.2
      · rw [if_pos (by omega), show ((q.1 + q.2.1 - pu O N q : Nat) : Int) - 1 = ((q.1 + q.2.1 - 1 - pu O N q : Nat) : Int) by omega, show ((q.2.2.1 + q.2.2.2 - pu O N q : Nat) : Int) - 1 = ((q.2.2.1 + q.2.2.2 - 1 - pu O N q : Nat) : Int) by omega]
        refine ⟨by omega, _, _, r1 σ _ hf (by omega), by omega, _, _, r2 σ _ hf (by omega), ?_⟩
        rw [if_neg (b4 y1 y2)]
      · rw [if_neg (by omega)]
    · rw [if_neg (by omega)]
  | succ d ih =>
    intro k σ hk hf hG
    obtain ⟨s, a1, a2, a3⟩ := ih (k + 1) (upS σ 378 (q.1 + q.2.1 - 1 - k) ((q.2.2.1 + q.2.2.2 - 1 - k : Nat) : Int)) (by omega) (fun c x hc => by rw [up_a hc]; exact hf c x hc) (fun x hx => by
      by_cases e : x = q.1 + q.2.1 - 1 - k
      · rw [e, up_s]
        unfold pe1
        rw [if_neg (by omega), if_pos (by omega)]
        congr 1
        omega
      · rw [up_k e, hG x hx]
        unfold pe1
        by_cases y : q.1 ≤ x ∧ x < q.1 + pt O N q
        · rw [if_pos y, if_pos y]
        · rw [if_neg y, if_neg y]
          by_cases y2 : q.1 + q.2.1 - k ≤ x ∧ x < q.1 + q.2.1
          · rw [if_pos y2, if_pos (by omega)]
          · rw [if_neg y2, if_neg (show ¬ (q.1 + q.2.1 - (k + 1) ≤ x ∧ x < q.1 + q.2.1) by omega)])
    refine ⟨s, b5_93 ?_, a2, a3⟩
    have e := d148 (σ := σ) (a := 377) (i := ((q.1 + q.2.1 - 1 - k : Nat) : Int)) (v := ((q.2.2.1 + q.2.2.2 - 1 - k : Nat) : Int)) ⟨w3.1, by rw [hf _ _ (by decide)]; exact w3.2⟩
    rw [st_in (n := nb) (by rw [hf _ _ (by decide)]; exact z3) (by omega)] at e
    rw [if_pos (by omega), if_pos (by omega), show ((q.1 + q.2.1 - k : Nat) : Int) - 1 = ((q.1 + q.2.1 - 1 - k : Nat) : Int) by omega, show ((q.2.2.1 + q.2.2.2 - k : Nat) : Int) - 1 = ((q.2.2.1 + q.2.2.2 - 1 - k : Nat) : Int) by omega, show ((q.1 + q.2.1 - k : Nat) : Int) + (-1) = ((q.1 + q.2.1 - 1 - k : Nat) : Int) by omega, show ((q.2.2.1 + q.2.2.2 - k : Nat) : Int) + (-1) = ((q.2.2.1 + q.2.2.2 - 1 - k : Nat) : Int) by omega]
    refine ⟨by omega, _, _, r1 σ _ hf (by omega), by omega, _, _, r2 σ _ hf (by omega), ?_⟩
    rw [if_pos (b3 k (by omega))]
    refine ⟨by omega, by omega, _, e, ?_⟩
    rw [show q.1 + q.2.1 - (k + 1) = q.1 + q.2.1 - 1 - k by omega, show q.2.2.1 + q.2.2.2 - (k + 1) = q.2.2.1 + q.2.2.2 - 1 - k by omega] at a1
    exact a1
theorem PC_fr {σ s : Sg} {P : Nat} {l : List (Nat × Nat × Nat × Nat)} (h1 : ∀ k, s (P + 9) k = σ (P + 9) k) (h2 : ∀ k, s (P + 10) k = σ (P + 10) k) (C : PC σ P l) : PC s P l := by
  obtain ⟨c1, c2, c3⟩ := C
  exact ⟨by rw [h1]; exact c1, fun h q hq => by rw [h2, h2, h2, h2]; exact c2 h q hq, c3⟩
theorem cpS377 : isRow 377 = true ∧ cap 377 = 96 ∧ isRow 352 = true ∧ isRow 354 = true ∧ isRow 360 = true := by decide +kernel
theorem l4c {P Q nb na : Nat} {l : List (Nat × Nat × Nat × Nat)} {O N : Nat → Int} {σ0 : Sg} (hP : isPatch P = true) (hQ : isPatch Q = true) (p351 : isPatch 351 = true) (h1 : nb ≤ 100) (h2 : na ≤ 100) (hl : l.length ≤ 120) (hbd : ∀ q, q ∈ l → q.1 + q.2.1 ≤ nb ∧ q.2.2.1 + q.2.2.2 ≤ na) (w1 : wR σ0 352) (w2 : wR σ0 354) (w3 : wR σ0 377) (w9 : wR σ0 360) (z1 : σ0 352 1 = (nb : Nat)) (z2 : σ0 354 1 = (na : Nat)) (z3 : σ0 377 1 = (nb : Nat)) (hO : ∀ i, i < nb → σ0 353 i = O i) (hN : ∀ i, i < na → σ0 355 i = N i) (C : PC σ0 351 l) : ∀ (d h : Nat) (G : Nat → Int) (σ : Sg), h + d = l.length → (∀ c x, ¬ c = 378 → σ c x = σ0 c x) → (∀ x, x < nb → σ 378 x = G x) → ∃ s, (∀ {o : Rs}, (∃ (s7 : Sg), Dd 95 [vA 351, vA (P + 1), vA (Q + 3), vA 377] s (rV s7) ∧ o = (rA 351 s7)) → ∀ d4, C4_83 P Q h d4 σ o) ∧ (∀ x, x < nb → s 378 x = ((l.drop h).foldl (fun G q => pe O N q G) G) x) ∧ ∀ c x, ¬ c = 378 → s c x = σ0 c x := by
  intro d
  induction d with
  | zero =>
    intro h G σ hh hf hG
    have C' : PC σ 351 l := PC_fr (fun k => hf _ _ (by decide)) (fun k => hf _ _ (by decide)) C
    refine ⟨σ, fun {o} hx d4 => b4_83 hP hQ ⟨_, _, d98' p351 C', ?_⟩, fun x hx => ?_, hf⟩
    · rw [if_neg (by omega)]
      exact hx
    · rw [List.drop_eq_nil_of_le (by omega)]
      exact hG x hx
  | succ d ih =>
    intro h G σ hh hf hG
    have C' : PC σ 351 l := PC_fr (fun k => hf _ _ (by decide)) (fun k => hf _ _ (by decide)) C
    have hlt : h < l.length := by omega
    obtain ⟨q, hq⟩ : ∃ q, q = l[h] := ⟨_, rfl⟩
    have hq2 : l[h]? = some q := by rw [hq]; exact List.getElem?_eq_getElem hlt
    obtain ⟨b1, b2⟩ := hbd q (by rw [hq]; exact List.getElem_mem hlt)
    obtain ⟨e0, e2, e3, e5⟩ := pc_at p351 (show wR σ (351 + 9) from ⟨w9.1, by rw [hf _ _ (by decide)]; exact w9.2⟩) C' hq2
    obtain ⟨s1, a1, a2, a3⟩ := l5a (d1 := some (vI (h : Nat))) (G := G) h1 h2 b1 b2 w1 w2 w3 z1 z2 z3 hO hN (pt O N q) 0 σ (by omega) hf (fun x hx => by rw [pe1_0]; exact hG x hx)
    obtain ⟨s2, c1, c2, c3⟩ := l5b (d1 := some (vI (h : Nat))) (G := G) h1 h2 b1 b2 w1 w2 w3 z1 z2 z3 hO hN (pu O N q) 0 s1 (by omega) a3 a2
    obtain ⟨s, f1, f2, f3⟩ := ih (h + 1) (pe O N q G) s2 (by omega) c3 c2
    have D5 : Dd 5 [vA 350, vI h] σ (rV s2) := by
      refine b5 ⟨_, _, e0, _, _, e3, _, _, e2, _, _, e5, ?_⟩
      have z := a1 c1
      rw [Nat.add_zero, Nat.add_zero] at z
      exact z
    refine ⟨s, fun {o} hx d4 => b4_83 hP hQ ⟨_, _, d98' p351 C', ?_⟩, fun x hx => ?_, f3⟩
    · rw [if_pos (by omega), show (h : Int) + 1 = ((h + 1 : Nat) : Int) by omega]
      exact ⟨_, D5, by omega, f1 hx d4⟩
    · rw [f2 x hx, List.drop_eq_getElem_cons hlt, List.foldl_cons, ← hq]
theorem l4a {P Q nb na na' : Nat} {F F' : Nat → Int} {σ0 : Sg} (hP : isPatch P = true) (hQ : isPatch Q = true) (hPl : P < 338 ∨ 378 < P) (hQl : Q < 338 ∨ 378 < Q) (h1 : nb ≤ 96) (V : VF F nb na) (w5 : wR σ0 (P + 5)) (w5' : wR σ0 (Q + 5)) (z1 : σ0 (P + 1) 1 = (nb : Nat)) (z5 : σ0 (P + 5) 1 = (nb : Nat)) (z5' : σ0 (Q + 5) 1 = (na : Nat)) (hF : ∀ i, i < nb → σ0 (P + 6) i = F i) (hF' : ∀ i, i < na → σ0 (Q + 6) i = F' i) : ∀ (d i : Nat) (d4 : Option AV) (σ : Sg), i + d = nb → (∀ c x, ¬ c = 377 → ¬ c = 378 → σ c x = σ0 c x) → Rw σ 377 ((List.range i).map (fc F F')) → ∃ s, (∀ {o : Rs}, (∃ (s10 : Sg), Dd 95 [vA 351, vA (P + 1), vA (Q + 3), vA 377] s (rV s10) ∧ ∀ d4, C4_83 P Q 0 d4 s10 o) → C4_9 P Q i d4 σ o) ∧ Rw s 377 ((List.range nb).map (fc F F')) ∧ ∀ c x, ¬ c = 377 → ¬ c = 378 → s c x = σ0 c x := by
  obtain ⟨p377, c377, -⟩ := cpS377
  intro d
  induction d with
  | zero =>
    intro i d4 σ hi hf hR
    have e : i = nb := by omega
    subst e
    refine ⟨σ, fun {o} ⟨s10, x1, x2⟩ => b4_9 hP hQ ⟨_, _, d146 (pat_1 hP), ?_⟩, hR, hf⟩
    rw [hf _ _ (by omega) (by omega), z1, if_neg (by omega)]
    exact ⟨s10, x1, x2 d4⟩
  | succ d ih =>
    intro i d4 σ hi hf hR
    have hlen : ((List.range i).map (fc F F')).length = i := by rw [List.length_map, List.length_range]
    have hR2 := Rw_ad (v := fc F F' i) hR (by rw [hlen, c377]; omega)
    have e1 : (List.range i).map (fc F F') ++ [fc F F' i] = (List.range (i + 1)).map (fc F F') := by
      rw [List.range_succ, List.map_append]
      rfl
    rw [e1] at hR2
    have hw := Rw_wR p377 hR (by rw [hlen, c377]; omega)
    obtain ⟨s, a1, a2, a3⟩ := ih (i + 1) (some (vI (F i))) (adS σ 377 (fc F F' i)) (by omega) (fun c x h h' => by rw [ad_off h h']; exact hf c x h h') hR2
    refine ⟨s, fun {o} hx => b4_9 hP hQ ⟨_, _, d146 (pat_1 hP), ?_⟩, a2, a3⟩
    have e5 := d147 (σ := σ) (a := P + 5) (i := (i : Int)) ⟨w5.1, by rw [hf _ _ (by omega) (by omega)]; exact w5.2⟩
    rw [at_on (n := nb) (f := F) (by rw [hf _ _ (by omega) (by omega)]; exact z5) (fun i hi => by rw [hf _ _ (by omega) (by omega)]; exact hF i hi) (by omega)] at e5
    rw [hf _ _ (by omega) (by omega), z1, if_pos (by omega)]
    refine ⟨_, _, e5, ?_⟩
    have z : C4_53 P Q i (some (vI (F i))) (fc F F' i) σ o := b4_53 ⟨_, d149 hw, by omega, by
      rw [show (i : Int) + 1 = ((i + 1 : Nat) : Int) by omega]
      exact a1 hx⟩
    rcases V.1 i (by omega) with v | v
    · rw [if_pos v]
      unfold fc at z
      rw [if_pos v] at z
      exact z
    · rw [if_neg (by omega)]
      unfold fc at z
      rw [if_neg (by omega)] at z
      have e6 := d147 (σ := σ) (a := Q + 5) (i := F i) ⟨w5'.1, by rw [hf _ _ (by omega) (by omega)]; exact w5'.2⟩
      have e7 : atS σ (Q + 5) (F i) = F' (F i).toNat := by
        have := at_on (σ := σ) (a := Q + 5) (n := na) (f := F') (by rw [hf _ _ (by omega) (by omega)]; exact z5') (fun i hi => by rw [hf _ _ (by omega) (by omega)]; exact hF' i hi) (i := (F i).toNat) (by omega)
        rw [show (((F i).toNat : Nat) : Int) = F i by omega] at this
        exact this
      rw [e7] at e6
      exact ⟨_, _, e6, z⟩
/-- Combiner.joined -/
theorem d4 {σ : Sg} {P Q nb na na' : Nat} (w : WF σ) (hP : isPatch P = true) (hQ : isPatch Q = true) (hPl : P < 338 ∨ 378 < P) (hQl : Q < 338 ∨ 378 < Q) (h1 : nb ≤ 96) (h2 : na ≤ 100) (h3 : na' ≤ 96) (N1 : NP σ P nb na) (N2 : NP σ Q na na') (e1 : ∀ i, i < nb → ¬ σ (P + 6) i = -1 → σ (P + 2) i = σ (P + 4) (σ (P + 6) i).toNat) (e2 : ∀ i, i < na → ¬ σ (Q + 6) i = -1 → σ (Q + 2) i = σ (Q + 4) (σ (Q + 6) i).toNat) (e3 : ∀ k, k < na → σ (P + 4) k = σ (Q + 2) k) : ∃ s, Dd 4 [vA 350, vA P, vA Q] σ (rA 351 s) ∧ NP s 351 nb na' ∧ WF s ∧ (∀ i, i < nb → s 353 i = σ (P + 2) i) ∧ (∀ i, i < na' → s 355 i = σ (Q + 4) i) ∧ (∀ i, i < nb → s 357 i = jp (σ (P + 2)) (σ (Q + 4)) (σ (P + 6)) (σ (Q + 6)) nb na' i) ∧ ∀ c x, ¬ (352 ≤ c ∧ c ≤ 361) → ¬ c = 377 → ¬ c = 378 → s c x = σ c x := by
  obtain ⟨p351, c352, c354, c356, c358, c360⟩ := cpS351
  have c352' : cap (351 + 1) = 96 := c352
  have c354' : cap (351 + 3) = 96 := c354
  have c356' : cap (351 + 5) = 96 := c356
  have c358' : cap (351 + 7) = 96 := c358
  have c360' : cap (351 + 9) = 388 := c360
  obtain ⟨p377, c377, p352, p354, p360⟩ := cpS377
  obtain ⟨n1, n3, n5, n7, V, K, -⟩ := N1
  obtain ⟨m1, m3, m5, m7, V', K', -⟩ := N2
  have hg : P + 13 ≤ 351 ∨ 378 < P := hPl.imp (fun h => patch_gap hP p351 (by omega)) id
  have hg2 : Q + 13 ≤ 351 ∨ 378 < Q := hQl.imp (fun h => patch_gap hQ p351 (by omega)) id
  have W := fc_VF V V'
  obtain ⟨x1, a1, a2, a3⟩ := l4a (σ0 := σ) (F := σ (P + 6)) (F' := σ (Q + 6)) (na' := na') hP hQ hPl hQl h1 V (WF_w w (pat_5 hP)) (WF_w w (pat_5 hQ)) n1 n5 m5 (fun _ _ => rfl) (fun _ _ => rfl) nb 0 none (upS σ 377 1 0) (by omega) (fun c x h h' => up_a h) Rw_nil
  have hlen : ((List.range nb).map (fc (σ (P + 6)) (σ (Q + 6)))).length = nb := by rw [List.length_map, List.length_range]
  have wx := Rw_wR p377 a2 (by rw [hlen, c377]; omega)
  have y1 : x1 377 1 = (nb : Nat) := by rw [a2.1, hlen]
  have y2 : ∀ i, i < nb → x1 378 i = fc (σ (P + 6)) (σ (Q + 6)) i := fun i hi => by
    refine a2.2 i _ ?_
    rw [List.getElem?_map, List.getElem?_range hi]
    rfl
  have WX : WF x1 := WF_row (r := 377) (fun a ha hne => a3 a 1 hne (row_nx p377 ha)) wx.2 w
  have Vx : VF (x1 (377 + 1)) nb na' := VF_cg y2 W
  obtain ⟨x2, c1, c2, c3, c4, c5, c6, c7⟩ := d95 (P := 351) (x1 := P + 1) (x2 := Q + 3) (x3 := 377) (nb := nb) (na := na') (σ := x1) p351 (WF_w WX (pat_1 hP)) (WF_w WX (pat_3 hQ)) wx (by rw [a3 _ _ (by omega) (by omega)]; exact n1) (by rw [a3 _ _ (by omega) (by omega)]; exact m3) y1 Vx (by omega) (by omega) (by omega) (by omega) (by omega) (by omega) (by omega) (by omega)
  have WX2 : WF x2 := WF_np WX p351 c2 c3 (by omega) (by omega) (by omega) (by omega) c7
  have hk : hks (x2 (351 + 6)) nb na' = hks (fc (σ (P + 6)) (σ (Q + 6))) nb na' := hks_cg (fun i hi => by rw [c6 i hi]; exact y2 i hi)
  have C2 := PC_of c2 (by omega) (by omega)
  rw [hk] at C2
  have hlk := hks_len W
  obtain ⟨x3, f1, f2, f3⟩ := l4c (l := hks (fc (σ (P + 6)) (σ (Q + 6))) nb na') (O := σ (P + 2)) (N := σ (Q + 4)) (σ0 := x2) hP hQ p351 (by omega) (by omega) (by omega) (fun q hq => by
    obtain ⟨n, hn⟩ := List.getElem?_of_mem hq
    exact hks_bd W hn) (WF_w WX2 p352) (WF_w WX2 p354) (WF_w WX2 p377) (WF_w WX2 p360) c2.1 c2.2.1 (by rw [c7 _ _ (by omega)]; exact y1) (fun i hi => by rw [c4 i hi, a3 _ _ (by omega) (by omega)]) (fun i hi => by rw [c5 i hi, a3 _ _ (by omega) (by omega)]) C2 (hks (fc (σ (P + 6)) (σ (Q + 6))) nb na').length 0 (fc (σ (P + 6)) (σ (Q + 6))) x2 (by omega) (fun _ _ _ => rfl) (fun i hi => by rw [c7 _ _ (by omega)]; exact y2 i hi)
  have g := jp_GD V V' e1 e2 e3
  have h378 : ∀ a, isRow a = true → ¬ a = 378 := fun a ha => row_nx p377 ha
  have WX3 : WF x3 := WF_e (fun a ha => f3 a 1 (h378 a ha)) WX2
  have q1 : ¬ P + 1 = 378 := by omega
  have q2 : ¬ Q + 3 = 378 := by omega
  have fr : ∀ c x, ¬ (352 ≤ c ∧ c ≤ 361) → ¬ c = 377 → ¬ c = 378 → x3 c x = σ c x := fun c x k1 k2 k3 => by rw [f3 c x k3, c7 c x (by omega), a3 c x k2 k3]
  have V3 : VF (x3 (377 + 1)) nb na' := VF_cg f2 g.1
  obtain ⟨x4, g1, g2, g3, g4, g5, g6, g7⟩ := d95 (P := 351) (x1 := P + 1) (x2 := Q + 3) (x3 := 377) (nb := nb) (na := na') (σ := x3) p351 (WF_w WX3 (pat_1 hP)) (WF_w WX3 (pat_3 hQ)) (WF_w WX3 p377) (by rw [fr _ _ (by omega) (by omega) (by omega)]; exact n1) (by rw [fr _ _ (by omega) (by omega) (by omega)]; exact m3) (by rw [f3 _ _ (by decide), c7 _ _ (by omega)]; exact y1) V3 (by omega) (by omega) (by omega) (by omega) (by omega) (by omega) (by omega) (by omega)
  refine ⟨x4, b4 ⟨_, d152 p377, a1 ⟨x2, c1, fun d4 => f1 ⟨x4, g1, rfl⟩ d4⟩⟩, g2, WF_np WX3 p351 g2 g3 (by omega) (by omega) (by omega) (by omega) g7, fun i hi => ?_, fun i hi => ?_, fun i hi => ?_, fun c x k1 k2 k3 => by rw [g7 c x (by omega)]; exact fr c x k1 k2 k3⟩
  · rw [g4 i hi, fr _ _ (by omega) (by omega) (by omega)]
  · rw [g5 i hi, fr _ _ (by omega) (by omega) (by omega)]
  · rw [g6 i hi]; exact f2 i hi
theorem o11 {σ : Sg} {c a1 a2 : Int} (H : Rel c σ) : OpR 401 301 [vA 0, vI a1, vI a2, vA 726] [vA 682, vI a1, vI a2] σ (c + 1) := by
  by_cases g1 : a1 < 0
  · exact x11_0 H g1
  by_cases g2 : σ 0 3 ≤ a1
  · exact x11_1 H g2
  have k1 : 0 ≤ a1 ∧ a1 < σ 0 3 := by omega
  by_cases g3 : a2 < 0
  · exact x11_2 H k1 g3
  by_cases g4 : σ 0 3 ≤ a2
  · exact x11_3 H k1 g4
  have k2 : 0 ≤ a2 ∧ a2 < σ 0 3 := by omega
  obtain ⟨a, rfl⟩ := Int.eq_ofNat_of_zero_le k1.1
  obtain ⟨b, rfl⟩ := Int.eq_ofNat_of_zero_le k2.1
  have hn := (rel_n H).1
  obtain ⟨hP, q1, q2, w1, w3⟩ := po_pat H k1.2
  obtain ⟨nb, na, b1, b2, N, S⟩ := po_slot q1 q2 w1 w3
  obtain ⟨hQ, r1, r2, y1, y3⟩ := po_pat H k2.2
  obtain ⟨nb', na', b3, b4', N', S'⟩ := po_slot r1 r2 y1 y3
  have e230 := d230_ok (σ := σ) k1 hn.2.2
  have f230 := d230_ok (σ := σ) k2 hn.2.2
  rw [show ((a : Int)).toNat = a by omega] at e230
  rw [show ((b : Int)).toNat = b by omega] at f230
  obtain ⟨c1, c2⟩ := d237 hP hQ H.1 N N'
  have m0 : ∀ {s : Sg} {o : Rs}, s 682 3 = σ 682 3 → C301_21 a b none 1 s o → Dd 301 [vA 682, vI a, vI b] s o := by
    intro s o h hh
    refine b301 ⟨_, _, d248_ok (by omega), ?_⟩
    rw [if_neg (show ¬ (1 : Int) = 0 by decide)]
    refine ⟨_, _, d248_ok (by omega), ?_⟩
    rw [if_neg (show ¬ (1 : Int) = 0 by decide)]
    exact hh
  have mx : ∀ s : Sg, C301_49 a b (some (vI 1)) s (rI 0 (upS s 682 0 2)) := by
    intro s
    refine b301_49 (b301_54 ⟨_, _, d245, ?_⟩)
    rw [if_neg (show ¬ (2 : Int) = 0 by decide), if_pos rfl]
  by_cases hf : FLW nb' na (σ (20 + 13 * a + 4)) (σ (20 + 13 * b + 2))
  · have ena := hf.1
    subst ena
    have gd : ∀ {P nb na : Nat}, NP σ P nb na → PO σ P 16 → ∀ i, i < nb → ¬ σ (P + 6) i = -1 → σ (P + 2) i = σ (P + 4) (σ (P + 6) i).toNat := by
      intro P nb na n h i hi e
      have n1 := n.1
      rcases h.2.2.2.2.1 i (by omega) with z | z
      · exact absurd z e
      · exact z.2.2.2
    obtain ⟨s1, a1', n2, W1, v1, v2, v3, fr⟩ := d4 H.1 hP hQ (by omega) (by omega) (by omega) (by omega) (by omega) N N' (gd N q2) (gd N' r2) hf.2
    obtain ⟨p351, -⟩ := cpS351
    have F1 : ∀ a k, a < 682 → KP a k → s1 a k = σ a k := fun a k h1 h2 => fr a k (by omega) (by omega) (by omega)
    have G1 : ∀ a k, 682 ≤ a → s1 a k = σ a k := fun a k h1 => fr a k (by omega) (by omega) (by omega)
    have g := jp_GD N.2.2.2.2.1 N'.2.2.2.2.1 (gd N q2) (gd N' r2) hf.2
    have P1 : PO s1 351 16 := by
      have z1 := N.1
      have z3 := N'.2.1
      refine PO_of n2 (by omega) (by omega) (fun i hi e => ?_) (fun i hi => ?_) (fun i hi => ?_)
      · have z6 : s1 (351 + 6) i = _ := v3 i hi
        rw [z6] at e ⊢
        rcases g.1.1 i hi with y | y
        · exact absurd y e
        have z2 : s1 (351 + 2) i = _ := v1 i hi
        rw [z2, g.2 i hi e]
        exact (v2 _ (by omega)).symm
      · have z2 : s1 (351 + 2) i = _ := v1 i hi
        rw [z2]; exact q2.2.2.2.2.2.2.2.1 i (by omega)
      · have z2 : s1 (351 + 4) i = _ := v2 i hi
        rw [z2]; exact r2.2.2.2.2.2.2.2.2.1 i (by omega)
    by_cases g5 : σ 0 3 < 24
    · obtain ⟨p, hp⟩ := Int.eq_ofNat_of_zero_le hn.2.1
      refine op_st H hp (by omega) p351 (by decide) W1 F1 G1 P1 n2.1 n2.2.1 (fun s hs => b401 (Or.inl ⟨_, _, b183 (Or.inl ⟨_, _, e230, hP, Or.inl ⟨_, _, f230, hQ, Or.inl ⟨_, c1 hf, _, _, a1', p351, Or.inl ⟨_, _, hs, rfl⟩⟩⟩⟩), rfl⟩)) (fun s hs => ?_)
      have e3 := hs 682 3 (by decide) (by decide)
      have fr0 : ∀ c k, 685 ≤ c ∧ c ≤ 689 → s c k = σ c k := fun c k h => hs c k (by omega) (by omega)
      have fr2 : ∀ c k, 685 ≤ c ∧ c ≤ 689 → upS s 682 0 0 c k = σ c k := fun c k h => by rw [up_a (by omega)]; exact hs c k (by omega) (by omega)
      obtain ⟨s', d1, d2, d3⟩ := d295 (s := a) (t := b) (p := p) (σ := upS s 682 0 0) (by omega) (by omega) (by omega) (by omega) (by omega) (by omega) (by omega) (by omega) N.2.2.2.2.1 N'.2.2.2.2.1 (Slot_fr fr2 S) (Slot_fr fr2 S')
      have e4 : s' 682 3 = (p : Nat) := by rw [d3 _ _ (by omega) (by omega) (by omega), up_k (by decide)]; omega
      refine ⟨upS s' 682 3 ((p : Int) + 1), m0 e3 ?_, ?_, up_s, fun b k h => ?_, fun b k h1 h2 h3 h4 h5 h6 => ?_, ?_⟩
      · refine b301_21 ?_
        rw [if_neg (show ¬ (1 : Int) = 0 by decide)]
        refine ⟨_, _, (d290 (by omega) (by omega) (by omega) (Slot_fr fr0 S) (Slot_fr fr0 S')).1 hf, ?_⟩
        rw [if_neg (show ¬ (1 : Int) = 0 by decide), if_neg (by omega)]
        refine b301_54 ⟨_, _, d245, ?_⟩
        rw [if_pos rfl, if_neg (show ¬ (1 : Int) = 0 by decide), up_k (by decide), e3, hn.1, hp]
        refine ⟨s', d1, ?_⟩
        rw [e4, up_s, show ((p : Nat) : Int) + 1 - 1 = (p : Int) by omega]
        exact ⟨by omega, by omega, rfl⟩
      · rw [up_k (by decide), d3 _ _ (by omega) (by omega) (by omega), up_s]
      · rw [up_a (by omega), d3 _ _ (by omega) (by omega) (by omega), up_a (by omega)]
      · have : upS s' 682 3 ((p : Int) + 1) b k = s' b k := by unfold upS; rw [if_neg h4]
        rw [this, d3 _ _ h5 h6 (by omega)]
        have : upS s 682 0 0 b k = s b k := by unfold upS; rw [if_neg (by omega)]
        rw [this]
        exact hs b k h1 (by omega)
      · obtain ⟨t1, t2, t3, t4, t5⟩ := d2
        refine ⟨by rw [up_a (by decide)]; exact t1, by rw [up_a (by decide)]; exact t2, fun i hi => ?_, fun i hi => ?_, fun i hi => ?_⟩
        · rw [up_a (by decide), t3 i hi]; exact (v1 i hi).symm
        · rw [up_a (by decide), t4 i hi]; exact (v2 i hi).symm
        · rw [up_a (by decide), t5 i hi]; exact (v3 i hi).symm
    · have hfull : Dd 242 [vA 0, vA 351] s1 (rX 2 s1) := d242_full (by rw [F1 0 3 (by decide) (by omega)]; exact g5)
      have e3 := G1 682 3 (by decide)
      have fr0 : ∀ c k, 685 ≤ c ∧ c ≤ 689 → s1 c k = σ c k := fun c k h => G1 c k (by omega)
      refine op_full H (kx := 2) (by decide) W1 F1 G1 (b401 (Or.inr (Or.inr ⟨_, b183 (Or.inl ⟨_, _, e230, hP, Or.inl ⟨_, _, f230, hQ, Or.inl ⟨_, c1 hf, _, _, a1', p351, Or.inr ⟨_, _, hfull, rfl⟩⟩⟩⟩), rfl⟩))) ⟨upS s1 682 0 2, 0, m0 e3 ?_, up_s, fun b k h => by rw [up_a (by omega)], fun b k h1 h2 => ?_⟩
      · refine b301_21 ?_
        rw [if_neg (show ¬ (1 : Int) = 0 by decide)]
        refine ⟨_, _, (d290 (by omega) (by omega) (by omega) (Slot_fr fr0 S) (Slot_fr fr0 S')).1 hf, ?_⟩
        rw [if_neg (show ¬ (1 : Int) = 0 by decide), if_pos (by omega)]
        exact mx _
      · have : upS s1 682 0 2 b k = s1 b k := by unfold upS; rw [if_neg (by omega)]
        rw [this]
        exact G1 b k h1
  · refine op_x H (kx := 2) (b := 0) (by decide) (b401 (Or.inr (Or.inr ⟨_, b183 (Or.inl ⟨_, _, e230, hP, Or.inl ⟨_, _, f230, hQ, Or.inr ⟨_, _, c2 hf, rfl⟩⟩⟩), rfl⟩))) (m0 rfl ?_)
    refine b301_21 ?_
    rw [if_neg (show ¬ (1 : Int) = 0 by decide)]
    refine ⟨_, _, (d290 (by omega) (by omega) (by omega) S S').2 hf, ?_⟩
    rw [if_pos rfl]
    exact mx _
end
