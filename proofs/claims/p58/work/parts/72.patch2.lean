/-! Patches that are stored: what stays, what is new. -/
noncomputable section
theorem WF_bc {σ : Sg} {a b : Nat} (ha : isRow a = true) (hb : isRow b = true) (H : WF σ) : WF (bcS σ a b) := by
  intro r hr
  by_cases e : r = a
  · subst e
    have h1 := H b hb
    unfold bcS cpS
    rw [if_neg (by omega), up_s]
    split <;> omega
  · rw [bc_off e (row_nx ha hr)]
    exact H r hr
theorem WF_pb {σ : Sg} {P Q : Nat} (hP : isPatch P = true) (hQ : isPatch Q = true) (H : WF σ) : WF (pbS σ P Q) :=
  WF_bc (pat_9 hP) (pat_9 hQ) (WF_bc (pat_7 hP) (pat_7 hQ) (WF_bc (pat_5 hP) (pat_5 hQ) (WF_bc (pat_3 hP) (pat_3 hQ) (WF_bc (pat_1 hP) (pat_1 hQ) H))))
theorem WF_up {σ : Sg} {a k : Nat} {v : Int} (h : isRow a = false ∨ ¬ k = 1) (H : WF σ) : WF (upS σ a k v) := by
  intro r hr
  have : upS σ a k v r 1 = σ r 1 := by
    unfold upS
    rw [if_neg]
    rintro ⟨e1, e2⟩
    rcases h with h | h
    · rw [e1, h] at hr; exact absurd hr (by decide)
    · exact h e2.symm
  rw [this]
  exact H r hr
theorem cpP {p : Nat} (h : p < 24) : cap (20 + 13 * p + 1) = 16 ∧ cap (20 + 13 * p + 3) = 16 ∧ cap (20 + 13 * p + 5) = 16 ∧ cap (20 + 13 * p + 7) = 16 ∧ cap (20 + 13 * p + 9) = 68 ∧ cap (20 + 13 * p + 11) = 16 ∧ isPatch (20 + 13 * p) = true ∧ qE 19 p (20 + 13 * p) = true := by
  have h2 : ∀ m, m < 24 → cap (20 + 13 * m + 1) = 16 ∧ cap (20 + 13 * m + 3) = 16 ∧ cap (20 + 13 * m + 5) = 16 ∧ cap (20 + 13 * m + 7) = 16 ∧ cap (20 + 13 * m + 9) = 68 ∧ cap (20 + 13 * m + 11) = 16 ∧ isPatch (20 + 13 * m) = true ∧ qE 19 m (20 + 13 * m) = true := by decide +kernel
  exact h2 p h
theorem cpL {p : Nat} (h : p < 5) : cap (406 + 13 * p + 1) = 16 ∧ cap (406 + 13 * p + 3) = 16 ∧ cap (406 + 13 * p + 5) = 16 ∧ cap (406 + 13 * p + 7) = 16 ∧ cap (406 + 13 * p + 9) = 68 ∧ cap (406 + 13 * p + 11) = 16 ∧ isPatch (406 + 13 * p) = true ∧ qE 405 p (406 + 13 * p) = true := by
  have h2 : ∀ m, m < 5 → cap (406 + 13 * m + 1) = 16 ∧ cap (406 + 13 * m + 3) = 16 ∧ cap (406 + 13 * m + 5) = 16 ∧ cap (406 + 13 * m + 7) = 16 ∧ cap (406 + 13 * m + 9) = 68 ∧ cap (406 + 13 * m + 11) = 16 ∧ isPatch (406 + 13 * m) = true ∧ qE 405 m (406 + 13 * m) = true := by decide +kernel
  exact h2 p h
theorem WF_pw {σ : Sg} {Q : Nat} (H : WF σ) : ∀ j, j ≤ 9 → isRow (Q + j) = true → wR σ (Q + j) := fun j _ h => WF_w H h
theorem rowEq_fr2 {σ σ' : Sg} {a A off : Nat} {n n' : Int} (ha : σ' a 1 = σ a 1) (hb : ∀ i, σ' (a + 1) i = σ (a + 1) i) (hA : ∀ i : Nat, (i : Int) < n → σ' A (off + i) = σ A (off + i)) (hn : n' = n) (H : rowEq σ a A off n) : rowEq σ' a A off n' := by
  subst hn
  refine ⟨by rw [ha]; exact H.1, fun i hi => ?_⟩
  rw [hb, hA i hi]
  exact H.2 i hi
theorem PR_fr2 {σ σ' : Sg} {P s : Nat} (h : ∀ c k, P + 1 ≤ c ∧ c ≤ P + 6 → σ' c k = σ c k) (h2 : ∀ c k, 685 ≤ c ∧ c ≤ 687 → k < 100 → σ' c (100 * s + k) = σ c (100 * s + k)) (h3 : σ' 688 s = σ 688 s ∧ σ' 689 s = σ 689 s) (hn : σ 688 s ≤ 100 ∧ σ 689 s ≤ 100) (H : PR σ P s) : PR σ' P s :=
  ⟨rowEq_fr2 (h _ _ (by omega)) (fun i => h _ _ (by omega)) (fun i hi => h2 _ _ (by omega) (by omega)) h3.1 H.1, rowEq_fr2 (h _ _ (by omega)) (fun i => h _ _ (by omega)) (fun i hi => h2 _ _ (by omega) (by omega)) h3.2 H.2.1, rowEq_fr2 (h _ _ (by omega)) (fun i => h _ _ (by omega)) (fun i hi => h2 _ _ (by omega) (by omega)) h3.1 H.2.2⟩
theorem PR_16 {σ : Sg} {P s : Nat} {m : Int} (H : PR σ P s) (H2 : PO σ P m) : σ 688 s ≤ m ∧ σ 689 s ≤ m ∧ σ (P + 1) 1 = σ 688 s ∧ σ (P + 3) 1 = σ 689 s ∧ σ (P + 5) 1 = σ 688 s := by
  have a1 := H.1.1
  have a2 := H.2.1.1
  have b1 := H2.1
  have b2 := H2.2.1
  have b3 := H2.2.2.1
  exact ⟨by omega, by omega, by omega, by omega, by omega⟩
theorem RP_fr2 {σ σ' : Sg} (h : ∀ c k, (20 ≤ c ∧ c ≤ 331) ∨ (685 ≤ c ∧ c ≤ 687 ∧ k < 2400) ∨ ((c = 688 ∨ c = 689) ∧ k < 24) ∨ (c = 0 ∧ k = 3) ∨ (c = 682 ∧ k = 3) → σ' c k = σ c k) (H : RP σ) : RP σ' := by
  obtain ⟨h1, h2, h3, h4⟩ := H
  have e0 := h 0 3 (by omega)
  have e1 := h 682 3 (by omega)
  refine ⟨by omega, by omega, by omega, fun p hp => ?_⟩
  rw [e0] at hp
  obtain ⟨g1, g2⟩ := h4 p hp
  have b := PR_16 g1 g2
  exact ⟨PR_fr2 (fun c k hc => h _ _ (by omega)) (fun c k hc hk => h _ _ (by omega)) ⟨h _ _ (by omega), h _ _ (by omega)⟩ (by omega) g1, PO_fr (fun c k hc => h _ _ (by omega)) g2⟩
theorem RSt_fr2 {σ σ' : Sg} {c0 c1 : Int} (hc : c0 ≤ c1) (h : ∀ c k, (402 ≤ c ∧ c ≤ 472) ∨ (685 ≤ c ∧ c ≤ 687 ∧ 2400 ≤ k ∧ k < 2900) ∨ ((c = 688 ∨ c = 689) ∧ 24 ≤ k ∧ k < 29) ∨ c = 710 ∨ c = 711 ∨ (c = 682 ∧ 39 ≤ k ∧ k ≤ 41) → σ' c k = σ c k) (H : RSt c0 σ) : RSt c1 σ' := by
  obtain ⟨h1, h2, h3, h4, h5, h6, h7, h8, h9, h10, h11⟩ := H
  have e0 := h 402 3 (by omega)
  have e1 := h 402 4 (by omega)
  have e2 := h 682 39 (by omega)
  have e3 := h 682 40 (by omega)
  have e4 := h 682 41 (by omega)
  refine ⟨by omega, by omega, by omega, by omega, by omega, by omega, rowEq_fr (h _ _ (by omega)) (fun i => h _ _ (by omega)) (fun i => h _ _ (by omega)) e0 h7, fun k hk => ?_, rowEq_fr (h _ _ (by omega)) (fun i => h _ _ (by omega)) (fun i => h _ _ (by omega)) e2 h9, fun i hi => ?_, fun k hk => ?_⟩
  · rw [e0] at hk
    rw [h 472 k (by omega), e1]
    exact h8 k hk
  · rw [h 403 1 (by omega)] at hi
    rw [h 404 i (by omega)]
    exact h10 i hi
  · rw [e0] at hk
    obtain ⟨g1, g2, g3⟩ := h11 k hk
    have b := PR_16 g1 g2
    have hb : blw k = 403 ∨ (409 ≤ blw k ∧ blw k ≤ 470) := by
      unfold blw
      split
      · exact Or.inl rfl
      · right; omega
    refine ⟨PR_fr2 (fun c k hc => h _ _ (by omega)) (fun c j hc hj => h _ _ (by omega)) ⟨h _ _ (by omega), h _ _ (by omega)⟩ (by omega) g1, PO_fr (fun c k hc => h _ _ (by omega)) g2, smP_fr (funext fun k => h _ _ (by omega)) (funext fun k => h _ _ (by omega)) (funext fun k => h _ _ (by omega)) (funext fun k => h _ _ (by omega)) g3⟩
/-- one more patch -/
theorem RP_new {σ s : Sg} {p : Nat} (H : RP σ) (hp : σ 0 3 = (p : Nat)) (h24 : p < 24) (e0 : s 0 3 = (p : Int) + 1) (e1 : s 682 3 = (p : Int) + 1) (h : ∀ c k, (20 ≤ c ∧ c < 20 + 13 * p) ∨ (685 ≤ c ∧ c ≤ 687 ∧ k < 100 * p) ∨ ((c = 688 ∨ c = 689) ∧ k < p) → s c k = σ c k) (n1 : PR s (20 + 13 * p) p) (n2 : PO s (20 + 13 * p) 16) : RP s := by
  obtain ⟨h1, h2, h3, h4⟩ := H
  refine ⟨by omega, by omega, by omega, fun q hq => ?_⟩
  by_cases e : q = p
  · rw [e]; exact ⟨n1, n2⟩
  · obtain ⟨g1, g2⟩ := h4 q (by omega)
    have b := PR_16 g1 g2
    exact ⟨PR_fr2 (fun c k hc => h _ _ (by omega)) (fun c k hc hk => h _ _ (by omega)) ⟨h _ _ (by omega), h _ _ (by omega)⟩ (by omega) g1, PO_fr (fun c k hc => h _ _ (by omega)) g2⟩
/-- a patch was copied, and its slot too -/
theorem PR_cg {σ σ' : Sg} {P Q s t : Nat} (h : ∀ j, j = 1 ∨ j = 3 ∨ j = 5 ∨ j = 7 ∨ j = 9 → σ' (P + j) 1 = σ (Q + j) 1 ∧ ∀ k : Nat, (k : Int) < σ (Q + j) 1 → σ' (P + j + 1) k = σ (Q + j + 1) k) (h2 : ∀ c k, 685 ≤ c ∧ c ≤ 687 → k < 100 → σ' c (100 * t + k) = σ c (100 * s + k)) (h3 : σ' 688 t = σ 688 s ∧ σ' 689 t = σ 689 s) (hn : σ 688 s ≤ 100 ∧ σ 689 s ≤ 100) (H : PR σ Q s) : PR σ' P t := by
  obtain ⟨a1, c1⟩ := h 1 (by omega)
  obtain ⟨a3, c3⟩ := h 3 (by omega)
  obtain ⟨a5, c5⟩ := h 5 (by omega)
  obtain ⟨⟨p1, q1⟩, ⟨p2, q2⟩, ⟨p3, q3⟩⟩ := H
  refine ⟨⟨by rw [a1, h3.1]; exact p1, fun i hi => ?_⟩, ⟨by rw [a3, h3.2]; exact p2, fun i hi => ?_⟩, ⟨by rw [a5, h3.1]; exact p3, fun i hi => ?_⟩⟩
  · rw [h3.1] at hi
    rw [h2 685 i (by omega) (by omega), c1 i (by omega)]
    exact q1 i hi
  · rw [h3.2] at hi
    rw [h2 686 i (by omega) (by omega), c3 i (by omega)]
    exact q2 i hi
  · rw [h3.1] at hi
    have e5 : σ' (P + 5 + 1) i = σ (Q + 5 + 1) i := c5 i (by omega)
    rw [h2 687 i (by omega) (by omega), e5]
    exact q3 i hi
theorem d231_ok {σ : Sg} {k : Int} (hk : 0 ≤ k ∧ k < σ 402 3) (h5 : σ 402 3 ≤ 5) : Dd 231 [vA 0, vI k] σ (rA (406 + 13 * k.toNat) σ) := by
  have hc := cpL (p := k.toNat) (by omega)
  have e : Dd 89 [vA 405, vI k, vI (σ 402 3)] σ (rA (406 + 13 * k.toNat) σ) := by
    refine b89 ?_
    rw [if_pos hk.1, if_pos hk.2]
    refine ⟨5, by decide +kernel, by omega, ?_⟩
    rw [if_pos (by omega)]
    exact ⟨hk.1, _, hc.2.2.2.2.2.2.2, hc.2.2.2.2.2.2.1, rfl⟩
  refine b231 ⟨_, _, e, fun h => (by cases h), fun a h => ?_⟩
  cases h
  exact ⟨hc.2.2.2.2.2.2.1, rfl⟩
theorem d230_ok {σ : Sg} {k : Int} (hk : 0 ≤ k ∧ k < σ 0 3) (h5 : σ 0 3 ≤ 24) : Dd 230 [vA 0, vI k] σ (rA (20 + 13 * k.toNat) σ) := by
  have hc := cpP (p := k.toNat) (by omega)
  have e : Dd 89 [vA 19, vI k, vI (σ 0 3)] σ (rA (20 + 13 * k.toNat) σ) := by
    refine b89 ?_
    rw [if_pos hk.1, if_pos hk.2]
    refine ⟨24, by decide +kernel, by omega, ?_⟩
    rw [if_pos (by omega)]
    exact ⟨hk.1, _, hc.2.2.2.2.2.2.2, hc.2.2.2.2.2.2.1, rfl⟩
  refine b230 ⟨_, _, e, fun h => (by cases h), fun a h => ?_⟩
  cases h
  exact ⟨hc.2.2.2.2.2.2.1, rfl⟩
theorem d340_ok {σ : Sg} {k : Int} (hk : 0 ≤ k ∧ k < σ 682 40) : Dd 340 [vA 682, vI k] σ (rI 1 σ) := by
  have e := d246 (x := k) (n := σ 682 40) (σ := σ)
  rw [if_pos hk] at e
  exact b340 ⟨_, _, e, Or.inr rfl, rfl⟩
theorem d248_ok {σ : Sg} {k : Int} (hk : 0 ≤ k ∧ k < σ 682 3) : Dd 248 [vA 682, vI k] σ (rI 1 σ) := by
  have e := d246 (x := k) (n := σ 682 3) (σ := σ)
  rw [if_pos hk] at e
  exact b248 ⟨_, _, e, Or.inr rfl, rfl⟩
/-- PatchBench.store -/
theorem d242_ok {σ : Sg} {Q p : Nat} (hp : σ 0 3 = (p : Nat)) (h24 : p < 24) (hQ : isPatch Q = true) (hne : 20 + 13 * p < Q ∨ Q < 20 + 13 * p) (hw : ∀ j, j ≤ 9 → isRow (Q + j) = true → wR σ (Q + j)) : Dd 242 [vA 0, vA Q] σ (rI p (upS (pbS σ (20 + 13 * p) Q) 0 3 ((p : Int) + 1))) := by
  have hc := cpP h24
  refine b242 ?_
  rw [if_pos (by omega), if_neg (by omega), hp, show ((p : Nat) : Int).toNat = p by omega]
  refine ⟨by omega, _, hc.2.2.2.2.2.2.2, hc.2.2.2.2.2.2.1, _, d96 hc.2.2.2.2.2.2.1 hQ hne hw, ?_⟩
  rw [pb_off (by omega), hp, up_s, show ((p : Nat) : Int) + 1 - 1 = (p : Int) by omega]
  exact ⟨by omega, by omega, rfl⟩
theorem d242_full {σ : Sg} {Q : Nat} (h24 : ¬ σ 0 3 < 24) : Dd 242 [vA 0, vA Q] σ (rX 2 σ) := by
  refine b242 ?_
  rw [if_neg h24]
  exact b242_21 rfl
/-- the model's numbers -/
theorem d289_ok {σ : Sg} {s p : Nat} (hs : s < 44) (hp : σ 682 3 = (p : Nat)) (h24 : p < 44) : Dd 289 [vA 682, vI s] σ (rI p (upS (cpyS σ s p) 682 3 ((p : Int) + 1))) := by
  have e := d288 (σ := σ) hs h24
  rw [← hp] at e
  refine b289 ⟨_, e, ?_⟩
  rw [cpy_off (by decide), hp, up_s, show ((p : Nat) : Int) + 1 - 1 = (p : Int) by omega]
  exact ⟨by omega, by omega, rfl⟩
theorem o31 {σ : Sg} {c a1 : Int} (H : Rel c σ) : OpR 420 347 [vA 0, vI a1, vA 726] [vA 682, vI a1] σ (c + 1) := by
  by_cases g1 : a1 < 0
  · exact x31_0 H g1
  by_cases g2 : σ 402 3 ≤ a1
  · exact x31_1 H g2
  have k1 : 0 ≤ a1 ∧ a1 < σ 402 3 := by omega
  obtain ⟨⟨n1, n2, n3⟩, ⟨n4, n5, n6⟩, -⟩ := rel_n H
  obtain ⟨t, ht⟩ := Int.eq_ofNat_of_zero_le k1.1
  have hL := cpL (p := t) (by omega)
  have e231 := d231_ok k1 n6
  rw [show a1.toNat = t by omega] at e231
  have m0 : ∀ {σ' : Sg} {o : Rs}, σ' 682 40 = σ 682 40 → C347_27 a1 (if σ' 682 3 = 24 then 2 else 0) σ' o → Dd 347 [vA 682, vI a1] σ' o := by
    intro σ' o h hh
    refine b347 ⟨_, _, d340_ok (by omega), ?_⟩
    rw [if_neg (show ¬ (1 : Int) = 0 by decide)]
    exact hh
  by_cases g3 : σ 0 3 < 24
  · obtain ⟨p, hp⟩ := Int.eq_ofNat_of_zero_le n2
    have hP := cpP (p := p) (by omega)
    have hA : Dd 203 [vA 0, vI a1] σ (rI p (upS (pbS σ (20 + 13 * p) (406 + 13 * t)) 0 3 ((p : Int) + 1))) := b203 (Or.inl ⟨_, _, e231, hL.2.2.2.2.2.2.1, Or.inl ⟨_, _, d242_ok hp (by omega) hL.2.2.2.2.2.2.1 (by omega) (WF_pw H.1), rfl⟩⟩)
    have hW := b420 (Or.inl ⟨_, _, hA, rfl⟩)
    rw [show ((0 : Int).toNat) = 0 from rfl] at hW
    have c1 : ∀ c k, ¬ (20 + 13 * p + 1 ≤ c ∧ c ≤ 20 + 13 * p + 10) → ¬ (c = 0 ∧ k = 3) → ¬ c = 726 → (upS (upS (pbS σ (20 + 13 * p) (406 + 13 * t)) 0 3 ((p : Int) + 1)) 726 0 (p : Nat)) c k = σ c k := by
      intro c k h1 h2 h3
      rw [up_a h3]
      have : upS (pbS σ (20 + 13 * p) (406 + 13 * t)) 0 3 ((p : Int) + 1) c k = pbS σ (20 + 13 * p) (406 + 13 * t) c k := by
        unfold upS
        rw [if_neg h2]
      rw [this, pb_off h1]
    have c2 : (upS (upS (pbS σ (20 + 13 * p) (406 + 13 * t)) 0 3 ((p : Int) + 1)) 726 0 (p : Nat)) 0 3 = (p : Int) + 1 := by rw [up_a (by decide), up_s]
    have c3 : (upS (upS (pbS σ (20 + 13 * p) (406 + 13 * t)) 0 3 ((p : Int) + 1)) 726 0 (p : Nat)) 726 0 = (p : Nat) := up_s
    obtain ⟨r1, r2, r3⟩ := H.2.2.2.2.2.1.2.2.2.2.2.2.2.2.2.2 t (by omega)
    have hrow : ∀ j, j = 1 ∨ j = 3 ∨ j = 5 ∨ j = 7 ∨ j = 9 → isRow (406 + 13 * t + j) = true ∧ cap (406 + 13 * t + j) = cap (20 + 13 * p + j) := by
      intro j hj
      have q := hL.2.2.2.2.2.2.1
      rcases hj with hj | hj | hj | hj | hj <;> subst hj
      · exact ⟨pat_1 q, by omega⟩
      · exact ⟨pat_3 q, by omega⟩
      · exact ⟨pat_5 q, by omega⟩
      · exact ⟨pat_7 q, by omega⟩
      · exact ⟨pat_9 q, by omega⟩
    have c4 : ∀ j, j = 1 ∨ j = 3 ∨ j = 5 ∨ j = 7 ∨ j = 9 → (upS (upS (pbS σ (20 + 13 * p) (406 + 13 * t)) 0 3 ((p : Int) + 1)) 726 0 (p : Nat)) (20 + 13 * p + j) 1 = σ (406 + 13 * t + j) 1 ∧ ∀ k : Nat, (k : Int) < σ (406 + 13 * t + j) 1 → (upS (upS (pbS σ (20 + 13 * p) (406 + 13 * t)) 0 3 ((p : Int) + 1)) 726 0 (p : Nat)) (20 + 13 * p + j + 1) k = σ (406 + 13 * t + j + 1) k := by
      intro j hj
      obtain ⟨q1, q2⟩ := hrow j hj
      have w := H.1 _ q1
      obtain ⟨z1, z2⟩ := pb_row (σ := σ) (P := 20 + 13 * p) (Q := 406 + 13 * t) (by omega) hj (by omega)
      refine ⟨by rw [up_a (by omega), up_a (by omega)]; exact z1, fun k hk => by rw [up_a (by omega), up_a (by omega)]; exact z2 k hk⟩
    have c5 : WF (upS (upS (pbS σ (20 + 13 * p) (406 + 13 * t)) 0 3 ((p : Int) + 1)) 726 0 (p : Nat)) := WF_up (Or.inr (by decide)) (WF_up (Or.inr (by decide)) (WF_pb hP.2.2.2.2.2.2.1 hL.2.2.2.2.2.2.1 H.1))
    generalize (upS (upS (pbS σ (20 + 13 * p) (406 + 13 * t)) 0 3 ((p : Int) + 1)) 726 0 (p : Nat)) = s1 at hW c1 c2 c3 c4 c5
    have e3 : s1 682 3 = (p : Nat) := by rw [c1 _ _ (by omega) (by omega) (by omega)]; omega
    have hB : Dd 347 [vA 682, vI a1] s1 (rI p (upS (cpyS (upS s1 682 0 0) (24 + t) p) 682 3 ((p : Int) + 1))) := by
      refine m0 (c1 _ _ (by omega) (by omega) (by omega)) ?_
      rw [if_neg (by omega)]
      refine b347_27 ⟨_, _, d245, ?_⟩
      rw [if_pos rfl, if_neg (show ¬ (1 : Int) = 0 by decide), show 24 + a1 = ((24 + t : Nat) : Int) by omega]
      exact ⟨by omega, _, _, d289_ok (by omega) (by rw [up_k (by decide)]; exact e3) (by omega), rfl⟩
    have mo : ∀ c k, ¬ (685 ≤ c ∧ c ≤ 689) → ¬ (c = 682 ∧ (k = 0 ∨ k = 3)) → (upS (cpyS (upS s1 682 0 0) (24 + t) p) 682 3 ((p : Int) + 1)) c k = s1 c k := by
      intro c k h1 h2
      have : (upS (cpyS (upS s1 682 0 0) (24 + t) p) 682 3 ((p : Int) + 1)) c k = cpyS (upS s1 682 0 0) (24 + t) p c k := by
        unfold upS
        rw [if_neg (by omega)]
      rw [this, cpy_off h1]
      unfold upS
      rw [if_neg (by omega)]
    have z0 : (upS (cpyS (upS s1 682 0 0) (24 + t) p) 682 3 ((p : Int) + 1)) 682 0 = 0 := by rw [up_k (by decide), cpy_off (by decide), up_s]
    have z3 : (upS (cpyS (upS s1 682 0 0) (24 + t) p) 682 3 ((p : Int) + 1)) 682 3 = (p : Int) + 1 := up_s
    have z4 : ∀ u c k, ¬ u = p → k < 100 → 685 ≤ c ∧ c ≤ 687 → (upS (cpyS (upS s1 682 0 0) (24 + t) p) 682 3 ((p : Int) + 1)) c (100 * u + k) = s1 c (100 * u + k) := by
      intro u c k h1 h2 h3
      rw [up_a (by omega), cpy_other h1 h2 h3, up_a (by omega)]
    have z5 : ∀ c k, k < 100 → 685 ≤ c ∧ c ≤ 687 → (upS (cpyS (upS s1 682 0 0) (24 + t) p) 682 3 ((p : Int) + 1)) c (100 * p + k) = s1 c (100 * (24 + t) + k) := by
      intro c k h2 h3
      rw [up_a (by omega), cpy_val h2 h3, up_a (by omega)]
    have z6 : ∀ u, ¬ u = p → (upS (cpyS (upS s1 682 0 0) (24 + t) p) 682 3 ((p : Int) + 1)) 688 u = s1 688 u ∧ (upS (cpyS (upS s1 682 0 0) (24 + t) p) 682 3 ((p : Int) + 1)) 689 u = s1 689 u := by
      intro u h1
      rw [up_a (by decide), up_a (by decide), cpy_n1, cpy_n2, if_neg h1, if_neg h1, up_a (by decide), up_a (by decide)]
      exact ⟨rfl, rfl⟩
    have z7 : (upS (cpyS (upS s1 682 0 0) (24 + t) p) 682 3 ((p : Int) + 1)) 688 p = s1 688 (24 + t) ∧ (upS (cpyS (upS s1 682 0 0) (24 + t) p) 682 3 ((p : Int) + 1)) 689 p = s1 689 (24 + t) := by
      rw [up_a (by decide), up_a (by decide), cpy_n1, cpy_n2, if_pos rfl, if_pos rfl, up_a (by decide), up_a (by decide)]
      exact ⟨rfl, rfl⟩
    generalize (upS (cpyS (upS s1 682 0 0) (24 + t) p) 682 3 ((p : Int) + 1)) = s2 at hB mo z0 z3 z4 z5 z6 z7
    have so : ∀ c k, ¬ (685 ≤ c ∧ c ≤ 689) → ¬ (c = 682 ∧ (k = 0 ∨ k = 3)) → ¬ (20 + 13 * p + 1 ≤ c ∧ c ≤ 20 + 13 * p + 10) → ¬ (c = 0 ∧ k = 3) → ¬ c = 726 → s2 c k = σ c k := fun c k h1 h2 h3 h4 h5 => by rw [mo c k h1 h2, c1 c k h3 h4 h5]
    have so2 : ∀ c k, 685 ≤ c ∧ c ≤ 687 → ¬ (100 * p ≤ k ∧ k < 100 * p + 100) → s2 c k = σ c k := by
      intro c k h1 h2
      have e := z4 (k / 100) c (k % 100) (by omega) (by omega) h1
      rw [show 100 * (k / 100) + k % 100 = k by omega] at e
      rw [e, c1 c k (by omega) (by omega) (by omega)]
    have so3 : ∀ u, ¬ u = p → s2 688 u = σ 688 u ∧ s2 689 u = σ 689 u := by
      intro u h1
      rw [(z6 u h1).1, (z6 u h1).2, c1 688 u (by omega) (by omega) (by omega), c1 689 u (by omega) (by omega) (by omega)]
      exact ⟨rfl, rfl⟩
    obtain ⟨h1, h2, h3, h4, h5, h6, h7, h8, h9⟩ := H
    have b16 := PR_16 r1 r2
    have cc : ∀ j, j = 1 ∨ j = 3 ∨ j = 5 ∨ j = 7 ∨ j = 9 → s2 (20 + 13 * p + j) 1 = σ (406 + 13 * t + j) 1 ∧ ∀ k : Nat, (k : Int) < σ (406 + 13 * t + j) 1 → s2 (20 + 13 * p + j + 1) k = σ (406 + 13 * t + j + 1) k := by
      intro j hj
      obtain ⟨q1, q2⟩ := c4 j hj
      exact ⟨by rw [mo _ _ (by omega) (by omega)]; exact q1, fun k hk => by rw [mo _ _ (by omega) (by omega)]; exact q2 k hk⟩
    refine op_fin hW hB z0 (fun _ => by rw [mo _ _ (by decide) (by decide), c3]) (fun a k ha => c1 _ _ (by omega) (by omega) (by omega)) (fun a k ha => so _ _ (by omega) (by omega) (by omega) (by omega) (by omega)) ⟨WF_fr (fun a k ha => mo _ _ (by omega) (by omega)) c5, Zl_fr (fun k => so _ _ (by omega) (by omega) (by omega) (by omega) (by omega)) h2, RT_fr (fun c k hc => so _ _ (by omega) (by omega) (by omega) (by omega) (by omega)) h3, RB_fr (fun c k hc => so _ _ (by omega) (by omega) (by omega) (by omega) (by omega)) h4, ?_, RSt_fr2 (by omega) (fun c k hc => ?_) h6, RU_fr (fun c k hc => so _ _ (by omega) (by omega) (by omega) (by omega) (by omega)) h7, RF_fr (fun c k hc => so _ _ (by omega) (by omega) (by omega) (by omega) (by omega)) h8, RD_fr (fun c k hc => so _ _ (by omega) (by omega) (by omega) (by omega) (by omega)) h9⟩
    · refine RP_new h5 hp (by omega) (by rw [mo _ _ (by decide) (by decide)]; exact c2) z3 (fun c k hc => ?_) ?_ ?_
      · rcases hc with q | q | ⟨q1 | q1, q2⟩
        · exact so _ _ (by omega) (by omega) (by omega) (by omega) (by omega)
        · exact so2 c k (by omega) (by omega)
        · rw [q1]; exact (so3 k (by omega)).1
        · rw [q1]; exact (so3 k (by omega)).2
      · refine PR_cg cc (fun c k q1 q2 => ?_) ?_ (by omega) r1
        · rw [z5 c k q2 q1, c1 _ _ (by omega) (by omega) (by omega)]
        · rw [z7.1, z7.2, c1 _ _ (by omega) (by omega) (by omega), c1 _ _ (by omega) (by omega) (by omega)]
          exact ⟨rfl, rfl⟩
      · refine PO_cg cc r2 ?_
        have q := hL.2.2.2.2.2.2.1
        exact ⟨(h1 _ (pat_1 q)).1, (h1 _ (pat_3 q)).1⟩
    · rcases hc with q | q | ⟨q1 | q1, q2⟩ | q | q | q
      · exact so _ _ (by omega) (by omega) (by omega) (by omega) (by omega)
      · exact so2 c k (by omega) (by omega)
      · rw [q1]; exact (so3 k (by omega)).1
      · rw [q1]; exact (so3 k (by omega)).2
      · exact so _ _ (by omega) (by omega) (by omega) (by omega) (by omega)
      · exact so _ _ (by omega) (by omega) (by omega) (by omega) (by omega)
      · exact so _ _ (by omega) (by omega) (by omega) (by omega) (by omega)
  · have hA : Dd 203 [vA 0, vI a1] σ (rX 2 σ) := b203 (Or.inl ⟨_, _, e231, hL.2.2.2.2.2.2.1, Or.inr ⟨_, _, d242_full g3, rfl⟩⟩)
    have hB : Dd 347 [vA 682, vI a1] σ (rI 0 (upS σ 682 0 2)) := by
      refine m0 rfl ?_
      rw [if_pos (by omega)]
      refine b347_27 ⟨_, _, d245, ?_⟩
      rw [if_neg (show ¬ (2 : Int) = 0 by decide), if_pos rfl]
    exact op_x H (by decide) (b420 (Or.inr (Or.inr ⟨_, hA, rfl⟩))) hB
end
