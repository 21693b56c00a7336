/-! fold. -/
noncomputable section
/-- a patch of one state has the rows of a patch of another -/
def SMR (σ' : Sg) (P : Nat) (σ : Sg) (Q : Nat) : Prop := ∀ j, j = 1 ∨ j = 3 ∨ j = 5 ∨ j = 7 ∨ j = 9 → σ' (P + j) 1 = σ (Q + j) 1 ∧ ∀ k : Nat, (k : Int) < σ (Q + j) 1 → σ' (P + j + 1) k = σ (Q + j + 1) k
theorem cpLj {p j : Nat} (h : p + 1 < 5) (hj : j = 1 ∨ j = 3 ∨ j = 5 ∨ j = 7 ∨ j = 9) : cap (406 + 13 * (p + 1) + j) = cap (406 + 13 * p + j) ∧ isRow (406 + 13 * (p + 1) + j) = true := by
  have h2 : ∀ m, m < 4 → ∀ j, j < 10 → (j = 1 ∨ j = 3 ∨ j = 5 ∨ j = 7 ∨ j = 9) → cap (406 + 13 * (m + 1) + j) = cap (406 + 13 * m + j) ∧ isRow (406 + 13 * (m + 1) + j) = true := by decide +kernel
  exact h2 p (by omega) j (by omega) hj
theorem l130 {σ0 : Sg} {k1 h : Nat} (h5 : h ≤ 5) (hh : σ0 402 3 = (h : Nat)) : ∀ (w j : Nat) (σ : Sg), j + 1 + w = h → k1 ≤ j → WF σ → (∀ j', k1 ≤ j' → j' < j → SMR σ (406 + 13 * j') σ0 (406 + 13 * (j' + 1))) → (∀ c x, ¬ (406 + 13 * k1 + 1 ≤ c ∧ c < 406 + 13 * j) → σ c x = σ0 c x) → ∃ s, (∀ {o : Rs}, (∀ d2, C130_59 k1 d2 s o) → C130_15 k1 j σ o) ∧ WF s ∧ (∀ j', k1 ≤ j' → j' < h - 1 → SMR s (406 + 13 * j') σ0 (406 + 13 * (j' + 1))) ∧ ∀ c x, ¬ (406 + 13 * k1 + 1 ≤ c ∧ c < 406 + 13 * (h - 1)) → s c x = σ0 c x := by
  intro w
  induction w with
  | zero =>
    intro j σ hj hk W I2 I3
    have e : j = h - 1 := by omega
    subst e
    refine ⟨σ, fun {o} hh2 => b130_15 ⟨by omega, ?_⟩, W, I2, I3⟩
    rw [I3 402 3 (by omega), hh, if_neg (by omega)]
    exact hh2 _
  | succ w ih =>
    intro j σ hj hk W I2 I3
    have hq := cpL (p := j) (by omega)
    have hq1 := cpL (p := j + 1) (by omega)
    have pj := hq.2.2.2.2.2.2.1
    have pj1 := hq1.2.2.2.2.2.2.1
    obtain ⟨s, a1, a2, a3, a4⟩ := ih (j + 1) (pbS σ (406 + 13 * j) (406 + 13 * (j + 1))) (by omega) (by omega) (WF_pb pj pj1 W) (fun j' h1 h2 => by
      by_cases e : j' = j
      · subst e
        intro m hm
        have wr := W _ (cpLj (p := j') (by omega) hm).2
        have z := pb_row (σ := σ) (P := 406 + 13 * j') (Q := 406 + 13 * (j' + 1)) (j := m) (by omega) hm (by rw [← (cpLj (p := j') (by omega) hm).1]; exact wr.2)
        rw [I3 (406 + 13 * (j' + 1) + m) 1 (by omega)] at z
        refine ⟨z.1, fun x hx => ?_⟩
        rw [z.2 x hx]
        exact I3 _ x (by omega)
      · intro m hm
        have z := I2 j' h1 (by omega) m hm
        rw [pb_off (by omega)]
        refine ⟨z.1, fun x hx => ?_⟩
        rw [pb_off (by omega)]
        exact z.2 x hx) (fun c x hc => by
      rw [pb_off (by omega)]
      exact I3 c x (by omega))
    refine ⟨s, fun {o} hh2 => b130_15 ⟨by omega, ?_⟩, a2, a3, a4⟩
    rw [I3 402 3 (by omega), hh, if_pos (by omega)]
    refine ⟨by omega, ?_⟩
    rw [if_pos (by omega)]
    refine ⟨by omega, 406 + 13 * j, by rw [show ((j : Nat) : Int).toNat = j by omega]; exact hq.2.2.2.2.2.2.2, pj, by omega, by omega, 406 + 13 * (j + 1), by rw [show ((j : Int) + 1).toNat = j + 1 by omega]; exact hq1.2.2.2.2.2.2.2, pj1, _, d96 pj pj1 (by omega) (WF_pw W), by omega, ?_⟩
    rw [show (j : Int) + 1 = ((j + 1 : Nat) : Int) by omega]
    exact a1 hh2
/-- a slot of one state is a slot of another -/
def SSL (σ' : Sg) (t : Nat) (σ : Sg) (s : Nat) : Prop := (∀ c x, 685 ≤ c ∧ c ≤ 687 → x < 100 → σ' c (100 * t + x) = σ c (100 * s + x)) ∧ σ' 688 t = σ 688 s ∧ σ' 689 t = σ 689 s
theorem SSL_cpy {σ : Sg} {s t : Nat} : SSL (cpyS σ s t) t σ s := ⟨fun c x hc hx => cpy_val hx hc, by rw [cpy_n1, if_pos rfl], by rw [cpy_n2, if_pos rfl]⟩
theorem cpy_slot {σ : Sg} {s t u : Nat} (h : ¬ u = t) : SSL (cpyS σ s t) u σ u := ⟨fun c x hc hx => cpy_other h hx hc, by rw [cpy_n1, if_neg h], by rw [cpy_n2, if_neg h]⟩
theorem SSL_t {σ1 σ2 σ3 : Sg} {a b c : Nat} (h1 : SSL σ1 a σ2 b) (h2 : SSL σ2 b σ3 c) : SSL σ1 a σ3 c := ⟨fun q x hq hx => by rw [h1.1 q x hq hx]; exact h2.1 q x hq hx, by rw [h1.2.1]; exact h2.2.1, by rw [h1.2.2]; exact h2.2.2⟩
theorem SSL_eq {σ' σ : Sg} {t : Nat} (h : ∀ c x, 685 ≤ c ∧ c ≤ 689 → σ' c x = σ c x) : SSL σ' t σ t := ⟨fun c x hc _ => h c _ (by omega), h _ _ (by omega), h _ _ (by omega)⟩
theorem l349 {σ0 : Sg} {k1 hm : Nat} {d1 : Option AV} (h5 : hm < 5) (hh : σ0 682 40 = (hm : Nat)) : ∀ (w j : Nat) (σ : Sg), j + w = hm → k1 ≤ j → (∀ j', k1 ≤ j' → j' < j → SSL σ (24 + j') σ0 (24 + (j' + 1)) ∧ σ 711 j' = σ0 711 (j' + 1)) → (∀ u, ¬ (24 + k1 ≤ u ∧ u < 24 + j) → u < 44 → SSL σ u σ0 u) → (∀ x, ¬ (k1 ≤ x ∧ x < j) → σ 711 x = σ0 711 x) → (∀ c x, ¬ (685 ≤ c ∧ c ≤ 689) → ¬ c = 711 → σ c x = σ0 c x) → ∃ s, C349_72 d1 j σ (rI (hm : Nat) s) ∧ (∀ j', k1 ≤ j' → j' < hm → SSL s (24 + j') σ0 (24 + (j' + 1)) ∧ s 711 j' = σ0 711 (j' + 1)) ∧ (∀ u, ¬ (24 + k1 ≤ u ∧ u < 24 + hm) → u < 44 → SSL s u σ0 u) ∧ (∀ x, ¬ (k1 ≤ x ∧ x < hm) → s 711 x = σ0 711 x) ∧ ∀ c x, ¬ (685 ≤ c ∧ c ≤ 689) → ¬ c = 711 → s c x = σ0 c x := by
  intro w
  induction w with
  | zero =>
    intro j σ hj hk I1 I2 I3 I4
    have e : j = hm := by omega
    subst e
    refine ⟨σ, b349_72 ?_, I1, I2, I3, I4⟩
    rw [I4 682 40 (by decide) (by decide), hh, if_neg (by omega)]
  | succ w ih =>
    intro j σ hj hk I1 I2 I3 I4
    have e711 : ∀ x, cpyS σ (24 + (j + 1)) (24 + j) 711 x = σ 711 x := fun x => cpy_off (by decide)
    have sl : ∀ u, SSL (upS (cpyS σ (24 + (j + 1)) (24 + j)) 711 j (cpyS σ (24 + (j + 1)) (24 + j) 711 (j + 1))) u (cpyS σ (24 + (j + 1)) (24 + j)) u := fun u => SSL_eq (fun c x hc => up_a (by omega))
    obtain ⟨s, a1, a2, a3, a4, a5⟩ := ih (j + 1) (upS (cpyS σ (24 + (j + 1)) (24 + j)) 711 j (cpyS σ (24 + (j + 1)) (24 + j) 711 (j + 1))) (by omega) (by omega) (fun j' h1 h2 => by
      by_cases e : j' = j
      · subst e
        refine ⟨SSL_t (sl _) (SSL_t SSL_cpy (I2 (24 + (j' + 1)) (by omega) (by omega))), ?_⟩
        rw [up_s, e711]
        exact I3 _ (by omega)
      · have z := I1 j' h1 (by omega)
        refine ⟨SSL_t (sl _) (SSL_t (cpy_slot (by omega)) z.1), ?_⟩
        rw [up_k e, e711]
        exact z.2) (fun u hu h44 => SSL_t (sl _) (SSL_t (cpy_slot (by omega)) (I2 u (by omega) h44))) (fun x hx => by
      rw [up_k (by omega), e711]
      exact I3 x (by omega)) (fun c x h1 h2 => by
      rw [up_a h2, cpy_off h1]
      exact I4 c x h1 h2)
    refine ⟨s, b349_72 ?_, a2, a3, a4, a5⟩
    have e288 := d288 (σ := σ) (s := 24 + (j + 1)) (t := 24 + j) (by omega) (by omega)
    rw [I4 682 40 (by decide) (by decide), hh, if_pos (by omega), show 24 + (j : Int) + 1 = ((24 + (j + 1) : Nat) : Int) by omega, show 24 + (j : Int) = ((24 + j : Nat) : Int) by omega]
    refine ⟨by omega, by omega, by omega, _, e288, by omega, by omega, by omega, by omega, ?_⟩
    rw [show ((j : Nat) : Int).toNat = j by omega, show ((j : Int) + 1).toNat = j + 1 by omega, show (j : Int) + 1 = ((j + 1 : Nat) : Int) by omega]
    exact a1
/-- the stack after a fold -/
theorem RSt_fold {σ s : Sg} {c : Int} {k h nb na na' : Nat} {J : Nat → Int} (H : RSt c σ) (hc : True) (hh : σ 402 3 = (h : Nat)) (hk : k + 1 < h) (a3 : s 402 3 = ((h - 1 : Nat) : Int)) (a4 : s 402 4 = σ 402 4) (a40 : s 682 40 = ((h - 1 : Nat) : Int)) (a41 : s 682 41 = σ 682 41) (a39 : s 682 39 = σ 682 39) (fb : ∀ a x, a = 403 ∨ a = 404 ∨ a = 710 → s a x = σ a x) (n1 : s 471 1 = ((h - 1 : Nat) : Int)) (n2 : ∀ x : Nat, x < h - 1 → s 472 x = if k + 1 ≤ x then σ 472 (x + 1) else σ 472 x) (n3 : ∀ x : Nat, x < h - 1 → s 711 x = if k + 1 ≤ x then σ 711 (x + 1) else σ 711 x) (lo : ∀ j, j < k → SMR s (406 + 13 * j) σ (406 + 13 * j) ∧ SSL s (24 + j) σ (24 + j)) (hi : ∀ j, k < j → j < h - 1 → SMR s (406 + 13 * j) σ (406 + 13 * (j + 1)) ∧ SSL s (24 + j) σ (24 + (j + 1))) (jN : NP s (406 + 13 * k) nb na') (jb : nb ≤ 16 ∧ na' ≤ 16) (jS : Slot s (24 + k) nb na' (s (406 + 13 * k + 2)) (s (406 + 13 * k + 4)) (s (406 + 13 * k + 6))) (jP : PO s (406 + 13 * k) 16) (jo : σ (406 + 13 * k + 1) 1 = (nb : Nat) ∧ ∀ i, i < nb → s (406 + 13 * k + 2) i = σ (406 + 13 * k + 2) i) (jn : σ (406 + 13 * (k + 1) + 3) 1 = (na' : Nat) ∧ ∀ i, i < na' → s (406 + 13 * k + 4) i = σ (406 + 13 * (k + 1) + 4) i) (wf : ∀ j, j < h → 0 ≤ σ (406 + 13 * j + 1) 1 ∧ 0 ≤ σ (406 + 13 * j + 3) 1) : RSt (c + 1) s := by
  obtain ⟨h1, h2, h3, h4, h5, h6, h7, h8, h9, h10, h11⟩ := H
  refine ⟨by omega, by omega, by omega, by omega, by omega, by omega, ⟨by rw [a3]; exact n1, fun i hi' => ?_⟩, fun q hq => ?_, rowEq_fr (fb _ _ (by omega)) (fun i => fb _ _ (by omega)) (fun i => fb _ _ (by omega)) a39 h9, fun i hi' => ?_, fun j hj => ?_⟩
  · rw [a3] at hi'
    have e := n2 i (by omega)
    have e' := n3 i (by omega)
    show s 472 i = _
    rw [e, Nat.zero_add, e']
    by_cases y : k + 1 ≤ i
    · rw [if_pos y, if_pos y]
      have := h7.2 (i + 1) (by omega)
      rw [Nat.zero_add] at this
      exact this
    · rw [if_neg y, if_neg y]
      have := h7.2 i (by omega)
      rw [Nat.zero_add] at this
      exact this
  · rw [a3] at hq
    rw [n2 q (by omega), a4]
    by_cases y : k + 1 ≤ q
    · rw [if_pos y]
      exact h8 (q + 1) (by omega)
    · rw [if_neg y]
      exact h8 q (by omega)
  · rw [fb 403 1 (by omega)] at hi'
    rw [fb 404 i (by omega)]
    exact h10 i hi'
  · rw [a3] at hj
    have hsl : ∀ {P Q t u : Nat}, SMR s P σ Q → SSL s t σ u → PR σ Q u → PO σ Q 16 → 0 ≤ σ (Q + 1) 1 ∧ 0 ≤ σ (Q + 3) 1 → PR s P t ∧ PO s P 16 := by
      intro P Q t u x1 x2 x3 x4 x5
      have b := PR_16 x3 x4
      exact ⟨PR_cg x1 (fun c x y1 y2 => x2.1 c x y1 y2) ⟨x2.2.1, x2.2.2⟩ (by omega) x3, PO_cg x1 x4 x5⟩
    by_cases y : j < k
    · obtain ⟨l1, l2⟩ := lo j y
      obtain ⟨g1, g2, g3⟩ := h11 j (by omega)
      obtain ⟨x1, x2⟩ := hsl l1 l2 g1 g2 (wf j (by omega))
      refine ⟨x1, x2, ?_⟩
      obtain ⟨z1, z2⟩ := l1 1 (by omega)
      by_cases y0 : j = 0
      · have hbl : blw j = 403 := by unfold blw; rw [if_pos y0]
        rw [hbl] at g3 ⊢
        refine ⟨by rw [z1, fb 403 1 (by omega)]; exact g3.1, fun x hx => ?_⟩
        rw [z1] at hx
        rw [z2 x hx]
        show _ = s 404 x
        rw [fb 404 x (by omega)]
        exact g3.2 x hx
      · have hbl : blw j = 406 + 13 * (j - 1) + 3 := by unfold blw; rw [if_neg y0]
        rw [hbl] at g3 ⊢
        obtain ⟨u1, u2⟩ := (lo (j - 1) (by omega)).1 3 (by omega)
        refine ⟨by rw [z1, u1]; exact g3.1, fun x hx => ?_⟩
        rw [z1] at hx
        have sz := g3.1
        rw [z2 x hx, u2 x (by omega)]
        exact g3.2 x hx
    · by_cases y2 : j = k
      · subst y2
        obtain ⟨t1, t2, t3, t4, t5⟩ := jS
        obtain ⟨q1, q3, q5, q7, -⟩ := jN
        obtain ⟨g1, g2, g3⟩ := h11 j (by omega)
        refine ⟨⟨⟨by rw [t1]; exact q1, fun i hi' => ?_⟩, ⟨by rw [t2]; exact q3, fun i hi' => ?_⟩, ⟨by rw [t1]; exact q5, fun i hi' => ?_⟩⟩, jP, ?_⟩
        · rw [t1] at hi'
          exact (t3 i (by omega)).symm
        · rw [t2] at hi'
          exact (t4 i (by omega)).symm
        · rw [t1] at hi'
          exact (t5 i (by omega)).symm
        · by_cases y0 : j = 0
          · have hbl : blw j = 403 := by unfold blw; rw [if_pos y0]
            rw [hbl] at g3 ⊢
            refine ⟨by rw [q1, fb 403 1 (by omega), ← jo.1]; exact g3.1, fun x hx => ?_⟩
            rw [q1] at hx
            show s (406 + 13 * j + 2) x = s 404 x
            rw [jo.2 x (by omega), fb 404 x (by omega)]
            exact g3.2 x (by omega)
          · have hbl : blw j = 406 + 13 * (j - 1) + 3 := by unfold blw; rw [if_neg y0]
            rw [hbl] at g3 ⊢
            obtain ⟨u1, u2⟩ := (lo (j - 1) (by omega)).1 3 (by omega)
            refine ⟨by rw [q1, u1, ← jo.1]; exact g3.1, fun x hx => ?_⟩
            rw [q1] at hx
            have sz := g3.1
            show s (406 + 13 * j + 2) x = _
            rw [jo.2 x (by omega), u2 x (by omega)]
            exact g3.2 x (by omega)
      · obtain ⟨l1, l2⟩ := hi j (by omega) (by omega)
        obtain ⟨g1, g2, g3⟩ := h11 (j + 1) (by omega)
        obtain ⟨x1, x2⟩ := hsl l1 l2 g1 g2 (wf (j + 1) (by omega))
        refine ⟨x1, x2, ?_⟩
        obtain ⟨z1, z2⟩ := l1 1 (by omega)
        have hbl : blw j = 406 + 13 * (j - 1) + 3 := by unfold blw; rw [if_neg (by omega)]
        have hbl2 : blw (j + 1) = 406 + 13 * j + 3 := by unfold blw; rw [if_neg (by omega), Nat.add_sub_cancel]
        rw [hbl2] at g3
        rw [hbl]
        by_cases y3 : j = k + 1
        · subst y3
          rw [show k + 1 - 1 = k by omega]
          obtain ⟨q1, q3, q5, q7, -⟩ := jN
          refine ⟨by rw [z1, q3, ← jn.1]; exact g3.1, fun x hx => ?_⟩
          rw [z1] at hx
          have sz := g3.1
          rw [z2 x hx]
          show _ = s (406 + 13 * k + 4) x
          rw [jn.2 x (by omega)]
          exact g3.2 x hx
        · obtain ⟨u1, u2⟩ := (hi (j - 1) (by omega) (by omega)).1 3 (by omega)
          rw [show j - 1 + 1 = j by omega] at u1 u2
          refine ⟨by rw [z1, u1]; exact g3.1, fun x hx => ?_⟩
          rw [z1] at hx
          have sz := g3.1
          rw [z2 x hx, u2 x (by omega)]
          exact g3.2 x hx
end
