/-! areEqual. -/
noncomputable section
theorem op_qB {w m : Nat} {aw am : List AV} {σ : Sg} {c b : Int} (H : Rel c σ) (hA : Dd w aw σ (rI 0 (upS σ 726 0 (if b = 0 then 0 else 1)))) (hB : Dd m am (upS σ 726 0 (if b = 0 then 0 else 1)) (rI b (upS (upS σ 726 0 (if b = 0 then 0 else 1)) 682 0 0))) : OpB w m aw am σ (c + 1) :=
  op_finB hA hB up_s (fun _ => by rw [up_a (by decide), up_s]) (fun a k ha => up_a (by omega)) (fun a k ha => by rw [up_a (by omega), up_a (by omega)]) (Rel_0 (by omega) (fun c k hc => by
    unfold upS
    rw [if_neg (by omega), if_neg (by omega)]) H)
theorem l317b_0 {x1 x2 : Nat} (h1 : x1 < 44) {σ : Sg} {i : Int} : C317_153 x1 x2 0 i σ (rI 0 σ) := by
  refine b317_153 ⟨by omega, ?_⟩
  by_cases z : i < σ 689 ((x1 : Int)).toNat
  · rw [if_pos z, if_pos rfl]
    exact ⟨Or.inl rfl, rfl⟩
  · rw [if_neg z]
    exact ⟨Or.inl rfl, rfl⟩
theorem l317b {x1 x2 n : Nat} (h1 : x1 < 44) (h2 : x2 < 44) {σ : Sg} (hn : σ 689 x1 = (n : Nat)) (h100 : n ≤ 100) : ∀ (w i : Nat), i + w = n → ((∀ k, i ≤ k → k < n → σ 686 (100 * x1 + k) = σ 686 (100 * x2 + k)) → C317_153 x1 x2 1 i σ (rI 1 σ)) ∧ (¬ (∀ k, i ≤ k → k < n → σ 686 (100 * x1 + k) = σ 686 (100 * x2 + k)) → C317_153 x1 x2 1 i σ (rI 0 σ)) := by
  intro w
  induction w with
  | zero =>
    intro i q
    have e : C317_153 x1 x2 1 i σ (rI 1 σ) := by
      refine b317_153 ⟨by omega, ?_⟩
      rw [show ((x1 : Int)).toNat = x1 by omega, if_neg (by omega)]
      exact ⟨Or.inr rfl, rfl⟩
    exact ⟨fun _ => e, fun h => absurd (fun k h1 h2 => by omega) h⟩
  | succ w ih =>
    intro i q
    obtain ⟨ih1, ih2⟩ := ih (i + 1) (by omega)
    have go : ∀ {o : Rs}, (C317_200 x1 x2 (some (vI 1)) i (if σ 686 (100 * x1 + i) = σ 686 (100 * x2 + i) then 1 else 0) σ o) → C317_153 x1 x2 1 i σ o := by
      intro o hh
      refine b317_153 ⟨by omega, ?_⟩
      rw [show ((x1 : Int)).toNat = x1 by omega, if_pos (by omega), if_neg (show ¬ (1 : Int) = 0 by decide), show (100 * (x1 : Int) + (i : Int)).toNat = 100 * x1 + i by omega, show (100 * (x2 : Int) + (i : Int)).toNat = 100 * x2 + i by omega]
      exact ⟨by omega, by omega, by omega, by omega, by omega, by omega, hh⟩
    constructor
    · intro h
      refine go ?_
      rw [if_pos (h i (by omega) (by omega))]
      refine b317_200 ⟨by omega, ?_⟩
      rw [show (i : Int) + 1 = ((i + 1 : Nat) : Int) by omega]
      exact ih1 (fun k h1 h2 => h k (by omega) h2)
    · intro h
      refine go ?_
      by_cases z : σ 686 (100 * x1 + i) = σ 686 (100 * x2 + i)
      · rw [if_pos z]
        refine b317_200 ⟨by omega, ?_⟩
        rw [show (i : Int) + 1 = ((i + 1 : Nat) : Int) by omega]
        refine ih2 (fun hh => h (fun k h1 h2 => ?_))
        by_cases y : k = i
        · rw [y]; exact z
        · exact hh k (by omega) h2
      · rw [if_neg z]
        exact b317_200 ⟨by omega, l317b_0 h1⟩
theorem l317a_0 {x1 x2 : Nat} (h1 : x1 < 44) {σ : Sg} {i : Int} : C317_69 x1 x2 0 i σ (rI 0 σ) := by
  refine b317_69 ⟨by omega, ?_⟩
  by_cases z : i < σ 688 ((x1 : Int)).toNat
  · rw [if_pos z, if_pos rfl]
    exact b317_150 (l317b_0 h1)
  · rw [if_neg z]
    exact b317_150 (l317b_0 h1)
theorem l317a {x1 x2 n : Nat} (h1 : x1 < 44) (h2 : x2 < 44) {σ : Sg} (hn : σ 688 x1 = (n : Nat)) (h100 : n ≤ 100) : ∀ (w i : Nat), i + w = n → (∀ {o : Rs}, (∀ k, i ≤ k → k < n → σ 685 (100 * x1 + k) = σ 685 (100 * x2 + k) ∧ σ 687 (100 * x1 + k) = σ 687 (100 * x2 + k)) → C317_153 x1 x2 1 0 σ o → C317_69 x1 x2 1 i σ o) ∧ (¬ (∀ k, i ≤ k → k < n → σ 685 (100 * x1 + k) = σ 685 (100 * x2 + k) ∧ σ 687 (100 * x1 + k) = σ 687 (100 * x2 + k)) → C317_69 x1 x2 1 i σ (rI 0 σ)) := by
  intro w
  induction w with
  | zero =>
    intro i q
    refine ⟨fun _ hh => b317_69 ⟨by omega, ?_⟩, fun h => absurd (fun k h1 h2 => by omega) h⟩
    rw [show ((x1 : Int)).toNat = x1 by omega, if_neg (by omega)]
    exact b317_150 hh
  | succ w ih =>
    intro i q
    obtain ⟨ih1, ih2⟩ := ih (i + 1) (by omega)
    have go : ∀ {o : Rs}, (if σ 685 (100 * x1 + i) = σ 685 (100 * x2 + i) ∧ σ 687 (100 * x1 + i) = σ 687 (100 * x2 + i) then C317_69 x1 x2 1 ((i + 1 : Nat) : Int) σ o else C317_69 x1 x2 0 ((i + 1 : Nat) : Int) σ o) → C317_69 x1 x2 1 i σ o := by
      intro o hh
      refine b317_69 ⟨by omega, ?_⟩
      rw [show ((x1 : Int)).toNat = x1 by omega, if_pos (by omega), if_neg (show ¬ (1 : Int) = 0 by decide), show (100 * (x1 : Int) + (i : Int)).toNat = 100 * x1 + i by omega, show (100 * (x2 : Int) + (i : Int)).toNat = 100 * x2 + i by omega]
      refine ⟨by omega, by omega, by omega, by omega, by omega, by omega, ?_⟩
      by_cases z : σ 685 (100 * x1 + i) = σ 685 (100 * x2 + i)
      · rw [if_pos z]
        refine ⟨by omega, by omega, by omega, by omega, by omega, by omega, ?_⟩
        by_cases y : σ 687 (100 * x1 + i) = σ 687 (100 * x2 + i)
        · rw [if_pos ⟨z, y⟩] at hh
          rw [if_pos y]
          refine b317_143 ⟨by omega, ?_⟩
          rw [show (i : Int) + 1 = ((i + 1 : Nat) : Int) by omega]
          exact hh
        · rw [if_neg (fun e => y e.2)] at hh
          rw [if_neg y]
          refine b317_142 (b317_143 ⟨by omega, ?_⟩)
          rw [show (i : Int) + 1 = ((i + 1 : Nat) : Int) by omega]
          exact hh
      · rw [if_neg (fun e => z e.1)] at hh
        rw [if_neg z]
        refine b317_142 (b317_143 ⟨by omega, ?_⟩)
        rw [show (i : Int) + 1 = ((i + 1 : Nat) : Int) by omega]
        exact hh
    constructor
    · intro o h hh
      refine go ?_
      rw [if_pos (h i (by omega) (by omega))]
      exact ih1 (fun k h1 h2 => h k (by omega) h2) hh
    · intro h
      refine go ?_
      by_cases z : σ 685 (100 * x1 + i) = σ 685 (100 * x2 + i) ∧ σ 687 (100 * x1 + i) = σ 687 (100 * x2 + i)
      · rw [if_pos z]
        refine ih2 (fun hh => h (fun k h1 h2 => ?_))
        by_cases y : k = i
        · rw [y]; exact z
        · exact hh k (by omega) h2
      · rw [if_neg z]
        exact l317a_0 h1
def PEQ (σ : Sg) (P Q : Nat) : Prop := smP σ (P + 1) (Q + 1) ∧ smP σ (P + 3) (Q + 3) ∧ smP σ (P + 5) (Q + 5)
theorem d97 {σ : Sg} {P Q : Nat} (H : WF σ) (hP : isPatch P = true) (hQ : isPatch Q = true) : (PEQ σ P Q → Dd 97 [vA P, vA Q] σ (rI 1 σ)) ∧ (¬ PEQ σ P Q → Dd 97 [vA P, vA Q] σ (rI 0 σ)) := by
  have a1 := WF_w H (pat_1 hP)
  have a3 := WF_w H (pat_3 hP)
  have a5 := WF_w H (pat_5 hP)
  have b1 := WF_w H (pat_1 hQ)
  have b3 := WF_w H (pat_3 hQ)
  have b5 := WF_w H (pat_5 hQ)
  constructor
  · rintro ⟨h1, h3, h5⟩
    refine b97 hP hQ ⟨_, _, d156_t a1 b1 h1, ?_⟩
    rw [if_neg (show ¬ (1 : Int) = 0 by decide)]
    refine ⟨_, _, d156_t a3 b3 h3, ?_⟩
    rw [if_neg (show ¬ (1 : Int) = 0 by decide)]
    refine ⟨_, _, d156_t a5 b5 h5, ?_⟩
    rw [if_neg (show ¬ (1 : Int) = 0 by decide)]
  · intro h
    by_cases h1 : smP σ (P + 1) (Q + 1)
    · refine b97 hP hQ ⟨_, _, d156_t a1 b1 h1, ?_⟩
      rw [if_neg (show ¬ (1 : Int) = 0 by decide)]
      by_cases h3 : smP σ (P + 3) (Q + 3)
      · refine ⟨_, _, d156_t a3 b3 h3, ?_⟩
        rw [if_neg (show ¬ (1 : Int) = 0 by decide)]
        refine ⟨_, _, d156_f a5 b5 (fun h5 => h ⟨h1, h3, h5⟩), ?_⟩
        rw [if_pos rfl]
      · refine ⟨_, _, d156_f a3 b3 h3, ?_⟩
        rw [if_pos rfl]
    · refine b97 hP hQ ⟨_, _, d156_f a1 b1 h1, ?_⟩
      rw [if_pos rfl]
/-- the model's comparison, in a state that is related -/
theorem m317 {σ : Sg} {c : Int} {t u : Nat} (H : Rel c σ) (ht : (t : Int) < σ 0 3) (hu : (u : Int) < σ 0 3) : (PEQ σ (20 + 13 * t) (20 + 13 * u) → C317_22 t u none none 0 σ (rI 1 (upS σ 682 0 0))) ∧ (¬ PEQ σ (20 + 13 * t) (20 + 13 * u) → C317_22 t u none none 0 σ (rI 0 (upS σ 682 0 0))) := by
  have hn := (rel_n H).1
  have H2 : Rel c (upS σ 682 0 0) := Rel_0 (Int.le_refl c) (fun c k hc => by unfold upS; rw [if_neg (by omega)]) H
  have hcl : ∀ c k, ¬ c = 682 → upS σ 682 0 0 c k = σ c k := fun c k h => up_a h
  have hPEQ : PEQ (upS σ 682 0 0) (20 + 13 * t) (20 + 13 * u) ↔ PEQ σ (20 + 13 * t) (20 + 13 * u) := by
    unfold PEQ smP
    have ef : ∀ c, ¬ c = 682 → upS σ 682 0 0 c = σ c := fun c h => funext (fun k => hcl c k h)
    rw [ef (20 + 13 * t + 1) (by omega), ef (20 + 13 * u + 1) (by omega), ef (20 + 13 * t + 3) (by omega), ef (20 + 13 * u + 3) (by omega), ef (20 + 13 * t + 5) (by omega), ef (20 + 13 * u + 5) (by omega), ef (20 + 13 * t + 1 + 1) (by omega), ef (20 + 13 * u + 1 + 1) (by omega), ef (20 + 13 * t + 3 + 1) (by omega), ef (20 + 13 * u + 3 + 1) (by omega), ef (20 + 13 * t + 5 + 1) (by omega), ef (20 + 13 * u + 5 + 1) (by omega)]
  rw [← hPEQ]
  have e03 : (upS σ 682 0 0) 0 3 = σ 0 3 := up_a (by decide)
  generalize hs : upS σ 682 0 0 = s at H2 e03 ⊢
  obtain ⟨p1, p2, p3, p4, p5, p6⟩ := rel_p H2 (p := (t : Int)) (by omega)
  obtain ⟨q1, q2, q3, q4, q5, q6⟩ := rel_p H2 (p := (u : Int)) (by omega)
  rw [show ((t : Int)).toNat = t by omega] at p1 p2 p3 p4 p5 p6
  rw [show ((u : Int)).toNat = u by omega] at q1 q2 q3 q4 q5 q6
  obtain ⟨pr, po⟩ := H2.2.2.2.2.1.2.2.2 t (by omega)
  obtain ⟨qr, qo⟩ := H2.2.2.2.2.1.2.2.2 u (by omega)
  obtain ⟨n, hnn⟩ := Int.eq_ofNat_of_zero_le p3
  obtain ⟨m, hmm⟩ := Int.eq_ofNat_of_zero_le p5
  have p15 := po.2.2.1
  have q15 := qo.2.2.1
  have go : ∀ {o : Rs}, (if s 688 t = s 688 u ∧ s 689 t = s 689 u then C317_69 t u 1 0 s o else C317_69 t u 0 0 s o) → C317_22 t u none none 0 σ o := by
    intro o hh
    refine b317_22 ⟨_, _, d245, ?_⟩
    rw [hs, if_pos rfl, if_neg (show ¬ (1 : Int) = 0 by decide), show ((t : Int)).toNat = t by omega, show ((u : Int)).toNat = u by omega]
    refine ⟨by omega, by omega, ?_⟩
    by_cases z : s 688 t = s 688 u
    · rw [if_pos z]
      refine ⟨by omega, by omega, ?_⟩
      by_cases y : s 689 t = s 689 u
      · rw [if_pos ⟨z, y⟩] at hh
        rw [if_pos y]
        exact b317_65 hh
      · rw [if_neg (fun e => y e.2)] at hh
        rw [if_neg y]
        exact b317_64 (b317_65 hh)
    · rw [if_neg (fun e => z e.1)] at hh
      rw [if_neg z]
      exact b317_64 (b317_65 hh)
  have LA := l317a (x1 := t) (x2 := u) (n := n) (σ := s) (by omega) (by omega) hnn (by omega) n 0 (by omega)
  have LB := l317b (x1 := t) (x2 := u) (n := m) (σ := s) (by omega) (by omega) hmm (by omega) m 0 (by omega)
  by_cases z : s 688 t = s 688 u ∧ s 689 t = s 689 u
  · have k1 : smP s (20 + 13 * t + 1) (20 + 13 * u + 1) ↔ ∀ k, k < n → s 685 (100 * t + k) = s 685 (100 * u + k) := by
      constructor
      · rintro ⟨-, h⟩ k hk
        rw [← pr.1.2 k (by omega), ← qr.1.2 k (by omega)]
        exact h k (by omega)
      · intro h
        refine ⟨by omega, fun k hk => ?_⟩
        rw [pr.1.2 k (by omega), qr.1.2 k (by omega)]
        exact h k (by omega)
    have k3 : smP s (20 + 13 * t + 3) (20 + 13 * u + 3) ↔ ∀ k, k < m → s 686 (100 * t + k) = s 686 (100 * u + k) := by
      constructor
      · rintro ⟨-, h⟩ k hk
        rw [← pr.2.1.2 k (by omega), ← qr.2.1.2 k (by omega)]
        exact h k (by omega)
      · intro h
        refine ⟨by omega, fun k hk => ?_⟩
        rw [pr.2.1.2 k (by omega), qr.2.1.2 k (by omega)]
        exact h k (by omega)
    have k5 : smP s (20 + 13 * t + 5) (20 + 13 * u + 5) ↔ ∀ k, k < n → s 687 (100 * t + k) = s 687 (100 * u + k) := by
      constructor
      · rintro ⟨-, h⟩ k hk
        rw [← pr.2.2.2 k (by omega), ← qr.2.2.2 k (by omega)]
        exact h k (by omega)
      · intro h
        refine ⟨by omega, fun k hk => ?_⟩
        rw [pr.2.2.2 k (by omega), qr.2.2.2 k (by omega)]
        exact h k (by omega)
    have key : PEQ s (20 + 13 * t) (20 + 13 * u) ↔ ((∀ k, 0 ≤ k → k < n → s 685 (100 * t + k) = s 685 (100 * u + k) ∧ s 687 (100 * t + k) = s 687 (100 * u + k)) ∧ ∀ k, 0 ≤ k → k < m → s 686 (100 * t + k) = s 686 (100 * u + k)) := by
      unfold PEQ
      rw [k1, k3, k5]
      constructor
      · rintro ⟨h1, h3, h5⟩
        exact ⟨fun k _ hk => ⟨h1 k hk, h5 k hk⟩, fun k _ hk => h3 k hk⟩
      · rintro ⟨h1, h3⟩
        exact ⟨fun k hk => (h1 k (by omega) hk).1, fun k hk => h3 k (by omega) hk, fun k hk => (h1 k (by omega) hk).2⟩
    rw [key]
    constructor
    · rintro ⟨h1, h3⟩
      refine go ?_
      rw [if_pos z]
      exact LA.1 h1 (LB.1 h3)
    · intro h
      refine go ?_
      rw [if_pos z]
      by_cases y : ∀ k, 0 ≤ k → k < n → s 685 (100 * t + k) = s 685 (100 * u + k) ∧ s 687 (100 * t + k) = s 687 (100 * u + k)
      · exact LA.1 y (LB.2 (fun h3 => h ⟨y, h3⟩))
      · exact LA.2 y
  · constructor
    · rintro ⟨h1, h3, h5⟩
      exact absurd ⟨by have := h1.1; omega, by have := h3.1; omega⟩ z
    · intro _
      refine go ?_
      rw [if_neg z]
      exact l317a_0 (by omega)
theorem o21 {σ : Sg} {c a1 a2 : Int} (H : Rel c σ) : OpB 410 317 [vA 0, vI a1, vI a2, vA 726] [vA 682, vI a1, vI a2] σ (c + 1) := by
  by_cases g1 : a1 < 0
  · exact x21_0 H g1
  by_cases g2 : σ 0 3 ≤ a1
  · exact x21_1 H g2
  have k1 : 0 ≤ a1 ∧ a1 < σ 0 3 := by omega
  by_cases g3 : a2 < 0
  · exact x21_2 H k1 g3
  by_cases g4 : σ 0 3 ≤ a2
  · exact x21_3 H k1 g4
  have k2 : 0 ≤ a2 ∧ a2 < σ 0 3 := by omega
  have hn := (rel_n H).1
  obtain ⟨t, ht⟩ := Int.eq_ofNat_of_zero_le k1.1
  obtain ⟨u, hu⟩ := Int.eq_ofNat_of_zero_le k2.1
  have e1 := d230_ok k1 hn.2.2
  have e2 := d230_ok k2 hn.2.2
  rw [show a1.toNat = t by omega] at e1
  rw [show a2.toNat = u by omega] at e2
  have hP := (cpP (p := t) (by omega)).2.2.2.2.2.2.1
  have hQ := (cpP (p := u) (by omega)).2.2.2.2.2.2.1
  have D97 := d97 H.1 hP hQ
  have run : ∀ b : Int, b = 0 ∨ b = 1 → Dd 97 [vA (20 + 13 * t), vA (20 + 13 * u)] σ (rI b σ) → C317_22 t u none none 0 (upS σ 726 0 (if b = 0 then 0 else 1)) (rI b (upS (upS σ 726 0 (if b = 0 then 0 else 1)) 682 0 0)) → OpB 410 317 [vA 0, vI a1, vI a2, vA 726] [vA 682, vI a1, vI a2] σ (c + 1) := by
    intro b hb hA hB
    refine op_qB (b := b) H (b410 (Or.inl ⟨_, _, b193 (Or.inl ⟨_, _, e1, hP, Or.inl ⟨_, _, e2, hQ, _, _, hA, hb, rfl⟩⟩), b410_16 ⟨by decide, rfl⟩⟩)) ?_
    refine b317 ⟨_, _, d248_ok (by rw [up_a (by decide)]; omega), ?_⟩
    rw [if_neg (show ¬ (1 : Int) = 0 by decide)]
    refine ⟨_, _, d248_ok (by rw [up_a (by decide)]; omega), ?_⟩
    rw [if_neg (show ¬ (1 : Int) = 0 by decide), ht, hu]
    exact hB
  have fr : ∀ v : Int, PEQ (upS σ 726 0 v) (20 + 13 * t) (20 + 13 * u) ↔ PEQ σ (20 + 13 * t) (20 + 13 * u) := by
    intro v
    have hcl : ∀ c k, ¬ c = 726 → upS σ 726 0 v c k = σ c k := fun c k h => up_a h
    unfold PEQ smP
    have ef : ∀ c, ¬ c = 726 → upS σ 726 0 v c = σ c := fun c h => funext (fun k => hcl c k h)
    rw [ef (20 + 13 * t + 1) (by omega), ef (20 + 13 * u + 1) (by omega), ef (20 + 13 * t + 3) (by omega), ef (20 + 13 * u + 3) (by omega), ef (20 + 13 * t + 5) (by omega), ef (20 + 13 * u + 5) (by omega), ef (20 + 13 * t + 1 + 1) (by omega), ef (20 + 13 * u + 1 + 1) (by omega), ef (20 + 13 * t + 3 + 1) (by omega), ef (20 + 13 * u + 3 + 1) (by omega), ef (20 + 13 * t + 5 + 1) (by omega), ef (20 + 13 * u + 5 + 1) (by omega)]
  have M := fun v : Int => m317 (Rel_up (v := v) H) (t := t) (u := u) (by rw [up_a (by decide)]; omega) (by rw [up_a (by decide)]; omega)
  by_cases z : PEQ σ (20 + 13 * t) (20 + 13 * u)
  · exact run 1 (Or.inr rfl) (D97.1 z) ((M _).1 ((fr _).mpr z))
  · exact run 0 (Or.inl rfl) (D97.2 z) ((M _).2 (fun y => z ((fr _).mp y)))
end
