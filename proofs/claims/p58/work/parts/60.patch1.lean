/-! Patches are copied, on both sides. -/
noncomputable section
theorem patch_gap {P Q : Nat} (hP : isPatch P = true) (hQ : isPatch Q = true) (h : P < Q) : P + 13 ≤ Q := by
  have hr : ∀ j, isRow (P + j) = true → ¬ Q = P + j ∧ ¬ Q = P + j + 1 := by
    intro j hj
    refine ⟨fun e => ?_, fun e => ?_⟩
    · have a := isRow_1 hj
      rw [← e, pat_0 hQ] at a
      simp at a
    · have a := isRow_2 hj
      rw [← e, pat_0 hQ] at a
      simp at a
  have h1 := hr 1 (pat_1 hP)
  have h3 := hr 3 (pat_3 hP)
  have h5 := hr 5 (pat_5 hP)
  have h7 := hr 7 (pat_7 hP)
  have h9 := hr 9 (pat_9 hP)
  have h11 := hr 11 (pat_11 hP)
  omega
def pbS (σ : Sg) (P Q : Nat) : Sg := bcS (bcS (bcS (bcS (bcS σ (P + 1) (Q + 1)) (P + 3) (Q + 3)) (P + 5) (Q + 5)) (P + 7) (Q + 7)) (P + 9) (Q + 9)
theorem pb_off {σ : Sg} {P Q c k : Nat} (h : ¬ (P + 1 ≤ c ∧ c ≤ P + 10)) : pbS σ P Q c k = σ c k := by
  unfold pbS
  rw [bc_off (by omega) (by omega), bc_off (by omega) (by omega), bc_off (by omega) (by omega), bc_off (by omega) (by omega), bc_off (by omega) (by omega)]
theorem d96 {σ : Sg} {P Q : Nat} (hP : isPatch P = true) (hQ : isPatch Q = true) (hne : P < Q ∨ Q < P) (hw : ∀ j, j ≤ 9 → isRow (Q + j) = true → wR σ (Q + j)) : Dd 96 [vA P, vA Q] σ (rV (pbS σ P Q)) := by
  have hg : P + 13 ≤ Q ∨ Q + 13 ≤ P := hne.imp (patch_gap hP hQ) (patch_gap hQ hP)
  have w : ∀ (s : Sg) j, isRow (Q + j) = true → j ≤ 9 → s (Q + j) 1 = σ (Q + j) 1 → wR s (Q + j) := fun s j hj h9 e => ⟨hj, by rw [e]; exact (hw j h9 hj).2⟩
  refine b96 hP hQ ⟨_, d155 (pat_1 hP) (hw 1 (by omega) (pat_1 hQ)), _, d155 (pat_3 hP) (w _ 3 (pat_3 hQ) (by omega) ?_), _, d155 (pat_5 hP) (w _ 5 (pat_5 hQ) (by omega) ?_), _, d155 (pat_7 hP) (w _ 7 (pat_7 hQ) (by omega) ?_), _, d155 (pat_9 hP) (w _ 9 (pat_9 hQ) (by omega) ?_), rfl⟩
  · rw [bc_off (by omega) (by omega)]
  · rw [bc_off (by omega) (by omega), bc_off (by omega) (by omega)]
  · rw [bc_off (by omega) (by omega), bc_off (by omega) (by omega), bc_off (by omega) (by omega)]
  · rw [bc_off (by omega) (by omega), bc_off (by omega) (by omega), bc_off (by omega) (by omega), bc_off (by omega) (by omega)]
/-- a row of the copy -/
theorem pb_row {σ : Sg} {P Q j : Nat} (hg : P + 13 ≤ Q ∨ Q + 13 ≤ P) (hj : j = 1 ∨ j = 3 ∨ j = 5 ∨ j = 7 ∨ j = 9) (hc : σ (Q + j) 1 ≤ (cap (P + j) : Int)) : pbS σ P Q (P + j) 1 = σ (Q + j) 1 ∧ ∀ k : Nat, (k : Int) < σ (Q + j) 1 → pbS σ P Q (P + j + 1) k = σ (Q + j + 1) k := by
  have key : ∀ s : Sg, (∀ c k, c = Q + j ∨ c = Q + j + 1 → s c k = σ c k) → bcS s (P + j) (Q + j) (P + j) 1 = σ (Q + j) 1 ∧ ∀ k : Nat, (k : Int) < σ (Q + j) 1 → bcS s (P + j) (Q + j) (P + j + 1) k = σ (Q + j + 1) k := by
    intro s hs
    have e := hs (Q + j) 1 (Or.inl rfl)
    refine ⟨by rw [bc_sz (by rw [e]; exact hc), e], fun k hk => ?_⟩
    rw [bc_val (by rw [e]; exact hc) (by omega) (by rw [e]; exact hk), hs _ _ (Or.inr rfl)]
  unfold pbS
  rcases hj with hj | hj | hj | hj | hj <;> subst hj
  · obtain ⟨a, b⟩ := key σ (fun _ _ _ => rfl)
    refine ⟨?_, fun k hk => ?_⟩
    · rw [bc_off (by omega) (by omega), bc_off (by omega) (by omega), bc_off (by omega) (by omega), bc_off (by omega) (by omega)]; exact a
    · rw [bc_off (by omega) (by omega), bc_off (by omega) (by omega), bc_off (by omega) (by omega), bc_off (by omega) (by omega)]; exact b k hk
  · obtain ⟨a, b⟩ := key (bcS σ (P + 1) (Q + 1)) (fun c k hc => bc_off (by omega) (by omega))
    refine ⟨?_, fun k hk => ?_⟩
    · rw [bc_off (by omega) (by omega), bc_off (by omega) (by omega), bc_off (by omega) (by omega)]; exact a
    · rw [bc_off (by omega) (by omega), bc_off (by omega) (by omega), bc_off (by omega) (by omega)]; exact b k hk
  · obtain ⟨a, b⟩ := key (bcS (bcS σ (P + 1) (Q + 1)) (P + 3) (Q + 3)) (fun c k hc => by rw [bc_off (by omega) (by omega), bc_off (by omega) (by omega)])
    refine ⟨?_, fun k hk => ?_⟩
    · rw [bc_off (by omega) (by omega), bc_off (by omega) (by omega)]; exact a
    · rw [bc_off (by omega) (by omega), bc_off (by omega) (by omega)]; exact b k hk
  · obtain ⟨a, b⟩ := key (bcS (bcS (bcS σ (P + 1) (Q + 1)) (P + 3) (Q + 3)) (P + 5) (Q + 5)) (fun c k hc => by rw [bc_off (by omega) (by omega), bc_off (by omega) (by omega), bc_off (by omega) (by omega)])
    refine ⟨?_, fun k hk => ?_⟩
    · rw [bc_off (by omega) (by omega)]; exact a
    · rw [bc_off (by omega) (by omega)]; exact b k hk
  · exact key (bcS (bcS (bcS (bcS σ (P + 1) (Q + 1)) (P + 3) (Q + 3)) (P + 5) (Q + 5)) (P + 7) (Q + 7)) (fun c k hc => by rw [bc_off (by omega) (by omega), bc_off (by omega) (by omega), bc_off (by omega) (by omega), bc_off (by omega) (by omega)])
def clSw (σ : Sg) (s t i : Nat) : Sg := fun c k => if (685 ≤ c ∧ c ≤ 687) ∧ 100 * t + i ≤ k ∧ k < 100 * t + 100 then σ c (100 * s + (k - 100 * t)) else σ c k
theorem l288 {s t : Nat} (hs : s < 44) (ht : t < 44) : ∀ (d i : Nat) (σ : Sg), i + d = 100 → C288_26 s t i σ (rV (clSw σ s t i)) := by
  intro d
  induction d with
  | zero =>
    intro i σ h1
    refine b288_26 ?_
    rw [if_neg (by omega)]
    congr 1
    funext c k
    unfold clSw
    rw [if_neg (by omega)]
  | succ d ih =>
    intro i σ h1
    have t1 : ((100 * (t : Int)) + (i : Int)).toNat = 100 * t + i := by omega
    have t2 : ((100 * (s : Int)) + (i : Int)).toNat = 100 * s + i := by omega
    refine b288_26 ?_
    rw [if_pos (by omega), t1, t2]
    refine ⟨by omega, by omega, by omega, by omega, by omega, by omega, by omega, by omega, by omega, by omega, by omega, by omega, by omega, by omega, by omega, by omega, by omega, by omega, by omega, ?_⟩
    have e := ih (i + 1) (upS (upS (upS σ 685 (100 * t + i) (σ 685 (100 * s + i))) 686 (100 * t + i) ((upS σ 685 (100 * t + i) (σ 685 (100 * s + i))) 686 (100 * s + i))) 687 (100 * t + i) ((upS (upS σ 685 (100 * t + i) (σ 685 (100 * s + i))) 686 (100 * t + i) ((upS σ 685 (100 * t + i) (σ 685 (100 * s + i))) 686 (100 * s + i))) 687 (100 * s + i))) (by omega)
    have e2 : clSw (upS (upS (upS σ 685 (100 * t + i) (σ 685 (100 * s + i))) 686 (100 * t + i) ((upS σ 685 (100 * t + i) (σ 685 (100 * s + i))) 686 (100 * s + i))) 687 (100 * t + i) ((upS (upS σ 685 (100 * t + i) (σ 685 (100 * s + i))) 686 (100 * t + i) ((upS σ 685 (100 * t + i) (σ 685 (100 * s + i))) 686 (100 * s + i))) 687 (100 * s + i))) s t (i + 1) = clSw σ s t i := by
      have key : ∀ c k, ¬ (k = 100 * t + i) → (upS (upS (upS σ 685 (100 * t + i) (σ 685 (100 * s + i))) 686 (100 * t + i) ((upS σ 685 (100 * t + i) (σ 685 (100 * s + i))) 686 (100 * s + i))) 687 (100 * t + i) ((upS (upS σ 685 (100 * t + i) (σ 685 (100 * s + i))) 686 (100 * t + i) ((upS σ 685 (100 * t + i) (σ 685 (100 * s + i))) 686 (100 * s + i))) 687 (100 * s + i))) c k = σ c k := fun c k h => by rw [up_k h, up_k h, up_k h]
      funext c k
      unfold clSw
      by_cases hk : k = 100 * t + i
      · rw [if_neg (by omega), hk]
        by_cases hc : 685 ≤ c ∧ c ≤ 687
        · rw [if_pos (by omega), show 100 * s + (100 * t + i - 100 * t) = 100 * s + i by omega]
          have h3 : c = 685 ∨ c = 686 ∨ c = 687 := by omega
          rcases h3 with h3 | h3 | h3 <;> subst h3
          · rw [up_a (by decide), up_a (by decide), up_s]
          · rw [up_a (by decide), up_s, up_a (by decide)]
          · rw [up_s, up_a (by decide), up_a (by decide)]
        · rw [if_neg (fun e => hc e.1), up_a (by omega), up_a (by omega), up_a (by omega)]
      · rw [key c k hk]
        by_cases h9 : (685 ≤ c ∧ c ≤ 687) ∧ 100 * t + i ≤ k ∧ k < 100 * t + 100
        · rw [if_pos (by omega), if_pos h9, key _ _ (by omega)]
        · rw [if_neg (by omega), if_neg h9]
    rw [e2, show (((i + 1 : Nat)) : Int) = (i : Int) + 1 by omega] at e
    exact e
def cpyS (σ : Sg) (s t : Nat) : Sg := clSw (upS (upS σ 688 t (σ 688 s)) 689 t (σ 689 s)) s t 0
theorem d288 {σ : Sg} {s t : Nat} (hs : s < 44) (ht : t < 44) : Dd 288 [vA 682, vI s, vI t] σ (rV (cpyS σ s t)) := by
  have t1 : ((s : Int)).toNat = s := by omega
  have t2 : ((t : Int)).toNat = t := by omega
  refine b288 ⟨by omega, by omega, by omega, by omega, ?_⟩
  rw [t1, t2, up_a (show ¬ 689 = 688 by decide)]
  exact l288 hs ht 100 0 _ (by omega)
theorem cpy_off {σ : Sg} {s t c k : Nat} (h : ¬ (685 ≤ c ∧ c ≤ 689)) : cpyS σ s t c k = σ c k := by
  unfold cpyS clSw
  rw [if_neg (by omega), up_a (by omega), up_a (by omega)]
theorem cpy_other {σ : Sg} {s t u c k : Nat} (h : ¬ u = t) (hk : k < 100) (hc : 685 ≤ c ∧ c ≤ 687) : cpyS σ s t c (100 * u + k) = σ c (100 * u + k) := by
  unfold cpyS clSw
  rw [if_neg (by omega), up_a (by omega), up_a (by omega)]
theorem cpy_val {σ : Sg} {s t c k : Nat} (hk : k < 100) (hc : 685 ≤ c ∧ c ≤ 687) : cpyS σ s t c (100 * t + k) = σ c (100 * s + k) := by
  unfold cpyS clSw
  rw [if_pos (by omega), up_a (by omega), up_a (by omega), show 100 * t + k - 100 * t = k by omega]
theorem cpy_n1 {σ : Sg} {s t u : Nat} : cpyS σ s t 688 u = if u = t then σ 688 s else σ 688 u := by
  unfold cpyS clSw
  rw [if_neg (by omega), up_a (by decide)]
  by_cases h : u = t
  · rw [if_pos h, h, up_s]
  · rw [if_neg h, up_k h]
theorem cpy_n2 {σ : Sg} {s t u : Nat} : cpyS σ s t 689 u = if u = t then σ 689 s else σ 689 u := by
  unfold cpyS clSw
  rw [if_neg (by omega)]
  by_cases h : u = t
  · rw [if_pos h, h, up_s]
  · rw [if_neg h, up_k h, up_a (by decide)]
/-- patches with the same rows are in order alike -/
theorem PO_cg {σ σ' : Sg} {P Q : Nat} {m : Int} (h : ∀ j, j = 1 ∨ j = 3 ∨ j = 5 ∨ j = 7 ∨ j = 9 → σ' (P + j) 1 = σ (Q + j) 1 ∧ ∀ k : Nat, (k : Int) < σ (Q + j) 1 → σ' (P + j + 1) k = σ (Q + j + 1) k) (H : PO σ Q m) (h0 : 0 ≤ σ (Q + 1) 1 ∧ 0 ≤ σ (Q + 3) 1) : PO σ' P m := by
  obtain ⟨p1, p2, p3, p4, p5, p6, p7, p8, p9, p10, p11⟩ := H
  obtain ⟨a1, c1⟩ := h 1 (by omega)
  obtain ⟨a3, c3⟩ := h 3 (by omega)
  obtain ⟨a5, c5⟩ := h 5 (by omega)
  obtain ⟨a7, c7⟩ := h 7 (by omega)
  obtain ⟨a9, c9⟩ := h 9 (by omega)
  have hh : hks (σ' (P + 6)) (σ' (P + 1) 1).toNat (σ' (P + 3) 1).toNat = hks (σ (Q + 6)) (σ (Q + 1) 1).toNat (σ (Q + 3) 1).toNat := by
    unfold hks
    rw [a1, a3]
    exact hkF_congr (fun i hi => c5 i (by omega)) _ _ _
  refine ⟨by omega, by omega, by omega, by omega, fun i hi => ?_, fun j hj => ?_, fun i i' hii hi' => ?_, fun i hi => ?_, fun j hj => ?_, ?_, fun h' q hr => ?_⟩
  · rw [a1] at hi
    have e5 : σ' (P + 6) i = σ (Q + 6) i := c5 i (by omega)
    have e1 : σ' (P + 2) i = σ (Q + 2) i := c1 i hi
    rw [e5, e1, a3]
    rcases p5 i hi with q | ⟨q1, q2, q3, q4⟩
    · exact Or.inl q
    · refine Or.inr ⟨q1, q2, ?_, ?_⟩
      · have e7 : σ' (P + 8) (σ (Q + 6) i).toNat = σ (Q + 8) (σ (Q + 6) i).toNat := c7 _ (by rw [p4]; omega)
        rw [e7]; exact q3
      · have e3 : σ' (P + 4) (σ (Q + 6) i).toNat = σ (Q + 4) (σ (Q + 6) i).toNat := c3 _ (by omega)
        rw [e3]; exact q4
  · rw [a3] at hj
    have e7 : σ' (P + 8) j = σ (Q + 8) j := c7 j (by omega)
    rw [e7, a1]
    rcases p6 j hj with q | ⟨q1, q2, q3⟩
    · exact Or.inl q
    · refine Or.inr ⟨q1, q2, ?_⟩
      have e5 : σ' (P + 6) (σ (Q + 8) j).toNat = σ (Q + 6) (σ (Q + 8) j).toNat := c5 _ (by rw [p3]; omega)
      rw [e5]; exact q3
  · rw [a1] at hi'
    have e5 : σ' (P + 6) i = σ (Q + 6) i := c5 i (by omega)
    have e5' : σ' (P + 6) i' = σ (Q + 6) i' := c5 i' (by omega)
    rw [e5, e5']
    exact p7 i i' hii hi'
  · rw [a1] at hi
    have e1 : σ' (P + 2) i = σ (Q + 2) i := c1 i hi
    rw [e1]
    exact p8 i hi
  · rw [a3] at hj
    have e3 : σ' (P + 4) j = σ (Q + 4) j := c3 j hj
    rw [e3]
    exact p9 j hj
  · rw [hh, a9]; exact p10
  · rw [hh] at hr
    have hl := (List.getElem?_eq_some_iff.mp hr).1
    have e9 : ∀ k : Nat, (k : Int) < σ (Q + 9) 1 → σ' (P + 10) k = σ (Q + 10) k := c9
    rw [e9 (4 * h') (by rw [p10]; omega), e9 (4 * h' + 1) (by rw [p10]; omega), e9 (4 * h' + 2) (by rw [p10]; omega), e9 (4 * h' + 3) (by rw [p10]; omega)]
    exact p11 h' q hr
end
