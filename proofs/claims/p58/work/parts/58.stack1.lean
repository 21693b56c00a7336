/-! The stack's text; top, patches, height, setBase; likeness. -/
noncomputable section
theorem el_405' {σ : Sg} {c : Int} (H : Rel c σ) (h : 0 < σ 402 3) : qE 405 (σ 402 3 - 1).toNat (406 + 13 * (σ 402 3 - 1).toNat) = true ∧ isPatch (406 + 13 * (σ 402 3 - 1).toNat) = true := by
  have := (rel_n H).2.1
  exact el_405 (i := σ 402 3 - 1) (by omega)
theorem blw_0 : blw 0 = 403 := rfl
theorem blw_s (k : Nat) : blw (k + 1) = 406 + 13 * k + 3 := by
  unfold blw
  rw [if_neg (by omega)]
  rfl
theorem blw_row {σ : Sg} {c : Int} (H : Rel c σ) : isRow (blw (σ 402 3).toNat) = true := by
  have := (rel_n H).2.1
  by_cases h : 0 < σ 402 3
  · obtain ⟨k, hk⟩ : ∃ k : Nat, (σ 402 3).toNat = k + 1 := ⟨(σ 402 3).toNat - 1, by omega⟩
    rw [hk, blw_s]
    have e := (el_405' H h).2
    rw [show (σ 402 3 - 1).toNat = k by omega] at e
    exact pat_3 e
  · rw [show (σ 402 3).toNat = 0 by omega]
    decide +kernel
theorem d127 {σ : Sg} {c : Int} (H : Rel c σ) : Dd 127 [vA 402] σ (rA (blw (σ 402 3).toNat) σ) := by
  have := (rel_n H).2.1
  refine b127 ?_
  by_cases h : 0 < σ 402 3
  · obtain ⟨k, hk⟩ : ∃ k : Nat, (σ 402 3).toNat = k + 1 := ⟨(σ 402 3).toNat - 1, by omega⟩
    obtain ⟨e1, e2⟩ := el_405' H h
    rw [if_pos h, if_pos (show σ 402 3 ≤ 5 by omega)]
    refine ⟨by omega, by omega, _, e1, e2, ?_⟩
    rw [hk, blw_s, show (σ 402 3 - 1).toNat = k by omega]
  · rw [if_neg h, show (σ 402 3).toNat = 0 by omega]
    exact b127_36 rfl
/-- the text of the stack, on both sides -/
theorem rel_top {σ : Sg} {c : Int} (H : Rel c σ) : (σ 402 3 = 0 ∧ rowEq σ (blw (σ 402 3).toNat) 710 0 (σ 682 39)) ∨ (0 < σ 402 3 ∧ rowEq σ (blw (σ 402 3).toNat) 686 (100 * (23 + (σ 402 3).toNat)) (σ 689 (23 + (σ 402 3).toNat))) := by
  have hn := (rel_n H).2.1
  by_cases h : 0 < σ 402 3
  · right
    obtain ⟨k, hk⟩ : ∃ k : Nat, (σ 402 3).toNat = k + 1 := ⟨(σ 402 3).toNat - 1, by omega⟩
    have e := (H.2.2.2.2.2.1.2.2.2.2.2.2.2.2.2.2 k (by omega)).1.2.1
    rw [hk, blw_s, show 23 + (k + 1) = 24 + k by omega]
    exact ⟨h, e⟩
  · left
    rw [show (σ 402 3).toNat = 0 by omega]
    exact ⟨by omega, H.2.2.2.2.2.1.2.2.2.2.2.2.2.2.1⟩
theorem rel_top16 {σ : Sg} {c : Int} (H : Rel c σ) : 0 ≤ σ (blw (σ 402 3).toNat) 1 ∧ σ (blw (σ 402 3).toNat) 1 ≤ 16 := by
  have hn := (rel_n H).2.1
  have w := H.1 _ (blw_row H)
  refine ⟨w.1, ?_⟩
  have hc : ∀ k, k < 6 → cap (blw k) = 16 := by decide +kernel
  have := hc (σ 402 3).toNat (by omega)
  omega
theorem d341 {σ : Sg} {c : Int} (H : Rel c σ) : Dd 341 [vA 682] σ (rI (σ (blw (σ 402 3).toNat) 1) σ) := by
  have hn := (rel_n H).2.1
  refine b341 ⟨fun _ => by omega, fun _ => by omega, fun _ => by omega, ?_⟩
  rcases rel_top H with ⟨h, e⟩ | ⟨h, e⟩
  · rw [if_pos (show σ 682 40 = 0 by omega), e.1]
  · rw [if_neg (show ¬ σ 682 40 = 0 by omega), e.1, show ((24 + σ 682 40) - 1).toNat = 23 + (σ 402 3).toNat by omega]
theorem d342 {σ : Sg} {c : Int} (H : Rel c σ) {i : Int} (hi : 0 ≤ i ∧ i < σ (blw (σ 402 3).toNat) 1) : Dd 342 [vA 682, vI i] σ (rI (σ (blw (σ 402 3).toNat + 1) i.toNat) σ) := by
  have hn := (rel_n H).2.1
  have h16 := rel_top16 H
  refine b342 ⟨fun _ => by omega, fun _ => by omega, fun _ => by omega, fun _ => by omega, fun _ => by omega, fun _ => by omega, ?_⟩
  rcases rel_top H with ⟨h, e⟩ | ⟨h, e⟩
  · have e1 := e.1
    rw [if_pos (show σ 682 40 = 0 by omega), e.2 i.toNat (by omega), Nat.zero_add]
  · have e1 := e.1
    rw [if_neg (show ¬ σ 682 40 = 0 by omega), e.2 i.toNat (by omega), show ((100 * ((24 + σ 682 40) - 1)) + i).toNat = 100 * (23 + (σ 402 3).toNat) + i.toNat by omega]
theorem o15 {σ : Sg} {c : Int} (H : Rel c σ) : ∃ kx b s1 s2, Dd 187 [vA 0] σ (rI kx s1) ∧ Dd 306 [vA 682] s1 (rI b s2) ∧ kx = b ∧ (∀ i, s1 SCR i = σ SCR i) ∧ s1 (SCR + 1) 0 = σ (SCR + 1) 0 ∧ (∀ i, s2 SCR i = σ SCR i) ∧ s2 (SCR + 1) 0 = σ (SCR + 1) 0 ∧ Rel (c + 1) s2 := by
  refine ⟨_, _, _, _, b187 rfl, b306 rfl, ?_, fun _ => rfl, rfl, fun i => scr_a (by decide) i, scr_b (by decide) 0, Rel_0 (by omega) (fun c k hc => ?_) H⟩
  · rw [up_k (by decide)]
    exact (rel_n H).1.1.symm
  · unfold upS
    rw [if_neg (by omega)]
theorem o36 {σ : Sg} {c : Int} (H : Rel c σ) : ∃ kx b s1 s2, Dd 208 [vA 0] σ (rI kx s1) ∧ Dd 353 [vA 682] s1 (rI b s2) ∧ kx = b ∧ (∀ i, s1 SCR i = σ SCR i) ∧ s1 (SCR + 1) 0 = σ (SCR + 1) 0 ∧ (∀ i, s2 SCR i = σ SCR i) ∧ s2 (SCR + 1) 0 = σ (SCR + 1) 0 ∧ Rel (c + 1) s2 := by
  refine ⟨_, _, _, _, b208 rfl, b353 rfl, ?_, fun _ => rfl, rfl, fun i => scr_a (by decide) i, scr_b (by decide) 0, Rel_0 (by omega) (fun c k hc => ?_) H⟩
  · rw [up_k (by decide)]
    exact (rel_n H).2.1.1.symm
  · unfold upS
    rw [if_neg (by omega)]
/-- only the table of likenesses was written, besides -/
theorem Rel_L {σ σ' : Sg} {c0 c1 : Int} (hc : c0 ≤ c1) (h : ∀ c k, ¬ (c = 726 ∨ (c = 682 ∧ k = 0) ∨ c = 695) → σ' c k = σ c k) (hZ : Zl σ') (H : Rel c0 σ) : Rel c1 σ' := by
  obtain ⟨h1, h2, h3, h4, h5, h6, h7, h8, h9⟩ := H
  refine ⟨fun a ha => ?_, hZ, RT_fr (fun c k hc => h _ _ (by omega)) h3, RB_fr (fun c k hc => h _ _ (by omega)) h4, RP_fr (fun c k hc => h _ _ (by omega)) h5, RSt_fr hc (fun c k hc => h _ _ (by omega)) h6, RU_fr (fun c k hc => h _ _ (by omega)) h7, RF_fr (fun c k hc => h _ _ (by omega)) h8, RD_fr (fun c k hc => h _ _ (by omega)) h9⟩
  have hne : ¬ a = 726 ∧ ¬ a = 695 := by
    refine ⟨?_, ?_⟩ <;> (intro e; subst e; exact absurd ha (by decide +kernel))
  rw [h _ _ (by omega)]
  exact h1 a ha
theorem o5 {σ : Sg} {c a1 a2 : Int} (H : Rel c σ) : OpR 395 262 [vA 0, vI a1, vI a2, vA 726] [vA 682, vI a1, vI a2] σ (c + 1) := by
  by_cases h1 : isLn a1 = true
  · by_cases h2 : isLn a2 = true
    · have hA : Dd 177 [vA 0, vI a1, vI a2] σ (rI (lik a1 a2) σ) := b177 (Or.inl ⟨_, d235_t h1, Or.inl ⟨_, d235_t h2, _, _, d71 (isLn_nn h1) (isLn_nn h2), rfl⟩⟩)
      have hW := b395 (Or.inl ⟨_, _, hA, rfl⟩)
      have hZ2 : Zl (upS (upS σ 726 0 (lik a1 a2)) 682 0 0) := Zl_fr (fun k => by rw [up_a (by decide), up_a (by decide)]) H.2.1
      obtain ⟨σ', g1, g2, g3⟩ := d254 (isLn_nn h1) (isLn_nn h2) hZ2
      have hB : Dd 262 [vA 682, vI a1, vI a2] (upS σ 726 0 (lik a1 a2)) (rI (lik a1 a2) σ') := by
        refine b262 ⟨_, _, d250, ?_⟩
        rw [if_pos h1, if_neg (by decide)]
        refine ⟨_, _, d250, ?_⟩
        rw [if_pos h2, if_neg (by decide)]
        refine b262_20 ⟨_, _, d245, ?_⟩
        rw [if_pos rfl, if_neg (by decide)]
        exact ⟨_, _, g1, rfl⟩
      have hoff : ∀ c k, ¬ (c = 726 ∨ (c = 682 ∧ k = 0) ∨ c = 695) → σ' c k = σ c k := by
        intro c k hc
        rw [g3 c k (by omega)]
        unfold upS
        rw [if_neg (by omega), if_neg (by omega)]
      refine ⟨_, _, _, _, hW, hB, ?_, fun _ => ?_, fun i => scr_a (by decide) i, scr_b (by decide) 0, fun i => hoff _ _ (by unfold SCR; omega), hoff _ _ (by unfold SCR; omega), Rel_L (by omega) hoff g2 H⟩
      · rw [g3 _ _ (by decide), up_s]
      · rw [g3 _ _ (by decide), up_a (by decide), up_s]
    · have hA : Dd 177 [vA 0, vI a1, vI a2] σ (rX 1 σ) := b177 (Or.inl ⟨_, d235_t h1, Or.inr ⟨_, _, d235_f h2, rfl⟩⟩)
      have hB : Dd 262 [vA 682, vI a1, vI a2] σ (rI 0 (upS σ 682 0 1)) := by
        refine b262 ⟨_, _, d250, ?_⟩
        rw [if_pos h1, if_neg (by decide)]
        refine ⟨_, _, d250, ?_⟩
        rw [if_neg h2, if_pos rfl]
        refine b262_19 (b262_20 ⟨_, _, d245, ?_⟩)
        rw [if_pos (by decide)]
      exact op_x H (by decide) (b395 (Or.inr ⟨_, hA, rfl⟩)) hB
  · have hA : Dd 177 [vA 0, vI a1, vI a2] σ (rX 1 σ) := b177 (Or.inr ⟨_, _, d235_f h1, rfl⟩)
    have hB : Dd 262 [vA 682, vI a1, vI a2] σ (rI 0 (upS σ 682 0 1)) := by
      refine b262 ⟨_, _, d250, ?_⟩
      rw [if_neg h1, if_pos rfl]
      refine b262_19 (b262_20 ⟨_, _, d245, ?_⟩)
      rw [if_pos (by decide)]
    exact op_x H (by decide) (b395 (Or.inr ⟨_, hA, rfl⟩)) hB
end
