/-! pop. -/
noncomputable section
theorem o30 {σ : Sg} {c : Int} (H : Rel c σ) : OpR 419 346 [vA 0, vA 726] [vA 682] σ (c + 1) := by
  obtain ⟨-, ⟨n4, n5, n6⟩, -⟩ := rel_n H
  by_cases g0 : σ 402 3 = 0
  · have hA : Dd 202 [vA 0] σ (rX 2 σ) := b202 (Or.inr ⟨_, _, b238 (by rw [if_pos (by omega)]), rfl⟩)
    have hB : Dd 346 [vA 682] σ (rI 0 (upS σ 682 0 1)) := by
      refine b346 ?_
      rw [if_pos (by omega)]
      refine b346_13 ⟨_, _, d245, ?_⟩
      rw [if_neg (show ¬ (1 : Int) = 0 by decide), if_pos rfl]
    exact op_x H (by decide) (b419 (Or.inr ⟨_, hA, rfl⟩)) hB
  obtain ⟨h1, h2, h3, h4, h5, h6, h7, h8, h9⟩ := H
  obtain ⟨u1, u2, u3, u4, u5, u6, u7, u8, u9, u10, u11⟩ := h6
  obtain ⟨h, hh⟩ := Int.eq_ofNat_of_zero_le (show 0 ≤ σ 402 3 - 1 by omega)
  have e471 : σ 471 1 = (h : Int) + 1 := by have := u7.1; omega
  have w471 := WF_w h1 r471.1
  have d1 := d147 (i := (h : Int)) w471
  have ea : atS σ 471 (h : Int) = σ 472 h := by
    unfold atS
    rw [if_pos (by omega)]
    rfl
  rw [ea] at d1
  have hrm : ∀ c k, ¬ (c = 471 ∧ k = 1) → rmS1 σ 471 (h : Int) c k = σ c k := by
    intro c k hc
    unfold rmS1
    by_cases e : c = 471 + 1
    · rw [if_pos e, if_neg (by omega)]
    · rw [if_neg e, if_neg hc]
  have hrm1 : rmS1 σ 471 (h : Int) 471 1 = (h : Int) := by
    unfold rmS1
    rw [if_neg (by decide), if_pos ⟨rfl, rfl⟩]
    omega
  have hA : Dd 202 [vA 0] σ (rI (σ 472 h) (upS (rmS1 σ 471 (h : Int)) 402 3 (h : Int))) := by
    refine b202 (Or.inl ⟨_, b238 (by rw [if_neg (by omega)]), _, _, b129 ?_, rfl⟩)
    refine ⟨by omega, ?_⟩
    rw [hh]
    refine ⟨_, _, d1, ?_⟩
    rw [hh]
    refine ⟨by omega, _, b130 ?_, rfl⟩
    rw [if_pos (by omega), if_neg (by omega)]
    refine b130_15 ⟨by omega, ?_⟩
    rw [if_neg (by omega)]
    refine b130_59 ⟨_, d151 w471 (by omega), ?_⟩
    rw [hrm _ _ (by decide), hh]
    exact ⟨by omega, rfl⟩
  have hW := b419 (Or.inl ⟨_, _, hA, rfl⟩)
  rw [show ((0 : Int).toNat) = 0 from rfl] at hW
  have c1 : ∀ c k, ¬ (c = 471 ∧ k = 1) → ¬ (c = 402 ∧ k = 3) → ¬ c = 726 → (upS (upS (rmS1 σ 471 (h : Int)) 402 3 (h : Int)) 726 0 (σ 472 h)) c k = σ c k := by
    intro c k q1 q2 q3
    rw [up_a q3]
    have : upS (rmS1 σ 471 (h : Int)) 402 3 (h : Int) c k = rmS1 σ 471 (h : Int) c k := by
      unfold upS
      rw [if_neg q2]
    rw [this, hrm c k q1]
  have c2 : (upS (upS (rmS1 σ 471 (h : Int)) 402 3 (h : Int)) 726 0 (σ 472 h)) 402 3 = (h : Int) := by rw [up_a (by decide), up_s]
  have c3 : (upS (upS (rmS1 σ 471 (h : Int)) 402 3 (h : Int)) 726 0 (σ 472 h)) 471 1 = (h : Int) := by rw [up_a (by decide), up_a (by decide), hrm1]
  have c4 : (upS (upS (rmS1 σ 471 (h : Int)) 402 3 (h : Int)) 726 0 (σ 472 h)) 726 0 = σ 472 h := up_s
  generalize (upS (upS (rmS1 σ 471 (h : Int)) 402 3 (h : Int)) 726 0 (σ 472 h)) = s1 at hW c1 c2 c3 c4
  have f40 : s1 682 40 = (h : Int) + 1 := by rw [c1 _ _ (by decide) (by decide) (by decide)]; omega
  have e711 : s1 711 h = σ 472 h := by
    rw [c1 _ _ (by omega) (by omega) (by decide), u7.2 h (by omega), Nat.zero_add]
  have hB : Dd 346 [vA 682] s1 (rI (σ 472 h) (upS (upS s1 682 0 0) 682 40 (h : Int))) := by
    refine b346 ?_
    rw [if_neg (by omega)]
    refine b346_13 ⟨_, _, d245, ?_⟩
    rw [if_pos rfl, if_neg (show ¬ (1 : Int) = 0 by decide), up_k (show ¬ 40 = 0 by decide), f40, show (h : Int) + 1 - 1 = (h : Int) by omega, up_s, show ((h : Nat) : Int).toNat = h by omega, up_a (show ¬ 711 = 682 by decide), up_a (show ¬ 711 = 682 by decide), e711]
    exact ⟨by omega, by omega, rfl⟩
  have so : ∀ c k, ¬ (c = 471 ∧ k = 1) → ¬ (c = 402 ∧ k = 3) → ¬ c = 726 → ¬ (c = 682 ∧ (k = 0 ∨ k = 40)) → (upS (upS s1 682 0 0) 682 40 (h : Int)) c k = σ c k := by
    intro c k q1 q2 q3 q4
    have : (upS (upS s1 682 0 0) 682 40 (h : Int)) c k = s1 c k := by
      unfold upS
      rw [if_neg (by omega), if_neg (by omega)]
    rw [this, c1 c k q1 q2 q3]
  have mo : ∀ c k, ¬ c = 682 → (upS (upS s1 682 0 0) 682 40 (h : Int)) c k = s1 c k := fun c k q => by rw [up_a q, up_a q]
  have z0 : (upS (upS s1 682 0 0) 682 40 (h : Int)) 682 0 = 0 := by rw [up_k (by decide), up_s]
  have z40 : (upS (upS s1 682 0 0) 682 40 (h : Int)) 682 40 = (h : Int) := up_s
  generalize (upS (upS s1 682 0 0) 682 40 (h : Int)) = s2 at hB so mo z0 z40
  have k3 : s2 402 3 = (h : Int) := by rw [mo _ _ (by decide)]; exact c2
  have k4 : s2 402 4 = σ 402 4 := so _ _ (by decide) (by decide) (by decide) (by decide)
  have k41 : s2 682 41 = σ 682 41 := so _ _ (by decide) (by decide) (by decide) (by decide)
  have k39 : s2 682 39 = σ 682 39 := so _ _ (by decide) (by decide) (by decide) (by decide)
  refine op_fin hW hB z0 (fun _ => by rw [mo _ _ (by decide), c4]) (fun a k ha => c1 _ _ (by omega) (by omega) (by omega)) (fun a k ha => so _ _ (by omega) (by omega) (by omega) (by omega)) ⟨WF_row (r := 471) (fun a ha hne => ?_) ?_ h1, Zl_fr (fun k => so _ _ (by omega) (by omega) (by omega) (by omega)) h2, RT_fr (fun c k hc => so _ _ (by omega) (by omega) (by omega) (by omega)) h3, RB_fr (fun c k hc => so _ _ (by omega) (by omega) (by omega) (by omega)) h4, RP_fr (fun c k hc => so _ _ (by omega) (by omega) (by omega) (by omega)) h5, ⟨by omega, by omega, by omega, by omega, by omega, by omega, ⟨?_, fun i hi => ?_⟩, fun k hk => ?_, rowEq_fr (so _ _ (by decide) (by decide) (by decide) (by decide)) (fun i => so _ _ (by omega) (by omega) (by omega) (by omega)) (fun i => so _ _ (by omega) (by omega) (by omega) (by omega)) k39 u9, fun i hi => ?_, fun k hk => ?_⟩, RU_fr (fun c k hc => so _ _ (by omega) (by omega) (by omega) (by omega)) h7, RF_fr (fun c k hc => so _ _ (by omega) (by omega) (by omega) (by omega)) h8, RD_fr (fun c k hc => so _ _ (by omega) (by omega) (by omega) (by omega)) h9⟩
  · have n1 : ¬ a = 402 := by intro e; subst e; exact absurd ha (by decide +kernel)
    have := row_lt ha
    exact so _ _ (by omega) (by omega) (by omega) (by omega)
  · rw [mo _ _ (by decide), c3, r471.2]
    omega
  · rw [k3, mo _ _ (by decide), c3]
  · rw [k3] at hi
    rw [so (471 + 1) _ (by omega) (by omega) (by omega) (by omega), so 711 _ (by omega) (by omega) (by omega) (by omega)]
    exact u7.2 i (by omega)
  · rw [k3] at hk
    rw [so _ _ (by omega) (by omega) (by omega) (by omega), k4]
    exact u8 k (by omega)
  · rw [so _ _ (by omega) (by omega) (by omega) (by omega)] at hi
    rw [so _ _ (by omega) (by omega) (by omega) (by omega)]
    exact u10 i hi
  · rw [k3] at hk
    obtain ⟨v1, v2, v3⟩ := u11 k (by omega)
    have hb : blw k = 403 ∨ (409 ≤ blw k ∧ blw k ≤ 460) := by
      unfold blw
      split
      · exact Or.inl rfl
      · right; omega
    exact ⟨PR_fr (fun c j hc => so _ _ (by omega) (by omega) (by omega) (by omega)) (fun c j hc => so _ _ (by omega) (by omega) (by omega) (by omega)) v1, PO_fr (fun c j hc => so _ _ (by omega) (by omega) (by omega) (by omega)) v2, smP_fr (a := 406 + 13 * k + 1) (b := blw k) (funext fun j => so _ _ (by omega) (by omega) (by omega) (by omega)) (funext fun j => so _ _ (by omega) (by omega) (by omega) (by omega)) (funext fun j => so _ _ (by omega) (by omega) (by omega) (by omega)) (funext fun j => so _ _ (by omega) (by omega) (by omega) (by omega)) v3⟩
end
