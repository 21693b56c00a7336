/-! setFile, compose. -/
noncomputable section
theorem d51_ok {t n : Int} {σ : Sg} (ht : 0 ≤ t ∧ t < 3) (hn : 0 ≤ n ∧ n < 6) : Dd 51 [vI t, vI n] σ (rI (t * 6 + n) σ) := by
  refine b51 ?_
  rw [if_pos ht.1, if_pos ht.2, if_pos hn.1, if_pos hn.2]
  refine b51_24 ⟨by intro _; omega, by intro _; omega, ?_⟩
  rw [if_neg (by decide)]
theorem d50_ok {t n : Int} {σ : Sg} (ht : 0 ≤ t ∧ t < 3) (hn : 0 ≤ n ∧ n < 6) : Dd 50 [vA 614, vI t, vI n] σ (rI (if σ 652 (t * 6 + n).toNat = 0 then 0 else 1) σ) := by
  refine b50 ⟨_, _, d51_ok ht hn, by intro _; omega, ?_⟩
  rw [if_pos (show t * 6 + n < 18 by omega)]
theorem l368 {f t : Nat} (hf : f < 18) (ht : t < 4) {n : Nat} (hn : n ≤ 16) {d1 d2 d4 : Option AV} {x6 : Int} (h6 : x6 = 0 ∨ x6 = 1) : ∀ (w i : Nat) (σ : Sg), i + w = n → σ 718 f = (n : Nat) → C368_114 d1 d2 t d4 f x6 i σ (rI x6 (acS σ 719 (16 * f) 683 (16 * t) i n)) := by
  intro w
  induction w with
  | zero =>
    intro i σ h1 h2
    refine b368_114 ⟨by omega, ?_⟩
    rw [show ((f : Int)).toNat = f by omega, if_neg (by omega), show i = n by omega, acS_end]
    exact ⟨h6, rfl⟩
  | succ w ih =>
    intro i σ h1 h2
    refine b368_114 ⟨by omega, ?_⟩
    rw [show ((f : Int)).toNat = f by omega, if_pos (by omega)]
    refine ⟨by omega, by omega, by omega, by omega, by omega, by omega, by omega, ?_⟩
    have e := ih (i + 1) (upS σ 719 (16 * f + i) (σ 683 (16 * t + i))) (by omega) (by rw [up_a (by decide)]; exact h2)
    rw [acS_step (by omega) (by decide)] at e
    rw [show ((16 * (f : Int)) + (i : Int)).toNat = 16 * f + i by omega, show ((16 * (t : Int)) + (i : Int)).toNat = 16 * t + i by omega, show (i : Int) + 1 = ((i + 1 : Nat) : Int) by omega]
    exact e
/-- nothing but trees was written, besides -/
theorem Rel_F {σ s : Sg} {c0 c1 : Int} (hc : c0 ≤ c1) (h : ∀ c k, ¬ (c = 726 ∨ (c = 682 ∧ (k = 0 ∨ k = 53)) ∨ (616 ≤ c ∧ c ≤ 657) ∨ (717 ≤ c ∧ c ≤ 721)) → s c k = σ c k) (hw : ∀ a, isRow a = true → 616 ≤ a → a ≤ 657 → 0 ≤ s a 1 ∧ s a 1 ≤ (cap a : Int)) (hF : RF s) (H : Rel c0 σ) : Rel c1 s := by
  obtain ⟨g1, g2, g3, g4, g5, g6, g7, g8, g9⟩ := H
  refine ⟨fun a ha => ?_, Zl_fr (fun k => h _ _ (by omega)) g2, RT_fr (fun c k hc => h _ _ (by omega)) g3, RB_fr (fun c k hc => h _ _ (by omega)) g4, RP_fr (fun c k hc => h _ _ (by omega)) g5, RSt_fr hc (fun c k hc => h _ _ (by omega)) g6, RU_fr (fun c k hc => h _ _ (by omega)) g7, hF, RD_fr (fun c k hc => h _ _ (by omega)) g9⟩
  have hlt := row_lt ha
  by_cases e : 616 ≤ a ∧ a ≤ 657
  · exact hw a ha e.1 e.2
  · rw [h _ _ (by omega)]
    exact g1 a ha
theorem o43 {σ : Sg} {c a1 a2 a3 : Int} (H : Rel c σ) : OpB 431 368 [vA 0, vI a1, vI a2, vI a3, vA 726] [vA 682, vI a1, vI a2, vI a3] σ (c + 1) := by
  by_cases g1 : a1 < 0
  · exact x43_0 H g1
  by_cases g2 : 3 ≤ a1
  · exact x43_1 H g2
  have k1 : 0 ≤ a1 ∧ a1 < 3 := by omega
  by_cases g3 : a2 < 0
  · exact x43_2 H k1 g3
  by_cases g4 : 6 ≤ a2
  · exact x43_3 H k1 g4
  have k2 : 0 ≤ a2 ∧ a2 < 6 := by omega
  by_cases g5 : a3 < -1
  · by_cases z : σ 652 (a1 * 6 + a2).toNat = 0
    · exact x43_4 H k1 k2 ⟨g5, z⟩
    · exact x43_6 H k1 k2 ⟨g5, z⟩
  by_cases g6 : 4 ≤ a3
  · by_cases z : σ 652 (a1 * 6 + a2).toNat = 0
    · exact x43_5 H k1 k2 ⟨g6, z⟩
    · exact x43_7 H k1 k2 ⟨g6, z⟩
  obtain ⟨fi, hfi⟩ := Int.eq_ofNat_of_zero_le (show 0 ≤ a1 * 6 + a2 by omega)
  have hf18 : fi < 18 := by omega
  have hE := d50_ok (σ := σ) k1 k2
  have hRF := H.2.2.2.2.2.2.2.1
  obtain ⟨p1, p2, p3⟩ := hRF.1 fi hf18
  have hhad : (if σ 652 fi = 0 then (0 : Int) else 1) = σ 652 fi := by
    rcases p2 with z | z
    · rw [if_pos z, z]
    · rw [if_neg (by omega), z]
  rw [hfi, show ((fi : Nat) : Int).toNat = fi by omega, hhad] at hE
  have h51 := d51_ok (σ := σ) k1 k2
  rw [hfi] at h51
  have e246a : ∀ {s : Sg}, Dd 246 [vI a1, vI 3] s (rI 1 s) := by
    intro s
    have e := d246 (x := a1) (n := 3) (σ := s)
    rw [if_pos k1] at e
    exact e
  have e246b : ∀ {s : Sg}, Dd 246 [vI a2, vI 6] s (rI 1 s) := by
    intro s
    have e := d246 (x := a2) (n := 6) (σ := s)
    rw [if_pos k2] at e
    exact e
  by_cases g7 : a3 = -1
  · -- the file is taken away
    have hA : Dd 215 [vA 0, vI a1, vI a2, vI a3] σ (rI (σ 652 fi) (upS σ 652 fi 0)) := by
      refine b215 (Or.inl ⟨_, d232_ok k1, Or.inl ⟨_, d232_ok k2, _, _, hE, ?_⟩⟩)
      rw [if_pos g7]
      refine ⟨_, b52 ⟨_, _, h51, ?_⟩, p2, rfl⟩
      rw [if_pos (by omega)]
      exact ⟨by omega, rfl⟩
    have hW : Dd 431 [vA 0, vI a1, vI a2, vI a3, vA 726] σ (rI 0 (upS (upS σ 652 fi 0) 726 0 (if σ 652 fi = 0 then 0 else 1))) := b431 (Or.inl ⟨_, _, hA, b431_18 ⟨by decide, rfl⟩⟩)
    have hB : Dd 368 [vA 682, vI a1, vI a2, vI a3] (upS (upS σ 652 fi 0) 726 0 (if σ 652 fi = 0 then 0 else 1)) (rI (σ 652 fi) (upS (upS (upS (upS (upS σ 652 fi 0) 726 0 (if σ 652 fi = 0 then 0 else 1)) 682 0 0) 717 fi 0) 718 fi 0)) := by
      refine b368 ⟨_, _, e246a, ?_⟩
      rw [if_neg (show ¬ (1 : Int) = 0 by decide)]
      refine ⟨_, _, e246b, ?_⟩
      rw [if_neg (show ¬ (1 : Int) = 0 by decide)]
      have e247 : Dd 247 [vI a3] (upS (upS σ 652 fi 0) 726 0 (if σ 652 fi = 0 then 0 else 1)) (rI 0 (upS (upS σ 652 fi 0) 726 0 (if σ 652 fi = 0 then 0 else 1))) := by
        refine b247 ⟨_, _, d246, ?_, ?_⟩
        · rw [if_neg (show ¬ (0 ≤ a3 ∧ a3 < 4) by omega)]; exact Or.inl rfl
        · rw [if_neg (show ¬ (0 ≤ a3 ∧ a3 < 4) by omega)]
      refine ⟨_, _, e247, ?_⟩
      rw [if_pos rfl, if_pos g7]
      refine b368_29 (b368_34 ?_)
      rw [if_neg (show ¬ (1 : Int) = 0 by decide)]
      refine b368_47 ⟨_, _, d245, ?_⟩
      rw [if_pos rfl, if_neg (show ¬ (1 : Int) = 0 by decide), if_pos g7, show 6 * a1 + a2 = (fi : Int) by omega, show ((fi : Nat) : Int).toNat = fi by omega]
      refine ⟨by omega, by omega, by omega, b368_88 ⟨by omega, Or.inl rfl, fun z => absurd g7 z, b368_110 ⟨by omega, b368_114 ⟨by omega, ?_⟩⟩⟩⟩
      rw [if_pos g7, show ((fi : Nat) : Int).toNat = fi by omega, up_s, if_neg (show ¬ (0 : Int) < 0 by decide), up_a (show ¬ 717 = 682 by decide), up_a (show ¬ 717 = 726 by decide), up_a (show ¬ 717 = 652 by decide), p1]
      exact ⟨p2, rfl⟩
    have hoff : ∀ c k, ¬ ((c = 652 ∧ k = fi) ∨ c = 726 ∨ (c = 682 ∧ k = 0) ∨ (c = 717 ∧ k = fi) ∨ (c = 718 ∧ k = fi)) → (upS (upS (upS (upS (upS σ 652 fi 0) 726 0 (if σ 652 fi = 0 then 0 else 1)) 682 0 0) 717 fi 0) 718 fi 0) c k = σ c k := by
      intro c k h
      unfold upS
      rw [if_neg (by omega), if_neg (by omega), if_neg (by omega), if_neg (by omega), if_neg (by omega)]
    have z1 : (upS (upS (upS (upS (upS σ 652 fi 0) 726 0 (if σ 652 fi = 0 then 0 else 1)) 682 0 0) 717 fi 0) 718 fi 0) 682 0 = 0 := by rw [up_a (by decide), up_a (by decide), up_s]
    have z2 : (upS (upS (upS (upS (upS σ 652 fi 0) 726 0 (if σ 652 fi = 0 then 0 else 1)) 682 0 0) 717 fi 0) 718 fi 0) 726 0 = (if σ 652 fi = 0 then 0 else 1) := by rw [up_a (by decide), up_a (by decide), up_a (by decide), up_s]
    have z3 : (upS (upS (upS (upS (upS σ 652 fi 0) 726 0 (if σ 652 fi = 0 then 0 else 1)) 682 0 0) 717 fi 0) 718 fi 0) 717 fi = 0 := by rw [up_a (by decide), up_s]
    have z4 : (upS (upS (upS (upS (upS σ 652 fi 0) 726 0 (if σ 652 fi = 0 then 0 else 1)) 682 0 0) 717 fi 0) 718 fi 0) 652 fi = 0 := by rw [up_a (by decide), up_a (by decide), up_a (by decide), up_a (by decide), up_s]
    generalize (upS (upS (upS (upS (upS σ 652 fi 0) 726 0 (if σ 652 fi = 0 then 0 else 1)) 682 0 0) 717 fi 0) 718 fi 0) = s at hB hoff z1 z2 z3 z4
    refine op_finB hW hB z1 (fun _ => z2) (fun a k ha => by rw [up_a (by omega), up_a (by omega)]) (fun a k ha => hoff _ _ (by omega)) (Rel_F (by omega) (fun c k hc => hoff _ _ (by omega)) (fun a ha h1 h2 => ?_) ?_ H)
    · have n1 : ¬ a = 652 := by intro e; subst e; exact absurd ha (by decide +kernel)
      rw [hoff _ _ (by omega)]
      exact H.1 a ha
    · obtain ⟨q1, q2, q3, q4, q5⟩ := hRF
      have e53 : s 682 53 = σ 682 53 := hoff _ _ (by omega)
      refine ⟨fun f hf => ?_, by omega, by omega, rowEq_fr (hoff _ _ (by omega)) (fun i => hoff _ _ (by omega)) (fun i => hoff _ _ (by omega)) (by rw [e53]) q4, fun i hi => ?_⟩
      · by_cases e : f = fi
        · rw [e, z3, z4]
          exact ⟨rfl, Or.inl rfl, fun q => absurd q (by decide)⟩
        · obtain ⟨r1, r2, r3⟩ := q1 f hf
          rw [hoff 717 f (by omega), hoff 652 f (by omega)]
          exact ⟨r1, r2, fun hh => rowEq_fr (hoff _ _ (by omega)) (fun i => hoff _ _ (by omega)) (fun i => hoff _ _ (by omega)) (hoff _ _ (by omega)) (r3 hh)⟩
      · rw [hoff _ _ (by omega)] at hi
        rw [hoff _ _ (by omega)]
        exact q5 i hi
  · -- the file is written
    have k3 : 0 ≤ a3 ∧ a3 < 4 := by omega
    obtain ⟨t1, t2, t3⟩ := rel_t H k3
    have hr3 := (el_1 k3).2
    have hcc := cp_1 k3
    obtain ⟨ti, hti⟩ := Int.eq_ofNat_of_zero_le k3.1
    have k227 := d227_ok (σ := σ) k3
    obtain ⟨w1, w2⟩ := H.2.2.1 a3.toNat (by omega)
    rw [show a3.toNat = ti by omega] at t1 t2 t3 hr3 hcc k227 w1 w2
    obtain ⟨n, hn⟩ := Int.eq_ofNat_of_zero_le t2
    have hfe := el_615 (i := (fi : Int)) (by omega)
    have hfc := cp_615 (i := (fi : Int)) (by omega)
    rw [show ((fi : Nat) : Int).toNat = fi by omega] at hfe hfc
    have wr : wR (upS σ 652 fi 1) (2 + 2 * ti) := ⟨hr3, by rw [up_a (by omega)]; omega, by rw [up_a (by omega)]; omega⟩
    have hcp : (upS σ 652 fi 1) (2 + 2 * ti) 1 ≤ (cap (616 + 2 * fi) : Int) := by rw [up_a (by omega)]; omega
    have hA : Dd 215 [vA 0, vI a1, vI a2, vI a3] σ (rI (σ 652 fi) (bcS (upS σ 652 fi 1) (616 + 2 * fi) (2 + 2 * ti))) := by
      refine b215 (Or.inl ⟨_, d232_ok k1, Or.inl ⟨_, d232_ok k2, _, _, hE, ?_⟩⟩)
      rw [if_neg g7]
      refine Or.inl ⟨_, _, k227, hr3, _, b53 ⟨_, _, h51, ?_⟩, p2, rfl⟩
      rw [if_pos (by omega), if_pos (by omega), show ((fi : Nat) : Int).toNat = fi by omega]
      exact ⟨by omega, by omega, _, hfe.1, hfe.2, _, d155 hfe.2 wr, rfl⟩
    have hW : Dd 431 [vA 0, vI a1, vI a2, vI a3, vA 726] σ (rI 0 (upS (bcS (upS σ 652 fi 1) (616 + 2 * fi) (2 + 2 * ti)) 726 0 (if σ 652 fi = 0 then 0 else 1))) := b431 (Or.inl ⟨_, _, hA, b431_18 ⟨by decide, rfl⟩⟩)
    have c0 : ∀ c k, ¬ (c = 652 ∧ k = fi) → ¬ c = 726 → ¬ (c = 616 + 2 * fi) → ¬ c = 616 + 2 * fi + 1 → (upS (bcS (upS σ 652 fi 1) (616 + 2 * fi) (2 + 2 * ti)) 726 0 (if σ 652 fi = 0 then 0 else 1)) c k = σ c k := by
      intro c k h1 h2 h3 h4
      rw [up_a h2, bc_off h3 h4]
      unfold upS
      rw [if_neg h1]
    have c1 : (upS (bcS (upS σ 652 fi 1) (616 + 2 * fi) (2 + 2 * ti)) 726 0 (if σ 652 fi = 0 then 0 else 1)) 652 fi = 1 := by
      rw [up_a (by decide), bc_off (by omega) (by omega), up_s]
    have c2 : (upS (bcS (upS σ 652 fi 1) (616 + 2 * fi) (2 + 2 * ti)) 726 0 (if σ 652 fi = 0 then 0 else 1)) 726 0 = (if σ 652 fi = 0 then 0 else 1) := up_s
    have c3 : (upS (bcS (upS σ 652 fi 1) (616 + 2 * fi) (2 + 2 * ti)) 726 0 (if σ 652 fi = 0 then 0 else 1)) (616 + 2 * fi) 1 = (n : Nat) := by
      rw [up_a (by omega), bc_sz hcp, up_a (by omega)]; exact hn
    have c4 : ∀ k, k < n → (upS (bcS (upS σ 652 fi 1) (616 + 2 * fi) (2 + 2 * ti)) 726 0 (if σ 652 fi = 0 then 0 else 1)) (616 + 2 * fi + 1) k = σ (2 + 2 * ti + 1) k := by
      intro k hk
      rw [up_a (by omega), bc_val hcp (by omega) (by rw [up_a (by omega)]; omega), up_a (by omega)]
    generalize (upS (bcS (upS σ 652 fi 1) (616 + 2 * fi) (2 + 2 * ti)) 726 0 (if σ 652 fi = 0 then 0 else 1)) = s1 at hW c0 c1 c2 c3 c4
    have m1 := l368 (f := fi) (t := ti) (n := n) (d1 := some (vI a1)) (d2 := some (vI a2)) (d4 := some (vI 1)) (x6 := σ 652 fi) hf18 (by omega) (by omega) p2 n 0 (upS (upS (upS s1 682 0 0) 717 fi 1) 718 fi (n : Nat)) (by omega) up_s
    have hB : Dd 368 [vA 682, vI a1, vI a2, vI a3] s1 (rI (σ 652 fi) (acS (upS (upS (upS s1 682 0 0) 717 fi 1) 718 fi (n : Nat)) 719 (16 * fi) 683 (16 * ti) 0 n)) := by
      refine b368 ⟨_, _, e246a, ?_⟩
      rw [if_neg (show ¬ (1 : Int) = 0 by decide)]
      refine ⟨_, _, e246b, ?_⟩
      rw [if_neg (show ¬ (1 : Int) = 0 by decide)]
      refine ⟨_, _, d247_ok k3, ?_⟩
      rw [if_neg (show ¬ (1 : Int) = 0 by decide)]
      refine b368_29 (b368_34 ?_)
      rw [if_neg (show ¬ (1 : Int) = 0 by decide)]
      refine b368_47 ⟨_, _, d245, ?_⟩
      rw [if_pos rfl, if_neg (show ¬ (1 : Int) = 0 by decide), if_neg g7, show 6 * a1 + a2 = (fi : Int) by omega, show ((fi : Nat) : Int).toNat = fi by omega]
      refine ⟨by omega, by omega, by omega, b368_88 ⟨by omega, Or.inr rfl, fun z => k3, b368_110 ⟨by omega, ?_⟩⟩⟩
      rw [if_neg g7, show ((fi : Nat) : Int).toNat = fi by omega, show a3.toNat = ti by omega, up_a (show ¬ 684 = 717 by decide), up_a (show ¬ 684 = 682 by decide), up_a (show ¬ 717 = 682 by decide), c0 684 _ (by omega) (by omega) (by omega) (by omega), c0 717 _ (by omega) (by omega) (by omega) (by omega), p1, ← t1, hn, hti]
      exact m1
    have hoff : ∀ c k, ¬ ((c = 652 ∧ k = fi) ∨ c = 616 + 2 * fi ∨ c = 616 + 2 * fi + 1 ∨ c = 726 ∨ (c = 682 ∧ k = 0) ∨ (c = 717 ∧ k = fi) ∨ (c = 718 ∧ k = fi) ∨ (c = 719 ∧ 16 * fi ≤ k ∧ k < 16 * fi + n)) → (acS (upS (upS (upS s1 682 0 0) 717 fi 1) 718 fi (n : Nat)) 719 (16 * fi) 683 (16 * ti) 0 n) c k = σ c k := by
      intro c k h
      have e : (acS (upS (upS (upS s1 682 0 0) 717 fi 1) 718 fi (n : Nat)) 719 (16 * fi) 683 (16 * ti) 0 n) c k = s1 c k := by
        unfold acS
        rw [if_neg (by omega)]
        unfold upS
        rw [if_neg (by omega), if_neg (by omega), if_neg (by omega)]
      rw [e, c0 c k (by omega) (by omega) (by omega) (by omega)]
    have hlo : ∀ c k, c < 682 → (acS (upS (upS (upS s1 682 0 0) 717 fi 1) 718 fi (n : Nat)) 719 (16 * fi) 683 (16 * ti) 0 n) c k = s1 c k := by
      intro c k h
      rw [acS_off (by omega), up_a (by omega), up_a (by omega), up_a (by omega)]
    have z1 : (acS (upS (upS (upS s1 682 0 0) 717 fi 1) 718 fi (n : Nat)) 719 (16 * fi) 683 (16 * ti) 0 n) 682 0 = 0 := by rw [acS_off (by decide), up_a (by decide), up_a (by decide), up_s]
    have z2 : (acS (upS (upS (upS s1 682 0 0) 717 fi 1) 718 fi (n : Nat)) 719 (16 * fi) 683 (16 * ti) 0 n) 726 0 = (if σ 652 fi = 0 then 0 else 1) := by rw [acS_off (by decide), up_a (by decide), up_a (by decide), up_a (by decide), c2]
    have z3 : (acS (upS (upS (upS s1 682 0 0) 717 fi 1) 718 fi (n : Nat)) 719 (16 * fi) 683 (16 * ti) 0 n) 717 fi = 1 := by rw [acS_off (by decide), up_a (by decide), up_s]
    have z5 : (acS (upS (upS (upS s1 682 0 0) 717 fi 1) 718 fi (n : Nat)) 719 (16 * fi) 683 (16 * ti) 0 n) 718 fi = (n : Nat) := by rw [acS_off (by decide), up_s]
    have z6 : ∀ k, k < n → (acS (upS (upS (upS s1 682 0 0) 717 fi 1) 718 fi (n : Nat)) 719 (16 * fi) 683 (16 * ti) 0 n) 719 (16 * fi + k) = σ 683 (16 * ti + k) := by
      intro k hk
      rw [acS_val hk, up_a (by decide), up_a (by decide), up_a (by decide), c0 _ _ (by omega) (by omega) (by omega) (by omega)]
    generalize (acS (upS (upS (upS s1 682 0 0) 717 fi 1) 718 fi (n : Nat)) 719 (16 * fi) 683 (16 * ti) 0 n) = s at hB hoff hlo z1 z2 z3 z5 z6
    refine op_finB hW hB z1 (fun _ => z2) (fun a k ha => c0 _ _ (by omega) (by omega) (by omega) (by omega)) (fun a k ha => hoff _ _ (by omega)) (Rel_F (by omega) (fun c k hc => hoff _ _ (by omega)) (fun a ha h1 h2 => ?_) ?_ H)
    · have n1 : ¬ a = 652 := by intro e; subst e; exact absurd ha (by decide +kernel)
      by_cases e : a = 616 + 2 * fi
      · rw [e, hlo _ _ (by omega), c3]
        omega
      · have n3 := row_nx hfe.2 ha
        rw [hoff _ _ (by omega)]
        exact H.1 a ha
    · obtain ⟨q1, q2, q3, q4, q5⟩ := hRF
      have e53 : s 682 53 = σ 682 53 := hoff _ _ (by omega)
      refine ⟨fun f hf => ?_, by omega, by omega, rowEq_fr (hoff _ _ (by omega)) (fun i => hoff _ _ (by omega)) (fun i => hoff _ _ (by omega)) (by rw [e53]) q4, fun i hi => ?_⟩
      · by_cases e : f = fi
        · subst e
          rw [z3, hlo _ _ (by decide), c1]
          refine ⟨rfl, Or.inr rfl, fun _ => ⟨by rw [hlo _ _ (by omega), c3, z5], fun i hi => ?_⟩⟩
          rw [z5] at hi
          rw [hlo _ _ (by omega), c4 i (by omega), z6 i (by omega)]
          exact w1.2 i (by omega)
        · obtain ⟨r1, r2, r3⟩ := q1 f hf
          rw [hoff 717 f (by omega), hoff 652 f (by omega)]
          refine ⟨r1, r2, fun hh => ?_⟩
          have r3 := r3 hh
          have wf := H.1 _ (el_615 (i := (f : Int)) (by omega)).2
          have wfc := cp_615 (i := (f : Int)) (by omega)
          rw [show ((f : Nat) : Int).toNat = f by omega] at wf wfc
          have r31 := r3.1
          refine ⟨by rw [hoff _ _ (by omega), hoff _ _ (by omega)]; exact r3.1, fun i hi => ?_⟩
          rw [hoff 718 _ (by omega)] at hi
          rw [hoff (616 + 2 * f + 1) i (by omega), hoff 719 _ (by omega)]
          exact r3.2 i hi
      · rw [hoff _ _ (by omega)] at hi
        rw [hoff _ _ (by omega)]
        exact q5 i hi
end
