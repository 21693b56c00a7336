/-! chain: the call; what a new delta leaves. -/
noncomputable section
theorem Rel_D {σ s : Sg} {c0 c1 : Int} {D : Nat} {l : List Int} (hc : c0 ≤ c1) (hD : σ 658 1 = (D : Nat)) (h10 : D < 10) (h : ∀ c k, ¬ (c = 726 ∨ (c = 682 ∧ (k = 0 ∨ k = 58)) ∨ c = 658 ∨ c = 660 + 2 * D ∨ c = 660 + 2 * D + 1 ∨ c = 680 ∨ c = 681 ∨ (c = 724 ∧ k = D) ∨ (c = 725 ∧ 40 * D ≤ k)) → s c k = σ c k) (h1 : s 658 1 = (D : Int) + 1) (h2 : s 682 58 = (D : Int) + 1) (hl : Rw s (660 + 2 * D) l) (h40 : l.length ≤ 40) (h3 : s 724 D = (l.length : Nat)) (h4 : ∀ i v, l[i]? = some v → cdR v (s 725 (40 * D + i))) (h5 : 0 ≤ s 680 1 ∧ s 680 1 ≤ 40) (H : Rel c0 σ) : Rel c1 s := by
  obtain ⟨g1, g2, g3, g4, g5, g6, g7, g8, g9⟩ := H
  refine ⟨fun a ha => ?_, Zl_fr (fun k => h _ _ (by omega)) g2, RT_fr (fun c k hc => h _ _ (by omega)) g3, RB_fr (fun c k hc => h _ _ (by omega)) g4, RP_fr (fun c k hc => h _ _ (by omega)) g5, RSt_fr hc (fun c k hc => h _ _ (by omega)) g6, RU_fr (fun c k hc => h _ _ (by omega)) g7, RF_fr (fun c k hc => h _ _ (by omega)) g8, ?_⟩
  · have hlt := row_lt ha
    have n1 : ¬ a = 658 := by intro e; subst e; exact absurd ha (by decide +kernel)
    have n2 : ¬ a = 681 := by intro e; subst e; exact absurd ha (by decide +kernel)
    have he := el_659 (i := (D : Int)) (by omega)
    have hcp := cp_659 (i := (D : Int)) (by omega)
    rw [show ((D : Int)).toNat = D by omega] at he hcp
    by_cases e1 : a = 660 + 2 * D
    · rw [e1, hl.1]
      omega
    · by_cases e2 : a = 680
      · rw [e2, cp680.2]; exact h5
      · have n3 := row_nx he.2 ha
        rw [h _ _ (by omega)]
        exact g1 a ha
  · obtain ⟨q1, q2, q3, q4⟩ := g9
    refine ⟨by omega, by omega, by omega, fun d hd => ?_⟩
    by_cases e : d = D
    · subst e
      refine ⟨by rw [hl.1, h3], fun i hi => ?_⟩
      rw [hl.1] at hi
      have hv := List.getElem?_eq_getElem (l := l) (i := i) (by omega)
      rw [hl.2 i _ hv]
      rcases h4 i _ hv with ⟨z1, z2, z3⟩ | ⟨z1, z2, z3⟩
      · exact Or.inl ⟨z1, z2, z3⟩
      · exact Or.inr ⟨z1, z2, z3⟩
    · obtain ⟨p1, p2⟩ := q4 d (by omega)
      have w := g1 _ (el_659 (i := (d : Int)) (by omega)).2
      have hcp := cp_659 (i := (d : Int)) (by omega)
      rw [show ((d : Int)).toNat = d by omega] at w hcp
      refine ⟨by rw [h _ _ (by omega), h _ _ (by omega)]; exact p1, fun i hi => ?_⟩
      rw [h _ _ (by omega)] at hi
      rw [h (660 + 2 * d + 1) i (by omega), h 725 _ (by omega)]
      exact p2 i hi
theorem Dl_fr {σ s : Sg} {a d n : Nat} (h1 : s a 1 = σ a 1) (h2 : ∀ k, s (a + 1) k = σ (a + 1) k) (h3 : s 724 d = σ 724 d) (h4 : ∀ k, s 725 k = σ 725 k) (H : Dl σ a d n) : Dl s a d n := by
  obtain ⟨g1, g2, g3, g4, g5, g6, g7⟩ := H
  exact ⟨g1, g2, by rw [h1]; exact g3, g4, g5, by rw [h3]; exact g6, fun k hk => by rw [h2, h4]; exact g7 k hk⟩
theorem o51 {σ : Sg} {c a1 a2 : Int} (H : Rel c σ) : OpR 439 385 [vA 0, vI a1, vI a2, vA 726] [vA 682, vI a1, vI a2] σ (c + 1) := by
  by_cases g1 : a1 < 0
  · exact x51_0 H g1
  by_cases g2 : σ 658 1 ≤ a1
  · exact x51_1 H g2
  have k1 : 0 ≤ a1 ∧ a1 < σ 658 1 := by omega
  by_cases g3 : a2 < 0
  · exact x51_2 H k1 g3
  by_cases g4 : σ 658 1 ≤ a2
  · exact x51_3 H k1 g4
  have k2 : 0 ≤ a2 ∧ a2 < σ 658 1 := by omega
  have hn := (rel_n H).2.2.2.2
  have hD1 := rel_d H k1
  have hD2 := rel_d H k2
  obtain ⟨t1, ht1⟩ := Int.eq_ofNat_of_zero_le k1.1
  obtain ⟨t2, ht2⟩ := Int.eq_ofNat_of_zero_le k2.1
  have kk1 := d229_ok H k1
  have kk2 := d229_ok H k2
  rw [show a1.toNat = t1 by omega] at hD1 kk1
  rw [show a2.toNat = t2 by omega] at hD2 kk2
  generalize hnn : (σ (660 + 2 * t1) 1).toNat = n at hD1
  generalize hmm : (σ (660 + 2 * t2) 1).toNat = m at hD2
  have m0 : ∀ {o : Rs} {y : Int}, C385_21 a1 a2 none none none 1 σ o → Dd 385 [vA 682, vI a1, vI a2] σ o := by
    intro o y hh
    refine b385 ⟨_, _, d383_ok (by omega), ?_⟩
    rw [if_neg (show ¬ (1 : Int) = 0 by decide)]
    refine ⟨_, _, d383_ok (by omega), ?_⟩
    rw [if_neg (show ¬ (1 : Int) = 0 by decide)]
    exact hh
  have cls : ∀ {o : Rs}, ((∃ (s12 : Sg), Dd 241 [vA 0, vA (660 + 2 * t2), vI (n : Nat)] σ (.inl none, s12) ∧ ((∃ (s14 : Sg), Dd 240 [vA 0] s12 (.inl none, s14) ∧ (∃ (v17 : Int) (s16 : Sg), Dd 43 [vA 658, vA (660 + 2 * t1), vA (660 + 2 * t2)] s14 (.inl (some (.inl v17)), s16) ∧ o = (.inl (some (.inl v17)), s16))) ∨ (∃ (E0 : Nat) (s0 : Sg), Dd 240 [vA 0] s12 (.inr E0, s0) ∧ o = (.inr E0, s0)))) ∨ (∃ (E0 : Nat) (s0 : Sg), Dd 241 [vA 0, vA (660 + 2 * t2), vI (n : Nat)] σ (.inr E0, s0) ∧ o = (.inr E0, s0))) → Dd 223 [vA 0, vI a1, vI a2] σ o := by
    intro o hh
    have e6 := d146 (σ := σ) hD1.1
    rw [hD1.2.2.1] at e6
    exact b223 (Or.inl ⟨_, _, kk1, hD1.1, Or.inl ⟨_, _, kk2, hD2.1, _, _, e6, hh⟩⟩)
  have e384 := d384 hD2
  rw [← ht2] at e384
  by_cases g5 : (n : Int) < rS (σ (660 + 2 * t2 + 1)) m 0 0
  · have hA : Dd 223 [vA 0, vI a1, vI a2] σ (rX 2 σ) := by
      refine cls (Or.inr ⟨_, _, b241 ⟨_, _, d42 hD2, ?_⟩, rfl⟩)
      rw [if_pos g5]
    have hB : Dd 385 [vA 682, vI a1, vI a2] σ (rI 0 (upS σ 682 0 2)) := by
      refine m0 (y := 0) (b385_21 ?_)
      rw [if_neg (show ¬ (1 : Int) = 0 by decide)]
      refine ⟨_, _, e384, by omega, ?_⟩
      have e724 := hD1.2.2.2.2.2.1
      rw [show a1.toNat = t1 by omega, if_neg (by omega)]
      refine b385_54 (b385_59 ⟨_, _, d245, ?_⟩)
      rw [if_neg (show ¬ (2 : Int) = 0 by decide), if_pos rfl]
    exact op_x H (by decide) (b439 (Or.inr (Or.inr ⟨_, hA, rfl⟩))) hB
  by_cases g6 : 10 ≤ σ 658 1
  · have hA : Dd 223 [vA 0, vI a1, vI a2] σ (rX 2 σ) := by
      refine cls (Or.inl ⟨_, b241 ⟨_, _, d42 hD2, by rw [if_neg g5]⟩, Or.inr ⟨_, _, b240 (by rw [if_pos g6]), rfl⟩⟩)
    have hB : Dd 385 [vA 682, vI a1, vI a2] σ (rI 0 (upS σ 682 0 2)) := by
      refine m0 (y := 0) (b385_21 ?_)
      rw [if_neg (show ¬ (1 : Int) = 0 by decide)]
      refine ⟨_, _, e384, by omega, ?_⟩
      have e724 := hD1.2.2.2.2.2.1
      rw [show a1.toNat = t1 by omega, if_pos (by omega), if_pos (by omega)]
      refine b385_54 (b385_59 ⟨_, _, d245, ?_⟩)
      rw [if_neg (show ¬ (2 : Int) = 0 by decide), if_pos rfl]
    exact op_x H (by decide) (b439 (Or.inr (Or.inr ⟨_, hA, rfl⟩))) hB
  obtain ⟨D, hDD⟩ := Int.eq_ofNat_of_zero_le (show 0 ≤ σ 658 1 by omega)
  have hge := (rS_ge (f := σ (660 + 2 * t2 + 1)) m 0 0).2
  have cd1 := hD1.2.2.2.2.2.2
  have cd2 := hD2.2.2.2.2.2.2
  have hgg : ∀ k, k < m → 0 ≤ σ (660 + 2 * t2 + 1) k ∧ (σ (660 + 2 * t2 + 1) k < 500 → σ (660 + 2 * t2 + 1) k < n) := by
    intro k hk
    refine ⟨?_, fun z => ?_⟩
    · rcases cd2 k hk with ⟨z1, z2, z3⟩ | ⟨z1, z2, z3⟩ <;> omega
    · have := hge k (by omega) (by omega) z
      omega
  have off0 : ∀ c k, ¬ c = 680 → upS σ 680 1 0 c k = σ c k := fun c k h => up_a h
  obtain ⟨s1, c1, c2, c3, c4, c5⟩ := l43 (f := σ (660 + 2 * t1 + 1)) (g := σ (660 + 2 * t2 + 1)) hD1.1 hD2.1 ⟨hD1.2.2.2.1, hD1.2.1⟩ ⟨hD2.2.2.2.1, hD2.2.1⟩ (by omega) hgg (D := D) (by omega) m 0 (upS σ 680 1 0) [] none (by omega) (by rw [off0 _ _ (by omega)]; exact hD1.2.2.1) (by rw [off0 _ _ (by omega)]; exact hD2.2.2.1) (fun i _ => off0 _ _ (by omega)) (fun i _ => off0 _ _ (by omega)) (by rw [off0 _ _ (by decide)]; exact hDD) Rw_nil rfl (by omega)
  have hA : Dd 223 [vA 0, vI a1, vI a2] σ (rI D s1) := by
    refine cls (Or.inl ⟨_, b241 ⟨_, _, d42 hD2, by rw [if_neg g5]⟩, Or.inl ⟨_, b240 (by rw [if_neg g6]), _, _, b43 ⟨_, d152 cp680.1, c1⟩, rfl⟩⟩)
  have hW := b439 (Or.inl ⟨_, _, hA, rfl⟩)
  have f2 : ∀ c k, ¬ c = 660 + 2 * D → ¬ c = 660 + 2 * D + 1 → ¬ c = 658 → ¬ c = 680 → ¬ c = 681 → ¬ c = 726 → ¬ (c = 682 ∧ k = 0) → upS (upS s1 726 0 (D : Nat)) 682 0 0 c k = σ c k := by
    intro c k h1 h2 h3 h4 h5 h6 h7
    have : upS (upS s1 726 0 (D : Nat)) 682 0 0 c k = s1 c k := by
      unfold upS
      rw [if_neg (by omega), if_neg (by omega)]
    rw [this, c4 c k h1 h2 h3 h4 h5, off0 _ _ h4]
  have hm40 := hD2.2.2.2.1
  obtain ⟨s2, m1, m2, m3, m4, m5, m6⟩ := l385 (a := t1) (b := t2) (m := m) (D := D) (F := fun i => (if σ 725 (40 * t2 + i) < 1000 then σ 725 (40 * t1 + (σ 725 (40 * t2 + i)).toNat) else σ 725 (40 * t2 + i))) (by omega) (by omega) (by omega) hm40 (by omega) (by omega) (d3 := some (vI 1)) m 0 (upS (upS s1 726 0 (D : Nat)) 682 0 0) none (by omega) (by rw [f2 _ _ (by omega) (by omega) (by omega) (by omega) (by omega) (by omega) (by omega)]; exact hD2.2.2.2.2.2.1) (by rw [f2 _ _ (by omega) (by omega) (by omega) (by omega) (by omega) (by omega) (by omega)]; omega) (fun i hi => by
    rw [f2 _ _ (by omega) (by omega) (by omega) (by omega) (by omega) (by omega) (by omega)]
    rcases cd2 i hi with ⟨z1, z2, z3⟩ | ⟨z1, z2, z3⟩ <;> omega) (fun i hi => by
    rw [f2 725 (40 * t2 + i) (by omega) (by omega) (by omega) (by omega) (by omega) (by omega) (by omega), f2 725 (40 * t1 + _) (by omega) (by omega) (by omega) (by omega) (by omega) (by omega) (by omega)])
  rw [← ht1, ← ht2] at m1
  have D1' : Dl (upS s1 726 0 (D : Nat)) (660 + 2 * t2) t2 m := by
    have ff : ∀ c k, ¬ c = 660 + 2 * D → ¬ c = 660 + 2 * D + 1 → ¬ c = 658 → ¬ c = 680 → ¬ c = 681 → ¬ c = 726 → upS s1 726 0 (D : Nat) c k = σ c k := fun c k h1 h2 h3 h4 h5 h6 => by rw [up_a h6, c4 c k h1 h2 h3 h4 h5, off0 _ _ h4]
    exact Dl_fr (ff _ _ (by omega) (by omega) (by omega) (by omega) (by omega) (by omega)) (fun k => ff _ _ (by omega) (by omega) (by omega) (by omega) (by omega) (by omega)) (ff _ _ (by omega) (by omega) (by omega) (by omega) (by omega) (by omega)) (fun k => ff _ _ (by omega) (by omega) (by omega) (by omega) (by omega) (by omega)) hD2
  have ff : ∀ c k, ¬ c = 660 + 2 * D → ¬ c = 660 + 2 * D + 1 → ¬ c = 658 → ¬ c = 680 → ¬ c = 681 → ¬ c = 726 → upS s1 726 0 (D : Nat) c k = σ c k := fun c k h1 h2 h3 h4 h5 h6 => by rw [up_a h6, c4 c k h1 h2 h3 h4 h5, off0 _ _ h4]
  have er : upS s1 726 0 (D : Nat) (660 + 2 * t2 + 1) = σ (660 + 2 * t2 + 1) := funext (fun k => ff _ _ (by omega) (by omega) (by omega) (by omega) (by omega) (by omega))
  have e384' := d384 D1'
  rw [← ht2, er] at e384'
  have hB : Dd 385 [vA 682, vI a1, vI a2] (upS s1 726 0 (D : Nat)) (rI D s2) := by
    refine b385 ⟨_, _, d383_ok (by rw [ff _ _ (by omega) (by omega) (by omega) (by omega) (by omega) (by omega)]; omega), ?_⟩
    rw [if_neg (show ¬ (1 : Int) = 0 by decide)]
    refine ⟨_, _, d383_ok (by rw [ff _ _ (by omega) (by omega) (by omega) (by omega) (by omega) (by omega)]; omega), ?_⟩
    rw [if_neg (show ¬ (1 : Int) = 0 by decide)]
    refine b385_21 ?_
    rw [if_neg (show ¬ (1 : Int) = 0 by decide)]
    refine ⟨_, _, e384', by omega, ?_⟩
    have e724 := hD1.2.2.2.2.2.1
    rw [show a1.toNat = t1 by omega, ff 724 _ (by omega) (by omega) (by omega) (by omega) (by omega) (by omega), if_pos (by omega), ff 682 _ (by omega) (by omega) (by omega) (by omega) (by omega) (by omega), if_neg (by omega)]
    refine b385_59 ⟨_, _, d245, ?_⟩
    rw [if_pos rfl, if_neg (show ¬ (1 : Int) = 0 by decide)]
    exact m1
  have hoff : ∀ c k, ¬ (c = 726 ∨ (c = 682 ∧ (k = 0 ∨ k = 58)) ∨ c = 658 ∨ c = 660 + 2 * D ∨ c = 660 + 2 * D + 1 ∨ c = 680 ∨ c = 681 ∨ (c = 724 ∧ k = D) ∨ (c = 725 ∧ 40 * D ≤ k)) → s2 c k = σ c k := by
    intro c k hc
    by_cases z : c = 725
    · subst z
      rw [m3 k (by omega), f2 _ _ (by omega) (by omega) (by omega) (by omega) (by omega) (by omega) (by omega)]
    · rw [m6 c k z (by omega) (by omega), f2 _ _ (by omega) (by omega) (by omega) (by omega) (by omega) (by omega) (by omega)]
  have hcl : ∀ c k, c < 682 → s2 c k = s1 c k := by
    intro c k hc
    rw [m6 c k (by omega) (by omega) (by omega), up_a (by omega), up_a (by omega)]
  have hlen : ([] ++ (List.range' 0 m).map (thr (σ (660 + 2 * t1 + 1)) (σ (660 + 2 * t2 + 1)))).length = m := by simp
  refine op_fin hW hB ?_ (fun _ => ?_) (fun a k ha => by rw [up_a (by omega), c4 _ _ (by omega) (by omega) (by omega) (by omega) (by omega), off0 _ _ (by omega)]) (fun a k ha => hoff _ _ (by omega)) ?_
  · rw [m6 _ _ (by decide) (by omega) (by omega), up_s]
  · rw [m6 _ _ (by decide) (by omega) (by omega), up_a (by decide), up_s]
  · refine Rel_D (D := D) (by omega) hDD (by omega) hoff (by rw [hcl _ _ (by decide)]; exact c3) m5 (Rw_fr (hcl _ _ (by omega)) (fun k => hcl _ _ (by omega)) c2) (by rw [hlen]; exact hm40) (by rw [hlen]; exact m4) (fun i v hv => ?_) ?_ H
    · have hi := (List.getElem?_eq_some_iff.mp hv).1
      rw [hlen] at hi
      rw [m2 i (by omega) hi]
      have ev : v = thr (σ (660 + 2 * t1 + 1)) (σ (660 + 2 * t2 + 1)) i := by
        rw [List.nil_append, List.getElem?_map, List.getElem?_range' hi] at hv
        simpa using hv.symm
      rw [ev]
      have q2 := cd2 i hi
      have hgi := hgg i hi
      unfold thr
      show cdR _ (if σ 725 (40 * t2 + i) < 1000 then σ 725 (40 * t1 + (σ 725 (40 * t2 + i)).toNat) else σ 725 (40 * t2 + i))
      rcases q2 with ⟨z1, z2, z3⟩ | ⟨z1, z2, z3⟩
      · rw [if_pos (by omega), if_pos (by omega), z3]
        exact cd1 _ (by have := hgi.2 (by omega); omega)
      · rw [if_neg (by omega), if_neg (by omega)]
        exact Or.inr ⟨z1, z2, z3⟩
    · rw [hcl _ _ (by decide)]
      exact c5
end
