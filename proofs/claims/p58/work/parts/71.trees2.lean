/-! compose. -/
noncomputable section
theorem r653 : isRow 653 = true ∧ cap 653 = 60 ∧ isRow 655 = true ∧ cap 655 = 6 := by decide +kernel
theorem d54_ok {σ : Sg} {D : Nat} (h : σ 653 1 = 6 * (D : Int)) : Dd 54 [vA 614] σ (rI D σ) := by
  have e : Int.tdiv (σ 653 1) 6 = (D : Int) := by
    rw [h, td (by omega)]
    omega
  refine b54 ⟨_, _, d146 r653.1, ?_⟩
  rw [e]
theorem d55_in {σ : Sg} {d n : Int} (hw : wR σ 653) (hd : 0 ≤ d ∧ d < 10) (hn : 0 ≤ n ∧ n < 6) : Dd 55 [vA 614, vI d, vI n] σ (rI (atS σ 653 (d * 6 + n)) σ) := by
  refine b55 ?_
  rw [if_pos hn.1, if_pos hn.2]
  exact ⟨by omega, by omega, _, _, d147 hw, rfl⟩
theorem d55_out {σ : Sg} {d n : Int} (hn : n < 0) : Dd 55 [vA 614, vI d, vI n] σ (rI (-1) σ) := by
  refine b55 ?_
  rw [if_neg (by omega)]
/-- where the second difference leads from where the first one leads -/
def cmp6 (F : Nat → Int) (a b k : Nat) : Int := if F (6 * a + k) = -1 then -1 else F (6 * b + (F (6 * a + k)).toNat)
theorem l57 {a b D : Nat} {F : Nat → Int} (ha : a < D) (hb : b < D) (hD : D < 10) (hF : ∀ i, i < 6 * D → -1 ≤ F i ∧ F i ≤ 5) : ∀ (w k : Nat) (σ : Sg) (l : List Int), k + w = 6 → σ 653 1 = 6 * (D : Int) → (∀ i, i < 6 * D → σ 654 i = F i) → Rw σ 655 l → l.length = k → ∃ s l2, C57_9 a b k σ (rI D s) ∧ l2 = l ++ (List.range' k w).map (cmp6 F a b) ∧ s 653 1 = 6 * (D : Int) + 6 ∧ (∀ i, i < 6 * D → s 654 i = F i) ∧ (∀ i v, l2[i]? = some v → s 654 (6 * D + i) = v) ∧ s 655 1 = 6 ∧ ∀ c j, ¬ c = 653 → ¬ c = 654 → ¬ c = 655 → ¬ c = 656 → s c j = σ c j := by
  intro w
  induction w with
  | zero =>
    intro k σ l q1 q2 q3 q4 q5
    have h653 : Rw σ 653 (rl σ 653) := Rw_rl (by omega)
    have hlen : (rl σ 653).length = 6 * D := by have := h653.1; omega
    have e5 : ((l.take (6 : Int).toNat).drop (0 : Int).toNat) = l := by
      show (l.take 6).drop 0 = l
      rw [List.drop_zero, List.take_of_length_le (by omega)]
    obtain ⟨s, g1, g2, g3⟩ := d154 (x := 0) (y := 6) r653.1 r653.2.2.1 h653 q4 (by rw [r653.2.2.2]; omega) (by decide) (by rw [e5, r653.2.1]; omega)
    rw [e5] at g2
    have e653 : s 653 1 = 6 * ((D + 1 : Nat) : Int) := by rw [g2.1, List.length_append]; omega
    have e655 : s 655 1 = 6 := by rw [g3 655 1 (by decide) (by decide), q4.1]; omega
    have e146 := d146 (σ := σ) r653.2.2.1
    rw [show σ 655 1 = 6 by rw [q4.1]; omega] at e146
    refine ⟨s, l, b57_9 ?_, by simp, by omega, fun i hi => ?_, fun i v hv => ?_, e655, fun c j h1 h2 _ _ => g3 c j h1 h2⟩
    · rw [if_neg (by omega)]
      refine ⟨_, _, b58 ⟨_, _, e146, _, g1, _, _, d54_ok e653, by omega, rfl⟩, ?_⟩
      rw [show ((D + 1 : Nat) : Int) - 1 = (D : Int) by omega]
    · rw [← q3 i hi]
      have hv := List.getElem?_eq_getElem (l := rl σ 653) (i := i) (by omega)
      rw [g2.2 i _ (by rw [List.getElem?_append_left (by omega)]; exact hv)]
      exact (h653.2 i _ hv).symm
    · exact g2.2 _ v (by rw [List.getElem?_append_right (by omega), hlen, Nat.add_sub_cancel_left]; exact hv)
  | succ w ih =>
    intro k σ l q1 q2 q3 q4 q5
    have hw : wR σ 653 := ⟨r653.1, by omega, by rw [r653.2.1]; omega⟩
    have ea : ∀ e i : Nat, e < D → i < 6 → atS σ 653 ((e : Int) * 6 + (i : Int)) = F (6 * e + i) := by
      intro e i he hi
      unfold atS
      rw [if_pos (by omega), show ((e : Int) * 6 + (i : Int)).toNat = 6 * e + i by omega]
      exact q3 _ (by omega)
    have hg := hF (6 * a + k) (by omega)
    have d1 := d55_in (d := (a : Int)) (n := (k : Int)) hw (by omega) (by omega)
    rw [ea a k ha (by omega)] at d1
    have d2 : Dd 55 [vA 614, vI b, vI (F (6 * a + k))] σ (rI (cmp6 F a b k) σ) := by
      unfold cmp6
      by_cases z : F (6 * a + k) = -1
      · rw [if_pos z]
        exact d55_out (by omega)
      · rw [if_neg z]
        have d2 := d55_in (d := (b : Int)) (n := F (6 * a + k)) hw (by omega) (by omega)
        have := ea b (F (6 * a + k)).toNat hb (by omega)
        rw [show (((F (6 * a + k)).toNat : Nat) : Int) = F (6 * a + k) by omega] at this
        rw [this] at d2
        exact d2
    have w5 : wR σ 655 := Rw_wR r653.2.2.1 q4 (by rw [r653.2.2.2]; omega)
    obtain ⟨s, l2, g1, g2, g3, g4, g5, g6, g7⟩ := ih (k + 1) (adS σ 655 (cmp6 F a b k)) (l ++ [cmp6 F a b k]) (by omega) (by rw [ad_off (by decide) (by decide)]; exact q2) (fun i hi => by rw [ad_off (by decide) (by decide)]; exact q3 i hi) (Rw_ad q4 (by rw [r653.2.2.2]; omega)) (by rw [List.length_append, q5]; rfl)
    refine ⟨s, l2, b57_9 ?_, ?_, g3, g4, g5, g6, fun c j h1 h2 h3 h4 => by rw [g7 c j h1 h2 h3 h4, ad_off h3 h4]⟩
    · rw [if_pos (by omega)]
      refine ⟨_, _, d1, _, _, d2, _, d149 w5, by omega, ?_⟩
      rw [show (k : Int) + 1 = ((k + 1 : Nat) : Int) by omega]
      exact g1
    · rw [g2, List.append_assoc, List.range'_succ, List.map_cons]
      rfl
theorem l375 {a b D : Nat} {F : Nat → Int} (ha : a < D) (hb : b < D) (hD : D < 10) (hF : ∀ i, i < 6 * D → -1 ≤ F i ∧ F i ≤ 5) {d3 : Option AV} : ∀ (w k : Nat) (σ : Sg) (d5 : Option AV), k + w = 6 → σ 682 53 = (D : Nat) → (∀ i, i < 6 * D → σ 720 i = F i) → ∃ s, C375_62 a b d3 k d5 σ (rI D s) ∧ (∀ i, k ≤ i → i < 6 → s 720 (6 * D + i) = cmp6 F a b i) ∧ (∀ i, i < 6 * D + k → s 720 i = σ 720 i) ∧ s 682 53 = (D : Int) + 1 ∧ ∀ c j, ¬ c = 720 → ¬ (c = 682 ∧ j = 53) → s c j = σ c j := by
  intro w
  induction w with
  | zero =>
    intro k σ d5 q1 q2 q3
    refine ⟨upS σ 682 53 ((D : Int) + 1), b375_62 ?_, fun i h1 h2 => by omega, fun i _ => up_a (by decide), up_s, fun c j h1 h2 => ?_⟩
    · rw [if_neg (by omega), q2, up_s, show ((D : Nat) : Int) + 1 - 1 = (D : Int) by omega]
      exact ⟨by omega, by omega, rfl⟩
    · unfold upS
      rw [if_neg h2]
  | succ w ih =>
    intro k σ d5 q1 q2 q3
    have hg := hF (6 * a + k) (by omega)
    obtain ⟨s, g1, g2, g3, g4, g5⟩ := ih (k + 1) (upS σ 720 (6 * D + k) (cmp6 F a b k)) (some (vI (F (6 * a + k)))) (by omega) (by rw [up_a (by decide)]; exact q2) (fun i hi => by rw [up_k (by omega)]; exact q3 i hi)
    refine ⟨s, b375_62 ?_, fun i h1 h2 => ?_, fun i hi => by rw [g3 i (by omega), up_k (by omega)], g4, fun c j h1 h2 => by rw [g5 c j h1 h2, up_a h1]⟩
    · rw [if_pos (by omega), show (6 * (a : Int) + (k : Int)).toNat = 6 * a + k by omega, q3 _ (by omega), q2]
      refine ⟨by omega, by omega, by omega, by omega, by omega, fun z => by omega, fun z => by omega, fun z => by omega, b375_119 ⟨by omega, by omega, ?_⟩⟩
      have e : (if F (6 * a + k) = -1 then -1 else σ 720 (6 * (b : Int) + F (6 * a + k)).toNat) = cmp6 F a b k := by
        unfold cmp6
        by_cases z : F (6 * a + k) = -1
        · rw [if_pos z, if_pos z]
        · rw [if_neg z, if_neg z, show (6 * (b : Int) + F (6 * a + k)).toNat = 6 * b + (F (6 * a + k)).toNat by omega]
          exact q3 _ (by omega)
      rw [e, show (6 * ((D : Nat) : Int) + (k : Int)).toNat = 6 * D + k by omega, show (k : Int) + 1 = ((k + 1 : Nat) : Int) by omega]
      exact g1
    · by_cases z : i = k
      · subst z
        rw [g3 _ (by omega), up_s]
      · exact g2 i (by omega) h2
theorem o45 {σ : Sg} {c a1 a2 : Int} (H : Rel c σ) : OpR 433 375 [vA 0, vI a1, vI a2, vA 726] [vA 682, vI a1, vI a2] σ (c + 1) := by
  by_cases g1 : a1 < 0
  · exact x45_0 H g1
  by_cases g2 : σ 682 53 ≤ a1
  · exact x45_1 H g2
  have k1 : 0 ≤ a1 ∧ a1 < σ 682 53 := by omega
  by_cases g3 : a2 < 0
  · exact x45_2 H k1 g3
  by_cases g4 : σ 682 53 ≤ a2
  · exact x45_3 H k1 g4
  have k2 : 0 ≤ a2 ∧ a2 < σ 682 53 := by omega
  have hn := (rel_n H).2.2.2.1
  obtain ⟨D, hD⟩ := Int.eq_ofNat_of_zero_le hn.2.1
  obtain ⟨t1, ht1⟩ := Int.eq_ofNat_of_zero_le k1.1
  obtain ⟨t2, ht2⟩ := Int.eq_ofNat_of_zero_le k2.1
  have e653 : σ 653 1 = 6 * (D : Int) := by omega
  have e54 := d54_ok (σ := σ) e653
  have e232a := d232_ok (σ := σ) (i := a1) (n := (D : Int)) (by omega)
  have e232b := d232_ok (σ := σ) (i := a2) (n := (D : Int)) (by omega)
  have m0 : ∀ {σ' : Sg} {o : Rs}, σ' 682 53 = (D : Int) → C375_51 a1 a2 (some (vI 1)) none none (if (D : Int) = 10 then 2 else 0) σ' o → Dd 375 [vA 682, vI a1, vI a2] σ' o := by
    intro σ' o h hh
    have e1 := d246 (x := a1) (n := σ' 682 53) (σ := σ')
    rw [if_pos (by omega)] at e1
    have e2 := d246 (x := a2) (n := σ' 682 53) (σ := σ')
    rw [if_pos (by omega)] at e2
    refine b375 ⟨_, _, e1, ?_⟩
    rw [if_neg (show ¬ (1 : Int) = 0 by decide)]
    refine ⟨_, _, e2, ?_⟩
    rw [if_neg (show ¬ (1 : Int) = 0 by decide)]
    refine b375_27 ?_
    rw [if_neg (show ¬ (1 : Int) = 0 by decide), h]
    exact hh
  by_cases g5 : 10 ≤ D
  · have hA : Dd 217 [vA 0, vI a1, vI a2] σ (rX 2 σ) := b217 ⟨_, _, e54, Or.inl ⟨_, e232a, _, _, e54, Or.inl ⟨_, e232b, Or.inr ⟨_, _, b239 ⟨_, _, e54, by rw [if_pos (by omega)]⟩, rfl⟩⟩⟩⟩
    have hB : Dd 375 [vA 682, vI a1, vI a2] σ (rI 0 (upS σ 682 0 2)) := by
      refine m0 hD ?_
      rw [if_pos (by omega)]
      refine b375_51 ⟨_, _, d245, ?_⟩
      rw [if_neg (show ¬ (2 : Int) = 0 by decide), if_pos rfl]
    exact op_x H (by decide) (b433 (Or.inr (Or.inr ⟨_, hA, rfl⟩))) hB
  have hRF := H.2.2.2.2.2.2.2.1
  obtain ⟨q1, q2, q3, q4, q5⟩ := hRF
  have hF : ∀ i, i < 6 * D → -1 ≤ σ 654 i ∧ σ 654 i ≤ 5 := fun i hi => q5 i (by omega)
  obtain ⟨s1, l2, c1, c2, c3, c4, c5, c6, c7⟩ := l57 (a := t1) (b := t2) (D := D) (F := σ 654) (by omega) (by omega) (by omega) hF 6 0 (upS σ 655 1 0) [] (by omega) (by rw [up_a (by decide)]; exact e653) (fun i _ => up_a (by decide)) Rw_nil rfl
  have hl2 : ∀ i, i < 6 → l2[i]? = some (cmp6 (σ 654) t1 t2 i) := by
    intro i hi
    rw [c2, List.nil_append, List.getElem?_map, List.getElem?_range' hi]
    simp
  have e57 : Dd 57 [vA 614, vI a1, vI a2] σ (rI D s1) := by
    rw [ht1, ht2]
    exact b57 ⟨_, d152 r653.2.2.1, c1⟩
  have hA : Dd 217 [vA 0, vI a1, vI a2] σ (rI D s1) := b217 ⟨_, _, e54, Or.inl ⟨_, e232a, _, _, e54, Or.inl ⟨_, e232b, Or.inl ⟨_, b239 ⟨_, _, e54, by rw [if_neg (by omega)]⟩, _, _, e57, rfl⟩⟩⟩⟩
  have hW : Dd 433 [vA 0, vI a1, vI a2, vA 726] σ (rI 0 (upS s1 726 0 (D : Nat))) := b433 (Or.inl ⟨_, _, hA, rfl⟩)
  have f1 : ∀ c k, ¬ c = 653 → ¬ c = 654 → ¬ c = 655 → ¬ c = 656 → ¬ c = 726 → (upS s1 726 0 (D : Nat)) c k = σ c k := fun c k h1 h2 h3 h4 h5 => by rw [up_a h5, c7 c k h1 h2 h3 h4, up_a h3]
  have c3' : (upS s1 726 0 (D : Nat)) 653 1 = 6 * (D : Int) + 6 := by rw [up_a (by decide)]; exact c3
  have c4' : ∀ i, i < 6 * D → (upS s1 726 0 (D : Nat)) 654 i = σ 654 i := fun i hi => by rw [up_a (by decide)]; exact c4 i hi
  have c5' : ∀ i, i < 6 → (upS s1 726 0 (D : Nat)) 654 (6 * D + i) = cmp6 (σ 654) t1 t2 i := fun i hi => by rw [up_a (by decide)]; exact c5 i _ (hl2 i hi)
  have c6' : (upS s1 726 0 (D : Nat)) 655 1 = 6 := by rw [up_a (by decide)]; exact c6
  have c8 : (upS s1 726 0 (D : Nat)) 726 0 = (D : Nat) := up_s
  generalize (upS s1 726 0 (D : Nat)) = s at hW f1 c3' c4' c5' c6' c8
  obtain ⟨s2, m1, m2, m3, m4, m5⟩ := l375 (a := t1) (b := t2) (D := D) (F := σ 654) (by omega) (by omega) (by omega) hF (d3 := some (vI 1)) 6 0 (upS s 682 0 0) none (by omega) (by rw [up_k (by decide), f1 _ _ (by decide) (by decide) (by decide) (by decide) (by decide)]; exact hD) (fun i hi => by
    rw [up_a (by decide), f1 _ _ (by decide) (by decide) (by decide) (by decide) (by decide)]
    have := q4.2 i (by omega)
    rw [Nat.zero_add] at this
    exact this.symm)
  rw [← ht1, ← ht2] at m1
  have hB : Dd 375 [vA 682, vI a1, vI a2] s (rI D s2) := by
    refine m0 (by rw [f1 _ _ (by decide) (by decide) (by decide) (by decide) (by decide)]; exact hD) ?_
    rw [if_neg (by omega)]
    refine b375_51 ⟨_, _, d245, ?_⟩
    rw [if_pos rfl, if_neg (show ¬ (1 : Int) = 0 by decide)]
    exact m1
  have mo : ∀ c k, ¬ c = 720 → ¬ c = 682 → s2 c k = s c k := fun c k h1 h2 => by rw [m5 c k h1 (fun e => h2 e.1), up_a h2]
  have so : ∀ c k, ¬ c = 653 → ¬ c = 654 → ¬ c = 655 → ¬ c = 656 → ¬ c = 726 → ¬ (c = 682 ∧ (k = 0 ∨ k = 53)) → ¬ c = 720 → s2 c k = σ c k := by
    intro c k h1 h2 h3 h4 h5 h6 h7
    rw [m5 c k h7 (by omega)]
    have : upS s 682 0 0 c k = s c k := by
      unfold upS
      rw [if_neg (by omega)]
    rw [this, f1 c k h1 h2 h3 h4 h5]
  refine op_fin hW hB ?_ (fun _ => by rw [mo _ _ (by decide) (by decide), c8]) (fun a k ha => f1 _ _ (by omega) (by omega) (by omega) (by omega) (by omega)) (fun a k ha => so _ _ (by omega) (by omega) (by omega) (by omega) (by omega) (by omega) (by omega)) (Rel_F (by omega) (fun c k hc => so _ _ (by omega) (by omega) (by omega) (by omega) (by omega) (by omega) (by omega)) (fun a ha h1 h2 => ?_) ⟨fun f hf => ?_, by omega, by omega, ⟨?_, fun i hi => ?_⟩, fun i hi => ?_⟩ H)
  · rw [m5 _ _ (by decide) (by decide), up_s]
  · by_cases e : a = 653
    · rw [e, mo _ _ (by decide) (by decide), c3', r653.2.1]; omega
    · by_cases e2 : a = 655
      · rw [e2, mo _ _ (by decide) (by decide), c6', r653.2.2.2]; omega
      · have n1 := row_nx r653.1 ha
        have n2 := row_nx r653.2.2.1 ha
        rw [so _ _ (by omega) (by omega) (by omega) (by omega) (by omega) (by omega) (by omega)]
        exact H.1 a ha
  · obtain ⟨r1, r2, r3⟩ := q1 f hf
    rw [so 717 f (by omega) (by omega) (by omega) (by omega) (by omega) (by omega) (by omega), so 652 f (by omega) (by omega) (by omega) (by omega) (by omega) (by omega) (by omega)]
    exact ⟨r1, r2, fun hh => rowEq_fr (so _ _ (by omega) (by omega) (by omega) (by omega) (by omega) (by omega) (by omega)) (fun i => so _ _ (by omega) (by omega) (by omega) (by omega) (by omega) (by omega) (by omega)) (fun i => so _ _ (by omega) (by omega) (by omega) (by omega) (by omega) (by omega) (by omega)) (so _ _ (by omega) (by omega) (by omega) (by omega) (by omega) (by omega) (by omega)) (r3 hh)⟩
  · rw [mo _ _ (by decide) (by decide), c3', m4]
    omega
  · rw [m4] at hi
    rw [mo (653 + 1) _ (by decide) (by decide), Nat.zero_add]
    by_cases e : i < 6 * D
    · rw [m3 i (by omega), up_a (by decide), f1 720 _ (by decide) (by decide) (by decide) (by decide) (by decide)]
      have := q4.2 i (by omega)
      rw [Nat.zero_add] at this
      rw [← this]
      exact c4' i e
    · have h1 := c5' (i - 6 * D) (by omega)
      have h2 := m2 (i - 6 * D) (by omega) (by omega)
      rw [show 6 * D + (i - 6 * D) = i by omega] at h1 h2
      rw [h2]
      exact h1
  · rw [mo _ _ (by decide) (by decide), c3'] at hi
    rw [mo _ _ (by decide) (by decide)]
    by_cases e : i < 6 * D
    · rw [c4' i e]; exact hF i e
    · have h1 := c5' (i - 6 * D) (by omega)
      rw [show 6 * D + (i - 6 * D) = i by omega] at h1
      rw [h1]
      unfold cmp6
      have := hF (6 * t1 + (i - 6 * D)) (by omega)
      split
      · omega
      · exact hF _ (by omega)
end
