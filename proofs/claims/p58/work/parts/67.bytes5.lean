/-! putDelta. -/
noncomputable section
def ptb (f g : Nat → Int) (k : Nat) : Int := if f k < 500 then g (f k).toNat else f k - 500
theorem l44 {a b t n m : Nat} {f g : Nat → Int} (ha : isRow a = true) (hb : isRow b = true) (ht : isRow t = true) (hct : cap t = 40) (hn : n ≤ 40 ∧ cap a = 40) (hm : m ≤ 40 ∧ cap b = 40) (hab : a < 680 ∧ b < 680 ∧ t < 680 ∧ ¬ a + 1 = 680 ∧ ¬ b + 1 = 680 ∧ ¬ t + 1 = 680) (hf : ∀ k, k < n → 0 ≤ f k ∧ f k ≤ 1000 ∧ (f k < 500 → f k < m)) : ∀ (w k : Nat) (σ : Sg) (l : List Int) (d5 : Option AV), k + w = n → σ a 1 = (n : Nat) → σ b 1 = (m : Nat) → (∀ i, i < n → σ (a + 1) i = f i) → (∀ i, i < m → σ (b + 1) i = g i) → Rw σ 680 l → l.length = k → ∃ s, C44_10 a b t k d5 σ (rV s) ∧ Rw s t (l ++ (List.range' k w).map (ptb f g)) ∧ (∀ c j, ¬ c = t → ¬ c = t + 1 → ¬ c = 680 → ¬ c = 681 → s c j = σ c j) ∧ 0 ≤ s 680 1 ∧ s 680 1 ≤ 40 := by
  intro w
  induction w with
  | zero =>
    intro k σ l d5 q1 q2 q3 q4 q5 q7 q8
    have hcp : σ 680 1 ≤ (cap t : Int) := by rw [q7.1]; omega
    refine ⟨bcS σ t 680, b44_10 ha hb ht ⟨_, _, d146 ha, ?_⟩, ?_, fun c j h1 h2 _ _ => bc_off h1 h2, by rw [bc_off (by omega) (by omega), q7.1]; omega, by rw [bc_off (by omega) (by omega), q7.1]; omega⟩
    · rw [if_neg (by omega)]
      exact ⟨_, d155 ht (Rw_wR cp680.1 q7 (by rw [cp680.2]; omega)), rfl⟩
    · have : l ++ (List.range' k 0).map (ptb f g) = l := by simp
      rw [this]
      refine ⟨by rw [bc_sz hcp]; exact q7.1, fun i v hv => ?_⟩
      have hi := (List.getElem?_eq_some_iff.mp hv).1
      rw [bc_val hcp (by omega) (by rw [q7.1]; omega)]
      exact q7.2 i v hv
  | succ w ih =>
    intro k σ l d5 q1 q2 q3 q4 q5 q7 q8
    have hk : k < n := by omega
    have wb : wR σ b := ⟨hb, by omega, by omega⟩
    have wa : wR σ a := ⟨ha, by omega, by omega⟩
    have hd := d147 (i := (k : Int)) wa
    rw [at_in q2 hk, q4 k hk] at hd
    have w8 := Rw_wR cp680.1 q7 (by rw [cp680.2]; omega)
    have hfk := hf k hk
    have nx : ∀ (d5 : Option AV), ∃ s, C44_54 a b t k d5 (ptb f g k) σ (rV s) ∧ Rw s t (l ++ (List.range' k (w + 1)).map (ptb f g)) ∧ (∀ c j, ¬ c = t → ¬ c = t + 1 → ¬ c = 680 → ¬ c = 681 → s c j = σ c j) ∧ 0 ≤ s 680 1 ∧ s 680 1 ≤ 40 := by
      intro d5
      have off : ∀ c j, ¬ c = 680 → ¬ c = 681 → adS σ 680 (ptb f g k) c j = σ c j := fun c j h1 h2 => ad_off h1 h2
      obtain ⟨s, g1, g2, g3, g4⟩ := ih (k + 1) (adS σ 680 (ptb f g k)) (l ++ [ptb f g k]) d5 (by omega) (by rw [off _ _ (by omega) (by omega)]; exact q2) (by rw [off _ _ (by omega) (by omega)]; exact q3) (fun i hi => by rw [off _ _ (by omega) (by omega)]; exact q4 i hi) (fun i hi => by rw [off _ _ (by omega) (by omega)]; exact q5 i hi) (Rw_ad q7 (by rw [cp680.2]; omega)) (by rw [List.length_append, q8]; rfl)
      refine ⟨s, b44_54 ⟨_, d149 w8, by omega, ?_⟩, ?_, fun c j h1 h2 h4 h5 => by rw [g3 c j h1 h2 h4 h5, off _ _ h4 h5], g4⟩
      · rw [show (k : Int) + 1 = ((k + 1 : Nat) : Int) by omega]
        exact g1
      · rw [List.append_assoc] at g2
        rw [List.range'_succ, List.map_cons]
        exact g2
    obtain ⟨s, g1, g2⟩ := nx (some (vI (f k)))
    refine ⟨s, b44_10 ha hb ht ⟨_, _, d146 ha, ?_⟩, g2⟩
    rw [if_pos (by omega)]
    refine ⟨_, _, hd, _, _, d41, ?_⟩
    by_cases z : f k < 500
    · rw [if_pos z, if_neg (show ¬ (1 : Int) = 0 by decide)]
      have hd2 := d147 (i := f k) wb
      have e2 : atS σ b (f k) = ptb f g k := by
        have := hfk.2.2 z
        unfold atS ptb
        rw [if_pos ⟨hfk.1, by omega⟩, if_pos z]
        exact q5 _ (by omega)
      rw [e2] at hd2
      exact ⟨_, _, hd2, g1⟩
    · rw [if_neg z, if_pos rfl]
      refine ⟨by omega, ?_⟩
      unfold ptb at g1
      rw [if_neg z] at g1
      exact g1
theorem l389b {d t n : Nat} (hd : d < 10) (ht : t < 4) (hn : n ≤ 40) {d2 d4 d6 : Option AV} : ∀ (w i : Nat) (σ : Sg), i + w = n → σ 724 d = (n : Nat) → C389_151 d d2 t d4 i d6 σ (rI (n : Nat) (acS σ 722 (40 * t) 705 0 i n)) := by
  intro w
  induction w with
  | zero =>
    intro i σ h1 h2
    refine b389_151 ⟨by omega, ?_⟩
    rw [show ((d : Int)).toNat = d by omega, h2, if_neg (by omega), show i = n by omega, acS_end]
    exact ⟨by omega, rfl⟩
  | succ w ih =>
    intro i σ h1 h2
    refine b389_151 ⟨by omega, ?_⟩
    rw [show ((d : Int)).toNat = d by omega, h2, if_pos (by omega)]
    refine ⟨by omega, by omega, by omega, by omega, by omega, ?_⟩
    have e := ih (i + 1) (upS σ 722 (40 * t + i) (σ 705 (0 + i))) (by omega) (by rw [up_a (by decide)]; exact h2)
    rw [acS_step (by omega) (by decide)] at e
    rw [show ((i : Int)).toNat = 0 + i by omega, show ((40 * (t : Int)) + (i : Int)).toNat = 40 * t + i by omega, show (i : Int) + 1 = ((i + 1 : Nat) : Int) by omega]
    exact e
theorem l389 {d b t n : Nat} {G : Nat → Int} (hd : d < 10) (hb : b < 4) (ht : t < 4) (hn : n ≤ 40) {d4 : Option AV} : ∀ (w k : Nat) (σ : Sg) (d6 : Option AV), k + w = n → σ 724 d = (n : Nat) → (∀ i, i < n → 0 ≤ σ 725 (40 * d + i) ∧ σ 725 (40 * d + i) ≤ 2000 ∧ (σ 725 (40 * d + i) < 1000 → σ 725 (40 * d + i) < 40)) → (∀ i, i < n → G i = (if σ 725 (40 * d + i) < 1000 then σ 722 (40 * b + (σ 725 (40 * d + i)).toNat) else σ 725 (40 * d + i) - 1000)) → (∀ i, i < k → σ 705 i = G i) → ∃ s, C389_69 d b t d4 k d6 σ (rI (n : Nat) s) ∧ (∀ i, i < n → s 722 (40 * t + i) = G i) ∧ s 723 t = (n : Nat) ∧ ∀ c j, ¬ c = 705 → ¬ (c = 722 ∧ 40 * t ≤ j ∧ j < 40 * t + n) → ¬ (c = 723 ∧ j = t) → s c j = σ c j := by
  intro w
  induction w with
  | zero =>
    intro k σ d6 q1 q2 q3 q4 q5
    have e := l389b (d2 := some (vI b)) (d4 := d4) (d6 := d6) hd ht hn n 0 (upS σ 723 t (n : Nat)) (by omega) (by rw [up_a (by decide)]; exact q2)
    refine ⟨acS (upS σ 723 t (n : Nat)) 722 (40 * t) 705 0 0 n, b389_69 ⟨by omega, ?_⟩, fun i hi => ?_, ?_, fun c j h1 h2 h3 => ?_⟩
    · rw [show ((d : Int)).toNat = d by omega, q2, if_neg (by omega), show ((t : Int)).toNat = t by omega]
      exact ⟨by omega, by omega, e⟩
    · rw [acS_val hi, up_a (by decide), Nat.zero_add]
      exact q5 i (by omega)
    · rw [acS_off (by decide), up_s]
    · by_cases z : c = 722
      · rw [acS_out (by omega)]
        unfold upS
        rw [if_neg (by omega)]
      · rw [acS_off z]
        unfold upS
        rw [if_neg (by omega)]
  | succ w ih =>
    intro k σ d6 q1 q2 q3 q4 q5
    have hk : k < n := by omega
    have c := q3 k hk
    have off : ∀ c j, ¬ c = 705 → upS σ 705 k (G k) c j = σ c j := fun c j h => up_a h
    obtain ⟨s, g1, g2, g3, g4⟩ := ih (k + 1) (upS σ 705 k (G k)) (some (vI (σ 725 (40 * d + k)))) (by omega) (by rw [off _ _ (by decide)]; exact q2) (fun i hi => by rw [off _ _ (by decide)]; exact q3 i hi) (fun i hi => by rw [off 725 _ (by decide), off 722 _ (by decide)]; exact q4 i hi) (fun i hi => by
      by_cases z : i = k
      · rw [z, up_s]
      · rw [up_k z]; exact q5 i (by omega))
    refine ⟨s, b389_69 ⟨by omega, ?_⟩, g2, g3, fun c j h1 h2 h3 => by rw [g4 c j h1 h2 h3, off _ _ h1]⟩
    rw [show ((d : Int)).toNat = d by omega, q2, if_pos (by omega), show ((40 * (d : Int)) + (k : Int)).toNat = 40 * d + k by omega]
    refine ⟨by omega, by omega, by omega, fun z => by omega, fun z => by have := c.2.2 z; omega, fun z => by have := c.2.2 z; omega, fun z => by omega, b389_129 ⟨by omega, by omega, ?_⟩⟩
    have e : (if σ 725 (40 * d + k) < 1000 then σ 722 ((40 * (b : Int)) + σ 725 (40 * d + k)).toNat else σ 725 (40 * d + k) - 1000) = G k := by
      rw [q4 k hk]
      by_cases z : σ 725 (40 * d + k) < 1000
      · rw [if_pos z, if_pos z]
        congr 1
        omega
      · rw [if_neg z, if_neg z]
    rw [e, show ((k : Int)).toNat = k by omega, show (k : Int) + 1 = ((k + 1 : Nat) : Int) by omega]
    exact g1
theorem o54 {σ : Sg} {c a1 a2 a3 : Int} (H : Rel c σ) : OpR 442 389 [vA 0, vI a1, vI a2, vI a3, vA 726] [vA 682, vI a1, vI a2, vI a3] σ (c + 1) := by
  by_cases g1 : a1 < 0
  · exact x54_0 H g1
  by_cases g2 : σ 658 1 ≤ a1
  · exact x54_1 H g2
  have k1 : 0 ≤ a1 ∧ a1 < σ 658 1 := by omega
  by_cases g3 : a2 < 0
  · exact x54_2 H k1 g3
  by_cases g4 : 4 ≤ a2
  · exact x54_3 H k1 g4
  have k2 : 0 ≤ a2 ∧ a2 < 4 := by omega
  by_cases g5 : a3 < 0
  · exact x54_4 H k1 k2 g5
  by_cases g6 : 4 ≤ a3
  · exact x54_5 H k1 k2 g6
  have k3 : 0 ≤ a3 ∧ a3 < 4 := by omega
  have hn := (rel_n H).2.2.2.2
  have hD1 := rel_d H k1
  obtain ⟨b1, b2, b3⟩ := rel_b H k2
  obtain ⟨hb1, hb2⟩ := H.2.2.2.1 a2.toNat (by omega)
  have hr2 := (el_10 k2).2
  have hr3 := (el_10 k3).2
  have hc2 := cp_10 k2
  have hc3 := cp_10 k3
  obtain ⟨t1, ht1⟩ := Int.eq_ofNat_of_zero_le k1.1
  obtain ⟨t2, ht2⟩ := Int.eq_ofNat_of_zero_le k2.1
  obtain ⟨t3, ht3⟩ := Int.eq_ofNat_of_zero_le k3.1
  have kk1 := d229_ok H k1
  have kk2 := d228_ok (σ := σ) k2
  have kk3 := d228_ok (σ := σ) k3
  rw [show a1.toNat = t1 by omega] at hD1 kk1
  rw [show a2.toNat = t2 by omega] at kk2 b1 b2 b3 hb1 hb2 hr2 hc2
  rw [show a3.toNat = t3 by omega] at kk3 hr3 hc3
  generalize hnn : (σ (660 + 2 * t1) 1).toNat = n at hD1
  obtain ⟨m, hmm⟩ := Int.eq_ofNat_of_zero_le b2
  have n40 := hD1.2.2.2.1
  have e724 := hD1.2.2.2.2.2.1
  have cd1 := hD1.2.2.2.2.2.2
  have m0 : ∀ {σ' : Sg} {o : Rs}, σ' 682 58 = σ 682 58 → C389_27 a1 a2 a3 none none none 1 σ' o → Dd 389 [vA 682, vI a1, vI a2, vI a3] σ' o := by
    intro σ' o h8 hh
    refine b389 ⟨_, _, d383_ok (by omega), ?_⟩
    rw [if_neg (show ¬ (1 : Int) = 0 by decide)]
    refine ⟨_, _, d377_ok k2, ?_⟩
    rw [if_neg (show ¬ (1 : Int) = 0 by decide)]
    refine ⟨_, _, d377_ok k3, ?_⟩
    rw [if_neg (show ¬ (1 : Int) = 0 by decide)]
    exact hh
  have e384 := d384 hD1
  rw [← ht1] at e384
  have e6 := d146 (σ := σ) hr2
  rw [hmm] at e6
  by_cases g7 : (m : Int) < rS (σ (660 + 2 * t1 + 1)) n 0 0
  · have hA : Dd 226 [vA 0, vI a1, vI a2, vI a3] σ (rX 2 σ) := by
      refine b226 (Or.inl ⟨_, _, kk1, hD1.1, Or.inl ⟨_, _, kk2, hr2, Or.inl ⟨_, _, kk3, hr3, _, _, e6, Or.inr ⟨_, _, b241 ⟨_, _, d42 hD1, ?_⟩, rfl⟩⟩⟩⟩)
      rw [if_pos g7]
    have hB : Dd 389 [vA 682, vI a1, vI a2, vI a3] σ (rI 0 (upS σ 682 0 2)) := by
      refine m0 rfl (b389_27 ?_)
      rw [if_neg (show ¬ (1 : Int) = 0 by decide)]
      refine ⟨_, _, e384, k2, ?_⟩
      rw [show a2.toNat = t2 by omega, if_pos (by omega)]
      refine b389_58 ⟨_, _, d245, ?_⟩
      rw [if_neg (show ¬ (2 : Int) = 0 by decide), if_pos rfl]
    exact op_x H (by decide) (b442 (Or.inr (Or.inr ⟨_, hA, rfl⟩))) hB
  have hge := (rS_ge (f := σ (660 + 2 * t1 + 1)) n 0 0).2
  have hff : ∀ k, k < n → 0 ≤ σ (660 + 2 * t1 + 1) k ∧ σ (660 + 2 * t1 + 1) k ≤ 1000 ∧ (σ (660 + 2 * t1 + 1) k < 500 → σ (660 + 2 * t1 + 1) k < m) := by
    intro k hk
    have := hge k (by omega) (by omega)
    rcases cd1 k hk with ⟨z1, z2, z3⟩ | ⟨z1, z2, z3⟩
    · exact ⟨by omega, by omega, fun z => by have := this z; omega⟩
    · exact ⟨by omega, by omega, fun z => by omega⟩
  have off0 : ∀ c k, ¬ c = 680 → upS σ 680 1 0 c k = σ c k := fun c k h => up_a h
  obtain ⟨s1, c1, c2, c4, c5⟩ := l44 (f := σ (660 + 2 * t1 + 1)) (g := σ (11 + 2 * t2 + 1)) hD1.1 hr2 hr3 (by omega) ⟨hD1.2.2.2.1, hD1.2.1⟩ (m := m) ⟨by omega, by omega⟩ (by omega) hff n 0 (upS σ 680 1 0) [] none (by omega) (by rw [off0 _ _ (by omega)]; exact hD1.2.2.1) (by rw [off0 _ _ (by omega)]; exact hmm) (fun i _ => off0 _ _ (by omega)) (fun i _ => off0 _ _ (by omega)) Rw_nil rfl
  have hlen : ([] ++ (List.range' 0 n).map (ptb (σ (660 + 2 * t1 + 1)) (σ (11 + 2 * t2 + 1)))).length = n := by simp
  have es1 : s1 (11 + 2 * t3) 1 = (n : Nat) := by rw [c2.1, hlen]
  have hA : Dd 226 [vA 0, vI a1, vI a2, vI a3] σ (rI (n : Nat) s1) := by
    have e9 := d146 (σ := s1) hr3
    rw [es1] at e9
    exact b226 (Or.inl ⟨_, _, kk1, hD1.1, Or.inl ⟨_, _, kk2, hr2, Or.inl ⟨_, _, kk3, hr3, _, _, e6, Or.inl ⟨_, b241 ⟨_, _, d42 hD1, by rw [if_neg g7]⟩, _, b44 ⟨_, d152 cp680.1, c1⟩, _, _, e9, rfl⟩⟩⟩⟩)
  have hW := b442 (Or.inl ⟨_, _, hA, rfl⟩)
  have ff : ∀ c k, ¬ c = 11 + 2 * t3 → ¬ c = 11 + 2 * t3 + 1 → ¬ c = 680 → ¬ c = 681 → ¬ c = 726 → upS s1 726 0 (n : Nat) c k = σ c k := fun c k h1 h2 h4 h5 h6 => by rw [up_a h6, c4 c k h1 h2 h4 h5, off0 _ _ h4]
  have f2 : ∀ c k, ¬ c = 11 + 2 * t3 → ¬ c = 11 + 2 * t3 + 1 → ¬ c = 680 → ¬ c = 681 → ¬ c = 726 → ¬ (c = 682 ∧ k = 0) → upS (upS s1 726 0 (n : Nat)) 682 0 0 c k = σ c k := by
    intro c k h1 h2 h4 h5 h6 h7
    have : upS (upS s1 726 0 (n : Nat)) 682 0 0 c k = upS s1 726 0 (n : Nat) c k := by
      unfold upS
      rw [if_neg (by omega)]
    rw [this, ff c k h1 h2 h4 h5 h6]
  obtain ⟨s2, m1, m2, m3, m6⟩ := l389 (d := t1) (b := t2) (t := t3) (n := n) (G := fun i => (if σ 725 (40 * t1 + i) < 1000 then σ 722 (40 * t2 + (σ 725 (40 * t1 + i)).toNat) else σ 725 (40 * t1 + i) - 1000)) (by omega) (by omega) (by omega) n40 (d4 := some (vI 1)) n 0 (upS (upS s1 726 0 (n : Nat)) 682 0 0) none (by omega) (by rw [f2 _ _ (by omega) (by omega) (by omega) (by omega) (by omega) (by omega)]; exact e724) (fun i hi => by
    rw [f2 _ _ (by omega) (by omega) (by omega) (by omega) (by omega) (by omega)]
    rcases cd1 i hi with ⟨z1, z2, z3⟩ | ⟨z1, z2, z3⟩ <;> omega) (fun i hi => by
    rw [f2 725 (40 * t1 + i) (by omega) (by omega) (by omega) (by omega) (by omega) (by omega), f2 722 (40 * t2 + _) (by omega) (by omega) (by omega) (by omega) (by omega) (by omega)]) (fun i hi => by omega)
  rw [← ht1, ← ht2, ← ht3] at m1
  have D1' : Dl (upS s1 726 0 (n : Nat)) (660 + 2 * t1) t1 n := Dl_fr (ff _ _ (by omega) (by omega) (by omega) (by omega) (by omega)) (fun k => ff _ _ (by omega) (by omega) (by omega) (by omega) (by omega)) (ff _ _ (by omega) (by omega) (by omega) (by omega) (by omega)) (fun k => ff _ _ (by omega) (by omega) (by omega) (by omega) (by omega)) hD1
  have er : upS s1 726 0 (n : Nat) (660 + 2 * t1 + 1) = σ (660 + 2 * t1 + 1) := funext (fun k => ff _ _ (by omega) (by omega) (by omega) (by omega) (by omega))
  have e384' := d384 D1'
  rw [← ht1, er] at e384'
  have hB : Dd 389 [vA 682, vI a1, vI a2, vI a3] (upS s1 726 0 (n : Nat)) (rI (n : Nat) s2) := by
    refine m0 (ff _ _ (by omega) (by omega) (by omega) (by omega) (by omega)) (b389_27 ?_)
    rw [if_neg (show ¬ (1 : Int) = 0 by decide)]
    refine ⟨_, _, e384', k2, ?_⟩
    rw [show a2.toNat = t2 by omega, ff 723 _ (by omega) (by omega) (by omega) (by omega) (by omega), if_neg (by omega)]
    refine b389_58 ⟨_, _, d245, ?_⟩
    rw [if_pos rfl, if_neg (show ¬ (1 : Int) = 0 by decide)]
    exact m1
  have hoff : ∀ c k, ¬ (c = 726 ∨ (c = 682 ∧ k = 0) ∨ c = 11 + 2 * t3 ∨ c = 11 + 2 * t3 + 1 ∨ c = 680 ∨ c = 681 ∨ c = 705 ∨ (c = 723 ∧ k = t3) ∨ (c = 722 ∧ 40 * t3 ≤ k ∧ k < 40 * t3 + n)) → s2 c k = σ c k := by
    intro c k hc
    rw [m6 c k (by omega) (by omega) (by omega), f2 _ _ (by omega) (by omega) (by omega) (by omega) (by omega) (by omega)]
  have hcl : ∀ c k, c < 682 → s2 c k = s1 c k := by
    intro c k hc
    rw [m6 c k (by omega) (by omega) (by omega), up_a (by omega), up_a (by omega)]
  obtain ⟨h1, h2, h3, h4, h5, h6, h7, h8, h9⟩ := H
  refine op_fin hW hB ?_ (fun _ => ?_) (fun a k ha => by rw [up_a (by omega), c4 _ _ (by omega) (by omega) (by omega) (by omega), off0 _ _ (by omega)]) (fun a k ha => hoff _ _ (by omega)) ⟨fun a ha => ?_, Zl_fr (fun k => hoff _ _ (by omega)) h2, RT_fr (fun c k hc => hoff _ _ (by omega)) h3, ?_, RP_fr (fun c k hc => hoff _ _ (by omega)) h5, RSt_fr (by omega) (fun c k hc => hoff _ _ (by omega)) h6, RU_fr (fun c k hc => hoff _ _ (by omega)) h7, RF_fr (fun c k hc => hoff _ _ (by omega)) h8, RD_fr (fun c k hc => hoff _ _ (by omega)) h9⟩
  · rw [m6 _ _ (by decide) (by omega) (by omega), up_s]
  · rw [m6 _ _ (by decide) (by omega) (by omega), up_a (by decide), up_s]
  · have hlt := row_lt ha
    have n2 : ¬ a = 681 := by intro e; subst e; exact absurd ha (by decide +kernel)
    by_cases e1 : a = 11 + 2 * t3
    · rw [e1, hcl _ _ (by omega), es1]; omega
    · by_cases e2 : a = 680
      · rw [e2, cp680.2, hcl _ _ (by omega)]; exact c5
      · have n3 := row_nx hr3 ha
        rw [hoff _ _ (by omega)]
        exact h1 a ha
  · intro t ht
    obtain ⟨u1, u2⟩ := h4 t ht
    by_cases e : t = t3
    · subst e
      have hval : ∀ i, i < n → s2 (11 + 2 * t + 1) i = ptb (σ (660 + 2 * t1 + 1)) (σ (11 + 2 * t2 + 1)) i := by
        intro i hi
        rw [hcl _ _ (by omega)]
        apply c2.2 i
        rw [List.nil_append, List.getElem?_map, List.getElem?_range' hi]
        simp
      have esz : s2 (11 + 2 * t) 1 = (n : Nat) := by rw [hcl _ _ (by omega)]; exact es1
      refine ⟨⟨by rw [esz, m3], fun i hi => ?_⟩, fun i hi => ?_⟩
      · rw [m3] at hi
        have hi : i < n := by omega
        rw [hval i hi, m2 i hi]
        show _ = (if σ 725 (40 * t1 + i) < 1000 then σ 722 (40 * t2 + (σ 725 (40 * t1 + i)).toNat) else σ 725 (40 * t1 + i) - 1000)
        have hq := hff i hi
        unfold ptb
        rcases cd1 i hi with ⟨z1, z2, z3⟩ | ⟨z1, z2, z3⟩
        · have := hq.2.2 (by omega)
          rw [if_pos (by omega), if_pos (by omega), z3]
          exact hb1.2 _ (by omega)
        · rw [if_neg (by omega), if_neg (by omega), z3]
          omega
      · rw [esz] at hi
        have hi : i < n := by omega
        rw [hval i hi]
        have hq := hff i hi
        unfold ptb
        rcases cd1 i hi with ⟨z1, z2, z3⟩ | ⟨z1, z2, z3⟩
        · have := hq.2.2 (by omega)
          rw [if_pos (by omega)]
          exact hb2 _ (by omega)
        · rw [if_neg (by omega)]
          omega
    · have w := h1 _ (el_10 (i := (t : Int)) (by omega)).2
      have wc := cp_10 (i := (t : Int)) (by omega)
      rw [show ((t : Int)).toNat = t by omega] at w wc
      have u11 := u1.1
      refine ⟨⟨by rw [hoff _ _ (by omega), hoff _ _ (by omega)]; exact u1.1, fun i hi => ?_⟩, fun i hi => ?_⟩
      · rw [hoff 723 _ (by omega)] at hi
        rw [hoff (11 + 2 * t + 1) i (by omega), hoff 722 _ (by omega)]
        exact u1.2 i hi
      · rw [hoff _ _ (by omega)] at hi
        rw [hoff _ _ (by omega)]
        exact u2 i hi
end
