/-! chain, putDelta: on both sides. -/
noncomputable section
def rS (f : Nat → Int) : Nat → Nat → Int → Int
  | 0, _, acc => acc
  | w + 1, k, acc => rS f w (k + 1) (if f k < 500 then (if acc < f k + 1 then f k + 1 else acc) else acc)
theorem rS_ge {f : Nat → Int} : ∀ (w k : Nat) (acc : Int), acc ≤ rS f w k acc ∧ ∀ i, k ≤ i → i < k + w → f i < 500 → f i < rS f w k acc := by
  intro w
  induction w with
  | zero => intro k acc; exact ⟨Int.le_refl _, fun i h1 h2 => by omega⟩
  | succ w ih =>
    intro k acc
    unfold rS
    obtain ⟨g1, g2⟩ := ih (k + 1) (if f k < 500 then (if acc < f k + 1 then f k + 1 else acc) else acc)
    refine ⟨?_, fun i h1 h2 h3 => ?_⟩
    · refine Int.le_trans ?_ g1
      split
      · split <;> omega
      · exact Int.le_refl _
    · by_cases z : i = k
      · subst z
        refine Int.lt_of_lt_of_le ?_ g1
        rw [if_pos h3]
        split <;> omega
      · exact g2 i (by omega) (by omega) h3
theorem l42 {σ : Sg} {a d n : Nat} (h : Dl σ a d n) {d0 : Option AV} : ∀ (w k : Nat) (acc : Int), k + w = n → 0 ≤ acc ∧ acc ≤ 40 → C42_4 d0 a acc k σ (rI (rS (σ (a + 1)) w k acc) σ) := by
  have h3 := h.2.2.1
  intro w
  induction w with
  | zero =>
    intro k acc q1 q2
    refine b42_4 h.1 ⟨_, _, d146 h.1, ?_⟩
    rw [if_neg (by omega)]
    rfl
  | succ w ih =>
    intro k acc q1 q2
    have h4 := h.2.2.2.1
    have hd := d147 (i := (k : Int)) (Dl_w h)
    rw [at_in h3 (by omega)] at hd
    have cs := h.2.2.2.2.2.2 k (by omega)
    refine b42_4 h.1 ⟨_, _, d146 h.1, ?_⟩
    rw [if_pos (by omega)]
    refine ⟨_, _, hd, _, _, d41, ?_⟩
    unfold rS
    by_cases z : σ (a + 1) k < 500
    · rw [if_pos z, if_neg (show ¬ (1 : Int) = 0 by decide), if_pos z]
      have : 0 ≤ σ (a + 1) k ∧ σ (a + 1) k < 40 := by
        rcases cs with ⟨z1, z2, z3⟩ | ⟨z1, z2, z3⟩ <;> omega
      refine ⟨_, _, hd, by omega, b42_35 ⟨by omega, ?_⟩⟩
      rw [show (k : Int) + 1 = ((k + 1 : Nat) : Int) by omega]
      exact ih (k + 1) _ (by omega) (by split <;> omega)
    · rw [if_neg z, if_pos rfl, if_neg z]
      refine b42_35 ⟨by omega, ?_⟩
      rw [show (k : Int) + 1 = ((k + 1 : Nat) : Int) by omega]
      exact ih (k + 1) _ (by omega) q2
theorem d42 {σ : Sg} {a d n : Nat} (h : Dl σ a d n) : Dd 42 [vA 658, vA a] σ (rI (rS (σ (a + 1)) n 0 0) σ) := b42 (l42 h n 0 0 (by omega) (by omega))
theorem l384 {σ : Sg} {a d n : Nat} (h : Dl σ a d n) : ∀ (w k : Nat) (acc : Int) (d4 : Option AV), k + w = n → 0 ≤ acc ∧ acc ≤ 40 → C384_4 d acc k d4 σ (rI (rS (σ (a + 1)) w k acc) σ) := by
  have h5 := h.2.2.2.2.1
  have h6 := h.2.2.2.2.2.1
  intro w
  induction w with
  | zero =>
    intro k acc d4 q1 q2
    refine b384_4 ⟨by omega, ?_⟩
    rw [show ((d : Int)).toNat = d by omega, if_neg (by omega)]
    rfl
  | succ w ih =>
    intro k acc d4 q1 q2
    have h4 := h.2.2.2.1
    have cs := h.2.2.2.2.2.2 k (by omega)
    refine b384_4 ⟨by omega, ?_⟩
    rw [show ((d : Int)).toNat = d by omega, if_pos (by omega), show ((40 * (d : Int)) + (k : Int)).toNat = 40 * d + k by omega]
    refine ⟨by omega, by omega, by omega, ?_⟩
    unfold rS
    have nx : ∀ (y : Int) (d2 d4 : Option AV), 0 ≤ y ∧ y ≤ 40 → C384_49 d d2 k d4 y σ (rI (rS (σ (a + 1)) w (k + 1) y) σ) := by
      intro y d2 d4 hy
      refine b384_49 ⟨by omega, ?_⟩
      rw [show (k : Int) + 1 = ((k + 1 : Nat) : Int) by omega]
      exact ih (k + 1) y d4 (by omega) hy
    rcases cs with ⟨z1, z2, z3⟩ | ⟨z1, z2, z3⟩
    · rw [if_pos (show σ 725 (40 * d + k) < 1000 by omega), if_pos (show σ (a + 1) k < 500 by omega), z3]
      by_cases y : acc ≤ σ (a + 1) k
      · rw [if_pos y, if_pos (show acc < σ (a + 1) k + 1 by omega)]
        exact ⟨by omega, nx _ _ _ (by omega)⟩
      · rw [if_neg y, if_neg (show ¬ acc < σ (a + 1) k + 1 by omega)]
        exact b384_48 (nx _ _ _ q2)
    · rw [if_neg (show ¬ σ 725 (40 * d + k) < 1000 by omega), if_neg (show ¬ σ (a + 1) k < 500 by omega)]
      exact b384_48 (nx _ _ _ q2)
theorem d384 {σ : Sg} {a d n : Nat} (h : Dl σ a d n) : Dd 384 [vA 682, vI d] σ (rI (rS (σ (a + 1)) n 0 0) σ) := b384 (l384 h n 0 0 none (by omega) (by omega))
theorem cp680 : isRow 680 = true ∧ cap 680 = 40 := by decide +kernel
/-- a new delta is the scratch row -/
theorem d37 {σ : Sg} {D : Nat} {l : List Int} (hD : σ 658 1 = (D : Nat)) (h10 : D < 10) (hl : Rw σ 680 l) (h40 : l.length ≤ 40) : ∃ s, Dd 37 [vA 658] σ (rI D s) ∧ Rw s (660 + 2 * D) l ∧ s 658 1 = (D : Int) + 1 ∧ ∀ c k, ¬ c = 660 + 2 * D → ¬ c = 660 + 2 * D + 1 → ¬ c = 658 → s c k = σ c k := by
  have he := el_659 (i := (D : Int)) (by omega)
  have hc := cp_659 (i := (D : Int)) (by omega)
  rw [show ((D : Int)).toNat = D by omega] at he hc
  have hcp : σ 680 1 ≤ (cap (660 + 2 * D) : Int) := by rw [hl.1]; omega
  have h8 : bcS σ (660 + 2 * D) 680 658 1 = (D : Nat) := by rw [bc_off (by omega) (by omega)]; exact hD
  refine ⟨upS (bcS σ (660 + 2 * D) 680) 658 1 ((D : Int) + 1), b37 ?_, ⟨?_, fun i v hv => ?_⟩, up_s, fun c k h1 h2 h3 => by rw [up_a h3, bc_off h1 h2]⟩
  · rw [if_pos (show σ 658 1 < 10 by omega), hD, show ((D : Nat) : Int).toNat = D by omega]
    refine ⟨by omega, _, he.1, he.2, _, d155 he.2 (Rw_wR cp680.1 hl (by rw [cp680.2]; exact h40)), ?_⟩
    rw [h8]
    refine ⟨by omega, b37_38 ?_⟩
    rw [up_s, show ((D : Nat) : Int) + 1 - 1 = (D : Int) by omega]
    exact ⟨by omega, rfl⟩
  · rw [up_a (by omega), bc_sz hcp]; exact hl.1
  · have hi := (List.getElem?_eq_some_iff.mp hv).1
    rw [up_a (by omega), bc_val hcp (by omega) (by rw [hl.1]; omega)]
    exact hl.2 i v hv
/-- what each code of a second delta comes to by a first one -/
def thr (f g : Nat → Int) (k : Nat) : Int := if g k < 500 then f (g k).toNat else g k
theorem l43 {a b n m : Nat} {f g : Nat → Int} (ha : isRow a = true) (hb : isRow b = true) (hn : n ≤ 40 ∧ cap a = 40) (hm : m ≤ 40 ∧ cap b = 40) (hab : ¬ a = 680 ∧ ¬ a = 681 ∧ ¬ b = 680 ∧ ¬ b = 681 ∧ a < 680 ∧ b < 680) (hg : ∀ k, k < m → 0 ≤ g k ∧ (g k < 500 → g k < n)) {D : Nat} (h10 : D < 10) : ∀ (w k : Nat) (σ : Sg) (l : List Int) (d4 : Option AV), k + w = m → σ a 1 = (n : Nat) → σ b 1 = (m : Nat) → (∀ i, i < n → σ (a + 1) i = f i) → (∀ i, i < m → σ (b + 1) i = g i) → σ 658 1 = (D : Nat) → Rw σ 680 l → l.length = k → (¬ a + 1 = 680 ∧ ¬ a + 1 = 681 ∧ ¬ b + 1 = 680 ∧ ¬ b + 1 = 681) → ∃ s, C43_9 a b k d4 σ (rI D s) ∧ Rw s (660 + 2 * D) (l ++ (List.range' k w).map (thr f g)) ∧ s 658 1 = (D : Int) + 1 ∧ (∀ c j, ¬ c = 660 + 2 * D → ¬ c = 660 + 2 * D + 1 → ¬ c = 658 → ¬ c = 680 → ¬ c = 681 → s c j = σ c j) ∧ 0 ≤ s 680 1 ∧ s 680 1 ≤ 40 := by
  intro w
  induction w with
  | zero =>
    intro k σ l d4 q1 q2 q3 q4 q5 q6 q7 q8 q9
    obtain ⟨s, g1, g2, g3, g4⟩ := d37 q6 h10 q7 (by omega)
    refine ⟨s, b43_9 hb ha ⟨_, _, d146 hb, ?_⟩, ?_, g3, fun c j h1 h2 h3 _ _ => g4 c j h1 h2 h3, by rw [g4 680 1 (by omega) (by omega) (by omega), q7.1]; omega, by rw [g4 680 1 (by omega) (by omega) (by omega), q7.1]; omega⟩
    · rw [if_neg (by omega)]
      exact ⟨_, _, g1, rfl⟩
    · simpa using g2
  | succ w ih =>
    intro k σ l d4 q1 q2 q3 q4 q5 q6 q7 q8 q9
    have hk : k < m := by omega
    have wb : wR σ b := ⟨hb, by omega, by omega⟩
    have wa : wR σ a := ⟨ha, by omega, by omega⟩
    have hd := d147 (i := (k : Int)) wb
    rw [at_in q3 hk, q5 k hk] at hd
    have w8 := Rw_wR cp680.1 q7 (by rw [cp680.2]; omega)
    have hgk := hg k hk
    have nx : ∀ (d4 : Option AV), ∃ s, C43_47 a b k d4 (thr f g k) σ (rI D s) ∧ Rw s (660 + 2 * D) (l ++ (List.range' k (w + 1)).map (thr f g)) ∧ s 658 1 = (D : Int) + 1 ∧ (∀ c j, ¬ c = 660 + 2 * D → ¬ c = 660 + 2 * D + 1 → ¬ c = 658 → ¬ c = 680 → ¬ c = 681 → s c j = σ c j) ∧ 0 ≤ s 680 1 ∧ s 680 1 ≤ 40 := by
      intro d4
      have off : ∀ c j, ¬ c = 680 → ¬ c = 681 → adS σ 680 (thr f g k) c j = σ c j := fun c j h1 h2 => ad_off h1 h2
      obtain ⟨s, g1, g2, g3, g4, g5⟩ := ih (k + 1) (adS σ 680 (thr f g k)) (l ++ [thr f g k]) d4 (by omega) (by rw [off _ _ hab.1 hab.2.1]; exact q2) (by rw [off _ _ hab.2.2.1 hab.2.2.2.1]; exact q3) (fun i hi => by rw [off _ _ q9.1 q9.2.1]; exact q4 i hi) (fun i hi => by rw [off _ _ q9.2.2.1 q9.2.2.2]; exact q5 i hi) (by rw [off _ _ (by decide) (by decide)]; exact q6) (Rw_ad q7 (by rw [cp680.2]; omega)) (by rw [List.length_append, q8]; rfl) q9
      refine ⟨s, b43_47 ⟨_, d149 w8, by omega, ?_⟩, ?_, g3, fun c j h1 h2 h3 h4 h5 => by rw [g4 c j h1 h2 h3 h4 h5, off _ _ h4 h5], g5⟩
      · rw [show (k : Int) + 1 = ((k + 1 : Nat) : Int) by omega]
        exact g1
      · rw [List.append_assoc] at g2
        rw [List.range'_succ, List.map_cons]
        exact g2
    obtain ⟨s, g1, g2⟩ := nx (some (vI (g k)))
    refine ⟨s, b43_9 hb ha ⟨_, _, d146 hb, ?_⟩, g2⟩
    rw [if_pos (by omega)]
    refine ⟨_, _, hd, _, _, d41, ?_⟩
    by_cases z : g k < 500
    · rw [if_pos z, if_neg (show ¬ (1 : Int) = 0 by decide)]
      have hd2 := d147 (i := g k) wa
      have e2 : atS σ a (g k) = thr f g k := by
        have := hgk.2 z
        unfold atS thr
        rw [if_pos ⟨hgk.1, by omega⟩, if_pos z]
        exact q4 _ (by omega)
      rw [e2] at hd2
      exact ⟨_, _, hd2, g1⟩
    · rw [if_neg z, if_pos rfl]
      unfold thr at g1
      rw [if_neg z] at g1
      exact g1
/-- the model's chain -/
theorem l385 {a b m D : Nat} {F : Nat → Int} (ha : a < 10) (hb : b < 10) (h10 : D < 10) (hm : m ≤ 40) (hna : ¬ a = D) (hnb : ¬ b = D) {d3 : Option AV} : ∀ (w k : Nat) (σ : Sg) (d5 : Option AV), k + w = m → σ 724 b = (m : Nat) → σ 682 58 = (D : Nat) → (∀ i, i < m → 0 ≤ σ 725 (40 * b + i) ∧ (σ 725 (40 * b + i) < 1000 → σ 725 (40 * b + i) < 40)) → (∀ i, i < m → F i = (if σ 725 (40 * b + i) < 1000 then σ 725 (40 * a + (σ 725 (40 * b + i)).toNat) else σ 725 (40 * b + i))) → ∃ s, C385_70 a b d3 k d5 σ (rI D s) ∧ (∀ i, k ≤ i → i < m → s 725 (40 * D + i) = F i) ∧ (∀ i, ¬ (40 * D + k ≤ i ∧ i < 40 * D + m) → s 725 i = σ 725 i) ∧ s 724 D = (m : Nat) ∧ s 682 58 = (D : Int) + 1 ∧ ∀ c j, ¬ c = 725 → ¬ (c = 724 ∧ j = D) → ¬ (c = 682 ∧ j = 58) → s c j = σ c j := by
  intro w
  induction w with
  | zero =>
    intro k σ d5 q1 q2 q3 q4 q5
    refine ⟨upS (upS σ 724 D (m : Nat)) 682 58 ((D : Int) + 1), b385_70 ⟨by omega, ?_⟩, fun i h1 h2 => by omega, fun i _ => by rw [up_a (by decide), up_a (by decide)], by rw [up_a (by decide), up_s], up_s, fun c j h1 h2 h3 => ?_⟩
    · rw [show ((b : Int)).toNat = b by omega, q2, if_neg (by omega), q3, show ((D : Nat) : Int).toNat = D by omega, up_a (show ¬ 682 = 724 by decide), q3, up_s]
      refine ⟨by omega, by omega, by omega, by omega, ?_⟩
      rw [show ((D : Nat) : Int) + 1 - 1 = (D : Int) by omega]
    · unfold upS
      rw [if_neg (by omega), if_neg (by omega)]
  | succ w ih =>
    intro k σ d5 q1 q2 q3 q4 q5
    have hk : k < m := by omega
    have c := q4 k hk
    have hF := q5 k hk
    have off : ∀ c j, ¬ c = 725 → upS σ 725 (40 * D + k) (F k) c j = σ c j := fun c j h => up_a h
    have rd : ∀ e i, ¬ e = D → i < 40 → upS σ 725 (40 * D + k) (F k) 725 (40 * e + i) = σ 725 (40 * e + i) := fun e i h1 h2 => up_k (by omega)
    obtain ⟨s, g1, g2, g3, g4, g5, g6⟩ := ih (k + 1) (upS σ 725 (40 * D + k) (F k)) (some (vI (σ 725 (40 * b + k)))) (by omega) (by rw [off _ _ (by decide)]; exact q2) (by rw [off _ _ (by decide)]; exact q3) (fun i hi => by rw [rd _ _ hnb (by omega)]; exact q4 i hi) (fun i hi => by
      have ci := q4 i hi
      rw [rd _ _ hnb (by omega), q5 i hi]
      by_cases z : σ 725 (40 * b + i) < 1000
      · rw [if_pos z, if_pos z, rd _ _ hna (by omega)]
      · rw [if_neg z, if_neg z])
    refine ⟨s, b385_70 ⟨by omega, ?_⟩, fun i h1 h2 => ?_, fun i hi => ?_, g4, g5, fun c j h1 h2 h3 => by rw [g6 c j h1 h2 h3, off _ _ h1]⟩
    · rw [show ((b : Int)).toNat = b by omega, q2, if_pos (by omega), show ((40 * (b : Int)) + (k : Int)).toNat = 40 * b + k by omega, q3]
      refine ⟨by omega, by omega, by omega, by omega, by omega, fun z => by omega, fun z => by have := c.2 z; omega, fun z => by have := c.2 z; omega, b385_134 ⟨by omega, by omega, ?_⟩⟩
      have e : (if σ 725 (40 * b + k) < 1000 then σ 725 ((40 * (a : Int)) + σ 725 (40 * b + k)).toNat else σ 725 (40 * b + k)) = F k := by
        rw [hF]
        by_cases z : σ 725 (40 * b + k) < 1000
        · rw [if_pos z, if_pos z]
          congr 1
          omega
        · rw [if_neg z, if_neg z]
      rw [e, show ((40 * ((D : Nat) : Int)) + (k : Int)).toNat = 40 * D + k by omega, show (k : Int) + 1 = ((k + 1 : Nat) : Int) by omega]
      exact g1
    · by_cases z : i = k
      · subst z
        rw [g3 _ (by omega), up_s]
      · exact g2 i (by omega) h2
    · rw [g3 i (by omega), up_k (by omega)]
end
