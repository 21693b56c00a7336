/-! Deltas: what both sides say of the codes of one. -/
noncomputable section
def cdR (f s : Int) : Prop := (0 ≤ f ∧ f < 40 ∧ s = f) ∨ (500 ≤ f ∧ f ≤ 755 ∧ s = f + 500)
/-- a row of codes, and the place of the delta on the other side -/
def Dl (σ : Sg) (a d n : Nat) : Prop := isRow a = true ∧ cap a = 40 ∧ σ a 1 = (n : Nat) ∧ n ≤ 40 ∧ d < 10 ∧ σ 724 d = (n : Nat) ∧ ∀ k : Nat, k < n → cdR (σ (a + 1) k) (σ 725 (40 * d + k))
theorem rel_d {σ : Sg} {c d : Int} (H : Rel c σ) (hd : 0 ≤ d ∧ d < σ 658 1) : Dl σ (660 + 2 * d.toNat) d.toNat (σ (660 + 2 * d.toNat) 1).toNat := by
  have hn := (rel_n H).2.2.2.2
  obtain ⟨g1, g2, g3, g4⟩ := H.2.2.2.2.2.2.2.2
  obtain ⟨e1, e2⟩ := g4 d.toNat (by omega)
  have hr := (el_659 (i := d) (by omega)).2
  have hc := cp_659 (i := d) (by omega)
  have w := H.1 _ hr
  refine ⟨hr, by omega, by omega, by omega, by omega, by omega, fun k hk => ?_⟩
  rcases e2 k (by omega) with ⟨q1, q2, q3⟩ | ⟨q1, q2, q3⟩
  · exact Or.inl ⟨q1, q2, q3⟩
  · exact Or.inr ⟨q1, q2, q3⟩
theorem Dl_w {σ : Sg} {a d n : Nat} (h : Dl σ a d n) : wR σ a := by
  obtain ⟨h1, h2, h3, h4, -⟩ := h
  exact ⟨h1, by omega, by omega⟩
theorem at_in {σ : Sg} {a n k : Nat} (h : σ a 1 = (n : Nat)) (hk : k < n) : atS σ a (k : Int) = σ (a + 1) k := by
  unfold atS
  rw [if_pos ⟨by omega, by omega⟩]
  rfl
theorem d229_ok {σ : Sg} {c d : Int} (H : Rel c σ) (hd : 0 ≤ d ∧ d < σ 658 1) : Dd 229 [vA 0, vI d] σ (rA (660 + 2 * d.toNat) σ) := by
  have hn := (rel_n H).2.2.2.2
  have he := el_659 (i := d) (by omega)
  refine b229 ⟨_, _, b35 (by rw [if_pos hd.2]; exact ⟨_, _, d145_ok (n := 10) (by decide +kernel) (by decide) (by omega) he.1 he.2, rfl⟩), fun h => (by cases h), fun a h => ?_⟩
  cases h
  exact ⟨he.2, rfl⟩
theorem d383_ok {σ : Sg} {d : Int} (hd : 0 ≤ d ∧ d < σ 682 58) : Dd 383 [vA 682, vI d] σ (rI 1 σ) := by
  have e := d246 (x := d) (n := σ 682 58) (σ := σ)
  rw [if_pos hd] at e
  exact b383 ⟨_, _, e, Or.inr rfl, rfl⟩
theorem d41 {x : Int} {σ : Sg} : Dd 41 [vI x] σ (rI (if x < 500 then 1 else 0) σ) := b41 rfl
def tog (a b : Int) : Bool := if a < 500 then decide (b = a + 1) else decide (500 ≤ b)
theorem d46 {a b : Int} {σ : Sg} (h : -1 ≤ a ∧ a ≤ 1000) : Dd 46 [vI a, vI b] σ (rI (if tog a b = true then 1 else 0) σ) := by
  refine b46 ⟨_, _, d41, ?_⟩
  unfold tog
  by_cases h1 : a < 500
  · rw [if_pos h1, if_neg (by decide), if_pos h1]
    refine ⟨by omega, ?_⟩
    by_cases h2 : b = a + 1
    · rw [if_pos h2, if_pos (by simpa using h2)]
    · rw [if_neg h2, if_neg (by simpa using h2)]
  · rw [if_neg h1, if_pos rfl, if_neg h1]
    refine ⟨_, _, d41, ?_⟩
    by_cases h2 : b < 500
    · rw [if_pos h2, if_neg (show ¬ (1 : Int) = 0 by decide), if_neg (show ¬ decide (500 ≤ b) = true from fun q => by have := of_decide_eq_true q; omega)]
    · rw [if_neg h2, if_pos (show (0 : Int) = 0 from rfl), if_pos (show decide (500 ≤ b) = true from decide_eq_true (by omega))]
/-- a code goes on in the step of the one ahead of it -/
def gT (f : Nat → Int) (k : Nat) : Bool := decide (0 < k) && tog (f (k - 1)) (f k)
theorem l45 {σ : Sg} {a d n s : Nat} (h : Dl σ a d n) {d1 : Option AV} : ∀ (w e0 : Nat), e0 + w = n → s < e0 → (∀ k, s < k → k < e0 → gT (σ (a + 1)) k = true) → ∃ e : Nat, s < e ∧ e ≤ n ∧ (∀ k, s < k → k < e → gT (σ (a + 1)) k = true) ∧ (e = n ∨ gT (σ (a + 1)) e = false) ∧ C45_4 a d1 e0 σ (rI e σ) := by
  have hw := Dl_w h
  obtain ⟨h1, h2, h3, h4, h5, h6, h7⟩ := h
  intro w
  induction w with
  | zero =>
    intro e0 q1 q2 q3
    refine ⟨e0, q2, by omega, q3, Or.inl (by omega), b45_4 h1 ⟨_, _, d146 h1, ?_⟩⟩
    rw [if_neg (by omega)]
  | succ w ih =>
    intro e0 q1 q2 q3
    have v1 := at_in (k := e0 - 1) h3 (by omega)
    have v2 := at_in (k := e0) h3 (by omega)
    have c1 := h7 (e0 - 1) (by omega)
    have hd1 := d147 (i := (e0 : Int) - 1) hw
    rw [show (e0 : Int) - 1 = ((e0 - 1 : Nat) : Int) by omega, v1] at hd1
    have hd2 := d147 (i := (e0 : Int)) hw
    rw [v2] at hd2
    have hb : -1 ≤ σ (a + 1) (e0 - 1) ∧ σ (a + 1) (e0 - 1) ≤ 1000 := by
      rcases c1 with ⟨z1, z2, -⟩ | ⟨z1, z2, -⟩ <;> omega
    have hg : gT (σ (a + 1)) e0 = tog (σ (a + 1) (e0 - 1)) (σ (a + 1) e0) := by
      unfold gT
      rw [decide_eq_true (show 0 < e0 by omega), Bool.true_and]
    by_cases ht : tog (σ (a + 1) (e0 - 1)) (σ (a + 1) e0) = true
    · obtain ⟨e, r1, r2, r3, r4, r5⟩ := ih (e0 + 1) (by omega) (by omega) (fun k hk hk2 => by
        by_cases hk3 : k < e0
        · exact q3 k hk hk3
        · rw [show k = e0 by omega, hg]; exact ht)
      refine ⟨e, r1, r2, r3, r4, b45_4 h1 ⟨_, _, d146 h1, ?_⟩⟩
      rw [if_pos (by omega)]
      refine ⟨by omega, _, _, by rw [show (e0 : Int) - 1 = ((e0 - 1 : Nat) : Int) by omega]; exact hd1, _, _, hd2, _, _, d46 hb, ?_⟩
      rw [if_pos ht, if_neg (by decide)]
      refine ⟨by omega, ?_⟩
      rw [show (e0 : Int) + 1 = ((e0 + 1 : Nat) : Int) by omega]
      exact r5
    · refine ⟨e0, q2, by omega, q3, Or.inr (by rw [hg]; simpa using ht), b45_4 h1 ⟨_, _, d146 h1, ?_⟩⟩
      rw [if_pos (by omega)]
      refine ⟨by omega, _, _, by rw [show (e0 : Int) - 1 = ((e0 - 1 : Nat) : Int) by omega]; exact hd1, _, _, hd2, _, _, d46 hb, ?_⟩
      rw [if_neg ht, if_pos rfl]
/-- where a step ends -/
theorem d45 {σ : Sg} {a d n s : Nat} (h : Dl σ a d n) (hs : s < n) : ∃ e : Nat, s < e ∧ e ≤ n ∧ (∀ k, s < k → k < e → gT (σ (a + 1)) k = true) ∧ (e = n ∨ gT (σ (a + 1)) e = false) ∧ Dd 45 [vA a, vI s] σ (rI e σ) := by
  obtain ⟨e, r1, r2, r3, r4, r5⟩ := l45 h (d1 := some (vI s)) (s := s) (n - (s + 1)) (s + 1) (by omega) (by omega) (fun k h1 h2 => by omega)
  have h4 := h.2.2.2.1
  refine ⟨e, r1, r2, r3, r4, b45 ⟨by omega, ?_⟩⟩
  rw [show (s : Int) + 1 = ((s + 1 : Nat) : Int) by omega]
  exact r5
theorem gT_kind {σ : Sg} {a d n k : Nat} (h : Dl σ a d n) (hk : k < n) (ht : gT (σ (a + 1)) k = true) : (σ (a + 1) (k - 1) < 500 ↔ σ (a + 1) k < 500) := by
  obtain ⟨h1, h2, h3, h4, h5, h6, h7⟩ := h
  have c1 := h7 (k - 1) (by omega)
  have c2 := h7 k hk
  unfold gT tog at ht
  rw [Bool.and_eq_true] at ht
  have ht := ht.2
  rcases c1 with ⟨z1, z2, -⟩ | ⟨z1, z2, -⟩
  · rw [if_pos (by omega)] at ht
    have ht := of_decide_eq_true ht
    omega
  · rw [if_neg (by omega)] at ht
    have ht := of_decide_eq_true ht
    omega
/-- goesOn -/
theorem d386 {σ : Sg} {a d n k : Nat} (h : Dl σ a d n) (hk : k < n) : Dd 386 [vA 682, vI d, vI k] σ (rI (if gT (σ (a + 1)) k = true then 1 else 0) σ) := by
  obtain ⟨h1, h2, h3, h4, h5, h6, h7⟩ := h
  have c2 := h7 k hk
  have e1 : (((40 * (d : Int)) + (k : Int))).toNat = 40 * d + k := by omega
  by_cases h0 : k = 0
  · refine b386 ⟨by omega, by omega, by omega, by omega, by omega, by omega, by omega, fun q => absurd (by omega) q, ?_⟩
    rw [if_pos (show (k : Int) = 0 by omega)]
    unfold gT
    rw [decide_eq_false (show ¬ 0 < k by omega), Bool.false_and, if_neg (by decide)]
  · have c1 := h7 (k - 1) (by omega)
    have e2 : ((((40 * (d : Int)) + (k : Int)) - 1)).toNat = 40 * d + (k - 1) := by omega
    refine b386 ⟨by omega, by omega, by omega, by omega, by omega, by omega, by omega, fun _ _ => ?_, ?_⟩
    · rw [e2]
      rcases c1 with ⟨z1, z2, z3⟩ | ⟨z1, z2, z3⟩ <;> omega
    · rw [if_neg (show ¬ (k : Int) = 0 by omega), e1, e2]
      unfold gT tog
      rw [decide_eq_true (show 0 < k by omega), Bool.true_and]
      rcases c1 with ⟨z1, z2, z3⟩ | ⟨z1, z2, z3⟩
      · rw [if_pos (show σ (a + 1) (k - 1) < 500 by omega)]
        rcases c2 with ⟨y1, y2, y3⟩ | ⟨y1, y2, y3⟩
        · rw [if_neg (show ¬ 1000 ≤ σ 725 (40 * d + k) by omega), y3, z3]
          by_cases q : σ (a + 1) k = σ (a + 1) (k - 1) + 1
          · rw [if_pos q, if_pos (show decide (σ (a + 1) k = σ (a + 1) (k - 1) + 1) = true from decide_eq_true q)]
          · rw [if_neg q, if_neg (show ¬ decide (σ (a + 1) k = σ (a + 1) (k - 1) + 1) = true from fun e => q (of_decide_eq_true e))]
        · rw [if_pos (show 1000 ≤ σ 725 (40 * d + k) by omega), if_neg (show ¬ 1000 ≤ σ 725 (40 * d + (k - 1)) by omega), if_neg (show ¬ decide (σ (a + 1) k = σ (a + 1) (k - 1) + 1) = true from fun e => by have := of_decide_eq_true e; omega)]
      · rw [if_neg (show ¬ σ (a + 1) (k - 1) < 500 by omega)]
        rcases c2 with ⟨y1, y2, y3⟩ | ⟨y1, y2, y3⟩
        · rw [if_neg (show ¬ 1000 ≤ σ 725 (40 * d + k) by omega), if_neg (show ¬ σ 725 (40 * d + k) = σ 725 (40 * d + (k - 1)) + 1 by omega), if_neg (show ¬ decide (500 ≤ σ (a + 1) k) = true from fun e => by have := of_decide_eq_true e; omega)]
        · rw [if_pos (show 1000 ≤ σ 725 (40 * d + k) by omega), if_pos (show 1000 ≤ σ 725 (40 * d + (k - 1)) by omega), if_pos (show decide (500 ≤ σ (a + 1) k) = true from decide_eq_true y1)]
def mW (f : Nat → Int) (k : Nat) : Int := (if 500 ≤ f k then 1 else 0) + (if gT f k = true then 0 else if 500 ≤ f k then 1 else 3)
def sW (f : Nat → Int) : Nat → Nat → Int
  | 0, _ => 0
  | d + 1, k => mW f k + sW f d (k + 1)
theorem sW_s {f : Nat → Int} {d k : Nat} : sW f (d + 1) k = mW f k + sW f d (k + 1) := rfl
theorem sW_run {σ : Sg} {a d n s e : Nat} (h : Dl σ a d n) (hs : s < e) (he : e ≤ n) (hT : ∀ k, s < k → k < e → gT (σ (a + 1)) k = true) (w : Nat) : ∀ j, j + 1 + s ≤ e → sW (σ (a + 1)) (w + j) (e - j) = (if σ (a + 1) s < 500 then 0 else (j : Int)) + sW (σ (a + 1)) w e ∧ (σ (a + 1) s < 500 ↔ σ (a + 1) (e - j - 1) < 500) ∨ ¬ (∀ k, s < k → k < e → (σ (a + 1) s < 500 ↔ σ (a + 1) k < 500)) := by
  intro j hj
  by_cases hall : ∀ k, s < k → k < e → (σ (a + 1) s < 500 ↔ σ (a + 1) k < 500)
  · left
    refine ⟨?_, ?_⟩
    · clear hs
      induction j with
      | zero =>
        split <;> simp
      | succ j ih =>
        have ih := ih (by omega)
        rw [show w + (j + 1) = (w + j) + 1 by omega, sW_s, show e - (j + 1) + 1 = e - j by omega, ih]
        have hk := hall (e - (j + 1)) (by omega) (by omega)
        unfold mW
        rw [if_pos (hT (e - (j + 1)) (by omega) (by omega))]
        by_cases q : σ (a + 1) s < 500
        · rw [if_pos q, if_pos q, if_neg (by omega)]
          omega
        · rw [if_neg q, if_neg q, if_pos (by omega)]
          omega
    · by_cases hz : e - j - 1 = s
      · rw [hz]
      · exact hall _ (by omega) (by omega)
  · exact Or.inr hall
theorem run_kind {σ : Sg} {a d n s e : Nat} (h : Dl σ a d n) (he : e ≤ n) (hT : ∀ k, s < k → k < e → gT (σ (a + 1)) k = true) : ∀ k, s < k → k < e → (σ (a + 1) s < 500 ↔ σ (a + 1) k < 500) := by
  intro k
  induction k with
  | zero => intro h1; omega
  | succ k ih =>
    intro h1 h2
    have hk := gT_kind h (k := k + 1) (by omega) (hT _ h1 h2)
    rw [Nat.add_sub_cancel] at hk
    by_cases hz : s = k
    · rw [hz]; exact hk
    · exact (ih (by omega) (by omega)).trans hk
theorem sW_step {σ : Sg} {a d n s e : Nat} (h : Dl σ a d n) (hs : s < e) (he : e ≤ n) (h0 : gT (σ (a + 1)) s = false) (hT : ∀ k, s < k → k < e → gT (σ (a + 1)) k = true) : sW (σ (a + 1)) (n - s) s = (if σ (a + 1) s < 500 then 3 else 1 + ((e : Int) - s)) + sW (σ (a + 1)) (n - e) e := by
  rcases sW_run h hs he hT (n - e) (e - s - 1) (by omega) with ⟨q, -⟩ | q
  · rw [show n - s = (n - e + (e - s - 1)) + 1 by omega, sW_s, show s + 1 = e - (e - s - 1) by omega, q]
    unfold mW
    rw [h0, if_neg (show ¬ false = true by decide)]
    by_cases z : σ (a + 1) s < 500
    · rw [if_pos z, if_pos z, if_neg (by omega), if_neg (by omega)]
      omega
    · rw [if_neg z, if_neg z, if_pos (by omega), if_pos (by omega)]
      omega
  · exact absurd (run_kind h he hT) q
theorem l47 {σ : Sg} {a d n : Nat} (h : Dl σ a d n) {d0 : Option AV} : ∀ (w s : Nat) (acc : Int) (d4 : Option AV), n - s ≤ w → s ≤ n → (s = n ∨ gT (σ (a + 1)) s = false) → 0 ≤ acc ∧ acc ≤ 3 * s → C47_4 d0 a acc s d4 σ (rI (acc + sW (σ (a + 1)) (n - s) s) σ) := by
  have h3 := h.2.2.1
  have h4 := h.2.2.2.1
  intro w
  induction w with
  | zero =>
    intro s acc d4 q1 q2 q3 q4
    refine b47_4 h.1 ⟨_, _, d146 h.1, ?_⟩
    rw [if_neg (by omega), show n - s = 0 by omega]
    unfold sW
    rw [Int.add_zero]
  | succ w ih =>
    intro s acc d4 q1 q2 q3 q4
    by_cases hs : s < n
    · rcases q3 with q3 | q3
      · omega
      obtain ⟨e, r1, r2, r3, r4, r5⟩ := d45 h hs
      have hd := d147 (i := (s : Int)) (Dl_w h)
      rw [at_in h3 hs] at hd
      refine b47_4 h.1 ⟨_, _, d146 h.1, ?_⟩
      rw [if_pos (by omega)]
      refine ⟨_, _, r5, _, _, hd, _, _, d41, ?_⟩
      rw [sW_step h r1 r2 q3 r3, ← Int.add_assoc]
      by_cases z : σ (a + 1) s < 500
      · rw [if_pos z, if_pos z, if_neg (show ¬ (1 : Int) = 0 by decide)]
        exact ⟨fun q => absurd q (by decide), fun q => absurd q (by decide), b47_41 ⟨by omega, ih e _ _ (by omega) r2 r4 (by omega)⟩⟩
      · rw [if_neg z, if_neg z, if_pos rfl]
        refine ⟨fun q => by omega, fun q => by omega, b47_41 ⟨by omega, ?_⟩⟩
        have g := ih e (acc + (1 + ((e : Int) - s))) (some (vI e)) (by omega) r2 r4 (by omega)
        rw [show (1 : Int) + (e : Int) - (s : Int) = 1 + ((e : Int) - s) by omega]
        exact g
    · refine b47_4 h.1 ⟨_, _, d146 h.1, ?_⟩
      rw [if_neg (by omega), show n - s = 0 by omega]
      unfold sW
      rw [Int.add_zero]
theorem l387 {σ : Sg} {a d n : Nat} (h : Dl σ a d n) : ∀ (w k : Nat) (acc : Int) (d4 : Option AV), k + w = n → 0 ≤ acc ∧ acc ≤ 3 * k → C387_26 d acc k d4 σ (rI (acc + sW (σ (a + 1)) w k) σ) := by
  have h4 := h.2.2.2.1
  have h5 := h.2.2.2.2.1
  have h6 := h.2.2.2.2.2.1
  intro w
  induction w with
  | zero =>
    intro k acc d4 q1 q2
    refine b387_26 ⟨by omega, ?_⟩
    rw [show ((d : Int)).toNat = d by omega, if_neg (by omega)]
    unfold sW
    rw [Int.add_zero]
  | succ w ih =>
    intro k acc d4 q1 q2
    refine b387_26 ⟨by omega, ?_⟩
    rw [show ((d : Int)).toNat = d by omega, if_pos (by omega), show ((40 * (d : Int)) + (k : Int)).toNat = 40 * d + k by omega]
    refine ⟨by omega, by omega, by omega, b387_58 (b387_71 ⟨_, _, d386 h (by omega), b387_94 ?_⟩)⟩
    have e := h.2.2.2.2.2.2 k (by omega)
    have hk := ih (k + 1) (acc + mW (σ (a + 1)) k)
    rw [sW_s]
    have key : (if (if 1000 ≤ σ 725 (40 * d + k) then (1 : Int) else 0) = 0 then (0 : Int) else 1) + (if (if gT (σ (a + 1)) k = true then (1 : Int) else 0) = 0 then (if (if 1000 ≤ σ 725 (40 * d + k) then (1 : Int) else 0) = 0 then 3 else 1) else 0) = mW (σ (a + 1)) k := by
      unfold mW
      have e9 : (1000 ≤ σ 725 (40 * d + k)) ↔ (500 ≤ σ (a + 1) k) := by
        rcases e with ⟨z1, z2, z3⟩ | ⟨z1, z2, z3⟩ <;> omega
      by_cases z : 500 ≤ σ (a + 1) k
      · have z' := e9.mpr z
        by_cases y : gT (σ (a + 1)) k = true
        · simp [z, z', y]
        · simp [z, z', y]
      · have z' : ¬ 1000 ≤ σ 725 (40 * d + k) := fun q => z (e9.mp q)
        by_cases y : gT (σ (a + 1)) k = true
        · simp [z, z', y]
        · simp [z, z', y]
    have hb : 0 ≤ mW (σ (a + 1)) k ∧ mW (σ (a + 1)) k ≤ 3 := by
      unfold mW
      split <;> split <;> (try split) <;> omega
    rw [key]
    refine ⟨by omega, by omega, by omega, ?_⟩
    rw [show (k : Int) + 1 = ((k + 1 : Nat) : Int) by omega, show acc + (mW (σ (a + 1)) k + sW (σ (a + 1)) w (k + 1)) = acc + mW (σ (a + 1)) k + sW (σ (a + 1)) w (k + 1) from (Int.add_assoc _ _ _).symm]
    exact hk _ (by omega) (by omega)
theorem o52 {σ : Sg} {c a1 : Int} (H : Rel c σ) : OpR 440 387 [vA 0, vI a1, vA 726] [vA 682, vI a1] σ (c + 1) := by
  by_cases g1 : a1 < 0
  · exact x52_0 H g1
  by_cases g2 : σ 658 1 ≤ a1
  · exact x52_1 H g2
  have k1 : 0 ≤ a1 ∧ a1 < σ 658 1 := by omega
  have hn := (rel_n H).2.2.2.2
  have hD := rel_d H k1
  generalize hnn : (σ (660 + 2 * a1.toNat) 1).toNat = n at hD
  have hF : Dd 224 [vA 0, vI a1] σ (rI (sW (σ (660 + 2 * a1.toNat + 1)) n 0) σ) := by
    refine b224 (Or.inl ⟨_, _, d229_ok H k1, hD.1, _, _, b47 ?_, rfl⟩)
    have e := l47 hD (d0 := some (vA 658)) n 0 0 none (by omega) (by omega) (by
      right
      unfold gT
      rfl) (by omega)
    rw [Int.zero_add, Nat.sub_zero] at e
    exact e
  have hA := b440 (Or.inl ⟨_, _, hF, rfl⟩)
  generalize hv : sW (σ (660 + 2 * a1.toNat + 1)) n 0 = v at hA
  have H2 : Rel c (upS (upS σ 726 0 v) 682 0 0) := Rel_0 (Int.le_refl c) (fun c k hc => by unfold upS; rw [if_neg (by omega), if_neg (by omega)]) H
  have f : ∀ a k, ¬ a = 726 → ¬ a = 682 → upS (upS σ 726 0 v) 682 0 0 a k = σ a k := fun a k h1 h2 => by rw [up_a h2, up_a h1]
  have hD2 : Dl (upS (upS σ 726 0 v) 682 0 0) (660 + 2 * a1.toNat) a1.toNat n := by
    obtain ⟨h1, h2, h3, h4, h5, h6, h7⟩ := hD
    refine ⟨h1, h2, by rw [f _ _ (by omega) (by omega)]; exact h3, h4, h5, by rw [f _ _ (by omega) (by omega)]; exact h6, fun k hk => ?_⟩
    rw [f _ _ (by omega) (by omega), f _ _ (by omega) (by omega)]
    exact h7 k hk
  refine op_q2 H hA (v2 := v) (b387 ⟨_, _, d383_ok (by rw [up_a (by decide)]; omega), ?_⟩) rfl
  rw [if_neg (show ¬ (1 : Int) = 0 by decide)]
  refine b387_14 ⟨_, _, d245, ?_⟩
  rw [if_pos rfl, if_neg (show ¬ (1 : Int) = 0 by decide)]
  have e := l387 hD2 n 0 0 none (by omega) (by omega)
  rw [Int.zero_add] at e
  have ef : (upS (upS σ 726 0 v) 682 0 0) (660 + 2 * a1.toNat + 1) = σ (660 + 2 * a1.toNat + 1) := funext (fun k => f _ _ (by omega) (by omega))
  rw [ef, hv, show ((a1.toNat : Nat) : Int) = a1 by omega] at e
  exact e
end
