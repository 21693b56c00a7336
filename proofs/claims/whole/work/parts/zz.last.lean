-- DRAFT 63.bytes.lean
/-! Deltas: what both sides say of the codes of one. -/
noncomputable section
def cdR (f s : Int) : Prop := (0 ≤ f ∧ f < 40 ∧ s = f) ∨ (500 ≤ f ∧ f ≤ 755 ∧ s = f + 500)
/-- a row of codes, and the place of the delta on the other side -/
def Dl (σ : Sg) (a d n : Nat) : Prop := isRow a = true ∧ cap a = 40 ∧ σ a 1 = (n : Nat) ∧ n ≤ 40 ∧ d < 10 ∧ σ 724 d = (n : Nat) ∧ ∀ k : Nat, k < n → cdR (σ (a + 1) k) (σ 725 (40 * d + k))
theorem rel_d {σ : Sg} {c d : Int} (H : Rel c σ) (hd : 0 ≤ d ∧ d < σ 658 1) : Dl σ (660 + 2 * d.toNat) d.toNat (σ (660 + 2 * d.toNat) 1).toNat := by
  have hn := (rel_n H).2.2.2.2
  obtain ⟨g1, g2, g3, g4⟩ := H.2.2.2.2.2.2.2.2
  obtain ⟨e1, e2⟩ := g4 d.toNat (by omega)
  have hr := (el_659 (i := d) (by omega)).2
  have hc := cp_659 (i := d) (by omega)
  have w := H.1 _ hr
  refine ⟨hr, by omega, by omega, by omega, by omega, by omega, fun k hk => ?_⟩
  rcases e2 k (by omega) with ⟨q1, q2, q3⟩ | ⟨q1, q2, q3⟩
  · exact Or.inl ⟨q1, q2, q3⟩
  · exact Or.inr ⟨q1, q2, q3⟩
theorem Dl_w {σ : Sg} {a d n : Nat} (h : Dl σ a d n) : wR σ a := by
  obtain ⟨h1, h2, h3, h4, -⟩ := h
  exact ⟨h1, by omega, by omega⟩
theorem at_in {σ : Sg} {a n k : Nat} (h : σ a 1 = (n : Nat)) (hk : k < n) : atS σ a (k : Int) = σ (a + 1) k := by
  unfold atS
  rw [if_pos ⟨by omega, by omega⟩]
  rfl
theorem d229_ok {σ : Sg} {c d : Int} (H : Rel c σ) (hd : 0 ≤ d ∧ d < σ 658 1) : Dd 229 [vA 0, vI d] σ (rA (660 + 2 * d.toNat) σ) := by
  have hn := (rel_n H).2.2.2.2
  have he := el_659 (i := d) (by omega)
  refine b229 ⟨_, _, b35 (by rw [if_pos hd.2]; exact ⟨_, _, d145_ok (n := 10) (by decide +kernel) (by decide) (by omega) he.1 he.2, rfl⟩), fun h => (by cases h), fun a h => ?_⟩
  cases h
  exact ⟨he.2, rfl⟩
theorem d383_ok {σ : Sg} {d : Int} (hd : 0 ≤ d ∧ d < σ 682 58) : Dd 383 [vA 682, vI d] σ (rI 1 σ) := by
  have e := d246 (x := d) (n := σ 682 58) (σ := σ)
  rw [if_pos hd] at e
  exact b383 ⟨_, _, e, Or.inr rfl, rfl⟩
theorem d41 {x : Int} {σ : Sg} : Dd 41 [vI x] σ (rI (if x < 500 then 1 else 0) σ) := b41 rfl
def tog (a b : Int) : Bool := if a < 500 then decide (b = a + 1) else decide (500 ≤ b)
theorem d46 {a b : Int} {σ : Sg} (h : -1 ≤ a ∧ a ≤ 1000) : Dd 46 [vI a, vI b] σ (rI (if tog a b = true then 1 else 0) σ) := by
  refine b46 ⟨_, _, d41, ?_⟩
  unfold tog
  by_cases h1 : a < 500
  · rw [if_pos h1, if_neg (by decide), if_pos h1]
    refine ⟨by omega, ?_⟩
    by_cases h2 : b = a + 1
    · rw [if_pos h2, if_pos (by simpa using h2)]
    · rw [if_neg h2, if_neg (by simpa using h2)]
  · rw [if_neg h1, if_pos rfl, if_neg h1]
    refine ⟨_, _, d41, ?_⟩
    by_cases h2 : b < 500
    · rw [if_pos h2, if_neg (show ¬ (1 : Int) = 0 by decide), if_neg (show ¬ decide (500 ≤ b) = true from fun q => by have := of_decide_eq_true q; omega)]
    · rw [if_neg h2, if_pos (show (0 : Int) = 0 from rfl), if_pos (show decide (500 ≤ b) = true from decide_eq_true (by omega))]
/-- a code goes on in the step of the one ahead of it -/
def gT (f : Nat → Int) (k : Nat) : Bool := decide (0 < k) && tog (f (k - 1)) (f k)
theorem l45 {σ : Sg} {a d n s : Nat} (h : Dl σ a d n) {d1 : Option AV} : ∀ (w e0 : Nat), e0 + w = n → s < e0 → (∀ k, s < k → k < e0 → gT (σ (a + 1)) k = true) → ∃ e : Nat, s < e ∧ e ≤ n ∧ (∀ k, s < k → k < e → gT (σ (a + 1)) k = true) ∧ (e = n ∨ gT (σ (a + 1)) e = false) ∧ C45_4 a d1 e0 σ (rI e σ) := by
  have hw := Dl_w h
  obtain ⟨h1, h2, h3, h4, h5, h6, h7⟩ := h
  intro w
  induction w with
  | zero =>
    intro e0 q1 q2 q3
    refine ⟨e0, q2, by omega, q3, Or.inl (by omega), b45_4 h1 ⟨_, _, d146 h1, ?_⟩⟩
    rw [if_neg (by omega)]
  | succ w ih =>
    intro e0 q1 q2 q3
    have v1 := at_in (k := e0 - 1) h3 (by omega)
    have v2 := at_in (k := e0) h3 (by omega)
    have c1 := h7 (e0 - 1) (by omega)
    have hd1 := d147 (i := (e0 : Int) - 1) hw
    rw [show (e0 : Int) - 1 = ((e0 - 1 : Nat) : Int) by omega, v1] at hd1
    have hd2 := d147 (i := (e0 : Int)) hw
    rw [v2] at hd2
    have hb : -1 ≤ σ (a + 1) (e0 - 1) ∧ σ (a + 1) (e0 - 1) ≤ 1000 := by
      rcases c1 with ⟨z1, z2, -⟩ | ⟨z1, z2, -⟩ <;> omega
    have hg : gT (σ (a + 1)) e0 = tog (σ (a + 1) (e0 - 1)) (σ (a + 1) e0) := by
      unfold gT
      rw [decide_eq_true (show 0 < e0 by omega), Bool.true_and]
    by_cases ht : tog (σ (a + 1) (e0 - 1)) (σ (a + 1) e0) = true
    · obtain ⟨e, r1, r2, r3, r4, r5⟩ := ih (e0 + 1) (by omega) (by omega) (fun k hk hk2 => by
        by_cases hk3 : k < e0
        · exact q3 k hk hk3
        · rw [show k = e0 by omega, hg]; exact ht)
      refine ⟨e, r1, r2, r3, r4, b45_4 h1 ⟨_, _, d146 h1, ?_⟩⟩
      rw [if_pos (by omega)]
      refine ⟨by omega, _, _, by rw [show (e0 : Int) - 1 = ((e0 - 1 : Nat) : Int) by omega]; exact hd1, _, _, hd2, _, _, d46 hb, ?_⟩
      rw [if_pos ht, if_neg (by decide)]
      refine ⟨by omega, ?_⟩
      rw [show (e0 : Int) + 1 = ((e0 + 1 : Nat) : Int) by omega]
      exact r5
    · refine ⟨e0, q2, by omega, q3, Or.inr (by rw [hg]; simpa using ht), b45_4 h1 ⟨_, _, d146 h1, ?_⟩⟩
      rw [if_pos (by omega)]
      refine ⟨by omega, _, _, by rw [show (e0 : Int) - 1 = ((e0 - 1 : Nat) : Int) by omega]; exact hd1, _, _, hd2, _, _, d46 hb, ?_⟩
      rw [if_neg ht, if_pos rfl]
/-- where a step ends -/
theorem d45 {σ : Sg} {a d n s : Nat} (h : Dl σ a d n) (hs : s < n) : ∃ e : Nat, s < e ∧ e ≤ n ∧ (∀ k, s < k → k < e → gT (σ (a + 1)) k = true) ∧ (e = n ∨ gT (σ (a + 1)) e = false) ∧ Dd 45 [vA a, vI s] σ (rI e σ) := by
  obtain ⟨e, r1, r2, r3, r4, r5⟩ := l45 h (d1 := some (vI s)) (s := s) (n - (s + 1)) (s + 1) (by omega) (by omega) (fun k h1 h2 => by omega)
  have h4 := h.2.2.2.1
  refine ⟨e, r1, r2, r3, r4, b45 ⟨by omega, ?_⟩⟩
  rw [show (s : Int) + 1 = ((s + 1 : Nat) : Int) by omega]
  exact r5
theorem gT_kind {σ : Sg} {a d n k : Nat} (h : Dl σ a d n) (hk : k < n) (ht : gT (σ (a + 1)) k = true) : (σ (a + 1) (k - 1) < 500 ↔ σ (a + 1) k < 500) := by
  obtain ⟨h1, h2, h3, h4, h5, h6, h7⟩ := h
  have c1 := h7 (k - 1) (by omega)
  have c2 := h7 k hk
  unfold gT tog at ht
  rw [Bool.and_eq_true] at ht
  have ht := ht.2
  rcases c1 with ⟨z1, z2, -⟩ | ⟨z1, z2, -⟩
  · rw [if_pos (by omega)] at ht
    have ht := of_decide_eq_true ht
    omega
  · rw [if_neg (by omega)] at ht
    have ht := of_decide_eq_true ht
    omega
/-- goesOn -/
theorem d386 {σ : Sg} {a d n k : Nat} (h : Dl σ a d n) (hk : k < n) : Dd 386 [vA 682, vI d, vI k] σ (rI (if gT (σ (a + 1)) k = true then 1 else 0) σ) := by
  obtain ⟨h1, h2, h3, h4, h5, h6, h7⟩ := h
  have c2 := h7 k hk
  have e1 : (((40 * (d : Int)) + (k : Int))).toNat = 40 * d + k := by omega
  by_cases h0 : k = 0
  · refine b386 ⟨by omega, by omega, by omega, by omega, by omega, by omega, by omega, fun q => absurd (by omega) q, ?_⟩
    rw [if_pos (show (k : Int) = 0 by omega)]
    unfold gT
    rw [decide_eq_false (show ¬ 0 < k by omega), Bool.false_and, if_neg (by decide)]
  · have c1 := h7 (k - 1) (by omega)
    have e2 : ((((40 * (d : Int)) + (k : Int)) - 1)).toNat = 40 * d + (k - 1) := by omega
    refine b386 ⟨by omega, by omega, by omega, by omega, by omega, by omega, by omega, fun _ _ => ?_, ?_⟩
    · rw [e2]
      rcases c1 with ⟨z1, z2, z3⟩ | ⟨z1, z2, z3⟩ <;> omega
    · rw [if_neg (show ¬ (k : Int) = 0 by omega), e1, e2]
      unfold gT tog
      rw [decide_eq_true (show 0 < k by omega), Bool.true_and]
      rcases c1 with ⟨z1, z2, z3⟩ | ⟨z1, z2, z3⟩
      · rw [if_pos (show σ (a + 1) (k - 1) < 500 by omega)]
        rcases c2 with ⟨y1, y2, y3⟩ | ⟨y1, y2, y3⟩
        · rw [if_neg (show ¬ 1000 ≤ σ 725 (40 * d + k) by omega), y3, z3]
          by_cases q : σ (a + 1) k = σ (a + 1) (k - 1) + 1
          · rw [if_pos q, if_pos (show decide (σ (a + 1) k = σ (a + 1) (k - 1) + 1) = true from decide_eq_true q)]
          · rw [if_neg q, if_neg (show ¬ decide (σ (a + 1) k = σ (a + 1) (k - 1) + 1) = true from fun e => q (of_decide_eq_true e))]
        · rw [if_pos (show 1000 ≤ σ 725 (40 * d + k) by omega), if_neg (show ¬ 1000 ≤ σ 725 (40 * d + (k - 1)) by omega), if_neg (show ¬ decide (σ (a + 1) k = σ (a + 1) (k - 1) + 1) = true from fun e => by have := of_decide_eq_true e; omega)]
      · rw [if_neg (show ¬ σ (a + 1) (k - 1) < 500 by omega)]
        rcases c2 with ⟨y1, y2, y3⟩ | ⟨y1, y2, y3⟩
        · rw [if_neg (show ¬ 1000 ≤ σ 725 (40 * d + k) by omega), if_neg (show ¬ σ 725 (40 * d + k) = σ 725 (40 * d + (k - 1)) + 1 by omega), if_neg (show ¬ decide (500 ≤ σ (a + 1) k) = true from fun e => by have := of_decide_eq_true e; omega)]
        · rw [if_pos (show 1000 ≤ σ 725 (40 * d + k) by omega), if_pos (show 1000 ≤ σ 725 (40 * d + (k - 1)) by omega), if_pos (show decide (500 ≤ σ (a + 1) k) = true from decide_eq_true y1)]
def mW (f : Nat → Int) (k : Nat) : Int := (if 500 ≤ f k then 1 else 0) + (if gT f k = true then 0 else if 500 ≤ f k then 1 else 3)
def sW (f : Nat → Int) : Nat → Nat → Int
  | 0, _ => 0
  | d + 1, k => mW f k + sW f d (k + 1)
theorem sW_s {f : Nat → Int} {d k : Nat} : sW f (d + 1) k = mW f k + sW f d (k + 1) := rfl
theorem sW_run {σ : Sg} {a d n s e : Nat} (h : Dl σ a d n) (hs : s < e) (he : e ≤ n) (hT : ∀ k, s < k → k < e → gT (σ (a + 1)) k = true) (w : Nat) : ∀ j, j + 1 + s ≤ e → sW (σ (a + 1)) (w + j) (e - j) = (if σ (a + 1) s < 500 then 0 else (j : Int)) + sW (σ (a + 1)) w e ∧ (σ (a + 1) s < 500 ↔ σ (a + 1) (e - j - 1) < 500) ∨ ¬ (∀ k, s < k → k < e → (σ (a + 1) s < 500 ↔ σ (a + 1) k < 500)) := by
  intro j hj
  by_cases hall : ∀ k, s < k → k < e → (σ (a + 1) s < 500 ↔ σ (a + 1) k < 500)
  · left
    refine ⟨?_, ?_⟩
    · clear hs
      induction j with
      | zero =>
        split <;> simp
      | succ j ih =>
        have ih := ih (by omega)
        rw [show w + (j + 1) = (w + j) + 1 by omega, sW_s, show e - (j + 1) + 1 = e - j by omega, ih]
        have hk := hall (e - (j + 1)) (by omega) (by omega)
        unfold mW
        rw [if_pos (hT (e - (j + 1)) (by omega) (by omega))]
        by_cases q : σ (a + 1) s < 500
        · rw [if_pos q, if_pos q, if_neg (by omega)]
          omega
        · rw [if_neg q, if_neg q, if_pos (by omega)]
          omega
    · by_cases hz : e - j - 1 = s
      · rw [hz]
      · exact hall _ (by omega) (by omega)
  · exact Or.inr hall
theorem run_kind {σ : Sg} {a d n s e : Nat} (h : Dl σ a d n) (he : e ≤ n) (hT : ∀ k, s < k → k < e → gT (σ (a + 1)) k = true) : ∀ k, s < k → k < e → (σ (a + 1) s < 500 ↔ σ (a + 1) k < 500) := by
  intro k
  induction k with
  | zero => intro h1; omega
  | succ k ih =>
    intro h1 h2
    have hk := gT_kind h (k := k + 1) (by omega) (hT _ h1 h2)
    rw [Nat.add_sub_cancel] at hk
    by_cases hz : s = k
    · rw [hz]; exact hk
    · exact (ih (by omega) (by omega)).trans hk
theorem sW_step {σ : Sg} {a d n s e : Nat} (h : Dl σ a d n) (hs : s < e) (he : e ≤ n) (h0 : gT (σ (a + 1)) s = false) (hT : ∀ k, s < k → k < e → gT (σ (a + 1)) k = true) : sW (σ (a + 1)) (n - s) s = (if σ (a + 1) s < 500 then 3 else 1 + ((e : Int) - s)) + sW (σ (a + 1)) (n - e) e := by
  rcases sW_run h hs he hT (n - e) (e - s - 1) (by omega) with ⟨q, -⟩ | q
  · rw [show n - s = (n - e + (e - s - 1)) + 1 by omega, sW_s, show s + 1 = e - (e - s - 1) by omega, q]
    unfold mW
    rw [h0, if_neg (show ¬ false = true by decide)]
    by_cases z : σ (a + 1) s < 500
    · rw [if_pos z, if_pos z, if_neg (by omega), if_neg (by omega)]
      omega
    · rw [if_neg z, if_neg z, if_pos (by omega), if_pos (by omega)]
      omega
  · exact absurd (run_kind h he hT) q
theorem l47 {σ : Sg} {a d n : Nat} (h : Dl σ a d n) {d0 : Option AV} : ∀ (w s : Nat) (acc : Int) (d4 : Option AV), n - s ≤ w → s ≤ n → (s = n ∨ gT (σ (a + 1)) s = false) → 0 ≤ acc ∧ acc ≤ 3 * s → C47_4 d0 a acc s d4 σ (rI (acc + sW (σ (a + 1)) (n - s) s) σ) := by
  have h3 := h.2.2.1
  have h4 := h.2.2.2.1
  intro w
  induction w with
  | zero =>
    intro s acc d4 q1 q2 q3 q4
    refine b47_4 h.1 ⟨_, _, d146 h.1, ?_⟩
    rw [if_neg (by omega), show n - s = 0 by omega]
    unfold sW
    rw [Int.add_zero]
  | succ w ih =>
    intro s acc d4 q1 q2 q3 q4
    by_cases hs : s < n
    · rcases q3 with q3 | q3
      · omega
      obtain ⟨e, r1, r2, r3, r4, r5⟩ := d45 h hs
      have hd := d147 (i := (s : Int)) (Dl_w h)
      rw [at_in h3 hs] at hd
      refine b47_4 h.1 ⟨_, _, d146 h.1, ?_⟩
      rw [if_pos (by omega)]
      refine ⟨_, _, r5, _, _, hd, _, _, d41, ?_⟩
      rw [sW_step h r1 r2 q3 r3, ← Int.add_assoc]
      by_cases z : σ (a + 1) s < 500
      · rw [if_pos z, if_pos z, if_neg (show ¬ (1 : Int) = 0 by decide)]
        exact ⟨fun q => absurd q (by decide), fun q => absurd q (by decide), b47_41 ⟨by omega, ih e _ _ (by omega) r2 r4 (by omega)⟩⟩
      · rw [if_neg z, if_neg z, if_pos rfl]
        refine ⟨fun q => by omega, fun q => by omega, b47_41 ⟨by omega, ?_⟩⟩
        have g := ih e (acc + (1 + ((e : Int) - s))) (some (vI e)) (by omega) r2 r4 (by omega)
        rw [show (1 : Int) + (e : Int) - (s : Int) = 1 + ((e : Int) - s) by omega]
        exact g
    · refine b47_4 h.1 ⟨_, _, d146 h.1, ?_⟩
      rw [if_neg (by omega), show n - s = 0 by omega]
      unfold sW
      rw [Int.add_zero]
theorem l387 {σ : Sg} {a d n : Nat} (h : Dl σ a d n) : ∀ (w k : Nat) (acc : Int) (d4 : Option AV), k + w = n → 0 ≤ acc ∧ acc ≤ 3 * k → C387_26 d acc k d4 σ (rI (acc + sW (σ (a + 1)) w k) σ) := by
  have h4 := h.2.2.2.1
  have h5 := h.2.2.2.2.1
  have h6 := h.2.2.2.2.2.1
  intro w
  induction w with
  | zero =>
    intro k acc d4 q1 q2
    refine b387_26 ⟨by omega, ?_⟩
    rw [show ((d : Int)).toNat = d by omega, if_neg (by omega)]
    unfold sW
    rw [Int.add_zero]
  | succ w ih =>
    intro k acc d4 q1 q2
    refine b387_26 ⟨by omega, ?_⟩
    rw [show ((d : Int)).toNat = d by omega, if_pos (by omega), show ((40 * (d : Int)) + (k : Int)).toNat = 40 * d + k by omega]
    refine ⟨by omega, by omega, by omega, b387_58 (b387_71 ⟨_, _, d386 h (by omega), b387_94 ?_⟩)⟩
    have e := h.2.2.2.2.2.2 k (by omega)
    have hk := ih (k + 1) (acc + mW (σ (a + 1)) k)
    rw [sW_s]
    have key : (if (if 1000 ≤ σ 725 (40 * d + k) then (1 : Int) else 0) = 0 then (0 : Int) else 1) + (if (if gT (σ (a + 1)) k = true then (1 : Int) else 0) = 0 then (if (if 1000 ≤ σ 725 (40 * d + k) then (1 : Int) else 0) = 0 then 3 else 1) else 0) = mW (σ (a + 1)) k := by
      unfold mW
      have e9 : (1000 ≤ σ 725 (40 * d + k)) ↔ (500 ≤ σ (a + 1) k) := by
        rcases e with ⟨z1, z2, z3⟩ | ⟨z1, z2, z3⟩ <;> omega
      by_cases z : 500 ≤ σ (a + 1) k
      · have z' := e9.mpr z
        by_cases y : gT (σ (a + 1)) k = true
        · simp [z, z', y]
        · simp [z, z', y]
      · have z' : ¬ 1000 ≤ σ 725 (40 * d + k) := fun q => z (e9.mp q)
        by_cases y : gT (σ (a + 1)) k = true
        · simp [z, z', y]
        · simp [z, z', y]
    have hb : 0 ≤ mW (σ (a + 1)) k ∧ mW (σ (a + 1)) k ≤ 3 := by
      unfold mW
      split <;> split <;> (try split) <;> omega
    rw [key]
    refine ⟨by omega, by omega, by omega, ?_⟩
    rw [show (k : Int) + 1 = ((k + 1 : Nat) : Int) by omega, show acc + (mW (σ (a + 1)) k + sW (σ (a + 1)) w (k + 1)) = acc + mW (σ (a + 1)) k + sW (σ (a + 1)) w (k + 1) from (Int.add_assoc _ _ _).symm]
    exact hk _ (by omega) (by omega)
theorem o52 {σ : Sg} {c a1 : Int} (H : Rel c σ) : OpR 440 387 [vA 0, vI a1, vA 726] [vA 682, vI a1] σ (c + 1) := by
  by_cases g1 : a1 < 0
  · exact x52_0 H g1
  by_cases g2 : σ 658 1 ≤ a1
  · exact x52_1 H g2
  have k1 : 0 ≤ a1 ∧ a1 < σ 658 1 := by omega
  have hn := (rel_n H).2.2.2.2
  have hD := rel_d H k1
  generalize hnn : (σ (660 + 2 * a1.toNat) 1).toNat = n at hD
  have hF : Dd 224 [vA 0, vI a1] σ (rI (sW (σ (660 + 2 * a1.toNat + 1)) n 0) σ) := by
    refine b224 (Or.inl ⟨_, _, d229_ok H k1, hD.1, _, _, b47 ?_, rfl⟩)
    have e := l47 hD (d0 := some (vA 658)) n 0 0 none (by omega) (by omega) (by
      right
      unfold gT
      rfl) (by omega)
    rw [Int.zero_add, Nat.sub_zero] at e
    exact e
  have hA := b440 (Or.inl ⟨_, _, hF, rfl⟩)
  generalize hv : sW (σ (660 + 2 * a1.toNat + 1)) n 0 = v at hA
  have H2 : Rel c (upS (upS σ 726 0 v) 682 0 0) := Rel_0 (Int.le_refl c) (fun c k hc => by unfold upS; rw [if_neg (by omega), if_neg (by omega)]) H
  have f : ∀ a k, ¬ a = 726 → ¬ a = 682 → upS (upS σ 726 0 v) 682 0 0 a k = σ a k := fun a k h1 h2 => by rw [up_a h2, up_a h1]
  have hD2 : Dl (upS (upS σ 726 0 v) 682 0 0) (660 + 2 * a1.toNat) a1.toNat n := by
    obtain ⟨h1, h2, h3, h4, h5, h6, h7⟩ := hD
    refine ⟨h1, h2, by rw [f _ _ (by omega) (by omega)]; exact h3, h4, h5, by rw [f _ _ (by omega) (by omega)]; exact h6, fun k hk => ?_⟩
    rw [f _ _ (by omega) (by omega), f _ _ (by omega) (by omega)]
    exact h7 k hk
  refine op_q2 H hA (v2 := v) (b387 ⟨_, _, d383_ok (by rw [up_a (by decide)]; omega), ?_⟩) rfl
  rw [if_neg (show ¬ (1 : Int) = 0 by decide)]
  refine b387_14 ⟨_, _, d245, ?_⟩
  rw [if_pos rfl, if_neg (show ¬ (1 : Int) = 0 by decide)]
  have e := l387 hD2 n 0 0 none (by omega) (by omega)
  rw [Int.zero_add] at e
  have ef : (upS (upS σ 726 0 v) 682 0 0) (660 + 2 * a1.toNat + 1) = σ (660 + 2 * a1.toNat + 1) := funext (fun k => f _ _ (by omega) (by omega))
  rw [ef, hv, show ((a1.toNat : Nat) : Int) = a1 by omega] at e
  exact e
end
-- DRAFT 64.bytes2.lean
/-! step: on both sides. -/
noncomputable section
/-- the model, inside one step that was asked for or not -/
theorem l388_run {σ : Sg} {a d n : Nat} (h : Dl σ a d n) {o : Rs} {x2 x3 x5 : Int} {e : Nat} (he : e ≤ n) : ∀ (w k : Nat) (x4 : Int), k + w = e → 0 < k → (∀ q, k ≤ q → q < e → gT (σ (a + 1)) q = true) → -1 ≤ x3 ∧ x3 ≤ 100 → 0 ≤ x4 ∧ x4 ≤ k → C388_37 d x2 x3 (x4 + (if x3 = x2 then (w : Int) else 0)) x5 e σ o → C388_37 d x2 x3 x4 x5 k σ o := by
  have h4 := h.2.2.2.1
  have h5 := h.2.2.2.2.1
  have h6 := h.2.2.2.2.2.1
  intro w
  induction w with
  | zero =>
    intro k x4 q1 q2 q3 q4 q5 H
    rw [show k = e by omega]
    have : x4 + (if x3 = x2 then ((0 : Nat) : Int) else 0) = x4 := by split <;> omega
    rw [this] at H
    exact H
  | succ w ih =>
    intro k x4 q1 q2 q3 q4 q5 H
    have hd := d386 h (k := k) (by omega)
    rw [if_pos (q3 k (Nat.le_refl _) (by omega))] at hd
    refine b388_37 ⟨by omega, ?_⟩
    rw [show ((d : Int)).toNat = d by omega, if_pos (by omega)]
    refine ⟨_, _, hd, ?_⟩
    rw [if_neg (show ¬ (1 : Int) = 0 by decide)]
    refine b388_64 ⟨by omega, ?_⟩
    rw [show x3 + 0 = x3 by omega]
    have fin : C388_96 d x2 x3 x4 x5 k σ o := by
      refine b388_96 (b388_98 (b388_112 ⟨?_, by omega, ?_⟩))
      · split <;> omega
      · rw [show (k : Int) + 1 = ((k + 1 : Nat) : Int) by omega]
        refine ih (k + 1) _ (by omega) (by omega) (fun q z1 z2 => q3 q (by omega) z2) q4 (by split <;> omega) ?_
        have : x4 + (if x3 = x2 then (1 : Int) else 0) + (if x3 = x2 then ((w : Nat) : Int) else 0) = x4 + (if x3 = x2 then ((w + 1 : Nat) : Int) else 0) := by
          split <;> omega
        rw [this]
        exact H
    by_cases z : x3 = x2
    · rw [if_pos z]
      refine ⟨_, _, hd, ?_⟩
      rw [if_neg (show ¬ (1 : Int) = 0 by decide)]
      exact fin
    · rw [if_neg z]; exact fin
/-- the model, at the first byte of a step -/
theorem l388_first {σ : Sg} {a d n : Nat} (h : Dl σ a d n) {o : Rs} {x2 x3 x4 x5 : Int} {k : Nat} (hk : k < n) (h0 : gT (σ (a + 1)) k = false) (q4 : -1 ≤ x3 ∧ x3 ≤ 100) (q5 : 0 ≤ x4 ∧ x4 ≤ k) (H : C388_37 d x2 (x3 + 1) (x4 + (if x3 + 1 = x2 then 1 else 0)) (if x3 + 1 = x2 then σ 725 (40 * d + k) else x5) ((k + 1 : Nat) : Int) σ o) : C388_37 d x2 x3 x4 x5 k σ o := by
  have h4 := h.2.2.2.1
  have h5 := h.2.2.2.2.1
  have h6 := h.2.2.2.2.2.1
  have hd := d386 h (k := k) hk
  rw [h0, if_neg (show ¬ false = true by decide)] at hd
  refine b388_37 ⟨by omega, ?_⟩
  rw [show ((d : Int)).toNat = d by omega, if_pos (by omega)]
  refine ⟨_, _, hd, ?_⟩
  rw [if_pos rfl]
  refine b388_64 ⟨by omega, ?_⟩
  by_cases z : x3 + 1 = x2
  · rw [if_pos z] at H ⊢
    rw [if_pos z] at H
    refine ⟨_, _, hd, ?_⟩
    rw [if_pos rfl, show ((40 * (d : Int)) + (k : Int)).toNat = 40 * d + k by omega]
    refine ⟨by omega, by omega, by omega, b388_98 (b388_112 ⟨?_, by omega, ?_⟩)⟩
    · rw [if_pos z]; omega
    · rw [if_pos z, show (k : Int) + 1 = ((k + 1 : Nat) : Int) by omega]
      exact H
  · rw [if_neg z] at H ⊢
    rw [if_neg z] at H
    refine b388_96 (b388_98 (b388_112 ⟨?_, by omega, ?_⟩))
    · rw [if_neg z]; omega
    · rw [if_neg z, show (k : Int) + 1 = ((k + 1 : Nat) : Int) by omega]
      exact H
/-- behind the step that was asked for nothing is changed -/
theorem l388_past {σ : Sg} {a d n : Nat} (h : Dl σ a d n) {o : Rs} {x2 x4 x5 : Int} : ∀ (w k : Nat) (x3 : Int), k + w = n → x2 < x3 → -1 ≤ x3 ∧ x3 ≤ k → 0 ≤ x4 ∧ x4 ≤ k → (∀ y : Int, C388_37 d x2 y x4 x5 n σ o) → C388_37 d x2 x3 x4 x5 k σ o := by
  have h4 := h.2.2.2.1
  have h5 := h.2.2.2.2.1
  have h6 := h.2.2.2.2.2.1
  intro w
  induction w with
  | zero =>
    intro k x3 q1 q2 q4 q5 H
    rw [show k = n by omega]
    exact H _
  | succ w ih =>
    intro k x3 q1 q2 q4 q5 H
    have hd := d386 h (k := k) (by omega)
    refine b388_37 ⟨by omega, ?_⟩
    rw [show ((d : Int)).toNat = d by omega, if_pos (by omega)]
    refine ⟨_, _, hd, ?_⟩
    have fin : ∀ y : Int, x2 < y → -1 ≤ y ∧ y ≤ k + 1 → C388_96 d x2 y x4 x5 k σ o := by
      intro y hy hy2
      refine b388_96 (b388_98 (b388_112 ⟨?_, by omega, ?_⟩))
      · rw [if_neg (by omega)]; omega
      · rw [if_neg (by omega), show (k : Int) + 1 = ((k + 1 : Nat) : Int) by omega, Int.add_zero]
        exact ih (k + 1) y (by omega) hy (by omega) (by omega) H
    by_cases z : gT (σ (a + 1)) k = true
    · rw [if_pos z, if_neg (show ¬ (1 : Int) = 0 by decide)]
      refine b388_64 ⟨by omega, ?_⟩
      rw [if_neg (by omega)]
      exact fin _ (by omega) (by omega)
    · rw [if_neg z, if_pos rfl]
      refine b388_64 ⟨by omega, ?_⟩
      rw [if_neg (by omega)]
      exact fin _ (by omega) (by omega)
theorem l388_end {σ : Sg} {a d n : Nat} (h : Dl σ a d n) {x2 x3 x4 x5 : Int} (hx : 0 ≤ x4 ∧ x4 ≤ 40) (h5' : 0 ≤ x5 ∧ x5 ≤ 2000) : C388_37 d x2 x3 x4 x5 n σ (rI (if x4 = 0 then -1 else 1000 * x4 + (if 1000 ≤ x5 then x5 - 500 else x5)) σ) := by
  have h4 := h.2.2.2.1
  have h5 := h.2.2.2.2.1
  have h6 := h.2.2.2.2.2.1
  refine b388_37 ⟨by omega, ?_⟩
  rw [show ((d : Int)).toNat = d by omega, if_neg (by omega)]
  by_cases z : x4 = 0
  · rw [if_pos z, if_pos z]
  · rw [if_neg z, if_neg z]
    refine ⟨by omega, fun _ => by omega, b388_155 ⟨?_, rfl⟩⟩
    split <;> omega
/-- what the step of a number answers: both sides at once -/
theorem l53 {σ : Sg} {a d n : Nat} (h : Dl σ a d n) {d0 d2 : Option AV} {x2 : Int} (hx2 : 0 ≤ x2 ∧ x2 ≤ 2147483647) : ∀ (w s : Nat) (left : Int) (d5 : Option AV), n - s ≤ w → s ≤ n → (s = n ∨ gT (σ (a + 1)) s = false) → 0 ≤ left ∧ left ≤ x2 → x2 - left ≤ s → ∃ v, C48_5 d0 a d2 s left d5 σ (rI v σ) ∧ ∀ σ', Dl σ' a d n → σ' (a + 1) = σ (a + 1) → C388_37 d x2 (x2 - left - 1) 0 0 s σ' (rI v σ') := by
  have h3 := h.2.2.1
  have h4 := h.2.2.2.1
  have stop : ∀ (left : Int) (d5 : Option AV), ∃ v, C48_5 d0 a d2 n left d5 σ (rI v σ) ∧ ∀ σ', Dl σ' a d n → σ' (a + 1) = σ (a + 1) → C388_37 d x2 (x2 - left - 1) 0 0 n σ' (rI v σ') := by
    intro left d5
    refine ⟨-1, b48_5 h.1 ⟨_, _, d146 h.1, ?_⟩, fun σ' h' hf => ?_⟩
    · rw [if_neg (by omega)]
    · have e := l388_end h' (x2 := x2) (x3 := x2 - left - 1) (x4 := 0) (x5 := 0) (by omega) (by omega)
      rw [if_pos rfl] at e
      exact e
  intro w
  induction w with
  | zero =>
    intro s left d5 q1 q2 q3 q4 q5
    rw [show s = n by omega]
    exact stop left d5
  | succ w ih =>
    intro s left d5 q1 q2 q3 q4 q5
    by_cases hs : s < n
    · rcases q3 with q3 | q3
      · omega
      obtain ⟨e, r1, r2, r3, r4, r5⟩ := d45 h hs
      have hd := d147 (i := (s : Int)) (Dl_w h)
      rw [at_in h3 hs] at hd
      have cs0 := h.2.2.2.2.2.2 s hs
      by_cases z : left = 0
      · have hv : -1 ≤ σ (a + 1) s ∧ σ (a + 1) s ≤ 1000 := by
          rcases cs0 with ⟨z1, z2, z3⟩ | ⟨z1, z2, z3⟩ <;> omega
        refine ⟨1000 * ((e : Int) - s) + σ (a + 1) s, b48_5 h.1 ⟨_, _, d146 h.1, ?_⟩, fun σ' h' hf => ?_⟩
        · rw [if_pos (by omega)]
          refine ⟨_, _, r5, ?_⟩
          rw [if_pos z]
          exact ⟨by omega, by omega, _, _, hd, by omega, rfl⟩
        · have r3' : ∀ k, s + 1 ≤ k → k < e → gT (σ' (a + 1)) k = true := fun k z1 z2 => by rw [hf]; exact r3 k (by omega) z2
          have q3' : gT (σ' (a + 1)) s = false := by rw [hf]; exact q3
          have cs := h'.2.2.2.2.2.2 s hs
          rw [hf] at cs
          refine l388_first h' hs q3' (by omega) (by omega) ?_
          rw [if_pos (by omega), if_pos (by omega)]
          have key := l388_run h' (x2 := x2) (x3 := x2 - left - 1 + 1) (x5 := σ' 725 (40 * d + s)) (o := rI (1000 * ((e : Int) - s) + σ (a + 1) s) σ') r2 (e - (s + 1)) (s + 1) (0 + 1) (by omega) (by omega) r3' (by omega) (by omega)
          apply key
          rw [if_pos (by omega), show (0 : Int) + 1 + ((e - (s + 1) : Nat) : Int) = (e : Int) - s by omega]
          have fin : ∀ y : Int, C388_37 d x2 y ((e : Int) - s) (σ' 725 (40 * d + s)) n σ' (rI (1000 * ((e : Int) - s) + σ (a + 1) s) σ') := by
            intro y
            have e9 := l388_end h' (x2 := x2) (x3 := y) (x4 := (e : Int) - s) (x5 := σ' 725 (40 * d + s)) (by omega) (by
              rcases cs with ⟨z1, z2, z3⟩ | ⟨z1, z2, z3⟩ <;> omega)
            rw [if_neg (by omega)] at e9
            have : (if 1000 ≤ σ' 725 (40 * d + s) then σ' 725 (40 * d + s) - 500 else σ' 725 (40 * d + s)) = σ (a + 1) s := by
              rcases cs with ⟨z1, z2, z3⟩ | ⟨z1, z2, z3⟩
              · rw [if_neg (by omega)]; omega
              · rw [if_pos (by omega)]; omega
            rw [this] at e9
            exact e9
          rcases r4 with r4 | r4
          · rw [r4] at fin ⊢
            exact fin _
          · by_cases hen : e < n
            · refine l388_first h' hen (by rw [hf]; exact r4) (by omega) (by omega) ?_
              rw [if_neg (by omega), if_neg (by omega), Int.add_zero]
              exact l388_past h' (n - (e + 1)) (e + 1) _ (by omega) (by omega) (by omega) (by omega) fin
            · have hen2 : e = n := by omega
              rw [hen2] at fin ⊢
              exact fin _
      · obtain ⟨v, v1, v2⟩ := ih e (left - 1) (some (vI e)) (by omega) r2 r4 (by omega) (by omega)
        refine ⟨v, b48_5 h.1 ⟨_, _, d146 h.1, ?_⟩, fun σ' h' hf => ?_⟩
        · rw [if_pos (by omega)]
          refine ⟨_, _, r5, ?_⟩
          rw [if_neg z]
          refine ⟨by omega, ?_⟩
          rw [show left + (-1) = left - 1 by omega]
          exact v1
        · have r3' : ∀ k, s + 1 ≤ k → k < e → gT (σ' (a + 1)) k = true := fun k z1 z2 => by rw [hf]; exact r3 k (by omega) z2
          have q3' : gT (σ' (a + 1)) s = false := by rw [hf]; exact q3
          have v2 := v2 σ' h' hf
          refine l388_first h' hs q3' (by omega) (by omega) ?_
          rw [if_neg (by omega), if_neg (by omega)]
          refine l388_run h' r2 (e - (s + 1)) (s + 1) (0 + 0) (by omega) (by omega) r3' (by omega) (by omega) ?_
          rw [if_neg (by omega)]
          rw [show x2 - (left - 1) - 1 = x2 - left - 1 + 1 by omega] at v2
          exact v2
    · rw [show s = n by omega]
      exact stop left d5
theorem o53 {σ : Sg} {c a1 a2 : Int} (H : Rel c σ) (hi : a2 ≤ 2147483647) : OpR 441 388 [vA 0, vI a1, vI a2, vA 726] [vA 682, vI a1, vI a2] σ (c + 1) := by
  by_cases g1 : a1 < 0
  · exact x53_0 H g1
  by_cases g2 : σ 658 1 ≤ a1
  · exact x53_1 H g2
  have k1 : 0 ≤ a1 ∧ a1 < σ 658 1 := by omega
  by_cases g3 : a2 < 0
  · exact x53_2 H k1 g3
  have hn := (rel_n H).2.2.2.2
  have hD := rel_d H k1
  generalize hnn : (σ (660 + 2 * a1.toNat) 1).toNat = n at hD
  have f : ∀ v a k, ¬ a = 726 → ¬ a = 682 → upS (upS σ 726 0 v) 682 0 0 a k = σ a k := fun v a k h1 h2 => by rw [up_a h2, up_a h1]
  have hD2 : ∀ v, Dl (upS (upS σ 726 0 v) 682 0 0) (660 + 2 * a1.toNat) a1.toNat n := by
    intro v
    obtain ⟨h1, h2, h3, h4, h5, h6, h7⟩ := hD
    refine ⟨h1, h2, by rw [f _ _ _ (by omega) (by omega)]; exact h3, h4, h5, by rw [f _ _ _ (by omega) (by omega)]; exact h6, fun k hk => ?_⟩
    rw [f _ _ _ (by omega) (by omega), f _ _ _ (by omega) (by omega)]
    exact h7 k hk
  have ef : ∀ v, (upS (upS σ 726 0 v) 682 0 0) (660 + 2 * a1.toNat + 1) = σ (660 + 2 * a1.toNat + 1) := fun v => funext (fun k => f _ _ _ (by omega) (by omega))
  have hg : (0 : Nat) = n ∨ gT (σ (660 + 2 * a1.toNat + 1)) 0 = false := by
    right
    unfold gT
    rfl
  obtain ⟨v, v1, v2⟩ := l53 hD (d0 := some (vA 658)) (d2 := some (vI a2)) (x2 := a2) ⟨by omega, hi⟩ n 0 a2 none (by omega) (by omega) hg (by omega) (by omega)
  have hF : Dd 225 [vA 0, vI a1, vI a2] σ (rI v σ) := b225 (Or.inl ⟨_, _, d229_ok H k1, hD.1, Or.inl ⟨_, b233 (by rw [if_neg (by omega)]), _, _, b48 v1, rfl⟩⟩)
  have hA := b441 (Or.inl ⟨_, _, hF, rfl⟩)
  refine op_q2 H hA (v2 := v) (b388 ⟨_, _, d383_ok (by rw [up_a (by decide)]; omega), ?_⟩) rfl
  rw [if_neg (show ¬ (1 : Int) = 0 by decide), if_pos (show 0 ≤ a2 by omega)]
  refine b388_18 ⟨_, _, d245, ?_⟩
  rw [if_pos rfl, if_neg (show ¬ (1 : Int) = 0 by decide)]
  have e := v2 _ (hD2 v) (ef v)
  rw [show a2 - a2 - 1 = -1 by omega, show ((a1.toNat : Nat) : Int) = a1 by omega] at e
  exact e
end
-- DRAFT 65.bytes3.lean
/-! chain, putDelta: on both sides. -/
noncomputable section
def rS (f : Nat → Int) : Nat → Nat → Int → Int
  | 0, _, acc => acc
  | w + 1, k, acc => rS f w (k + 1) (if f k < 500 then (if acc < f k + 1 then f k + 1 else acc) else acc)
theorem rS_ge {f : Nat → Int} : ∀ (w k : Nat) (acc : Int), acc ≤ rS f w k acc ∧ ∀ i, k ≤ i → i < k + w → f i < 500 → f i < rS f w k acc := by
  intro w
  induction w with
  | zero => intro k acc; exact ⟨Int.le_refl _, fun i h1 h2 => by omega⟩
  | succ w ih =>
    intro k acc
    unfold rS
    obtain ⟨g1, g2⟩ := ih (k + 1) (if f k < 500 then (if acc < f k + 1 then f k + 1 else acc) else acc)
    refine ⟨?_, fun i h1 h2 h3 => ?_⟩
    · refine Int.le_trans ?_ g1
      split
      · split <;> omega
      · exact Int.le_refl _
    · by_cases z : i = k
      · subst z
        refine Int.lt_of_lt_of_le ?_ g1
        rw [if_pos h3]
        split <;> omega
      · exact g2 i (by omega) (by omega) h3
theorem l42 {σ : Sg} {a d n : Nat} (h : Dl σ a d n) {d0 : Option AV} : ∀ (w k : Nat) (acc : Int), k + w = n → 0 ≤ acc ∧ acc ≤ 40 → C42_4 d0 a acc k σ (rI (rS (σ (a + 1)) w k acc) σ) := by
  have h3 := h.2.2.1
  intro w
  induction w with
  | zero =>
    intro k acc q1 q2
    refine b42_4 h.1 ⟨_, _, d146 h.1, ?_⟩
    rw [if_neg (by omega)]
    rfl
  | succ w ih =>
    intro k acc q1 q2
    have h4 := h.2.2.2.1
    have hd := d147 (i := (k : Int)) (Dl_w h)
    rw [at_in h3 (by omega)] at hd
    have cs := h.2.2.2.2.2.2 k (by omega)
    refine b42_4 h.1 ⟨_, _, d146 h.1, ?_⟩
    rw [if_pos (by omega)]
    refine ⟨_, _, hd, _, _, d41, ?_⟩
    unfold rS
    by_cases z : σ (a + 1) k < 500
    · rw [if_pos z, if_neg (show ¬ (1 : Int) = 0 by decide), if_pos z]
      have : 0 ≤ σ (a + 1) k ∧ σ (a + 1) k < 40 := by
        rcases cs with ⟨z1, z2, z3⟩ | ⟨z1, z2, z3⟩ <;> omega
      refine ⟨_, _, hd, by omega, b42_35 ⟨by omega, ?_⟩⟩
      rw [show (k : Int) + 1 = ((k + 1 : Nat) : Int) by omega]
      exact ih (k + 1) _ (by omega) (by split <;> omega)
    · rw [if_neg z, if_pos rfl, if_neg z]
      refine b42_35 ⟨by omega, ?_⟩
      rw [show (k : Int) + 1 = ((k + 1 : Nat) : Int) by omega]
      exact ih (k + 1) _ (by omega) q2
theorem d42 {σ : Sg} {a d n : Nat} (h : Dl σ a d n) : Dd 42 [vA 658, vA a] σ (rI (rS (σ (a + 1)) n 0 0) σ) := b42 (l42 h n 0 0 (by omega) (by omega))
theorem l384 {σ : Sg} {a d n : Nat} (h : Dl σ a d n) : ∀ (w k : Nat) (acc : Int) (d4 : Option AV), k + w = n → 0 ≤ acc ∧ acc ≤ 40 → C384_4 d acc k d4 σ (rI (rS (σ (a + 1)) w k acc) σ) := by
  have h5 := h.2.2.2.2.1
  have h6 := h.2.2.2.2.2.1
  intro w
  induction w with
  | zero =>
    intro k acc d4 q1 q2
    refine b384_4 ⟨by omega, ?_⟩
    rw [show ((d : Int)).toNat = d by omega, if_neg (by omega)]
    rfl
  | succ w ih =>
    intro k acc d4 q1 q2
    have h4 := h.2.2.2.1
    have cs := h.2.2.2.2.2.2 k (by omega)
    refine b384_4 ⟨by omega, ?_⟩
    rw [show ((d : Int)).toNat = d by omega, if_pos (by omega), show ((40 * (d : Int)) + (k : Int)).toNat = 40 * d + k by omega]
    refine ⟨by omega, by omega, by omega, ?_⟩
    unfold rS
    have nx : ∀ (y : Int) (d2 d4 : Option AV), 0 ≤ y ∧ y ≤ 40 → C384_49 d d2 k d4 y σ (rI (rS (σ (a + 1)) w (k + 1) y) σ) := by
      intro y d2 d4 hy
      refine b384_49 ⟨by omega, ?_⟩
      rw [show (k : Int) + 1 = ((k + 1 : Nat) : Int) by omega]
      exact ih (k + 1) y d4 (by omega) hy
    rcases cs with ⟨z1, z2, z3⟩ | ⟨z1, z2, z3⟩
    · rw [if_pos (show σ 725 (40 * d + k) < 1000 by omega), if_pos (show σ (a + 1) k < 500 by omega), z3]
      by_cases y : acc ≤ σ (a + 1) k
      · rw [if_pos y, if_pos (show acc < σ (a + 1) k + 1 by omega)]
        exact ⟨by omega, nx _ _ _ (by omega)⟩
      · rw [if_neg y, if_neg (show ¬ acc < σ (a + 1) k + 1 by omega)]
        exact b384_48 (nx _ _ _ q2)
    · rw [if_neg (show ¬ σ 725 (40 * d + k) < 1000 by omega), if_neg (show ¬ σ (a + 1) k < 500 by omega)]
      exact b384_48 (nx _ _ _ q2)
theorem d384 {σ : Sg} {a d n : Nat} (h : Dl σ a d n) : Dd 384 [vA 682, vI d] σ (rI (rS (σ (a + 1)) n 0 0) σ) := b384 (l384 h n 0 0 none (by omega) (by omega))
theorem cp680 : isRow 680 = true ∧ cap 680 = 40 := by decide +kernel
/-- a new delta is the scratch row -/
theorem d37 {σ : Sg} {D : Nat} {l : List Int} (hD : σ 658 1 = (D : Nat)) (h10 : D < 10) (hl : Rw σ 680 l) (h40 : l.length ≤ 40) : ∃ s, Dd 37 [vA 658] σ (rI D s) ∧ Rw s (660 + 2 * D) l ∧ s 658 1 = (D : Int) + 1 ∧ ∀ c k, ¬ c = 660 + 2 * D → ¬ c = 660 + 2 * D + 1 → ¬ c = 658 → s c k = σ c k := by
  have he := el_659 (i := (D : Int)) (by omega)
  have hc := cp_659 (i := (D : Int)) (by omega)
  rw [show ((D : Int)).toNat = D by omega] at he hc
  have hcp : σ 680 1 ≤ (cap (660 + 2 * D) : Int) := by rw [hl.1]; omega
  have h8 : bcS σ (660 + 2 * D) 680 658 1 = (D : Nat) := by rw [bc_off (by omega) (by omega)]; exact hD
  refine ⟨upS (bcS σ (660 + 2 * D) 680) 658 1 ((D : Int) + 1), b37 ?_, ⟨?_, fun i v hv => ?_⟩, up_s, fun c k h1 h2 h3 => by rw [up_a h3, bc_off h1 h2]⟩
  · rw [if_pos (show σ 658 1 < 10 by omega), hD, show ((D : Nat) : Int).toNat = D by omega]
    refine ⟨by omega, _, he.1, he.2, _, d155 he.2 (Rw_wR cp680.1 hl (by rw [cp680.2]; exact h40)), ?_⟩
    rw [h8]
    refine ⟨by omega, b37_38 ?_⟩
    rw [up_s, show ((D : Nat) : Int) + 1 - 1 = (D : Int) by omega]
    exact ⟨by omega, rfl⟩
  · rw [up_a (by omega), bc_sz hcp]; exact hl.1
  · have hi := (List.getElem?_eq_some_iff.mp hv).1
    rw [up_a (by omega), bc_val hcp (by omega) (by rw [hl.1]; omega)]
    exact hl.2 i v hv
/-- what each code of a second delta comes to by a first one -/
def thr (f g : Nat → Int) (k : Nat) : Int := if g k < 500 then f (g k).toNat else g k
theorem l43 {a b n m : Nat} {f g : Nat → Int} (ha : isRow a = true) (hb : isRow b = true) (hn : n ≤ 40 ∧ cap a = 40) (hm : m ≤ 40 ∧ cap b = 40) (hab : ¬ a = 680 ∧ ¬ a = 681 ∧ ¬ b = 680 ∧ ¬ b = 681 ∧ a < 680 ∧ b < 680) (hg : ∀ k, k < m → 0 ≤ g k ∧ (g k < 500 → g k < n)) {D : Nat} (h10 : D < 10) : ∀ (w k : Nat) (σ : Sg) (l : List Int) (d4 : Option AV), k + w = m → σ a 1 = (n : Nat) → σ b 1 = (m : Nat) → (∀ i, i < n → σ (a + 1) i = f i) → (∀ i, i < m → σ (b + 1) i = g i) → σ 658 1 = (D : Nat) → Rw σ 680 l → l.length = k → (¬ a + 1 = 680 ∧ ¬ a + 1 = 681 ∧ ¬ b + 1 = 680 ∧ ¬ b + 1 = 681) → ∃ s, C43_9 a b k d4 σ (rI D s) ∧ Rw s (660 + 2 * D) (l ++ (List.range' k w).map (thr f g)) ∧ s 658 1 = (D : Int) + 1 ∧ (∀ c j, ¬ c = 660 + 2 * D → ¬ c = 660 + 2 * D + 1 → ¬ c = 658 → ¬ c = 680 → ¬ c = 681 → s c j = σ c j) ∧ 0 ≤ s 680 1 ∧ s 680 1 ≤ 40 := by
  intro w
  induction w with
  | zero =>
    intro k σ l d4 q1 q2 q3 q4 q5 q6 q7 q8 q9
    obtain ⟨s, g1, g2, g3, g4⟩ := d37 q6 h10 q7 (by omega)
    refine ⟨s, b43_9 hb ha ⟨_, _, d146 hb, ?_⟩, ?_, g3, fun c j h1 h2 h3 _ _ => g4 c j h1 h2 h3, by rw [g4 680 1 (by omega) (by omega) (by omega), q7.1]; omega, by rw [g4 680 1 (by omega) (by omega) (by omega), q7.1]; omega⟩
    · rw [if_neg (by omega)]
      exact ⟨_, _, g1, rfl⟩
    · simpa using g2
  | succ w ih =>
    intro k σ l d4 q1 q2 q3 q4 q5 q6 q7 q8 q9
    have hk : k < m := by omega
    have wb : wR σ b := ⟨hb, by omega, by omega⟩
    have wa : wR σ a := ⟨ha, by omega, by omega⟩
    have hd := d147 (i := (k : Int)) wb
    rw [at_in q3 hk, q5 k hk] at hd
    have w8 := Rw_wR cp680.1 q7 (by rw [cp680.2]; omega)
    have hgk := hg k hk
    have nx : ∀ (d4 : Option AV), ∃ s, C43_47 a b k d4 (thr f g k) σ (rI D s) ∧ Rw s (660 + 2 * D) (l ++ (List.range' k (w + 1)).map (thr f g)) ∧ s 658 1 = (D : Int) + 1 ∧ (∀ c j, ¬ c = 660 + 2 * D → ¬ c = 660 + 2 * D + 1 → ¬ c = 658 → ¬ c = 680 → ¬ c = 681 → s c j = σ c j) ∧ 0 ≤ s 680 1 ∧ s 680 1 ≤ 40 := by
      intro d4
      have off : ∀ c j, ¬ c = 680 → ¬ c = 681 → adS σ 680 (thr f g k) c j = σ c j := fun c j h1 h2 => ad_off h1 h2
      obtain ⟨s, g1, g2, g3, g4, g5⟩ := ih (k + 1) (adS σ 680 (thr f g k)) (l ++ [thr f g k]) d4 (by omega) (by rw [off _ _ hab.1 hab.2.1]; exact q2) (by rw [off _ _ hab.2.2.1 hab.2.2.2.1]; exact q3) (fun i hi => by rw [off _ _ q9.1 q9.2.1]; exact q4 i hi) (fun i hi => by rw [off _ _ q9.2.2.1 q9.2.2.2]; exact q5 i hi) (by rw [off _ _ (by decide) (by decide)]; exact q6) (Rw_ad q7 (by rw [cp680.2]; omega)) (by rw [List.length_append, q8]; rfl) q9
      refine ⟨s, b43_47 ⟨_, d149 w8, by omega, ?_⟩, ?_, g3, fun c j h1 h2 h3 h4 h5 => by rw [g4 c j h1 h2 h3 h4 h5, off _ _ h4 h5], g5⟩
      · rw [show (k : Int) + 1 = ((k + 1 : Nat) : Int) by omega]
        exact g1
      · rw [List.append_assoc] at g2
        rw [List.range'_succ, List.map_cons]
        exact g2
    obtain ⟨s, g1, g2⟩ := nx (some (vI (g k)))
    refine ⟨s, b43_9 hb ha ⟨_, _, d146 hb, ?_⟩, g2⟩
    rw [if_pos (by omega)]
    refine ⟨_, _, hd, _, _, d41, ?_⟩
    by_cases z : g k < 500
    · rw [if_pos z, if_neg (show ¬ (1 : Int) = 0 by decide)]
      have hd2 := d147 (i := g k) wa
      have e2 : atS σ a (g k) = thr f g k := by
        have := hgk.2 z
        unfold atS thr
        rw [if_pos ⟨hgk.1, by omega⟩, if_pos z]
        exact q4 _ (by omega)
      rw [e2] at hd2
      exact ⟨_, _, hd2, g1⟩
    · rw [if_neg z, if_pos rfl]
      unfold thr at g1
      rw [if_neg z] at g1
      exact g1
/-- the model's chain -/
theorem l385 {a b m D : Nat} {F : Nat → Int} (ha : a < 10) (hb : b < 10) (h10 : D < 10) (hm : m ≤ 40) (hna : ¬ a = D) (hnb : ¬ b = D) {d3 : Option AV} : ∀ (w k : Nat) (σ : Sg) (d5 : Option AV), k + w = m → σ 724 b = (m : Nat) → σ 682 58 = (D : Nat) → (∀ i, i < m → 0 ≤ σ 725 (40 * b + i) ∧ (σ 725 (40 * b + i) < 1000 → σ 725 (40 * b + i) < 40)) → (∀ i, i < m → F i = (if σ 725 (40 * b + i) < 1000 then σ 725 (40 * a + (σ 725 (40 * b + i)).toNat) else σ 725 (40 * b + i))) → ∃ s, C385_70 a b d3 k d5 σ (rI D s) ∧ (∀ i, k ≤ i → i < m → s 725 (40 * D + i) = F i) ∧ (∀ i, ¬ (40 * D + k ≤ i ∧ i < 40 * D + m) → s 725 i = σ 725 i) ∧ s 724 D = (m : Nat) ∧ s 682 58 = (D : Int) + 1 ∧ ∀ c j, ¬ c = 725 → ¬ (c = 724 ∧ j = D) → ¬ (c = 682 ∧ j = 58) → s c j = σ c j := by
  intro w
  induction w with
  | zero =>
    intro k σ d5 q1 q2 q3 q4 q5
    refine ⟨upS (upS σ 724 D (m : Nat)) 682 58 ((D : Int) + 1), b385_70 ⟨by omega, ?_⟩, fun i h1 h2 => by omega, fun i _ => by rw [up_a (by decide), up_a (by decide)], by rw [up_a (by decide), up_s], up_s, fun c j h1 h2 h3 => ?_⟩
    · rw [show ((b : Int)).toNat = b by omega, q2, if_neg (by omega), q3, show ((D : Nat) : Int).toNat = D by omega, up_a (show ¬ 682 = 724 by decide), q3, up_s]
      refine ⟨by omega, by omega, by omega, by omega, ?_⟩
      rw [show ((D : Nat) : Int) + 1 - 1 = (D : Int) by omega]
    · unfold upS
      rw [if_neg (by omega), if_neg (by omega)]
  | succ w ih =>
    intro k σ d5 q1 q2 q3 q4 q5
    have hk : k < m := by omega
    have c := q4 k hk
    have hF := q5 k hk
    have off : ∀ c j, ¬ c = 725 → upS σ 725 (40 * D + k) (F k) c j = σ c j := fun c j h => up_a h
    have rd : ∀ e i, ¬ e = D → i < 40 → upS σ 725 (40 * D + k) (F k) 725 (40 * e + i) = σ 725 (40 * e + i) := fun e i h1 h2 => up_k (by omega)
    obtain ⟨s, g1, g2, g3, g4, g5, g6⟩ := ih (k + 1) (upS σ 725 (40 * D + k) (F k)) (some (vI (σ 725 (40 * b + k)))) (by omega) (by rw [off _ _ (by decide)]; exact q2) (by rw [off _ _ (by decide)]; exact q3) (fun i hi => by rw [rd _ _ hnb (by omega)]; exact q4 i hi) (fun i hi => by
      have ci := q4 i hi
      rw [rd _ _ hnb (by omega), q5 i hi]
      by_cases z : σ 725 (40 * b + i) < 1000
      · rw [if_pos z, if_pos z, rd _ _ hna (by omega)]
      · rw [if_neg z, if_neg z])
    refine ⟨s, b385_70 ⟨by omega, ?_⟩, fun i h1 h2 => ?_, fun i hi => ?_, g4, g5, fun c j h1 h2 h3 => by rw [g6 c j h1 h2 h3, off _ _ h1]⟩
    · rw [show ((b : Int)).toNat = b by omega, q2, if_pos (by omega), show ((40 * (b : Int)) + (k : Int)).toNat = 40 * b + k by omega, q3]
      refine ⟨by omega, by omega, by omega, by omega, by omega, fun z => by omega, fun z => by have := c.2 z; omega, fun z => by have := c.2 z; omega, b385_134 ⟨by omega, by omega, ?_⟩⟩
      have e : (if σ 725 (40 * b + k) < 1000 then σ 725 ((40 * (a : Int)) + σ 725 (40 * b + k)).toNat else σ 725 (40 * b + k)) = F k := by
        rw [hF]
        by_cases z : σ 725 (40 * b + k) < 1000
        · rw [if_pos z, if_pos z]
          congr 1
          omega
        · rw [if_neg z, if_neg z]
      rw [e, show ((40 * ((D : Nat) : Int)) + (k : Int)).toNat = 40 * D + k by omega, show (k : Int) + 1 = ((k + 1 : Nat) : Int) by omega]
      exact g1
    · by_cases z : i = k
      · subst z
        rw [g3 _ (by omega), up_s]
      · exact g2 i (by omega) h2
    · rw [g3 i (by omega), up_k (by omega)]
end
-- DRAFT 66.bytes4.lean
/-! chain: the call; what a new delta leaves. -/
noncomputable section
theorem Rel_D {σ s : Sg} {c0 c1 : Int} {D : Nat} {l : List Int} (hc : c0 ≤ c1) (hD : σ 658 1 = (D : Nat)) (h10 : D < 10) (h : ∀ c k, ¬ (c = 726 ∨ (c = 682 ∧ (k = 0 ∨ k = 58)) ∨ c = 658 ∨ c = 660 + 2 * D ∨ c = 660 + 2 * D + 1 ∨ c = 680 ∨ c = 681 ∨ (c = 724 ∧ k = D) ∨ (c = 725 ∧ 40 * D ≤ k)) → s c k = σ c k) (h1 : s 658 1 = (D : Int) + 1) (h2 : s 682 58 = (D : Int) + 1) (hl : Rw s (660 + 2 * D) l) (h40 : l.length ≤ 40) (h3 : s 724 D = (l.length : Nat)) (h4 : ∀ i v, l[i]? = some v → cdR v (s 725 (40 * D + i))) (h5 : 0 ≤ s 680 1 ∧ s 680 1 ≤ 40) (H : Rel c0 σ) : Rel c1 s := by
  obtain ⟨g1, g2, g3, g4, g5, g6, g7, g8, g9⟩ := H
  refine ⟨fun a ha => ?_, Zl_fr (fun k => h _ _ (by omega)) g2, RT_fr (fun c k hc => h _ _ (by omega)) g3, RB_fr (fun c k hc => h _ _ (by omega)) g4, RP_fr (fun c k hc => h _ _ (by omega)) g5, RSt_fr hc (fun c k hc => h _ _ (by omega)) g6, RU_fr (fun c k hc => h _ _ (by omega)) g7, RF_fr (fun c k hc => h _ _ (by omega)) g8, ?_⟩
  · have hlt := row_lt ha
    have n1 : ¬ a = 658 := by intro e; subst e; exact absurd ha (by decide +kernel)
    have n2 : ¬ a = 681 := by intro e; subst e; exact absurd ha (by decide +kernel)
    have he := el_659 (i := (D : Int)) (by omega)
    have hcp := cp_659 (i := (D : Int)) (by omega)
    rw [show ((D : Int)).toNat = D by omega] at he hcp
    by_cases e1 : a = 660 + 2 * D
    · rw [e1, hl.1]
      omega
    · by_cases e2 : a = 680
      · rw [e2, cp680.2]; exact h5
      · have n3 := row_nx he.2 ha
        rw [h _ _ (by omega)]
        exact g1 a ha
  · obtain ⟨q1, q2, q3, q4⟩ := g9
    refine ⟨by omega, by omega, by omega, fun d hd => ?_⟩
    by_cases e : d = D
    · subst e
      refine ⟨by rw [hl.1, h3], fun i hi => ?_⟩
      rw [hl.1] at hi
      have hv := List.getElem?_eq_getElem (l := l) (i := i) (by omega)
      rw [hl.2 i _ hv]
      rcases h4 i _ hv with ⟨z1, z2, z3⟩ | ⟨z1, z2, z3⟩
      · exact Or.inl ⟨z1, z2, z3⟩
      · exact Or.inr ⟨z1, z2, z3⟩
    · obtain ⟨p1, p2⟩ := q4 d (by omega)
      have w := g1 _ (el_659 (i := (d : Int)) (by omega)).2
      have hcp := cp_659 (i := (d : Int)) (by omega)
      rw [show ((d : Int)).toNat = d by omega] at w hcp
      refine ⟨by rw [h _ _ (by omega), h _ _ (by omega)]; exact p1, fun i hi => ?_⟩
      rw [h _ _ (by omega)] at hi
      rw [h (660 + 2 * d + 1) i (by omega), h 725 _ (by omega)]
      exact p2 i hi
theorem Dl_fr {σ s : Sg} {a d n : Nat} (h1 : s a 1 = σ a 1) (h2 : ∀ k, s (a + 1) k = σ (a + 1) k) (h3 : s 724 d = σ 724 d) (h4 : ∀ k, s 725 k = σ 725 k) (H : Dl σ a d n) : Dl s a d n := by
  obtain ⟨g1, g2, g3, g4, g5, g6, g7⟩ := H
  exact ⟨g1, g2, by rw [h1]; exact g3, g4, g5, by rw [h3]; exact g6, fun k hk => by rw [h2, h4]; exact g7 k hk⟩
theorem o51 {σ : Sg} {c a1 a2 : Int} (H : Rel c σ) : OpR 439 385 [vA 0, vI a1, vI a2, vA 726] [vA 682, vI a1, vI a2] σ (c + 1) := by
  by_cases g1 : a1 < 0
  · exact x51_0 H g1
  by_cases g2 : σ 658 1 ≤ a1
  · exact x51_1 H g2
  have k1 : 0 ≤ a1 ∧ a1 < σ 658 1 := by omega
  by_cases g3 : a2 < 0
  · exact x51_2 H k1 g3
  by_cases g4 : σ 658 1 ≤ a2
  · exact x51_3 H k1 g4
  have k2 : 0 ≤ a2 ∧ a2 < σ 658 1 := by omega
  have hn := (rel_n H).2.2.2.2
  have hD1 := rel_d H k1
  have hD2 := rel_d H k2
  obtain ⟨t1, ht1⟩ := Int.eq_ofNat_of_zero_le k1.1
  obtain ⟨t2, ht2⟩ := Int.eq_ofNat_of_zero_le k2.1
  have kk1 := d229_ok H k1
  have kk2 := d229_ok H k2
  rw [show a1.toNat = t1 by omega] at hD1 kk1
  rw [show a2.toNat = t2 by omega] at hD2 kk2
  generalize hnn : (σ (660 + 2 * t1) 1).toNat = n at hD1
  generalize hmm : (σ (660 + 2 * t2) 1).toNat = m at hD2
  have m0 : ∀ {o : Rs} {y : Int}, C385_21 a1 a2 none none none 1 σ o → Dd 385 [vA 682, vI a1, vI a2] σ o := by
    intro o y hh
    refine b385 ⟨_, _, d383_ok (by omega), ?_⟩
    rw [if_neg (show ¬ (1 : Int) = 0 by decide)]
    refine ⟨_, _, d383_ok (by omega), ?_⟩
    rw [if_neg (show ¬ (1 : Int) = 0 by decide)]
    exact hh
  have cls : ∀ {o : Rs}, ((∃ (s12 : Sg), Dd 241 [vA 0, vA (660 + 2 * t2), vI (n : Nat)] σ (.inl none, s12) ∧ ((∃ (s14 : Sg), Dd 240 [vA 0] s12 (.inl none, s14) ∧ (∃ (v17 : Int) (s16 : Sg), Dd 43 [vA 658, vA (660 + 2 * t1), vA (660 + 2 * t2)] s14 (.inl (some (.inl v17)), s16) ∧ o = (.inl (some (.inl v17)), s16))) ∨ (∃ (E0 : Nat) (s0 : Sg), Dd 240 [vA 0] s12 (.inr E0, s0) ∧ o = (.inr E0, s0)))) ∨ (∃ (E0 : Nat) (s0 : Sg), Dd 241 [vA 0, vA (660 + 2 * t2), vI (n : Nat)] σ (.inr E0, s0) ∧ o = (.inr E0, s0))) → Dd 223 [vA 0, vI a1, vI a2] σ o := by
    intro o hh
    have e6 := d146 (σ := σ) hD1.1
    rw [hD1.2.2.1] at e6
    exact b223 (Or.inl ⟨_, _, kk1, hD1.1, Or.inl ⟨_, _, kk2, hD2.1, _, _, e6, hh⟩⟩)
  have e384 := d384 hD2
  rw [← ht2] at e384
  by_cases g5 : (n : Int) < rS (σ (660 + 2 * t2 + 1)) m 0 0
  · have hA : Dd 223 [vA 0, vI a1, vI a2] σ (rX 2 σ) := by
      refine cls (Or.inr ⟨_, _, b241 ⟨_, _, d42 hD2, ?_⟩, rfl⟩)
      rw [if_pos g5]
    have hB : Dd 385 [vA 682, vI a1, vI a2] σ (rI 0 (upS σ 682 0 2)) := by
      refine m0 (y := 0) (b385_21 ?_)
      rw [if_neg (show ¬ (1 : Int) = 0 by decide)]
      refine ⟨_, _, e384, by omega, ?_⟩
      have e724 := hD1.2.2.2.2.2.1
      rw [show a1.toNat = t1 by omega, if_neg (by omega)]
      refine b385_54 (b385_59 ⟨_, _, d245, ?_⟩)
      rw [if_neg (show ¬ (2 : Int) = 0 by decide), if_pos rfl]
    exact op_x H (by decide) (b439 (Or.inr (Or.inr ⟨_, hA, rfl⟩))) hB
  by_cases g6 : 10 ≤ σ 658 1
  · have hA : Dd 223 [vA 0, vI a1, vI a2] σ (rX 2 σ) := by
      refine cls (Or.inl ⟨_, b241 ⟨_, _, d42 hD2, by rw [if_neg g5]⟩, Or.inr ⟨_, _, b240 (by rw [if_pos g6]), rfl⟩⟩)
    have hB : Dd 385 [vA 682, vI a1, vI a2] σ (rI 0 (upS σ 682 0 2)) := by
      refine m0 (y := 0) (b385_21 ?_)
      rw [if_neg (show ¬ (1 : Int) = 0 by decide)]
      refine ⟨_, _, e384, by omega, ?_⟩
      have e724 := hD1.2.2.2.2.2.1
      rw [show a1.toNat = t1 by omega, if_pos (by omega), if_pos (by omega)]
      refine b385_54 (b385_59 ⟨_, _, d245, ?_⟩)
      rw [if_neg (show ¬ (2 : Int) = 0 by decide), if_pos rfl]
    exact op_x H (by decide) (b439 (Or.inr (Or.inr ⟨_, hA, rfl⟩))) hB
  obtain ⟨D, hDD⟩ := Int.eq_ofNat_of_zero_le (show 0 ≤ σ 658 1 by omega)
  have hge := (rS_ge (f := σ (660 + 2 * t2 + 1)) m 0 0).2
  have cd1 := hD1.2.2.2.2.2.2
  have cd2 := hD2.2.2.2.2.2.2
  have hgg : ∀ k, k < m → 0 ≤ σ (660 + 2 * t2 + 1) k ∧ (σ (660 + 2 * t2 + 1) k < 500 → σ (660 + 2 * t2 + 1) k < n) := by
    intro k hk
    refine ⟨?_, fun z => ?_⟩
    · rcases cd2 k hk with ⟨z1, z2, z3⟩ | ⟨z1, z2, z3⟩ <;> omega
    · have := hge k (by omega) (by omega) z
      omega
  have off0 : ∀ c k, ¬ c = 680 → upS σ 680 1 0 c k = σ c k := fun c k h => up_a h
  obtain ⟨s1, c1, c2, c3, c4, c5⟩ := l43 (f := σ (660 + 2 * t1 + 1)) (g := σ (660 + 2 * t2 + 1)) hD1.1 hD2.1 ⟨hD1.2.2.2.1, hD1.2.1⟩ ⟨hD2.2.2.2.1, hD2.2.1⟩ (by omega) hgg (D := D) (by omega) m 0 (upS σ 680 1 0) [] none (by omega) (by rw [off0 _ _ (by omega)]; exact hD1.2.2.1) (by rw [off0 _ _ (by omega)]; exact hD2.2.2.1) (fun i _ => off0 _ _ (by omega)) (fun i _ => off0 _ _ (by omega)) (by rw [off0 _ _ (by decide)]; exact hDD) Rw_nil rfl (by omega)
  have hA : Dd 223 [vA 0, vI a1, vI a2] σ (rI D s1) := by
    refine cls (Or.inl ⟨_, b241 ⟨_, _, d42 hD2, by rw [if_neg g5]⟩, Or.inl ⟨_, b240 (by rw [if_neg g6]), _, _, b43 ⟨_, d152 cp680.1, c1⟩, rfl⟩⟩)
  have hW := b439 (Or.inl ⟨_, _, hA, rfl⟩)
  have f2 : ∀ c k, ¬ c = 660 + 2 * D → ¬ c = 660 + 2 * D + 1 → ¬ c = 658 → ¬ c = 680 → ¬ c = 681 → ¬ c = 726 → ¬ (c = 682 ∧ k = 0) → upS (upS s1 726 0 (D : Nat)) 682 0 0 c k = σ c k := by
    intro c k h1 h2 h3 h4 h5 h6 h7
    have : upS (upS s1 726 0 (D : Nat)) 682 0 0 c k = s1 c k := by
      unfold upS
      rw [if_neg (by omega), if_neg (by omega)]
    rw [this, c4 c k h1 h2 h3 h4 h5, off0 _ _ h4]
  have hm40 := hD2.2.2.2.1
  obtain ⟨s2, m1, m2, m3, m4, m5, m6⟩ := l385 (a := t1) (b := t2) (m := m) (D := D) (F := fun i => (if σ 725 (40 * t2 + i) < 1000 then σ 725 (40 * t1 + (σ 725 (40 * t2 + i)).toNat) else σ 725 (40 * t2 + i))) (by omega) (by omega) (by omega) hm40 (by omega) (by omega) (d3 := some (vI 1)) m 0 (upS (upS s1 726 0 (D : Nat)) 682 0 0) none (by omega) (by rw [f2 _ _ (by omega) (by omega) (by omega) (by omega) (by omega) (by omega) (by omega)]; exact hD2.2.2.2.2.2.1) (by rw [f2 _ _ (by omega) (by omega) (by omega) (by omega) (by omega) (by omega) (by omega)]; omega) (fun i hi => by
    rw [f2 _ _ (by omega) (by omega) (by omega) (by omega) (by omega) (by omega) (by omega)]
    rcases cd2 i hi with ⟨z1, z2, z3⟩ | ⟨z1, z2, z3⟩ <;> omega) (fun i hi => by
    rw [f2 725 (40 * t2 + i) (by omega) (by omega) (by omega) (by omega) (by omega) (by omega) (by omega), f2 725 (40 * t1 + _) (by omega) (by omega) (by omega) (by omega) (by omega) (by omega) (by omega)])
  rw [← ht1, ← ht2] at m1
  have D1' : Dl (upS s1 726 0 (D : Nat)) (660 + 2 * t2) t2 m := by
    have ff : ∀ c k, ¬ c = 660 + 2 * D → ¬ c = 660 + 2 * D + 1 → ¬ c = 658 → ¬ c = 680 → ¬ c = 681 → ¬ c = 726 → upS s1 726 0 (D : Nat) c k = σ c k := fun c k h1 h2 h3 h4 h5 h6 => by rw [up_a h6, c4 c k h1 h2 h3 h4 h5, off0 _ _ h4]
    exact Dl_fr (ff _ _ (by omega) (by omega) (by omega) (by omega) (by omega) (by omega)) (fun k => ff _ _ (by omega) (by omega) (by omega) (by omega) (by omega) (by omega)) (ff _ _ (by omega) (by omega) (by omega) (by omega) (by omega) (by omega)) (fun k => ff _ _ (by omega) (by omega) (by omega) (by omega) (by omega) (by omega)) hD2
  have ff : ∀ c k, ¬ c = 660 + 2 * D → ¬ c = 660 + 2 * D + 1 → ¬ c = 658 → ¬ c = 680 → ¬ c = 681 → ¬ c = 726 → upS s1 726 0 (D : Nat) c k = σ c k := fun c k h1 h2 h3 h4 h5 h6 => by rw [up_a h6, c4 c k h1 h2 h3 h4 h5, off0 _ _ h4]
  have er : upS s1 726 0 (D : Nat) (660 + 2 * t2 + 1) = σ (660 + 2 * t2 + 1) := funext (fun k => ff _ _ (by omega) (by omega) (by omega) (by omega) (by omega) (by omega))
  have e384' := d384 D1'
  rw [← ht2, er] at e384'
  have hB : Dd 385 [vA 682, vI a1, vI a2] (upS s1 726 0 (D : Nat)) (rI D s2) := by
    refine b385 ⟨_, _, d383_ok (by rw [ff _ _ (by omega) (by omega) (by omega) (by omega) (by omega) (by omega)]; omega), ?_⟩
    rw [if_neg (show ¬ (1 : Int) = 0 by decide)]
    refine ⟨_, _, d383_ok (by rw [ff _ _ (by omega) (by omega) (by omega) (by omega) (by omega) (by omega)]; omega), ?_⟩
    rw [if_neg (show ¬ (1 : Int) = 0 by decide)]
    refine b385_21 ?_
    rw [if_neg (show ¬ (1 : Int) = 0 by decide)]
    refine ⟨_, _, e384', by omega, ?_⟩
    have e724 := hD1.2.2.2.2.2.1
    rw [show a1.toNat = t1 by omega, ff 724 _ (by omega) (by omega) (by omega) (by omega) (by omega) (by omega), if_pos (by omega), ff 682 _ (by omega) (by omega) (by omega) (by omega) (by omega) (by omega), if_neg (by omega)]
    refine b385_59 ⟨_, _, d245, ?_⟩
    rw [if_pos rfl, if_neg (show ¬ (1 : Int) = 0 by decide)]
    exact m1
  have hoff : ∀ c k, ¬ (c = 726 ∨ (c = 682 ∧ (k = 0 ∨ k = 58)) ∨ c = 658 ∨ c = 660 + 2 * D ∨ c = 660 + 2 * D + 1 ∨ c = 680 ∨ c = 681 ∨ (c = 724 ∧ k = D) ∨ (c = 725 ∧ 40 * D ≤ k)) → s2 c k = σ c k := by
    intro c k hc
    by_cases z : c = 725
    · subst z
      rw [m3 k (by omega), f2 _ _ (by omega) (by omega) (by omega) (by omega) (by omega) (by omega) (by omega)]
    · rw [m6 c k z (by omega) (by omega), f2 _ _ (by omega) (by omega) (by omega) (by omega) (by omega) (by omega) (by omega)]
  have hcl : ∀ c k, c < 682 → s2 c k = s1 c k := by
    intro c k hc
    rw [m6 c k (by omega) (by omega) (by omega), up_a (by omega), up_a (by omega)]
  have hlen : ([] ++ (List.range' 0 m).map (thr (σ (660 + 2 * t1 + 1)) (σ (660 + 2 * t2 + 1)))).length = m := by simp
  refine op_fin hW hB ?_ (fun _ => ?_) (fun a k ha => by rw [up_a (by omega), c4 _ _ (by omega) (by omega) (by omega) (by omega) (by omega), off0 _ _ (by omega)]) (fun a k ha => hoff _ _ (by omega)) ?_
  · rw [m6 _ _ (by decide) (by omega) (by omega), up_s]
  · rw [m6 _ _ (by decide) (by omega) (by omega), up_a (by decide), up_s]
  · refine Rel_D (D := D) (by omega) hDD (by omega) hoff (by rw [hcl _ _ (by decide)]; exact c3) m5 (Rw_fr (hcl _ _ (by omega)) (fun k => hcl _ _ (by omega)) c2) (by rw [hlen]; exact hm40) (by rw [hlen]; exact m4) (fun i v hv => ?_) ?_ H
    · have hi := (List.getElem?_eq_some_iff.mp hv).1
      rw [hlen] at hi
      rw [m2 i (by omega) hi]
      have ev : v = thr (σ (660 + 2 * t1 + 1)) (σ (660 + 2 * t2 + 1)) i := by
        rw [List.nil_append, List.getElem?_map, List.getElem?_range' hi] at hv
        simpa using hv.symm
      rw [ev]
      have q2 := cd2 i hi
      have hgi := hgg i hi
      unfold thr
      show cdR _ (if σ 725 (40 * t2 + i) < 1000 then σ 725 (40 * t1 + (σ 725 (40 * t2 + i)).toNat) else σ 725 (40 * t2 + i))
      rcases q2 with ⟨z1, z2, z3⟩ | ⟨z1, z2, z3⟩
      · rw [if_pos (by omega), if_pos (by omega), z3]
        exact cd1 _ (by have := hgi.2 (by omega); omega)
      · rw [if_neg (by omega), if_neg (by omega)]
        exact Or.inr ⟨z1, z2, z3⟩
    · rw [hcl _ _ (by decide)]
      exact c5
end
-- DRAFT 67.bytes5.lean
/-! putDelta. -/
noncomputable section
def ptb (f g : Nat → Int) (k : Nat) : Int := if f k < 500 then g (f k).toNat else f k - 500
theorem l44 {a b t n m : Nat} {f g : Nat → Int} (ha : isRow a = true) (hb : isRow b = true) (ht : isRow t = true) (hct : cap t = 40) (hn : n ≤ 40 ∧ cap a = 40) (hm : m ≤ 40 ∧ cap b = 40) (hab : a < 680 ∧ b < 680 ∧ t < 680 ∧ ¬ a + 1 = 680 ∧ ¬ b + 1 = 680 ∧ ¬ t + 1 = 680) (hf : ∀ k, k < n → 0 ≤ f k ∧ f k ≤ 1000 ∧ (f k < 500 → f k < m)) : ∀ (w k : Nat) (σ : Sg) (l : List Int) (d5 : Option AV), k + w = n → σ a 1 = (n : Nat) → σ b 1 = (m : Nat) → (∀ i, i < n → σ (a + 1) i = f i) → (∀ i, i < m → σ (b + 1) i = g i) → Rw σ 680 l → l.length = k → ∃ s, C44_10 a b t k d5 σ (rV s) ∧ Rw s t (l ++ (List.range' k w).map (ptb f g)) ∧ (∀ c j, ¬ c = t → ¬ c = t + 1 → ¬ c = 680 → ¬ c = 681 → s c j = σ c j) ∧ 0 ≤ s 680 1 ∧ s 680 1 ≤ 40 := by
  intro w
  induction w with
  | zero =>
    intro k σ l d5 q1 q2 q3 q4 q5 q7 q8
    have hcp : σ 680 1 ≤ (cap t : Int) := by rw [q7.1]; omega
    refine ⟨bcS σ t 680, b44_10 ha hb ht ⟨_, _, d146 ha, ?_⟩, ?_, fun c j h1 h2 _ _ => bc_off h1 h2, by rw [bc_off (by omega) (by omega), q7.1]; omega, by rw [bc_off (by omega) (by omega), q7.1]; omega⟩
    · rw [if_neg (by omega)]
      exact ⟨_, d155 ht (Rw_wR cp680.1 q7 (by rw [cp680.2]; omega)), rfl⟩
    · have : l ++ (List.range' k 0).map (ptb f g) = l := by simp
      rw [this]
      refine ⟨by rw [bc_sz hcp]; exact q7.1, fun i v hv => ?_⟩
      have hi := (List.getElem?_eq_some_iff.mp hv).1
      rw [bc_val hcp (by omega) (by rw [q7.1]; omega)]
      exact q7.2 i v hv
  | succ w ih =>
    intro k σ l d5 q1 q2 q3 q4 q5 q7 q8
    have hk : k < n := by omega
    have wb : wR σ b := ⟨hb, by omega, by omega⟩
    have wa : wR σ a := ⟨ha, by omega, by omega⟩
    have hd := d147 (i := (k : Int)) wa
    rw [at_in q2 hk, q4 k hk] at hd
    have w8 := Rw_wR cp680.1 q7 (by rw [cp680.2]; omega)
    have hfk := hf k hk
    have nx : ∀ (d5 : Option AV), ∃ s, C44_54 a b t k d5 (ptb f g k) σ (rV s) ∧ Rw s t (l ++ (List.range' k (w + 1)).map (ptb f g)) ∧ (∀ c j, ¬ c = t → ¬ c = t + 1 → ¬ c = 680 → ¬ c = 681 → s c j = σ c j) ∧ 0 ≤ s 680 1 ∧ s 680 1 ≤ 40 := by
      intro d5
      have off : ∀ c j, ¬ c = 680 → ¬ c = 681 → adS σ 680 (ptb f g k) c j = σ c j := fun c j h1 h2 => ad_off h1 h2
      obtain ⟨s, g1, g2, g3, g4⟩ := ih (k + 1) (adS σ 680 (ptb f g k)) (l ++ [ptb f g k]) d5 (by omega) (by rw [off _ _ (by omega) (by omega)]; exact q2) (by rw [off _ _ (by omega) (by omega)]; exact q3) (fun i hi => by rw [off _ _ (by omega) (by omega)]; exact q4 i hi) (fun i hi => by rw [off _ _ (by omega) (by omega)]; exact q5 i hi) (Rw_ad q7 (by rw [cp680.2]; omega)) (by rw [List.length_append, q8]; rfl)
      refine ⟨s, b44_54 ⟨_, d149 w8, by omega, ?_⟩, ?_, fun c j h1 h2 h4 h5 => by rw [g3 c j h1 h2 h4 h5, off _ _ h4 h5], g4⟩
      · rw [show (k : Int) + 1 = ((k + 1 : Nat) : Int) by omega]
        exact g1
      · rw [List.append_assoc] at g2
        rw [List.range'_succ, List.map_cons]
        exact g2
    obtain ⟨s, g1, g2⟩ := nx (some (vI (f k)))
    refine ⟨s, b44_10 ha hb ht ⟨_, _, d146 ha, ?_⟩, g2⟩
    rw [if_pos (by omega)]
    refine ⟨_, _, hd, _, _, d41, ?_⟩
    by_cases z : f k < 500
    · rw [if_pos z, if_neg (show ¬ (1 : Int) = 0 by decide)]
      have hd2 := d147 (i := f k) wb
      have e2 : atS σ b (f k) = ptb f g k := by
        have := hfk.2.2 z
        unfold atS ptb
        rw [if_pos ⟨hfk.1, by omega⟩, if_pos z]
        exact q5 _ (by omega)
      rw [e2] at hd2
      exact ⟨_, _, hd2, g1⟩
    · rw [if_neg z, if_pos rfl]
      refine ⟨by omega, ?_⟩
      unfold ptb at g1
      rw [if_neg z] at g1
      exact g1
theorem l389b {d t n : Nat} (hd : d < 10) (ht : t < 4) (hn : n ≤ 40) {d2 d4 d6 : Option AV} : ∀ (w i : Nat) (σ : Sg), i + w = n → σ 724 d = (n : Nat) → C389_151 d d2 t d4 i d6 σ (rI (n : Nat) (acS σ 722 (40 * t) 705 0 i n)) := by
  intro w
  induction w with
  | zero =>
    intro i σ h1 h2
    refine b389_151 ⟨by omega, ?_⟩
    rw [show ((d : Int)).toNat = d by omega, h2, if_neg (by omega), show i = n by omega, acS_end]
    exact ⟨by omega, rfl⟩
  | succ w ih =>
    intro i σ h1 h2
    refine b389_151 ⟨by omega, ?_⟩
    rw [show ((d : Int)).toNat = d by omega, h2, if_pos (by omega)]
    refine ⟨by omega, by omega, by omega, by omega, by omega, ?_⟩
    have e := ih (i + 1) (upS σ 722 (40 * t + i) (σ 705 (0 + i))) (by omega) (by rw [up_a (by decide)]; exact h2)
    rw [acS_step (by omega) (by decide)] at e
    rw [show ((i : Int)).toNat = 0 + i by omega, show ((40 * (t : Int)) + (i : Int)).toNat = 40 * t + i by omega, show (i : Int) + 1 = ((i + 1 : Nat) : Int) by omega]
    exact e
theorem l389 {d b t n : Nat} {G : Nat → Int} (hd : d < 10) (hb : b < 4) (ht : t < 4) (hn : n ≤ 40) {d4 : Option AV} : ∀ (w k : Nat) (σ : Sg) (d6 : Option AV), k + w = n → σ 724 d = (n : Nat) → (∀ i, i < n → 0 ≤ σ 725 (40 * d + i) ∧ σ 725 (40 * d + i) ≤ 2000 ∧ (σ 725 (40 * d + i) < 1000 → σ 725 (40 * d + i) < 40)) → (∀ i, i < n → G i = (if σ 725 (40 * d + i) < 1000 then σ 722 (40 * b + (σ 725 (40 * d + i)).toNat) else σ 725 (40 * d + i) - 1000)) → (∀ i, i < k → σ 705 i = G i) → ∃ s, C389_69 d b t d4 k d6 σ (rI (n : Nat) s) ∧ (∀ i, i < n → s 722 (40 * t + i) = G i) ∧ s 723 t = (n : Nat) ∧ ∀ c j, ¬ c = 705 → ¬ (c = 722 ∧ 40 * t ≤ j ∧ j < 40 * t + n) → ¬ (c = 723 ∧ j = t) → s c j = σ c j := by
  intro w
  induction w with
  | zero =>
    intro k σ d6 q1 q2 q3 q4 q5
    have e := l389b (d2 := some (vI b)) (d4 := d4) (d6 := d6) hd ht hn n 0 (upS σ 723 t (n : Nat)) (by omega) (by rw [up_a (by decide)]; exact q2)
    refine ⟨acS (upS σ 723 t (n : Nat)) 722 (40 * t) 705 0 0 n, b389_69 ⟨by omega, ?_⟩, fun i hi => ?_, ?_, fun c j h1 h2 h3 => ?_⟩
    · rw [show ((d : Int)).toNat = d by omega, q2, if_neg (by omega), show ((t : Int)).toNat = t by omega]
      exact ⟨by omega, by omega, e⟩
    · rw [acS_val hi, up_a (by decide), Nat.zero_add]
      exact q5 i (by omega)
    · rw [acS_off (by decide), up_s]
    · by_cases z : c = 722
      · rw [acS_out (by omega)]
        unfold upS
        rw [if_neg (by omega)]
      · rw [acS_off z]
        unfold upS
        rw [if_neg (by omega)]
  | succ w ih =>
    intro k σ d6 q1 q2 q3 q4 q5
    have hk : k < n := by omega
    have c := q3 k hk
    have off : ∀ c j, ¬ c = 705 → upS σ 705 k (G k) c j = σ c j := fun c j h => up_a h
    obtain ⟨s, g1, g2, g3, g4⟩ := ih (k + 1) (upS σ 705 k (G k)) (some (vI (σ 725 (40 * d + k)))) (by omega) (by rw [off _ _ (by decide)]; exact q2) (fun i hi => by rw [off _ _ (by decide)]; exact q3 i hi) (fun i hi => by rw [off 725 _ (by decide), off 722 _ (by decide)]; exact q4 i hi) (fun i hi => by
      by_cases z : i = k
      · rw [z, up_s]
      · rw [up_k z]; exact q5 i (by omega))
    refine ⟨s, b389_69 ⟨by omega, ?_⟩, g2, g3, fun c j h1 h2 h3 => by rw [g4 c j h1 h2 h3, off _ _ h1]⟩
    rw [show ((d : Int)).toNat = d by omega, q2, if_pos (by omega), show ((40 * (d : Int)) + (k : Int)).toNat = 40 * d + k by omega]
    refine ⟨by omega, by omega, by omega, fun z => by omega, fun z => by have := c.2.2 z; omega, fun z => by have := c.2.2 z; omega, fun z => by omega, b389_129 ⟨by omega, by omega, ?_⟩⟩
    have e : (if σ 725 (40 * d + k) < 1000 then σ 722 ((40 * (b : Int)) + σ 725 (40 * d + k)).toNat else σ 725 (40 * d + k) - 1000) = G k := by
      rw [q4 k hk]
      by_cases z : σ 725 (40 * d + k) < 1000
      · rw [if_pos z, if_pos z]
        congr 1
        omega
      · rw [if_neg z, if_neg z]
    rw [e, show ((k : Int)).toNat = k by omega, show (k : Int) + 1 = ((k + 1 : Nat) : Int) by omega]
    exact g1
theorem o54 {σ : Sg} {c a1 a2 a3 : Int} (H : Rel c σ) : OpR 442 389 [vA 0, vI a1, vI a2, vI a3, vA 726] [vA 682, vI a1, vI a2, vI a3] σ (c + 1) := by
  by_cases g1 : a1 < 0
  · exact x54_0 H g1
  by_cases g2 : σ 658 1 ≤ a1
  · exact x54_1 H g2
  have k1 : 0 ≤ a1 ∧ a1 < σ 658 1 := by omega
  by_cases g3 : a2 < 0
  · exact x54_2 H k1 g3
  by_cases g4 : 4 ≤ a2
  · exact x54_3 H k1 g4
  have k2 : 0 ≤ a2 ∧ a2 < 4 := by omega
  by_cases g5 : a3 < 0
  · exact x54_4 H k1 k2 g5
  by_cases g6 : 4 ≤ a3
  · exact x54_5 H k1 k2 g6
  have k3 : 0 ≤ a3 ∧ a3 < 4 := by omega
  have hn := (rel_n H).2.2.2.2
  have hD1 := rel_d H k1
  obtain ⟨b1, b2, b3⟩ := rel_b H k2
  obtain ⟨hb1, hb2⟩ := H.2.2.2.1 a2.toNat (by omega)
  have hr2 := (el_10 k2).2
  have hr3 := (el_10 k3).2
  have hc2 := cp_10 k2
  have hc3 := cp_10 k3
  obtain ⟨t1, ht1⟩ := Int.eq_ofNat_of_zero_le k1.1
  obtain ⟨t2, ht2⟩ := Int.eq_ofNat_of_zero_le k2.1
  obtain ⟨t3, ht3⟩ := Int.eq_ofNat_of_zero_le k3.1
  have kk1 := d229_ok H k1
  have kk2 := d228_ok (σ := σ) k2
  have kk3 := d228_ok (σ := σ) k3
  rw [show a1.toNat = t1 by omega] at hD1 kk1
  rw [show a2.toNat = t2 by omega] at kk2 b1 b2 b3 hb1 hb2 hr2 hc2
  rw [show a3.toNat = t3 by omega] at kk3 hr3 hc3
  generalize hnn : (σ (660 + 2 * t1) 1).toNat = n at hD1
  obtain ⟨m, hmm⟩ := Int.eq_ofNat_of_zero_le b2
  have n40 := hD1.2.2.2.1
  have e724 := hD1.2.2.2.2.2.1
  have cd1 := hD1.2.2.2.2.2.2
  have m0 : ∀ {σ' : Sg} {o : Rs}, σ' 682 58 = σ 682 58 → C389_27 a1 a2 a3 none none none 1 σ' o → Dd 389 [vA 682, vI a1, vI a2, vI a3] σ' o := by
    intro σ' o h8 hh
    refine b389 ⟨_, _, d383_ok (by omega), ?_⟩
    rw [if_neg (show ¬ (1 : Int) = 0 by decide)]
    refine ⟨_, _, d377_ok k2, ?_⟩
    rw [if_neg (show ¬ (1 : Int) = 0 by decide)]
    refine ⟨_, _, d377_ok k3, ?_⟩
    rw [if_neg (show ¬ (1 : Int) = 0 by decide)]
    exact hh
  have e384 := d384 hD1
  rw [← ht1] at e384
  have e6 := d146 (σ := σ) hr2
  rw [hmm] at e6
  by_cases g7 : (m : Int) < rS (σ (660 + 2 * t1 + 1)) n 0 0
  · have hA : Dd 226 [vA 0, vI a1, vI a2, vI a3] σ (rX 2 σ) := by
      refine b226 (Or.inl ⟨_, _, kk1, hD1.1, Or.inl ⟨_, _, kk2, hr2, Or.inl ⟨_, _, kk3, hr3, _, _, e6, Or.inr ⟨_, _, b241 ⟨_, _, d42 hD1, ?_⟩, rfl⟩⟩⟩⟩)
      rw [if_pos g7]
    have hB : Dd 389 [vA 682, vI a1, vI a2, vI a3] σ (rI 0 (upS σ 682 0 2)) := by
      refine m0 rfl (b389_27 ?_)
      rw [if_neg (show ¬ (1 : Int) = 0 by decide)]
      refine ⟨_, _, e384, k2, ?_⟩
      rw [show a2.toNat = t2 by omega, if_pos (by omega)]
      refine b389_58 ⟨_, _, d245, ?_⟩
      rw [if_neg (show ¬ (2 : Int) = 0 by decide), if_pos rfl]
    exact op_x H (by decide) (b442 (Or.inr (Or.inr ⟨_, hA, rfl⟩))) hB
  have hge := (rS_ge (f := σ (660 + 2 * t1 + 1)) n 0 0).2
  have hff : ∀ k, k < n → 0 ≤ σ (660 + 2 * t1 + 1) k ∧ σ (660 + 2 * t1 + 1) k ≤ 1000 ∧ (σ (660 + 2 * t1 + 1) k < 500 → σ (660 + 2 * t1 + 1) k < m) := by
    intro k hk
    have := hge k (by omega) (by omega)
    rcases cd1 k hk with ⟨z1, z2, z3⟩ | ⟨z1, z2, z3⟩
    · exact ⟨by omega, by omega, fun z => by have := this z; omega⟩
    · exact ⟨by omega, by omega, fun z => by omega⟩
  have off0 : ∀ c k, ¬ c = 680 → upS σ 680 1 0 c k = σ c k := fun c k h => up_a h
  obtain ⟨s1, c1, c2, c4, c5⟩ := l44 (f := σ (660 + 2 * t1 + 1)) (g := σ (11 + 2 * t2 + 1)) hD1.1 hr2 hr3 (by omega) ⟨hD1.2.2.2.1, hD1.2.1⟩ (m := m) ⟨by omega, by omega⟩ (by omega) hff n 0 (upS σ 680 1 0) [] none (by omega) (by rw [off0 _ _ (by omega)]; exact hD1.2.2.1) (by rw [off0 _ _ (by omega)]; exact hmm) (fun i _ => off0 _ _ (by omega)) (fun i _ => off0 _ _ (by omega)) Rw_nil rfl
  have hlen : ([] ++ (List.range' 0 n).map (ptb (σ (660 + 2 * t1 + 1)) (σ (11 + 2 * t2 + 1)))).length = n := by simp
  have es1 : s1 (11 + 2 * t3) 1 = (n : Nat) := by rw [c2.1, hlen]
  have hA : Dd 226 [vA 0, vI a1, vI a2, vI a3] σ (rI (n : Nat) s1) := by
    have e9 := d146 (σ := s1) hr3
    rw [es1] at e9
    exact b226 (Or.inl ⟨_, _, kk1, hD1.1, Or.inl ⟨_, _, kk2, hr2, Or.inl ⟨_, _, kk3, hr3, _, _, e6, Or.inl ⟨_, b241 ⟨_, _, d42 hD1, by rw [if_neg g7]⟩, _, b44 ⟨_, d152 cp680.1, c1⟩, _, _, e9, rfl⟩⟩⟩⟩)
  have hW := b442 (Or.inl ⟨_, _, hA, rfl⟩)
  have ff : ∀ c k, ¬ c = 11 + 2 * t3 → ¬ c = 11 + 2 * t3 + 1 → ¬ c = 680 → ¬ c = 681 → ¬ c = 726 → upS s1 726 0 (n : Nat) c k = σ c k := fun c k h1 h2 h4 h5 h6 => by rw [up_a h6, c4 c k h1 h2 h4 h5, off0 _ _ h4]
  have f2 : ∀ c k, ¬ c = 11 + 2 * t3 → ¬ c = 11 + 2 * t3 + 1 → ¬ c = 680 → ¬ c = 681 → ¬ c = 726 → ¬ (c = 682 ∧ k = 0) → upS (upS s1 726 0 (n : Nat)) 682 0 0 c k = σ c k := by
    intro c k h1 h2 h4 h5 h6 h7
    have : upS (upS s1 726 0 (n : Nat)) 682 0 0 c k = upS s1 726 0 (n : Nat) c k := by
      unfold upS
      rw [if_neg (by omega)]
    rw [this, ff c k h1 h2 h4 h5 h6]
  obtain ⟨s2, m1, m2, m3, m6⟩ := l389 (d := t1) (b := t2) (t := t3) (n := n) (G := fun i => (if σ 725 (40 * t1 + i) < 1000 then σ 722 (40 * t2 + (σ 725 (40 * t1 + i)).toNat) else σ 725 (40 * t1 + i) - 1000)) (by omega) (by omega) (by omega) n40 (d4 := some (vI 1)) n 0 (upS (upS s1 726 0 (n : Nat)) 682 0 0) none (by omega) (by rw [f2 _ _ (by omega) (by omega) (by omega) (by omega) (by omega) (by omega)]; exact e724) (fun i hi => by
    rw [f2 _ _ (by omega) (by omega) (by omega) (by omega) (by omega) (by omega)]
    rcases cd1 i hi with ⟨z1, z2, z3⟩ | ⟨z1, z2, z3⟩ <;> omega) (fun i hi => by
    rw [f2 725 (40 * t1 + i) (by omega) (by omega) (by omega) (by omega) (by omega) (by omega), f2 722 (40 * t2 + _) (by omega) (by omega) (by omega) (by omega) (by omega) (by omega)]) (fun i hi => by omega)
  rw [← ht1, ← ht2, ← ht3] at m1
  have D1' : Dl (upS s1 726 0 (n : Nat)) (660 + 2 * t1) t1 n := Dl_fr (ff _ _ (by omega) (by omega) (by omega) (by omega) (by omega)) (fun k => ff _ _ (by omega) (by omega) (by omega) (by omega) (by omega)) (ff _ _ (by omega) (by omega) (by omega) (by omega) (by omega)) (fun k => ff _ _ (by omega) (by omega) (by omega) (by omega) (by omega)) hD1
  have er : upS s1 726 0 (n : Nat) (660 + 2 * t1 + 1) = σ (660 + 2 * t1 + 1) := funext (fun k => ff _ _ (by omega) (by omega) (by omega) (by omega) (by omega))
  have e384' := d384 D1'
  rw [← ht1, er] at e384'
  have hB : Dd 389 [vA 682, vI a1, vI a2, vI a3] (upS s1 726 0 (n : Nat)) (rI (n : Nat) s2) := by
    refine m0 (ff _ _ (by omega) (by omega) (by omega) (by omega) (by omega)) (b389_27 ?_)
    rw [if_neg (show ¬ (1 : Int) = 0 by decide)]
    refine ⟨_, _, e384', k2, ?_⟩
    rw [show a2.toNat = t2 by omega, ff 723 _ (by omega) (by omega) (by omega) (by omega) (by omega), if_neg (by omega)]
    refine b389_58 ⟨_, _, d245, ?_⟩
    rw [if_pos rfl, if_neg (show ¬ (1 : Int) = 0 by decide)]
    exact m1
  have hoff : ∀ c k, ¬ (c = 726 ∨ (c = 682 ∧ k = 0) ∨ c = 11 + 2 * t3 ∨ c = 11 + 2 * t3 + 1 ∨ c = 680 ∨ c = 681 ∨ c = 705 ∨ (c = 723 ∧ k = t3) ∨ (c = 722 ∧ 40 * t3 ≤ k ∧ k < 40 * t3 + n)) → s2 c k = σ c k := by
    intro c k hc
    rw [m6 c k (by omega) (by omega) (by omega), f2 _ _ (by omega) (by omega) (by omega) (by omega) (by omega) (by omega)]
  have hcl : ∀ c k, c < 682 → s2 c k = s1 c k := by
    intro c k hc
    rw [m6 c k (by omega) (by omega) (by omega), up_a (by omega), up_a (by omega)]
  obtain ⟨h1, h2, h3, h4, h5, h6, h7, h8, h9⟩ := H
  refine op_fin hW hB ?_ (fun _ => ?_) (fun a k ha => by rw [up_a (by omega), c4 _ _ (by omega) (by omega) (by omega) (by omega), off0 _ _ (by omega)]) (fun a k ha => hoff _ _ (by omega)) ⟨fun a ha => ?_, Zl_fr (fun k => hoff _ _ (by omega)) h2, RT_fr (fun c k hc => hoff _ _ (by omega)) h3, ?_, RP_fr (fun c k hc => hoff _ _ (by omega)) h5, RSt_fr (by omega) (fun c k hc => hoff _ _ (by omega)) h6, RU_fr (fun c k hc => hoff _ _ (by omega)) h7, RF_fr (fun c k hc => hoff _ _ (by omega)) h8, RD_fr (fun c k hc => hoff _ _ (by omega)) h9⟩
  · rw [m6 _ _ (by decide) (by omega) (by omega), up_s]
  · rw [m6 _ _ (by decide) (by omega) (by omega), up_a (by decide), up_s]
  · have hlt := row_lt ha
    have n2 : ¬ a = 681 := by intro e; subst e; exact absurd ha (by decide +kernel)
    by_cases e1 : a = 11 + 2 * t3
    · rw [e1, hcl _ _ (by omega), es1]; omega
    · by_cases e2 : a = 680
      · rw [e2, cp680.2, hcl _ _ (by omega)]; exact c5
      · have n3 := row_nx hr3 ha
        rw [hoff _ _ (by omega)]
        exact h1 a ha
  · intro t ht
    obtain ⟨u1, u2⟩ := h4 t ht
    by_cases e : t = t3
    · subst e
      have hval : ∀ i, i < n → s2 (11 + 2 * t + 1) i = ptb (σ (660 + 2 * t1 + 1)) (σ (11 + 2 * t2 + 1)) i := by
        intro i hi
        rw [hcl _ _ (by omega)]
        apply c2.2 i
        rw [List.nil_append, List.getElem?_map, List.getElem?_range' hi]
        simp
      have esz : s2 (11 + 2 * t) 1 = (n : Nat) := by rw [hcl _ _ (by omega)]; exact es1
      refine ⟨⟨by rw [esz, m3], fun i hi => ?_⟩, fun i hi => ?_⟩
      · rw [m3] at hi
        have hi : i < n := by omega
        rw [hval i hi, m2 i hi]
        show _ = (if σ 725 (40 * t1 + i) < 1000 then σ 722 (40 * t2 + (σ 725 (40 * t1 + i)).toNat) else σ 725 (40 * t1 + i) - 1000)
        have hq := hff i hi
        unfold ptb
        rcases cd1 i hi with ⟨z1, z2, z3⟩ | ⟨z1, z2, z3⟩
        · have := hq.2.2 (by omega)
          rw [if_pos (by omega), if_pos (by omega), z3]
          exact hb1.2 _ (by omega)
        · rw [if_neg (by omega), if_neg (by omega), z3]
          omega
      · rw [esz] at hi
        have hi : i < n := by omega
        rw [hval i hi]
        have hq := hff i hi
        unfold ptb
        rcases cd1 i hi with ⟨z1, z2, z3⟩ | ⟨z1, z2, z3⟩
        · have := hq.2.2 (by omega)
          rw [if_pos (by omega)]
          exact hb2 _ (by omega)
        · rw [if_neg (by omega)]
          omega
    · have w := h1 _ (el_10 (i := (t : Int)) (by omega)).2
      have wc := cp_10 (i := (t : Int)) (by omega)
      rw [show ((t : Int)).toNat = t by omega] at w wc
      have u11 := u1.1
      refine ⟨⟨by rw [hoff _ _ (by omega), hoff _ _ (by omega)]; exact u1.1, fun i hi => ?_⟩, fun i hi => ?_⟩
      · rw [hoff 723 _ (by omega)] at hi
        rw [hoff (11 + 2 * t + 1) i (by omega), hoff 722 _ (by omega)]
        exact u1.2 i hi
      · rw [hoff _ _ (by omega)] at hi
        rw [hoff _ _ (by omega)]
        exact u2 i hi
end
-- DRAFT 68.bytes6.lean
/-! delta: how a second row comes of a first one. -/
noncomputable section
def mL (f g : Nat → Int) (n1 n2 : Nat) : Nat → Nat → Nat → Nat
  | 0, _, _ => 0
  | w + 1, p, h => if p < n1 ∧ h < n2 ∧ f p = g h then 1 + mL f g n1 n2 w (p + 1) (h + 1) else 0
def mT (f g : Nat → Int) (n1 n2 p h : Nat) : Nat := mL f g n1 n2 (n2 - h) p h
theorem mL_le {f g : Nat → Int} {n1 n2 : Nat} : ∀ (w p h : Nat), mL f g n1 n2 w p h ≤ w ∧ (p ≤ n1 → p + mL f g n1 n2 w p h ≤ n1) := by
  intro w
  induction w with
  | zero => intro p h; unfold mL; exact ⟨Nat.le_refl _, fun h => by omega⟩
  | succ w ih =>
    intro p h
    unfold mL
    obtain ⟨g1, g2⟩ := ih (p + 1) (h + 1)
    by_cases z : p < n1 ∧ h < n2 ∧ f p = g h
    · rw [if_pos z]
      refine ⟨by omega, fun _ => ?_⟩
      have := g2 (by omega)
      omega
    · rw [if_neg z]
      exact ⟨by omega, fun h => by omega⟩
theorem mT_step {f g : Nat → Int} {n1 n2 p h : Nat} : mT f g n1 n2 p h = if p < n1 ∧ h < n2 ∧ f p = g h then 1 + mT f g n1 n2 (p + 1) (h + 1) else 0 := by
  unfold mT
  by_cases z : h < n2
  · rw [show n2 - h = (n2 - (h + 1)) + 1 by omega]
    rfl
  · rw [show n2 - h = 0 by omega, if_neg (fun e => z e.2.1)]
    rfl
theorem l40 {a b n1 n2 p h : Nat} {σ : Sg} {f g : Nat → Int} (ha : isRow a = true) (hb : isRow b = true) (hA : σ a 1 = (n1 : Nat)) (hB : σ b 1 = (n2 : Nat)) (hn1 : n1 ≤ cap a ∧ n1 ≤ 5000) (hn2 : n2 ≤ cap b ∧ n2 ≤ 5000) (hf : ∀ k, k < n1 → σ (a + 1) k = f k) (hg : ∀ k, k < n2 → σ (b + 1) k = g k) (hp : p ≤ n1) (hh : h ≤ n2) {mo : Nat} (hm : mo = min (n1 - p) (n2 - h)) : ∀ (w j : Nat), j + w = mo → C40_20 a p b h mo j σ (rI ((j + mT f g n1 n2 (p + j) (h + j) : Nat) : Int) σ) := by
  have wa : wR σ a := ⟨ha, by omega, by omega⟩
  have wb : wR σ b := ⟨hb, by omega, by omega⟩
  intro w
  induction w with
  | zero =>
    intro j q
    refine b40_20 ha hb ?_
    rw [if_neg (by omega), mT_step, if_neg (by omega)]
    rfl
  | succ w ih =>
    intro j q
    refine b40_20 ha hb ?_
    have d1 := d147 (i := ((p + j : Nat) : Int)) wa
    rw [at_in hA (by omega), hf _ (by omega)] at d1
    have d2 := d147 (i := ((h + j : Nat) : Int)) wb
    rw [at_in hB (by omega), hg _ (by omega)] at d2
    rw [if_pos (by omega), show (p : Int) + (j : Int) = ((p + j : Nat) : Int) by omega, show (h : Int) + (j : Int) = ((h + j : Nat) : Int) by omega]
    refine ⟨by omega, _, _, d1, by omega, _, _, d2, ?_⟩
    rw [mT_step]
    by_cases z : f (p + j) = g (h + j)
    · rw [if_pos z, if_pos ⟨by omega, by omega, z⟩]
      refine ⟨by omega, ?_⟩
      have e := ih (j + 1) (by omega)
      rw [show j + 1 + mT f g n1 n2 (p + (j + 1)) (h + (j + 1)) = j + (1 + mT f g n1 n2 (p + j + 1) (h + j + 1)) by
        rw [show p + (j + 1) = p + j + 1 by omega, show h + (j + 1) = h + j + 1 by omega]
        omega] at e
      rw [show (j : Int) + 1 = ((j + 1 : Nat) : Int) by omega]
      exact e
    · rw [if_neg z, if_neg (fun e => z e.2.2)]
      rfl
/-- Deltas.matchLength -/
theorem d40 {a b n1 n2 p h : Nat} {σ : Sg} {f g : Nat → Int} (ha : isRow a = true) (hb : isRow b = true) (hA : σ a 1 = (n1 : Nat)) (hB : σ b 1 = (n2 : Nat)) (hn1 : n1 ≤ cap a ∧ n1 ≤ 5000) (hn2 : n2 ≤ cap b ∧ n2 ≤ 5000) (hf : ∀ k, k < n1 → σ (a + 1) k = f k) (hg : ∀ k, k < n2 → σ (b + 1) k = g k) (hp : p ≤ n1) (hh : h ≤ n2) : Dd 40 [vA a, vI p, vA b, vI h] σ (rI (mT f g n1 n2 p h : Nat) σ) := by
  have e := l40 ha hb hA hB hn1 hn2 hf hg hp hh (mo := min (n1 - p) (n2 - h)) rfl _ 0 (Nat.zero_add _)
  have e1 := d146 (σ := σ) ha
  have e2 := d146 (σ := σ) hb
  rw [hA] at e1
  rw [hB] at e2
  refine b40 ha hb ⟨_, _, e1, by omega, _, _, e2, by omega, ?_⟩
  have hm : (if ((n2 : Nat) : Int) - (h : Int) < ((n1 : Nat) : Int) - (p : Int) then ((n2 : Nat) : Int) - (h : Int) else ((n1 : Nat) : Int) - (p : Int)) = ((min (n1 - p) (n2 - h) : Nat) : Int) := by
    split <;> omega
  rw [hm]
  rw [show 0 + mT f g n1 n2 (p + 0) (h + 0) = mT f g n1 n2 p h by rw [Nat.add_zero, Nat.add_zero, Nat.zero_add]] at e
  exact e
def bS (f g : Nat → Int) (n1 n2 h : Nat) : Nat → Nat → Nat × Nat → Nat × Nat
  | 0, _, r => r
  | w + 1, p, r => bS f g n1 n2 h w (p + 1) (if r.2 < mT f g n1 n2 p h then (p, mT f g n1 n2 p h) else r)
def bT (f g : Nat → Int) (n1 n2 h : Nat) : Nat × Nat := bS f g n1 n2 h n1 0 (0, 0)
theorem bS_inv {f g : Nat → Int} {n1 n2 h : Nat} : ∀ (w p : Nat) (r : Nat × Nat), p + w = n1 → r.2 = mT f g n1 n2 r.1 h → r.1 < n1 → (bS f g n1 n2 h w p r).2 = mT f g n1 n2 (bS f g n1 n2 h w p r).1 h ∧ (bS f g n1 n2 h w p r).1 < n1 := by
  intro w
  induction w with
  | zero => intro p r h1 h2 h3; unfold bS; exact ⟨h2, h3⟩
  | succ w ih =>
    intro p r h1 h2 h3
    unfold bS
    refine ih (p + 1) _ (by omega) ?_ ?_
    · split
      · rfl
      · exact h2
    · split
      · show p < n1
        omega
      · exact h3
theorem bT_m {f g : Nat → Int} {n1 n2 h : Nat} : (bT f g n1 n2 h).2 = mT f g n1 n2 (bT f g n1 n2 h).1 h ∧ (bT f g n1 n2 h).1 ≤ n1 := by
  unfold bT
  cases n1 with
  | zero =>
    unfold bS
    refine ⟨?_, Nat.le_refl _⟩
    show 0 = mT f g 0 n2 0 h
    rw [mT_step, if_neg (by omega)]
  | succ n =>
    unfold bS
    have e : (if (0, 0).2 < mT f g (n + 1) n2 0 h then (0, mT f g (n + 1) n2 0 h) else (0, 0)) = (0, mT f g (n + 1) n2 0 h) := by
      by_cases z : 0 < mT f g (n + 1) n2 0 h
      · exact if_pos z
      · rw [if_neg z, show mT f g (n + 1) n2 0 h = 0 by omega]
    rw [e]
    have g := bS_inv (f := f) (g := g) (n1 := n + 1) (n2 := n2) (h := h) n (0 + 1) (0, mT f g (n + 1) n2 0 h) (by omega) rfl (by show 0 < n + 1; omega)
    exact ⟨g.1, by omega⟩
theorem bT_le {f g : Nat → Int} {n1 n2 h : Nat} : (bT f g n1 n2 h).2 ≤ n2 - h ∧ (bT f g n1 n2 h).1 + (bT f g n1 n2 h).2 ≤ n1 := by
  obtain ⟨e1, e2⟩ := bT_m (f := f) (g := g) (n1 := n1) (n2 := n2) (h := h)
  have := mL_le (f := f) (g := g) (n1 := n1) (n2 := n2) (n2 - h) (bT f g n1 n2 h).1 h
  rw [e1]
  exact ⟨this.1, this.2 e2⟩
theorem l39 {a b n1 n2 h : Nat} {σ : Sg} {f g : Nat → Int} (ha : isRow a = true) (hb : isRow b = true) (hA : σ a 1 = (n1 : Nat)) (hB : σ b 1 = (n2 : Nat)) (hn1 : n1 ≤ cap a ∧ n1 ≤ 5000) (hn2 : n2 ≤ cap b ∧ n2 ≤ 5000) (hf : ∀ k, k < n1 → σ (a + 1) k = f k) (hg : ∀ k, k < n2 → σ (b + 1) k = g k) (hh : h ≤ n2) : ∀ (w p : Nat) (r : Nat × Nat) (d6 : Option AV), p + w = n1 → C39_8 a b h r.1 r.2 p d6 σ (rI ((bS f g n1 n2 h w p r).1 : Nat) σ) := by
  have e1 := d146 (σ := σ) ha
  rw [hA] at e1
  intro w
  induction w with
  | zero =>
    intro p r d6 q
    refine b39_8 ha ⟨_, _, e1, ?_⟩
    rw [if_neg (by omega)]
    rfl
  | succ w ih =>
    intro p r d6 q
    refine b39_8 ha ⟨_, _, e1, ?_⟩
    rw [if_pos (by omega)]
    refine ⟨_, _, d40 ha hb hA hB hn1 hn2 hf hg (by omega) hh, b39_41 ⟨by omega, ?_⟩⟩
    unfold bS
    have e := ih (p + 1) (if r.2 < mT f g n1 n2 p h then (p, mT f g n1 n2 p h) else r) (some (vI (mT f g n1 n2 p h : Nat))) (by omega)
    rw [show (p : Int) + 1 = ((p + 1 : Nat) : Int) by omega]
    by_cases z : r.2 < mT f g n1 n2 p h
    · rw [if_pos z] at e
      rw [if_pos (by omega), if_pos (by omega), if_pos z]
      exact e
    · rw [if_neg z] at e
      rw [if_neg (by omega), if_neg (by omega), if_neg z]
      exact e
theorem l38 {p m : Nat} (hp : p ≤ 100) (hm : m ≤ 40) : ∀ (w i : Nat) (σ : Sg) (l : List Int), i + w = m → Rw σ 680 l → l.length + w ≤ 40 → ∃ s, C38_2 p m i σ (rV s) ∧ Rw s 680 (l ++ (List.range' i w).map (fun k => ((p + k : Nat) : Int))) ∧ ∀ c k, ¬ c = 680 → ¬ c = 681 → s c k = σ c k := by
  intro w
  induction w with
  | zero =>
    intro i σ l q1 q2 q3
    refine ⟨σ, b38_2 ?_, by simpa using q2, fun _ _ _ _ => rfl⟩
    rw [if_neg (by omega)]
  | succ w ih =>
    intro i σ l q1 q2 q3
    obtain ⟨s, g1, g2, g3⟩ := ih (i + 1) (adS σ 680 ((p + i : Nat) : Int)) (l ++ [((p + i : Nat) : Int)]) (by omega) (Rw_ad q2 (by rw [cp680.2]; omega)) (by simp only [List.length_append, List.length_cons, List.length_nil]; omega)
    refine ⟨s, b38_2 ?_, ?_, fun c k h1 h2 => by rw [g3 c k h1 h2, ad_off h1 h2]⟩
    · rw [if_pos (by omega), show (p : Int) + (i : Int) = ((p + i : Nat) : Int) by omega]
      refine ⟨by omega, _, d149 (Rw_wR cp680.1 q2 (by rw [cp680.2]; omega)), by omega, ?_⟩
      rw [show (i : Int) + 1 = ((i + 1 : Nat) : Int) by omega]
      exact g1
    · rw [List.append_assoc] at g2
      rw [List.range'_succ, List.map_cons]
      exact g2
def cds (f g : Nat → Int) (n1 n2 : Nat) : Nat → Nat → List Int
  | 0, _ => []
  | w + 1, h => if h < n2 then (if 3 ≤ (bT f g n1 n2 h).2 then (List.range' 0 (bT f g n1 n2 h).2).map (fun k => (((bT f g n1 n2 h).1 + k : Nat) : Int)) ++ cds f g n1 n2 w (h + (bT f g n1 n2 h).2) else (500 + g h) :: cds f g n1 n2 w (h + 1)) else []
theorem cds_len {f g : Nat → Int} {n1 n2 : Nat} : ∀ (w h : Nat), n2 - h ≤ w → (cds f g n1 n2 w h).length = n2 - h := by
  intro w
  induction w with
  | zero => intro h q; unfold cds; show 0 = _; omega
  | succ w ih =>
    intro h q
    unfold cds
    by_cases z : h < n2
    · rw [if_pos z]
      have hb := (bT_le (f := f) (g := g) (n1 := n1) (n2 := n2) (h := h)).1
      by_cases y : 3 ≤ (bT f g n1 n2 h).2
      · rw [if_pos y, List.length_append, List.length_map, List.length_range', ih _ (by omega)]
        omega
      · rw [if_neg y, List.length_cons, ih _ (by omega)]
        omega
    · rw [if_neg z]
      show 0 = _
      omega
theorem cds_ok {f g : Nat → Int} {n1 n2 : Nat} (h1 : n1 ≤ 40) (hg : ∀ k, k < n2 → 0 ≤ g k ∧ g k ≤ 255) : ∀ (w h : Nat), ∀ v ∈ cds f g n1 n2 w h, (0 ≤ v ∧ v < 40) ∨ (500 ≤ v ∧ v ≤ 755) := by
  intro w
  induction w with
  | zero => intro h v hv; unfold cds at hv; simp at hv
  | succ w ih =>
    intro h v hv
    unfold cds at hv
    by_cases z : h < n2
    · rw [if_pos z] at hv
      have hb := (bT_le (f := f) (g := g) (n1 := n1) (n2 := n2) (h := h)).2
      by_cases y : 3 ≤ (bT f g n1 n2 h).2
      · rw [if_pos y] at hv
        rcases List.mem_append.mp hv with q | q
        · obtain ⟨k, hk, rfl⟩ := List.mem_map.mp q
          have := List.mem_range'_1.mp hk
          left
          omega
        · exact ih _ v q
      · rw [if_neg y] at hv
        rcases List.mem_cons.mp hv with q | q
        · have := hg h z
          right
          omega
        · exact ih _ v q
    · rw [if_neg z] at hv
      simp at hv
/-- Deltas.find, from a place on -/
theorem l36 {a b n1 n2 : Nat} {f g : Nat → Int} (ha : isRow a = true) (hb : isRow b = true) (hab : a < 679 ∧ b < 679) (hn1 : n1 ≤ cap a ∧ n1 ≤ 40) (hn2 : n2 ≤ cap b ∧ n2 ≤ 40) (hg9 : ∀ k, k < n2 → 0 ≤ g k ∧ g k ≤ 255) {D : Nat} (h10 : D < 10) : ∀ (w h : Nat) (σ : Sg) (l : List Int) (d4 d5 : Option AV), n2 - h ≤ w → h ≤ n2 → σ a 1 = (n1 : Nat) → σ b 1 = (n2 : Nat) → (∀ k, k < n1 → σ (a + 1) k = f k) → (∀ k, k < n2 → σ (b + 1) k = g k) → σ 658 1 = (D : Nat) → Rw σ 680 l → l.length = h → ∃ s, C36_9 a b h d4 d5 σ (rI D s) ∧ Rw s (660 + 2 * D) (l ++ cds f g n1 n2 w h) ∧ s 658 1 = (D : Int) + 1 ∧ (∀ c j, ¬ c = 660 + 2 * D → ¬ c = 660 + 2 * D + 1 → ¬ c = 658 → ¬ c = 680 → ¬ c = 681 → s c j = σ c j) ∧ 0 ≤ s 680 1 ∧ s 680 1 ≤ 40 := by
  intro w
  have stop : ∀ (w h : Nat) (σ : Sg) (l : List Int) (d4 d5 : Option AV), h = n2 → σ b 1 = (n2 : Nat) → σ 658 1 = (D : Nat) → Rw σ 680 l → l.length = h → ∃ s, C36_9 a b h d4 d5 σ (rI D s) ∧ Rw s (660 + 2 * D) (l ++ cds f g n1 n2 w h) ∧ s 658 1 = (D : Int) + 1 ∧ (∀ c j, ¬ c = 660 + 2 * D → ¬ c = 660 + 2 * D + 1 → ¬ c = 658 → ¬ c = 680 → ¬ c = 681 → s c j = σ c j) ∧ 0 ≤ s 680 1 ∧ s 680 1 ≤ 40 := by
    intro w h σ l d4 d5 q1 q2 q6 q7 q8
    obtain ⟨s, g1, g2, g3, g4⟩ := d37 q6 h10 q7 (by omega)
    have hc : cds f g n1 n2 w h = [] := by
      cases w with
      | zero => rfl
      | succ w => unfold cds; rw [if_neg (by omega)]
    refine ⟨s, b36_9 hb ⟨_, _, d146 hb, ?_⟩, by rw [hc, List.append_nil]; exact g2, g3, fun c j h1 h2 h3 _ _ => g4 c j h1 h2 h3, by rw [g4 680 1 (by omega) (by omega) (by omega), q7.1]; omega, by rw [g4 680 1 (by omega) (by omega) (by omega), q7.1]; omega⟩
    rw [if_neg (by omega)]
    exact ⟨_, _, g1, rfl⟩
  induction w with
  | zero =>
    intro h σ l d4 d5 q0 q1 q2 q3 q4 q5 q6 q7 q8
    exact stop 0 h σ l d4 d5 (by omega) q3 q6 q7 q8
  | succ w ih =>
    intro h σ l d4 d5 q0 q1 q2 q3 q4 q5 q6 q7 q8
    by_cases hlt : h < n2
    · have e39 := l39 ha hb q2 q3 ⟨hn1.1, by omega⟩ ⟨hn2.1, by omega⟩ q4 q5 q1 n1 0 (0, 0) none (by omega)
      have e39 : Dd 39 [vA a, vA b, vI h] σ (rI ((bT f g n1 n2 h).1 : Nat) σ) := b39 e39
      have hbm := bT_m (f := f) (g := g) (n1 := n1) (n2 := n2) (h := h)
      have hbl := bT_le (f := f) (g := g) (n1 := n1) (n2 := n2) (h := h)
      have e40 := d40 ha hb q2 q3 ⟨hn1.1, by omega⟩ ⟨hn2.1, by omega⟩ q4 q5 hbm.2 q1
      rw [← hbm.1] at e40
      have wb : wR σ b := ⟨hb, by omega, by omega⟩
      unfold cds
      rw [if_pos hlt]
      generalize hP : (bT f g n1 n2 h).1 = P at e39 e40 hbl ⊢
      generalize hM : (bT f g n1 n2 h).2 = M at e40 hbl ⊢
      by_cases y : 3 ≤ M
      · rw [if_pos y]
        obtain ⟨s0, k1, k2, k3⟩ := l38 (p := P) (m := M) (by omega) (by omega) M 0 σ l (by omega) q7 (by omega)
        obtain ⟨s, g1, g2, g3, g4, g5⟩ := ih (h + M) s0 (l ++ (List.range' 0 M).map (fun k => ((P + k : Nat) : Int))) (some (vI (P : Nat))) (some (vI (M : Nat))) (by omega) (by omega) (by rw [k3 _ _ (by omega) (by omega)]; exact q2) (by rw [k3 _ _ (by omega) (by omega)]; exact q3) (fun k hk => by rw [k3 _ _ (by omega) (by omega)]; exact q4 k hk) (fun k hk => by rw [k3 _ _ (by omega) (by omega)]; exact q5 k hk) (by rw [k3 _ _ (by omega) (by omega)]; exact q6) k2 (by rw [List.length_append, List.length_map, List.length_range', q8])
        refine ⟨s, b36_9 hb ⟨_, _, d146 hb, ?_⟩, by rw [List.append_assoc] at g2; exact g2, g3, fun c j h1 h2 h3 h4 h5 => by rw [g4 c j h1 h2 h3 h4 h5, k3 _ _ h4 h5], g5⟩
        rw [if_pos (by omega)]
        refine ⟨_, _, e39, _, _, e40, ?_⟩
        rw [if_pos (by omega)]
        refine ⟨_, b38 k1, by omega, b36_76 ?_⟩
        rw [show (h : Int) + ((M : Nat) : Int) = ((h + M : Nat) : Int) by omega]
        exact g1
      · rw [if_neg y]
        have hd := d147 (i := (h : Int)) wb
        rw [at_in q3 hlt, q5 _ hlt] at hd
        have hgh := hg9 h hlt
        obtain ⟨s, g1, g2, g3, g4, g5⟩ := ih (h + 1) (adS σ 680 (500 + g h)) (l ++ [500 + g h]) (some (vI (P : Nat))) (some (vI (M : Nat))) (by omega) (by omega) (by rw [ad_off (by omega) (by omega)]; exact q2) (by rw [ad_off (by omega) (by omega)]; exact q3) (fun k hk => by rw [ad_off (by omega) (by omega)]; exact q4 k hk) (fun k hk => by rw [ad_off (by omega) (by omega)]; exact q5 k hk) (by rw [ad_off (by omega) (by omega)]; exact q6) (Rw_ad q7 (by rw [cp680.2]; omega)) (by rw [List.length_append, q8]; rfl)
        refine ⟨s, b36_9 hb ⟨_, _, d146 hb, ?_⟩, by rw [List.append_assoc] at g2; exact g2, g3, fun c j h1 h2 h3 h4 h5 => by rw [g4 c j h1 h2 h3 h4 h5, ad_off h4 h5], g5⟩
        rw [if_pos (by omega)]
        refine ⟨_, _, e39, _, _, e40, ?_⟩
        rw [if_neg (by omega)]
        refine ⟨_, _, hd, by omega, _, d149 (Rw_wR cp680.1 q7 (by rw [cp680.2]; omega)), by omega, b36_76 ?_⟩
        rw [show (h : Int) + 1 = ((h + 1 : Nat) : Int) by omega]
        exact g1
    · exact stop (w + 1) h σ l d4 d5 (by omega) q3 q6 q7 q8
end
-- DRAFT 69.bytes7.lean
/-! delta: the model's side, and the call. -/
noncomputable section
theorem d381 {r t n1 n2 p h : Nat} {σ : Sg} {f g : Nat → Int} (hr : r < 4) (ht : t < 4) (hA : σ 723 r = (n1 : Nat)) (hB : σ 723 t = (n2 : Nat)) (hn1 : n1 ≤ 40) (hn2 : n2 ≤ 40) (hf : ∀ k, k < n1 → σ 722 (40 * r + k) = f k) (hg : ∀ k, k < n2 → σ 722 (40 * t + k) = g k) (hp : p ≤ 40) (hh : h ≤ n2) : Dd 381 [vA 682, vI r, vI p, vI t, vI h] σ (rI (mT f g n1 n2 p h : Nat) σ) := by
  have l : ∀ (w j : Nat), h + j + w = n2 → p + j ≤ 80 → C381_3 r p t h j σ (rI ((j + mT f g n1 n2 (p + j) (h + j) : Nat) : Int) σ) := by
    intro w
    induction w with
    | zero =>
      intro j q q2
      refine b381_3 ⟨by omega, by omega, ?_⟩
      rw [mT_step, if_neg (show ¬ (p + j < n1 ∧ h + j < n2 ∧ f (p + j) = g (h + j)) by omega), show ((r : Int)).toNat = r by omega, show ((t : Int)).toNat = t by omega]
      by_cases z : (p : Int) + (j : Int) < σ 723 r
      · rw [if_pos z]
        refine ⟨by omega, by omega, ?_⟩
        rw [if_neg (by omega)]
        rfl
      · rw [if_neg z]
        rfl
    | succ w ih =>
      intro j q q2
      refine b381_3 ⟨by omega, by omega, ?_⟩
      rw [mT_step, show ((r : Int)).toNat = r by omega, show ((t : Int)).toNat = t by omega]
      by_cases z : (p : Int) + (j : Int) < σ 723 r
      · rw [if_pos z]
        refine ⟨by omega, by omega, ?_⟩
        rw [if_pos (by omega), show (40 * (r : Int) + (p : Int) + (j : Int)).toNat = 40 * r + (p + j) by omega, show (40 * (t : Int) + (h : Int) + (j : Int)).toNat = 40 * t + (h + j) by omega, hf _ (by omega), hg _ (by omega)]
        refine ⟨by omega, by omega, by omega, by omega, by omega, by omega, by omega, by omega, ?_⟩
        by_cases y : f (p + j) = g (h + j)
        · rw [if_pos y, if_pos ⟨by omega, by omega, y⟩]
          refine ⟨by omega, ?_⟩
          have e := ih (j + 1) (by omega) (by omega)
          rw [show j + 1 + mT f g n1 n2 (p + (j + 1)) (h + (j + 1)) = j + (1 + mT f g n1 n2 (p + j + 1) (h + j + 1)) by
            rw [show p + (j + 1) = p + j + 1 by omega, show h + (j + 1) = h + j + 1 by omega]
            omega] at e
          rw [show (j : Int) + 1 = ((j + 1 : Nat) : Int) by omega]
          exact e
        · rw [if_neg y, if_neg (fun e => y e.2.2)]
          rfl
      · rw [if_neg z, if_neg (by omega)]
        rfl
  have e := l (n2 - h) 0 (by omega) (by omega)
  rw [show 0 + mT f g n1 n2 (p + 0) (h + 0) = mT f g n1 n2 p h by rw [Nat.add_zero, Nat.add_zero, Nat.zero_add]] at e
  exact b381 e
/-- the model's search for the longest -/
theorem l382a {r t n1 n2 h : Nat} {σ : Sg} {f g : Nat → Int} (hr : r < 4) (ht : t < 4) (hA : σ 723 r = (n1 : Nat)) (hB : σ 723 t = (n2 : Nat)) (hn1 : n1 ≤ 40) (hn2 : n2 ≤ 40) (hf : ∀ k, k < n1 → σ 722 (40 * r + k) = f k) (hg : ∀ k, k < n2 → σ 722 (40 * t + k) = g k) (hh : h ≤ n2) {o : Rs} : ∀ (w p : Nat) (q : Nat × Nat) (d7 : Option AV), p + w = n1 → (∀ d7, C382_125 r t h ((bS f g n1 n2 h w p q).2 : Nat) ((bS f g n1 n2 h w p q).1 : Nat) 0 d7 σ o) → C382_62 r t h (q.2 : Nat) (q.1 : Nat) p d7 σ o := by
  intro w
  induction w with
  | zero =>
    intro p q d7 h1 H
    refine b382_62 ⟨by omega, ?_⟩
    rw [show ((r : Int)).toNat = r by omega, if_neg (by omega)]
    exact H _
  | succ w ih =>
    intro p q d7 h1 H
    refine b382_62 ⟨by omega, ?_⟩
    rw [show ((r : Int)).toNat = r by omega, if_pos (by omega)]
    refine ⟨_, _, d381 hr ht hA hB hn1 hn2 hf hg (by omega) hh, b382_98 (b382_114 ⟨by omega, ?_⟩)⟩
    have e := ih (p + 1) (if q.2 < mT f g n1 n2 p h then (p, mT f g n1 n2 p h) else q) (some (vI (mT f g n1 n2 p h : Nat))) (by omega) H
    rw [show (p : Int) + 1 = ((p + 1 : Nat) : Int) by omega]
    by_cases z : q.2 < mT f g n1 n2 p h
    · rw [if_pos z] at e
      rw [if_pos (by omega), if_pos (by omega)]
      exact e
    · rw [if_neg z] at e
      rw [if_neg (by omega), if_neg (by omega)]
      exact e
/-- the model notes a copy -/
theorem l382b {r t n2 h D M P : Nat} {o : Rs} (hM : 3 ≤ M) (hhM : h + M ≤ n2) (hn2 : n2 ≤ 40) (hP : P ≤ 40) (h10 : D < 10) : ∀ (w i : Nat) (σ : Sg) (d7 : Option AV), i + w = M → σ 682 58 = (D : Nat) → (∀ d5 d6 d7, C382_166 r t h M d5 d6 d7 (fun c k => if c = 725 ∧ 40 * D + h + i ≤ k ∧ k < 40 * D + h + M then ((P + (k - (40 * D + h)) : Nat) : Int) else σ c k) o) → C382_125 r t h M P i d7 σ o := by
  intro w
  induction w with
  | zero =>
    intro i σ d7 q1 q2 H
    refine b382_125 ?_
    rw [if_neg (by omega)]
    have e : (fun c k => if c = 725 ∧ 40 * D + h + i ≤ k ∧ k < 40 * D + h + M then ((P + (k - (40 * D + h)) : Nat) : Int) else σ c k) = σ := by
      funext c k
      rw [if_neg (by omega)]
    rw [e] at H
    exact H _ _ _
  | succ w ih =>
    intro i σ d7 q1 q2 H
    refine b382_125 ?_
    rw [if_pos (by omega), if_pos (by omega), q2]
    refine ⟨by omega, by omega, by omega, by omega, by omega, by omega, ?_⟩
    rw [show (40 * ((D : Nat) : Int) + (h : Int) + (i : Int)).toNat = 40 * D + h + i by omega, show ((P : Nat) : Int) + (i : Int) = ((P + i : Nat) : Int) by omega, show (i : Int) + 1 = ((i + 1 : Nat) : Int) by omega]
    refine ih (i + 1) _ d7 (by omega) (by rw [up_a (by decide)]; exact q2) ?_
    have e : (fun c k => if c = 725 ∧ 40 * D + h + (i + 1) ≤ k ∧ k < 40 * D + h + M then ((P + (k - (40 * D + h)) : Nat) : Int) else upS σ 725 (40 * D + h + i) ((P + i : Nat) : Int) c k) = (fun c k => if c = 725 ∧ 40 * D + h + i ≤ k ∧ k < 40 * D + h + M then ((P + (k - (40 * D + h)) : Nat) : Int) else σ c k) := by
      funext c k
      by_cases z : c = 725 ∧ k = 40 * D + h + i
      · rw [if_neg (by omega), if_pos (by omega), z.1, z.2, up_s]
        congr 2
        omega
      · have : upS σ 725 (40 * D + h + i) ((P + i : Nat) : Int) c k = σ c k := by
          unfold upS
          rw [if_neg z]
        rw [this]
        by_cases y : c = 725 ∧ 40 * D + h + (i + 1) ≤ k ∧ k < 40 * D + h + M
        · rw [if_pos y, if_pos (by omega)]
        · rw [if_neg y, if_neg (by omega)]
    rw [e]
    exact H
def enc (v : Int) : Int := if v < 500 then v else v + 500
theorem l382 {r t n1 n2 D : Nat} {f g : Nat → Int} (hr : r < 4) (ht : t < 4) (hn1 : n1 ≤ 40) (hn2 : n2 ≤ 40) (hg9 : ∀ k, k < n2 → 0 ≤ g k ∧ g k ≤ 255) (h10 : D < 10) : ∀ (w h : Nat) (σ : Sg), n2 - h ≤ w → h ≤ n2 → σ 723 r = (n1 : Nat) → σ 723 t = (n2 : Nat) → (∀ k, k < n1 → σ 722 (40 * r + k) = f k) → (∀ k, k < n2 → σ 722 (40 * t + k) = g k) → σ 682 58 = (D : Nat) → ∃ s, (∀ d4 d5 d6 d7, C382_43 r t h d4 d5 d6 d7 σ (rI D s)) ∧ (∀ i v, (cds f g n1 n2 w h)[i]? = some v → s 725 (40 * D + h + i) = enc v) ∧ (∀ i, i < 40 * D + h → s 725 i = σ 725 i) ∧ s 724 D = (n2 : Nat) ∧ s 682 58 = (D : Int) + 1 ∧ ∀ c j, ¬ c = 725 → ¬ (c = 724 ∧ j = D) → ¬ (c = 682 ∧ j = 58) → s c j = σ c j := by
  intro w
  have stop : ∀ (w h : Nat) (σ : Sg), h = n2 → σ 723 t = (n2 : Nat) → σ 682 58 = (D : Nat) → ∃ s, (∀ d4 d5 d6 d7, C382_43 r t h d4 d5 d6 d7 σ (rI D s)) ∧ (∀ i v, (cds f g n1 n2 w h)[i]? = some v → s 725 (40 * D + h + i) = enc v) ∧ (∀ i, i < 40 * D + h → s 725 i = σ 725 i) ∧ s 724 D = (n2 : Nat) ∧ s 682 58 = (D : Int) + 1 ∧ ∀ c j, ¬ c = 725 → ¬ (c = 724 ∧ j = D) → ¬ (c = 682 ∧ j = 58) → s c j = σ c j := by
    intro w h σ q1 q2 q3
    have hc : cds f g n1 n2 w h = [] := by
      cases w with
      | zero => rfl
      | succ w => unfold cds; rw [if_neg (by omega)]
    refine ⟨upS (upS σ 724 D (n2 : Nat)) 682 58 ((D : Int) + 1), fun d4 d5 d6 d7 => b382_43 ⟨by omega, ?_⟩, fun i v hv => by rw [hc] at hv; simp at hv, fun i _ => by rw [up_a (by decide), up_a (by decide)], by rw [up_a (by decide), up_s], up_s, fun c j h1 h2 h3 => ?_⟩
    · rw [show ((t : Int)).toNat = t by omega, q2, if_neg (by omega), q3, show ((D : Nat) : Int).toNat = D by omega, up_a (show ¬ 682 = 724 by decide), q3, up_s]
      refine ⟨by omega, by omega, by omega, by omega, ?_⟩
      rw [show ((D : Nat) : Int) + 1 - 1 = (D : Int) by omega]
    · unfold upS
      rw [if_neg (by omega), if_neg (by omega)]
  induction w with
  | zero =>
    intro h σ q0 q1 q2 q3 q4 q5 q6
    exact stop 0 h σ (by omega) q3 q6
  | succ w ih =>
    intro h σ q0 q1 q2 q3 q4 q5 q6
    by_cases hlt : h < n2
    · have hbl := bT_le (f := f) (g := g) (n1 := n1) (n2 := n2) (h := h)
      have key : ∀ {o : Rs} (d4 d5 d6 d7 : Option AV), (∀ d7, C382_125 r t h ((bT f g n1 n2 h).2 : Nat) ((bT f g n1 n2 h).1 : Nat) 0 d7 σ o) → C382_43 r t h d4 d5 d6 d7 σ o := by
        intro o d4 d5 d6 d7 hh
        refine b382_43 ⟨by omega, ?_⟩
        rw [show ((t : Int)).toNat = t by omega, if_pos (by omega)]
        exact l382a hr ht q2 q3 hn1 hn2 q4 q5 q1 n1 0 (0, 0) d7 (by omega) hh
      unfold cds
      rw [if_pos hlt]
      generalize hP : (bT f g n1 n2 h).1 = P at key hbl ⊢
      generalize hM : (bT f g n1 n2 h).2 = M at key hbl ⊢
      by_cases y : 3 ≤ M
      · rw [if_pos y]
        have hst : ∀ c k, ¬ c = 725 → (fun c k => if c = 725 ∧ 40 * D + h + 0 ≤ k ∧ k < 40 * D + h + M then ((P + (k - (40 * D + h)) : Nat) : Int) else σ c k : Sg) c k = σ c k := by
          intro c k hc
          show (if _ then _ else _) = _
          rw [if_neg (fun e => hc e.1)]
        have hin : ∀ k, k < M → (fun c k => if c = 725 ∧ 40 * D + h + 0 ≤ k ∧ k < 40 * D + h + M then ((P + (k - (40 * D + h)) : Nat) : Int) else σ c k : Sg) 725 (40 * D + h + k) = ((P + k : Nat) : Int) := by
          intro k hk
          show (if _ then _ else _) = _
          rw [if_pos ⟨rfl, by omega, by omega⟩]
          congr 2
          omega
        have hou : ∀ k, k < 40 * D + h → (fun c k => if c = 725 ∧ 40 * D + h + 0 ≤ k ∧ k < 40 * D + h + M then ((P + (k - (40 * D + h)) : Nat) : Int) else σ c k : Sg) 725 k = σ 725 k := by
          intro k hk
          show (if _ then _ else _) = _
          rw [if_neg (by omega)]
        have lb := fun (o : Rs) => l382b (r := r) (t := t) (n2 := n2) (h := h) (D := D) (M := M) (P := P) (o := o) y (by omega) hn2 (by omega) h10 M 0 σ
        generalize (fun c k => if c = 725 ∧ 40 * D + h + 0 ≤ k ∧ k < 40 * D + h + M then ((P + (k - (40 * D + h)) : Nat) : Int) else σ c k : Sg) = σ2 at hst hin hou lb
        obtain ⟨s, g1, g2, g3, g4, g5, g6⟩ := ih (h + M) σ2 (by omega) (by omega) (by rw [hst _ _ (by decide)]; exact q2) (by rw [hst _ _ (by decide)]; exact q3) (fun k hk => by rw [hst _ _ (by decide)]; exact q4 k hk) (fun k hk => by rw [hst _ _ (by decide)]; exact q5 k hk) (by rw [hst _ _ (by decide)]; exact q6)
        refine ⟨s, fun d4 d5 d6 d7 => key d4 d5 d6 d7 (fun d7 => lb _ d7 (by omega) q6 (fun d5 d6 d7 => b382_166 ?_)), fun i v hv => ?_, fun i hi => by rw [g3 i (by omega), hou i hi], g4, g5, fun c j h1 h2 h3 => by rw [g6 c j h1 h2 h3, hst c j h1]⟩
        · rw [if_neg (by omega)]
          refine b382_201 (b382_214 ?_)
          rw [if_neg (show ¬ ((M : Nat) : Int) < 3 by omega), show (h : Int) + ((M : Nat) : Int) = ((h + M : Nat) : Int) by omega]
          exact ⟨by omega, g1 _ _ _ _⟩
        · by_cases z : i < M
          · rw [List.getElem?_append_left (by rw [List.length_map, List.length_range']; exact z), List.getElem?_map, List.getElem?_range' z] at hv
            have hv : ((P + (0 + 1 * i) : Nat) : Int) = v := by simpa using hv
            rw [g3 _ (by omega), hin i z, ← hv]
            unfold enc
            rw [if_pos (by omega)]
            congr 1
            omega
          · rw [List.getElem?_append_right (by rw [List.length_map, List.length_range']; omega), List.length_map, List.length_range'] at hv
            have e := g2 _ v hv
            rw [show 40 * D + (h + M) + (i - M) = 40 * D + h + i by omega] at e
            exact e
      · rw [if_neg y]
        obtain ⟨s, g1, g2, g3, g4, g5, g6⟩ := ih (h + 1) (upS σ 725 (40 * D + h) (1000 + g h)) (by omega) (by omega) (by rw [up_a (by decide)]; exact q2) (by rw [up_a (by decide)]; exact q3) (fun k hk => by rw [up_a (by decide)]; exact q4 k hk) (fun k hk => by rw [up_a (by decide)]; exact q5 k hk) (by rw [up_a (by decide)]; exact q6)
        have hgh := hg9 h hlt
        refine ⟨s, fun d4 d5 d6 d7 => key d4 d5 d6 d7 (fun d7 => b382_125 ?_), fun i v hv => ?_, fun i hi => by rw [g3 i (by omega), up_k (by omega)], g4, g5, fun c j h1 h2 h3 => by rw [g6 c j h1 h2 h3, up_a h1]⟩
        · have go : ∀ d5 d6, C382_166 r t h (M : Nat) d5 d6 d7 σ (rI D s) := by
            intro d5 d6
            refine b382_166 ?_
            rw [if_pos (by omega), q6, show (40 * ((D : Nat) : Int) + (h : Int)).toNat = 40 * D + h by omega, show (40 * (t : Int) + (h : Int)).toNat = 40 * t + h by omega, q5 h hlt]
            refine ⟨by omega, by omega, by omega, by omega, by omega, by omega, by omega, b382_201 (b382_214 ?_)⟩
            rw [if_pos (show ((M : Nat) : Int) < 3 by omega), show (h : Int) + 1 = ((h + 1 : Nat) : Int) by omega]
            exact ⟨by omega, g1 _ _ _ _⟩
          by_cases z : (0 : Int) < ((M : Nat) : Int)
          · rw [if_pos z, if_neg (by omega)]
            exact go _ _
          · rw [if_neg z]
            exact go _ _
        · cases i with
          | zero =>
            have hv : 500 + g h = v := by simpa using hv
            rw [g3 _ (by omega), Nat.add_zero, up_s, ← hv]
            unfold enc
            rw [if_neg (by omega)]
            omega
          | succ i =>
            rw [List.getElem?_cons_succ] at hv
            have e := g2 _ v hv
            rw [show 40 * D + (h + 1) + i = 40 * D + h + (i + 1) by omega] at e
            exact e
    · exact stop (w + 1) h σ (by omega) q3 q6
theorem o50 {σ : Sg} {c a1 a2 : Int} (H : Rel c σ) : OpR 438 382 [vA 0, vI a1, vI a2, vA 726] [vA 682, vI a1, vI a2] σ (c + 1) := by
  by_cases g1 : a1 < 0
  · exact x50_0 H g1
  by_cases g2 : 4 ≤ a1
  · exact x50_1 H g2
  have k1 : 0 ≤ a1 ∧ a1 < 4 := by omega
  by_cases g3 : a2 < 0
  · exact x50_2 H k1 g3
  by_cases g4 : 4 ≤ a2
  · exact x50_3 H k1 g4
  have k2 : 0 ≤ a2 ∧ a2 < 4 := by omega
  have hn := (rel_n H).2.2.2.2
  obtain ⟨b1, b2, b3⟩ := rel_b H k1
  obtain ⟨d1, d2, d3⟩ := rel_b H k2
  obtain ⟨hb1, hb2⟩ := H.2.2.2.1 a1.toNat (by omega)
  obtain ⟨hd1, hd2⟩ := H.2.2.2.1 a2.toNat (by omega)
  have hr1 := (el_10 k1).2
  have hr2 := (el_10 k2).2
  have hc1 := cp_10 k1
  have hc2 := cp_10 k2
  obtain ⟨t1, ht1⟩ := Int.eq_ofNat_of_zero_le k1.1
  obtain ⟨t2, ht2⟩ := Int.eq_ofNat_of_zero_le k2.1
  have kk1 := d228_ok (σ := σ) k1
  have kk2 := d228_ok (σ := σ) k2
  rw [show a1.toNat = t1 by omega] at kk1 b1 b2 b3 hb1 hb2 hr1 hc1
  rw [show a2.toNat = t2 by omega] at kk2 d1 d2 d3 hd1 hd2 hr2 hc2
  obtain ⟨n1, hn1⟩ := Int.eq_ofNat_of_zero_le b2
  obtain ⟨n2, hn2⟩ := Int.eq_ofNat_of_zero_le d2
  have m0 : ∀ {σ' : Sg} {o : Rs}, C382_33 a1 a2 none none none none none (if (σ' 682 58) = 10 then 2 else 0) σ' o → Dd 382 [vA 682, vI a1, vI a2] σ' o := by
    intro σ' o hh
    refine b382 ⟨_, _, d377_ok k1, ?_⟩
    rw [if_neg (show ¬ (1 : Int) = 0 by decide)]
    refine ⟨_, _, d377_ok k2, ?_⟩
    rw [if_neg (show ¬ (1 : Int) = 0 by decide)]
    exact hh
  by_cases g6 : 10 ≤ σ 658 1
  · have hA : Dd 222 [vA 0, vI a1, vI a2] σ (rX 2 σ) := b222 (Or.inl ⟨_, _, kk1, hr1, Or.inl ⟨_, _, kk2, hr2, Or.inr ⟨_, _, b240 (by rw [if_pos g6]), rfl⟩⟩⟩)
    have hB : Dd 382 [vA 682, vI a1, vI a2] σ (rI 0 (upS σ 682 0 2)) := by
      refine m0 ?_
      rw [if_pos (by omega)]
      refine b382_33 ⟨_, _, d245, ?_⟩
      rw [if_neg (show ¬ (2 : Int) = 0 by decide), if_pos rfl]
    exact op_x H (by decide) (b438 (Or.inr (Or.inr ⟨_, hA, rfl⟩))) hB
  obtain ⟨D, hDD⟩ := Int.eq_ofNat_of_zero_le (show 0 ≤ σ 658 1 by omega)
  have hg9 : ∀ k, k < n2 → 0 ≤ σ (11 + 2 * t2 + 1) k ∧ σ (11 + 2 * t2 + 1) k ≤ 255 := fun k hk => hd2 k (by omega)
  have off0 : ∀ c k, ¬ c = 680 → upS σ 680 1 0 c k = σ c k := fun c k h => up_a h
  obtain ⟨s1, c1, c2, c3, c4, c5⟩ := l36 (f := σ (11 + 2 * t1 + 1)) (g := σ (11 + 2 * t2 + 1)) (n1 := n1) (n2 := n2) hr1 hr2 (by omega) (by omega) (by omega) hg9 (D := D) (by omega) n2 0 (upS σ 680 1 0) [] none none (by omega) (by omega) (by rw [off0 _ _ (by omega)]; exact hn1) (by rw [off0 _ _ (by omega)]; exact hn2) (fun k _ => off0 _ _ (by omega)) (fun k _ => off0 _ _ (by omega)) (by rw [off0 _ _ (by omega)]; exact hDD) Rw_nil rfl
  have hA : Dd 222 [vA 0, vI a1, vI a2] σ (rI D s1) := b222 (Or.inl ⟨_, _, kk1, hr1, Or.inl ⟨_, _, kk2, hr2, Or.inl ⟨_, b240 (by rw [if_neg g6]), _, _, b36 ⟨_, d152 cp680.1, c1⟩, rfl⟩⟩⟩)
  have hW := b438 (Or.inl ⟨_, _, hA, rfl⟩)
  have ff : ∀ c k, ¬ c = 660 + 2 * D → ¬ c = 660 + 2 * D + 1 → ¬ c = 658 → ¬ c = 680 → ¬ c = 681 → ¬ c = 726 → upS s1 726 0 (D : Nat) c k = σ c k := fun c k h1 h2 h3 h4 h5 h6 => by rw [up_a h6, c4 c k h1 h2 h3 h4 h5, off0 _ _ h4]
  have f2 : ∀ c k, ¬ c = 660 + 2 * D → ¬ c = 660 + 2 * D + 1 → ¬ c = 658 → ¬ c = 680 → ¬ c = 681 → ¬ c = 726 → ¬ (c = 682 ∧ k = 0) → upS (upS s1 726 0 (D : Nat)) 682 0 0 c k = σ c k := by
    intro c k h1 h2 h3 h4 h5 h6 h7
    have : upS (upS s1 726 0 (D : Nat)) 682 0 0 c k = upS s1 726 0 (D : Nat) c k := by
      unfold upS
      rw [if_neg (by omega)]
    rw [this, ff c k h1 h2 h3 h4 h5 h6]
  obtain ⟨s2, m1, m2, m3, m4, m5, m6⟩ := l382 (r := t1) (t := t2) (n1 := n1) (n2 := n2) (D := D) (f := σ (11 + 2 * t1 + 1)) (g := σ (11 + 2 * t2 + 1)) (by omega) (by omega) (by omega) (by omega) hg9 (by omega) n2 0 (upS (upS s1 726 0 (D : Nat)) 682 0 0) (by omega) (by omega) (by rw [f2 _ _ (by omega) (by omega) (by omega) (by omega) (by omega) (by omega) (by omega)]; omega) (by rw [f2 _ _ (by omega) (by omega) (by omega) (by omega) (by omega) (by omega) (by omega)]; omega) (fun k hk => by
    rw [f2 _ _ (by omega) (by omega) (by omega) (by omega) (by omega) (by omega) (by omega)]
    exact (hb1.2 k (by omega)).symm) (fun k hk => by
    rw [f2 _ _ (by omega) (by omega) (by omega) (by omega) (by omega) (by omega) (by omega)]
    exact (hd1.2 k (by omega)).symm) (by rw [f2 _ _ (by omega) (by omega) (by decide) (by decide) (by decide) (by decide) (by decide)]; omega)
  have hB : Dd 382 [vA 682, vI a1, vI a2] (upS s1 726 0 (D : Nat)) (rI D s2) := by
    refine m0 ?_
    rw [ff 682 _ (by omega) (by omega) (by omega) (by omega) (by omega) (by omega), if_neg (by omega)]
    refine b382_33 ⟨_, _, d245, ?_⟩
    rw [if_pos rfl, if_neg (show ¬ (1 : Int) = 0 by decide)]
    have e := m1 none none none none
    rw [← ht1, ← ht2] at e
    exact e
  have hoff : ∀ c k, ¬ (c = 726 ∨ (c = 682 ∧ (k = 0 ∨ k = 58)) ∨ c = 658 ∨ c = 660 + 2 * D ∨ c = 660 + 2 * D + 1 ∨ c = 680 ∨ c = 681 ∨ (c = 724 ∧ k = D) ∨ (c = 725 ∧ 40 * D ≤ k)) → s2 c k = σ c k := by
    intro c k hc
    by_cases z : c = 725
    · subst z
      rw [m3 k (by omega), f2 _ _ (by omega) (by omega) (by omega) (by omega) (by omega) (by omega) (by omega)]
    · rw [m6 c k z (by omega) (by omega), f2 _ _ (by omega) (by omega) (by omega) (by omega) (by omega) (by omega) (by omega)]
  have hcl : ∀ c k, c < 682 → s2 c k = s1 c k := by
    intro c k hc
    rw [m6 c k (by omega) (by omega) (by omega), up_a (by omega), up_a (by omega)]
  have hlen : ([] ++ cds (σ (11 + 2 * t1 + 1)) (σ (11 + 2 * t2 + 1)) n1 n2 n2 0).length = n2 := by
    rw [List.nil_append, cds_len _ _ (by omega)]
    omega
  refine op_fin hW hB ?_ (fun _ => ?_) (fun a k ha => by rw [up_a (by omega), c4 _ _ (by omega) (by omega) (by omega) (by omega) (by omega), off0 _ _ (by omega)]) (fun a k ha => hoff _ _ (by omega)) ?_
  · rw [m6 _ _ (by decide) (by omega) (by omega), up_s]
  · rw [m6 _ _ (by decide) (by omega) (by omega), up_a (by decide), up_s]
  · refine Rel_D (D := D) (by omega) hDD (by omega) hoff (by rw [hcl _ _ (by decide)]; exact c3) m5 (Rw_fr (hcl _ _ (by omega)) (fun k => hcl _ _ (by omega)) c2) (by rw [hlen]; omega) (by rw [hlen]; exact m4) (fun i v hv => ?_) (by rw [hcl _ _ (by decide)]; exact c5) H
    rw [List.nil_append] at hv
    have e := m2 i v hv
    rw [Nat.add_zero] at e
    rw [e]
    have hm := cds_ok (f := σ (11 + 2 * t1 + 1)) (g := σ (11 + 2 * t2 + 1)) (n1 := n1) (n2 := n2) (by omega) hg9 n2 0 v (List.mem_of_getElem? hv)
    unfold enc
    rcases hm with z | z
    · rw [if_pos (by omega)]; exact Or.inl ⟨z.1, z.2, rfl⟩
    · rw [if_neg (by omega)]; exact Or.inr ⟨z.1, z.2, rfl⟩
end
-- DRAFT 70.trees1.lean
/-! setFile, compose. -/
noncomputable section
theorem d51_ok {t n : Int} {σ : Sg} (ht : 0 ≤ t ∧ t < 3) (hn : 0 ≤ n ∧ n < 6) : Dd 51 [vI t, vI n] σ (rI (t * 6 + n) σ) := by
  refine b51 ?_
  rw [if_pos ht.1, if_pos ht.2, if_pos hn.1, if_pos hn.2]
  refine b51_24 ⟨by intro _; omega, by intro _; omega, ?_⟩
  rw [if_neg (by decide)]
theorem d50_ok {t n : Int} {σ : Sg} (ht : 0 ≤ t ∧ t < 3) (hn : 0 ≤ n ∧ n < 6) : Dd 50 [vA 614, vI t, vI n] σ (rI (if σ 652 (t * 6 + n).toNat = 0 then 0 else 1) σ) := by
  refine b50 ⟨_, _, d51_ok ht hn, by intro _; omega, ?_⟩
  rw [if_pos (show t * 6 + n < 18 by omega)]
theorem l368 {f t : Nat} (hf : f < 18) (ht : t < 4) {n : Nat} (hn : n ≤ 16) {d1 d2 d4 : Option AV} {x6 : Int} (h6 : x6 = 0 ∨ x6 = 1) : ∀ (w i : Nat) (σ : Sg), i + w = n → σ 718 f = (n : Nat) → C368_114 d1 d2 t d4 f x6 i σ (rI x6 (acS σ 719 (16 * f) 683 (16 * t) i n)) := by
  intro w
  induction w with
  | zero =>
    intro i σ h1 h2
    refine b368_114 ⟨by omega, ?_⟩
    rw [show ((f : Int)).toNat = f by omega, if_neg (by omega), show i = n by omega, acS_end]
    exact ⟨h6, rfl⟩
  | succ w ih =>
    intro i σ h1 h2
    refine b368_114 ⟨by omega, ?_⟩
    rw [show ((f : Int)).toNat = f by omega, if_pos (by omega)]
    refine ⟨by omega, by omega, by omega, by omega, by omega, by omega, by omega, ?_⟩
    have e := ih (i + 1) (upS σ 719 (16 * f + i) (σ 683 (16 * t + i))) (by omega) (by rw [up_a (by decide)]; exact h2)
    rw [acS_step (by omega) (by decide)] at e
    rw [show ((16 * (f : Int)) + (i : Int)).toNat = 16 * f + i by omega, show ((16 * (t : Int)) + (i : Int)).toNat = 16 * t + i by omega, show (i : Int) + 1 = ((i + 1 : Nat) : Int) by omega]
    exact e
/-- nothing but trees was written, besides -/
theorem Rel_F {σ s : Sg} {c0 c1 : Int} (hc : c0 ≤ c1) (h : ∀ c k, ¬ (c = 726 ∨ (c = 682 ∧ (k = 0 ∨ k = 53)) ∨ (616 ≤ c ∧ c ≤ 657) ∨ (717 ≤ c ∧ c ≤ 721)) → s c k = σ c k) (hw : ∀ a, isRow a = true → 616 ≤ a → a ≤ 657 → 0 ≤ s a 1 ∧ s a 1 ≤ (cap a : Int)) (hF : RF s) (H : Rel c0 σ) : Rel c1 s := by
  obtain ⟨g1, g2, g3, g4, g5, g6, g7, g8, g9⟩ := H
  refine ⟨fun a ha => ?_, Zl_fr (fun k => h _ _ (by omega)) g2, RT_fr (fun c k hc => h _ _ (by omega)) g3, RB_fr (fun c k hc => h _ _ (by omega)) g4, RP_fr (fun c k hc => h _ _ (by omega)) g5, RSt_fr hc (fun c k hc => h _ _ (by omega)) g6, RU_fr (fun c k hc => h _ _ (by omega)) g7, hF, RD_fr (fun c k hc => h _ _ (by omega)) g9⟩
  have hlt := row_lt ha
  by_cases e : 616 ≤ a ∧ a ≤ 657
  · exact hw a ha e.1 e.2
  · rw [h _ _ (by omega)]
    exact g1 a ha
theorem o43 {σ : Sg} {c a1 a2 a3 : Int} (H : Rel c σ) : OpB 431 368 [vA 0, vI a1, vI a2, vI a3, vA 726] [vA 682, vI a1, vI a2, vI a3] σ (c + 1) := by
  by_cases g1 : a1 < 0
  · exact x43_0 H g1
  by_cases g2 : 3 ≤ a1
  · exact x43_1 H g2
  have k1 : 0 ≤ a1 ∧ a1 < 3 := by omega
  by_cases g3 : a2 < 0
  · exact x43_2 H k1 g3
  by_cases g4 : 6 ≤ a2
  · exact x43_3 H k1 g4
  have k2 : 0 ≤ a2 ∧ a2 < 6 := by omega
  by_cases g5 : a3 < -1
  · by_cases z : σ 652 (a1 * 6 + a2).toNat = 0
    · exact x43_4 H k1 k2 ⟨g5, z⟩
    · exact x43_6 H k1 k2 ⟨g5, z⟩
  by_cases g6 : 4 ≤ a3
  · by_cases z : σ 652 (a1 * 6 + a2).toNat = 0
    · exact x43_5 H k1 k2 ⟨g6, z⟩
    · exact x43_7 H k1 k2 ⟨g6, z⟩
  obtain ⟨fi, hfi⟩ := Int.eq_ofNat_of_zero_le (show 0 ≤ a1 * 6 + a2 by omega)
  have hf18 : fi < 18 := by omega
  have hE := d50_ok (σ := σ) k1 k2
  have hRF := H.2.2.2.2.2.2.2.1
  obtain ⟨p1, p2, p3⟩ := hRF.1 fi hf18
  have hhad : (if σ 652 fi = 0 then (0 : Int) else 1) = σ 652 fi := by
    rcases p2 with z | z
    · rw [if_pos z, z]
    · rw [if_neg (by omega), z]
  rw [hfi, show ((fi : Nat) : Int).toNat = fi by omega, hhad] at hE
  have h51 := d51_ok (σ := σ) k1 k2
  rw [hfi] at h51
  have e246a : ∀ {s : Sg}, Dd 246 [vI a1, vI 3] s (rI 1 s) := by
    intro s
    have e := d246 (x := a1) (n := 3) (σ := s)
    rw [if_pos k1] at e
    exact e
  have e246b : ∀ {s : Sg}, Dd 246 [vI a2, vI 6] s (rI 1 s) := by
    intro s
    have e := d246 (x := a2) (n := 6) (σ := s)
    rw [if_pos k2] at e
    exact e
  by_cases g7 : a3 = -1
  · -- the file is taken away
    have hA : Dd 215 [vA 0, vI a1, vI a2, vI a3] σ (rI (σ 652 fi) (upS σ 652 fi 0)) := by
      refine b215 (Or.inl ⟨_, d232_ok k1, Or.inl ⟨_, d232_ok k2, _, _, hE, ?_⟩⟩)
      rw [if_pos g7]
      refine ⟨_, b52 ⟨_, _, h51, ?_⟩, p2, rfl⟩
      rw [if_pos (by omega)]
      exact ⟨by omega, rfl⟩
    have hW : Dd 431 [vA 0, vI a1, vI a2, vI a3, vA 726] σ (rI 0 (upS (upS σ 652 fi 0) 726 0 (if σ 652 fi = 0 then 0 else 1))) := b431 (Or.inl ⟨_, _, hA, b431_18 ⟨by decide, rfl⟩⟩)
    have hB : Dd 368 [vA 682, vI a1, vI a2, vI a3] (upS (upS σ 652 fi 0) 726 0 (if σ 652 fi = 0 then 0 else 1)) (rI (σ 652 fi) (upS (upS (upS (upS (upS σ 652 fi 0) 726 0 (if σ 652 fi = 0 then 0 else 1)) 682 0 0) 717 fi 0) 718 fi 0)) := by
      refine b368 ⟨_, _, e246a, ?_⟩
      rw [if_neg (show ¬ (1 : Int) = 0 by decide)]
      refine ⟨_, _, e246b, ?_⟩
      rw [if_neg (show ¬ (1 : Int) = 0 by decide)]
      have e247 : Dd 247 [vI a3] (upS (upS σ 652 fi 0) 726 0 (if σ 652 fi = 0 then 0 else 1)) (rI 0 (upS (upS σ 652 fi 0) 726 0 (if σ 652 fi = 0 then 0 else 1))) := by
        refine b247 ⟨_, _, d246, ?_, ?_⟩
        · rw [if_neg (show ¬ (0 ≤ a3 ∧ a3 < 4) by omega)]; exact Or.inl rfl
        · rw [if_neg (show ¬ (0 ≤ a3 ∧ a3 < 4) by omega)]
      refine ⟨_, _, e247, ?_⟩
      rw [if_pos rfl, if_pos g7]
      refine b368_29 (b368_34 ?_)
      rw [if_neg (show ¬ (1 : Int) = 0 by decide)]
      refine b368_47 ⟨_, _, d245, ?_⟩
      rw [if_pos rfl, if_neg (show ¬ (1 : Int) = 0 by decide), if_pos g7, show 6 * a1 + a2 = (fi : Int) by omega, show ((fi : Nat) : Int).toNat = fi by omega]
      refine ⟨by omega, by omega, by omega, b368_88 ⟨by omega, Or.inl rfl, fun z => absurd g7 z, b368_110 ⟨by omega, b368_114 ⟨by omega, ?_⟩⟩⟩⟩
      rw [if_pos g7, show ((fi : Nat) : Int).toNat = fi by omega, up_s, if_neg (show ¬ (0 : Int) < 0 by decide), up_a (show ¬ 717 = 682 by decide), up_a (show ¬ 717 = 726 by decide), up_a (show ¬ 717 = 652 by decide), p1]
      exact ⟨p2, rfl⟩
    have hoff : ∀ c k, ¬ ((c = 652 ∧ k = fi) ∨ c = 726 ∨ (c = 682 ∧ k = 0) ∨ (c = 717 ∧ k = fi) ∨ (c = 718 ∧ k = fi)) → (upS (upS (upS (upS (upS σ 652 fi 0) 726 0 (if σ 652 fi = 0 then 0 else 1)) 682 0 0) 717 fi 0) 718 fi 0) c k = σ c k := by
      intro c k h
      unfold upS
      rw [if_neg (by omega), if_neg (by omega), if_neg (by omega), if_neg (by omega), if_neg (by omega)]
    have z1 : (upS (upS (upS (upS (upS σ 652 fi 0) 726 0 (if σ 652 fi = 0 then 0 else 1)) 682 0 0) 717 fi 0) 718 fi 0) 682 0 = 0 := by rw [up_a (by decide), up_a (by decide), up_s]
    have z2 : (upS (upS (upS (upS (upS σ 652 fi 0) 726 0 (if σ 652 fi = 0 then 0 else 1)) 682 0 0) 717 fi 0) 718 fi 0) 726 0 = (if σ 652 fi = 0 then 0 else 1) := by rw [up_a (by decide), up_a (by decide), up_a (by decide), up_s]
    have z3 : (upS (upS (upS (upS (upS σ 652 fi 0) 726 0 (if σ 652 fi = 0 then 0 else 1)) 682 0 0) 717 fi 0) 718 fi 0) 717 fi = 0 := by rw [up_a (by decide), up_s]
    have z4 : (upS (upS (upS (upS (upS σ 652 fi 0) 726 0 (if σ 652 fi = 0 then 0 else 1)) 682 0 0) 717 fi 0) 718 fi 0) 652 fi = 0 := by rw [up_a (by decide), up_a (by decide), up_a (by decide), up_a (by decide), up_s]
    generalize (upS (upS (upS (upS (upS σ 652 fi 0) 726 0 (if σ 652 fi = 0 then 0 else 1)) 682 0 0) 717 fi 0) 718 fi 0) = s at hB hoff z1 z2 z3 z4
    refine op_finB hW hB z1 (fun _ => z2) (fun a k ha => by rw [up_a (by omega), up_a (by omega)]) (fun a k ha => hoff _ _ (by omega)) (Rel_F (by omega) (fun c k hc => hoff _ _ (by omega)) (fun a ha h1 h2 => ?_) ?_ H)
    · have n1 : ¬ a = 652 := by intro e; subst e; exact absurd ha (by decide +kernel)
      rw [hoff _ _ (by omega)]
      exact H.1 a ha
    · obtain ⟨q1, q2, q3, q4, q5⟩ := hRF
      have e53 : s 682 53 = σ 682 53 := hoff _ _ (by omega)
      refine ⟨fun f hf => ?_, by omega, by omega, rowEq_fr (hoff _ _ (by omega)) (fun i => hoff _ _ (by omega)) (fun i => hoff _ _ (by omega)) (by rw [e53]) q4, fun i hi => ?_⟩
      · by_cases e : f = fi
        · rw [e, z3, z4]
          exact ⟨rfl, Or.inl rfl, fun q => absurd q (by decide)⟩
        · obtain ⟨r1, r2, r3⟩ := q1 f hf
          rw [hoff 717 f (by omega), hoff 652 f (by omega)]
          exact ⟨r1, r2, fun hh => rowEq_fr (hoff _ _ (by omega)) (fun i => hoff _ _ (by omega)) (fun i => hoff _ _ (by omega)) (hoff _ _ (by omega)) (r3 hh)⟩
      · rw [hoff _ _ (by omega)] at hi
        rw [hoff _ _ (by omega)]
        exact q5 i hi
  · -- the file is written
    have k3 : 0 ≤ a3 ∧ a3 < 4 := by omega
    obtain ⟨t1, t2, t3⟩ := rel_t H k3
    have hr3 := (el_1 k3).2
    have hcc := cp_1 k3
    obtain ⟨ti, hti⟩ := Int.eq_ofNat_of_zero_le k3.1
    have k227 := d227_ok (σ := σ) k3
    obtain ⟨w1, w2⟩ := H.2.2.1 a3.toNat (by omega)
    rw [show a3.toNat = ti by omega] at t1 t2 t3 hr3 hcc k227 w1 w2
    obtain ⟨n, hn⟩ := Int.eq_ofNat_of_zero_le t2
    have hfe := el_615 (i := (fi : Int)) (by omega)
    have hfc := cp_615 (i := (fi : Int)) (by omega)
    rw [show ((fi : Nat) : Int).toNat = fi by omega] at hfe hfc
    have wr : wR (upS σ 652 fi 1) (2 + 2 * ti) := ⟨hr3, by rw [up_a (by omega)]; omega, by rw [up_a (by omega)]; omega⟩
    have hcp : (upS σ 652 fi 1) (2 + 2 * ti) 1 ≤ (cap (616 + 2 * fi) : Int) := by rw [up_a (by omega)]; omega
    have hA : Dd 215 [vA 0, vI a1, vI a2, vI a3] σ (rI (σ 652 fi) (bcS (upS σ 652 fi 1) (616 + 2 * fi) (2 + 2 * ti))) := by
      refine b215 (Or.inl ⟨_, d232_ok k1, Or.inl ⟨_, d232_ok k2, _, _, hE, ?_⟩⟩)
      rw [if_neg g7]
      refine Or.inl ⟨_, _, k227, hr3, _, b53 ⟨_, _, h51, ?_⟩, p2, rfl⟩
      rw [if_pos (by omega), if_pos (by omega), show ((fi : Nat) : Int).toNat = fi by omega]
      exact ⟨by omega, by omega, _, hfe.1, hfe.2, _, d155 hfe.2 wr, rfl⟩
    have hW : Dd 431 [vA 0, vI a1, vI a2, vI a3, vA 726] σ (rI 0 (upS (bcS (upS σ 652 fi 1) (616 + 2 * fi) (2 + 2 * ti)) 726 0 (if σ 652 fi = 0 then 0 else 1))) := b431 (Or.inl ⟨_, _, hA, b431_18 ⟨by decide, rfl⟩⟩)
    have c0 : ∀ c k, ¬ (c = 652 ∧ k = fi) → ¬ c = 726 → ¬ (c = 616 + 2 * fi) → ¬ c = 616 + 2 * fi + 1 → (upS (bcS (upS σ 652 fi 1) (616 + 2 * fi) (2 + 2 * ti)) 726 0 (if σ 652 fi = 0 then 0 else 1)) c k = σ c k := by
      intro c k h1 h2 h3 h4
      rw [up_a h2, bc_off h3 h4]
      unfold upS
      rw [if_neg h1]
    have c1 : (upS (bcS (upS σ 652 fi 1) (616 + 2 * fi) (2 + 2 * ti)) 726 0 (if σ 652 fi = 0 then 0 else 1)) 652 fi = 1 := by
      rw [up_a (by decide), bc_off (by omega) (by omega), up_s]
    have c2 : (upS (bcS (upS σ 652 fi 1) (616 + 2 * fi) (2 + 2 * ti)) 726 0 (if σ 652 fi = 0 then 0 else 1)) 726 0 = (if σ 652 fi = 0 then 0 else 1) := up_s
    have c3 : (upS (bcS (upS σ 652 fi 1) (616 + 2 * fi) (2 + 2 * ti)) 726 0 (if σ 652 fi = 0 then 0 else 1)) (616 + 2 * fi) 1 = (n : Nat) := by
      rw [up_a (by omega), bc_sz hcp, up_a (by omega)]; exact hn
    have c4 : ∀ k, k < n → (upS (bcS (upS σ 652 fi 1) (616 + 2 * fi) (2 + 2 * ti)) 726 0 (if σ 652 fi = 0 then 0 else 1)) (616 + 2 * fi + 1) k = σ (2 + 2 * ti + 1) k := by
      intro k hk
      rw [up_a (by omega), bc_val hcp (by omega) (by rw [up_a (by omega)]; omega), up_a (by omega)]
    generalize (upS (bcS (upS σ 652 fi 1) (616 + 2 * fi) (2 + 2 * ti)) 726 0 (if σ 652 fi = 0 then 0 else 1)) = s1 at hW c0 c1 c2 c3 c4
    have m1 := l368 (f := fi) (t := ti) (n := n) (d1 := some (vI a1)) (d2 := some (vI a2)) (d4 := some (vI 1)) (x6 := σ 652 fi) hf18 (by omega) (by omega) p2 n 0 (upS (upS (upS s1 682 0 0) 717 fi 1) 718 fi (n : Nat)) (by omega) up_s
    have hB : Dd 368 [vA 682, vI a1, vI a2, vI a3] s1 (rI (σ 652 fi) (acS (upS (upS (upS s1 682 0 0) 717 fi 1) 718 fi (n : Nat)) 719 (16 * fi) 683 (16 * ti) 0 n)) := by
      refine b368 ⟨_, _, e246a, ?_⟩
      rw [if_neg (show ¬ (1 : Int) = 0 by decide)]
      refine ⟨_, _, e246b, ?_⟩
      rw [if_neg (show ¬ (1 : Int) = 0 by decide)]
      refine ⟨_, _, d247_ok k3, ?_⟩
      rw [if_neg (show ¬ (1 : Int) = 0 by decide)]
      refine b368_29 (b368_34 ?_)
      rw [if_neg (show ¬ (1 : Int) = 0 by decide)]
      refine b368_47 ⟨_, _, d245, ?_⟩
      rw [if_pos rfl, if_neg (show ¬ (1 : Int) = 0 by decide), if_neg g7, show 6 * a1 + a2 = (fi : Int) by omega, show ((fi : Nat) : Int).toNat = fi by omega]
      refine ⟨by omega, by omega, by omega, b368_88 ⟨by omega, Or.inr rfl, fun z => k3, b368_110 ⟨by omega, ?_⟩⟩⟩
      rw [if_neg g7, show ((fi : Nat) : Int).toNat = fi by omega, show a3.toNat = ti by omega, up_a (show ¬ 684 = 717 by decide), up_a (show ¬ 684 = 682 by decide), up_a (show ¬ 717 = 682 by decide), c0 684 _ (by omega) (by omega) (by omega) (by omega), c0 717 _ (by omega) (by omega) (by omega) (by omega), p1, ← t1, hn, hti]
      exact m1
    have hoff : ∀ c k, ¬ ((c = 652 ∧ k = fi) ∨ c = 616 + 2 * fi ∨ c = 616 + 2 * fi + 1 ∨ c = 726 ∨ (c = 682 ∧ k = 0) ∨ (c = 717 ∧ k = fi) ∨ (c = 718 ∧ k = fi) ∨ (c = 719 ∧ 16 * fi ≤ k ∧ k < 16 * fi + n)) → (acS (upS (upS (upS s1 682 0 0) 717 fi 1) 718 fi (n : Nat)) 719 (16 * fi) 683 (16 * ti) 0 n) c k = σ c k := by
      intro c k h
      have e : (acS (upS (upS (upS s1 682 0 0) 717 fi 1) 718 fi (n : Nat)) 719 (16 * fi) 683 (16 * ti) 0 n) c k = s1 c k := by
        unfold acS
        rw [if_neg (by omega)]
        unfold upS
        rw [if_neg (by omega), if_neg (by omega), if_neg (by omega)]
      rw [e, c0 c k (by omega) (by omega) (by omega) (by omega)]
    have hlo : ∀ c k, c < 682 → (acS (upS (upS (upS s1 682 0 0) 717 fi 1) 718 fi (n : Nat)) 719 (16 * fi) 683 (16 * ti) 0 n) c k = s1 c k := by
      intro c k h
      rw [acS_off (by omega), up_a (by omega), up_a (by omega), up_a (by omega)]
    have z1 : (acS (upS (upS (upS s1 682 0 0) 717 fi 1) 718 fi (n : Nat)) 719 (16 * fi) 683 (16 * ti) 0 n) 682 0 = 0 := by rw [acS_off (by decide), up_a (by decide), up_a (by decide), up_s]
    have z2 : (acS (upS (upS (upS s1 682 0 0) 717 fi 1) 718 fi (n : Nat)) 719 (16 * fi) 683 (16 * ti) 0 n) 726 0 = (if σ 652 fi = 0 then 0 else 1) := by rw [acS_off (by decide), up_a (by decide), up_a (by decide), up_a (by decide), c2]
    have z3 : (acS (upS (upS (upS s1 682 0 0) 717 fi 1) 718 fi (n : Nat)) 719 (16 * fi) 683 (16 * ti) 0 n) 717 fi = 1 := by rw [acS_off (by decide), up_a (by decide), up_s]
    have z5 : (acS (upS (upS (upS s1 682 0 0) 717 fi 1) 718 fi (n : Nat)) 719 (16 * fi) 683 (16 * ti) 0 n) 718 fi = (n : Nat) := by rw [acS_off (by decide), up_s]
    have z6 : ∀ k, k < n → (acS (upS (upS (upS s1 682 0 0) 717 fi 1) 718 fi (n : Nat)) 719 (16 * fi) 683 (16 * ti) 0 n) 719 (16 * fi + k) = σ 683 (16 * ti + k) := by
      intro k hk
      rw [acS_val hk, up_a (by decide), up_a (by decide), up_a (by decide), c0 _ _ (by omega) (by omega) (by omega) (by omega)]
    generalize (acS (upS (upS (upS s1 682 0 0) 717 fi 1) 718 fi (n : Nat)) 719 (16 * fi) 683 (16 * ti) 0 n) = s at hB hoff hlo z1 z2 z3 z5 z6
    refine op_finB hW hB z1 (fun _ => z2) (fun a k ha => c0 _ _ (by omega) (by omega) (by omega) (by omega)) (fun a k ha => hoff _ _ (by omega)) (Rel_F (by omega) (fun c k hc => hoff _ _ (by omega)) (fun a ha h1 h2 => ?_) ?_ H)
    · have n1 : ¬ a = 652 := by intro e; subst e; exact absurd ha (by decide +kernel)
      by_cases e : a = 616 + 2 * fi
      · rw [e, hlo _ _ (by omega), c3]
        omega
      · have n3 := row_nx hfe.2 ha
        rw [hoff _ _ (by omega)]
        exact H.1 a ha
    · obtain ⟨q1, q2, q3, q4, q5⟩ := hRF
      have e53 : s 682 53 = σ 682 53 := hoff _ _ (by omega)
      refine ⟨fun f hf => ?_, by omega, by omega, rowEq_fr (hoff _ _ (by omega)) (fun i => hoff _ _ (by omega)) (fun i => hoff _ _ (by omega)) (by rw [e53]) q4, fun i hi => ?_⟩
      · by_cases e : f = fi
        · subst e
          rw [z3, hlo _ _ (by decide), c1]
          refine ⟨rfl, Or.inr rfl, fun _ => ⟨by rw [hlo _ _ (by omega), c3, z5], fun i hi => ?_⟩⟩
          rw [z5] at hi
          rw [hlo _ _ (by omega), c4 i (by omega), z6 i (by omega)]
          exact w1.2 i (by omega)
        · obtain ⟨r1, r2, r3⟩ := q1 f hf
          rw [hoff 717 f (by omega), hoff 652 f (by omega)]
          refine ⟨r1, r2, fun hh => ?_⟩
          have r3 := r3 hh
          have wf := H.1 _ (el_615 (i := (f : Int)) (by omega)).2
          have wfc := cp_615 (i := (f : Int)) (by omega)
          rw [show ((f : Nat) : Int).toNat = f by omega] at wf wfc
          have r31 := r3.1
          refine ⟨by rw [hoff _ _ (by omega), hoff _ _ (by omega)]; exact r3.1, fun i hi => ?_⟩
          rw [hoff 718 _ (by omega)] at hi
          rw [hoff (616 + 2 * f + 1) i (by omega), hoff 719 _ (by omega)]
          exact r3.2 i hi
      · rw [hoff _ _ (by omega)] at hi
        rw [hoff _ _ (by omega)]
        exact q5 i hi
end
-- DRAFT 71.trees2.lean
/-! compose. -/
noncomputable section
theorem r653 : isRow 653 = true ∧ cap 653 = 60 ∧ isRow 655 = true ∧ cap 655 = 6 := by decide +kernel
theorem d54_ok {σ : Sg} {D : Nat} (h : σ 653 1 = 6 * (D : Int)) : Dd 54 [vA 614] σ (rI D σ) := by
  have e : Int.tdiv (σ 653 1) 6 = (D : Int) := by
    rw [h, td (by omega)]
    omega
  refine b54 ⟨_, _, d146 r653.1, ?_⟩
  rw [e]
theorem d55_in {σ : Sg} {d n : Int} (hw : wR σ 653) (hd : 0 ≤ d ∧ d < 10) (hn : 0 ≤ n ∧ n < 6) : Dd 55 [vA 614, vI d, vI n] σ (rI (atS σ 653 (d * 6 + n)) σ) := by
  refine b55 ?_
  rw [if_pos hn.1, if_pos hn.2]
  exact ⟨by omega, by omega, _, _, d147 hw, rfl⟩
theorem d55_out {σ : Sg} {d n : Int} (hn : n < 0) : Dd 55 [vA 614, vI d, vI n] σ (rI (-1) σ) := by
  refine b55 ?_
  rw [if_neg (by omega)]
/-- where the second difference leads from where the first one leads -/
def cmp6 (F : Nat → Int) (a b k : Nat) : Int := if F (6 * a + k) = -1 then -1 else F (6 * b + (F (6 * a + k)).toNat)
theorem l57 {a b D : Nat} {F : Nat → Int} (ha : a < D) (hb : b < D) (hD : D < 10) (hF : ∀ i, i < 6 * D → -1 ≤ F i ∧ F i ≤ 5) : ∀ (w k : Nat) (σ : Sg) (l : List Int), k + w = 6 → σ 653 1 = 6 * (D : Int) → (∀ i, i < 6 * D → σ 654 i = F i) → Rw σ 655 l → l.length = k → ∃ s l2, C57_9 a b k σ (rI D s) ∧ l2 = l ++ (List.range' k w).map (cmp6 F a b) ∧ s 653 1 = 6 * (D : Int) + 6 ∧ (∀ i, i < 6 * D → s 654 i = F i) ∧ (∀ i v, l2[i]? = some v → s 654 (6 * D + i) = v) ∧ s 655 1 = 6 ∧ ∀ c j, ¬ c = 653 → ¬ c = 654 → ¬ c = 655 → ¬ c = 656 → s c j = σ c j := by
  intro w
  induction w with
  | zero =>
    intro k σ l q1 q2 q3 q4 q5
    have h653 : Rw σ 653 (rl σ 653) := Rw_rl (by omega)
    have hlen : (rl σ 653).length = 6 * D := by have := h653.1; omega
    have e5 : ((l.take (6 : Int).toNat).drop (0 : Int).toNat) = l := by
      show (l.take 6).drop 0 = l
      rw [List.drop_zero, List.take_of_length_le (by omega)]
    obtain ⟨s, g1, g2, g3⟩ := d154 (x := 0) (y := 6) r653.1 r653.2.2.1 h653 q4 (by rw [r653.2.2.2]; omega) (by decide) (by rw [e5, r653.2.1]; omega)
    rw [e5] at g2
    have e653 : s 653 1 = 6 * ((D + 1 : Nat) : Int) := by rw [g2.1, List.length_append]; omega
    have e655 : s 655 1 = 6 := by rw [g3 655 1 (by decide) (by decide), q4.1]; omega
    have e146 := d146 (σ := σ) r653.2.2.1
    rw [show σ 655 1 = 6 by rw [q4.1]; omega] at e146
    refine ⟨s, l, b57_9 ?_, by simp, by omega, fun i hi => ?_, fun i v hv => ?_, e655, fun c j h1 h2 _ _ => g3 c j h1 h2⟩
    · rw [if_neg (by omega)]
      refine ⟨_, _, b58 ⟨_, _, e146, _, g1, _, _, d54_ok e653, by omega, rfl⟩, ?_⟩
      rw [show ((D + 1 : Nat) : Int) - 1 = (D : Int) by omega]
    · rw [← q3 i hi]
      have hv := List.getElem?_eq_getElem (l := rl σ 653) (i := i) (by omega)
      rw [g2.2 i _ (by rw [List.getElem?_append_left (by omega)]; exact hv)]
      exact (h653.2 i _ hv).symm
    · exact g2.2 _ v (by rw [List.getElem?_append_right (by omega), hlen, Nat.add_sub_cancel_left]; exact hv)
  | succ w ih =>
    intro k σ l q1 q2 q3 q4 q5
    have hw : wR σ 653 := ⟨r653.1, by omega, by rw [r653.2.1]; omega⟩
    have ea : ∀ e i : Nat, e < D → i < 6 → atS σ 653 ((e : Int) * 6 + (i : Int)) = F (6 * e + i) := by
      intro e i he hi
      unfold atS
      rw [if_pos (by omega), show ((e : Int) * 6 + (i : Int)).toNat = 6 * e + i by omega]
      exact q3 _ (by omega)
    have hg := hF (6 * a + k) (by omega)
    have d1 := d55_in (d := (a : Int)) (n := (k : Int)) hw (by omega) (by omega)
    rw [ea a k ha (by omega)] at d1
    have d2 : Dd 55 [vA 614, vI b, vI (F (6 * a + k))] σ (rI (cmp6 F a b k) σ) := by
      unfold cmp6
      by_cases z : F (6 * a + k) = -1
      · rw [if_pos z]
        exact d55_out (by omega)
      · rw [if_neg z]
        have d2 := d55_in (d := (b : Int)) (n := F (6 * a + k)) hw (by omega) (by omega)
        have := ea b (F (6 * a + k)).toNat hb (by omega)
        rw [show (((F (6 * a + k)).toNat : Nat) : Int) = F (6 * a + k) by omega] at this
        rw [this] at d2
        exact d2
    have w5 : wR σ 655 := Rw_wR r653.2.2.1 q4 (by rw [r653.2.2.2]; omega)
    obtain ⟨s, l2, g1, g2, g3, g4, g5, g6, g7⟩ := ih (k + 1) (adS σ 655 (cmp6 F a b k)) (l ++ [cmp6 F a b k]) (by omega) (by rw [ad_off (by decide) (by decide)]; exact q2) (fun i hi => by rw [ad_off (by decide) (by decide)]; exact q3 i hi) (Rw_ad q4 (by rw [r653.2.2.2]; omega)) (by rw [List.length_append, q5]; rfl)
    refine ⟨s, l2, b57_9 ?_, ?_, g3, g4, g5, g6, fun c j h1 h2 h3 h4 => by rw [g7 c j h1 h2 h3 h4, ad_off h3 h4]⟩
    · rw [if_pos (by omega)]
      refine ⟨_, _, d1, _, _, d2, _, d149 w5, by omega, ?_⟩
      rw [show (k : Int) + 1 = ((k + 1 : Nat) : Int) by omega]
      exact g1
    · rw [g2, List.append_assoc, List.range'_succ, List.map_cons]
      rfl
theorem l375 {a b D : Nat} {F : Nat → Int} (ha : a < D) (hb : b < D) (hD : D < 10) (hF : ∀ i, i < 6 * D → -1 ≤ F i ∧ F i ≤ 5) {d3 : Option AV} : ∀ (w k : Nat) (σ : Sg) (d5 : Option AV), k + w = 6 → σ 682 53 = (D : Nat) → (∀ i, i < 6 * D → σ 720 i = F i) → ∃ s, C375_62 a b d3 k d5 σ (rI D s) ∧ (∀ i, k ≤ i → i < 6 → s 720 (6 * D + i) = cmp6 F a b i) ∧ (∀ i, i < 6 * D + k → s 720 i = σ 720 i) ∧ s 682 53 = (D : Int) + 1 ∧ ∀ c j, ¬ c = 720 → ¬ (c = 682 ∧ j = 53) → s c j = σ c j := by
  intro w
  induction w with
  | zero =>
    intro k σ d5 q1 q2 q3
    refine ⟨upS σ 682 53 ((D : Int) + 1), b375_62 ?_, fun i h1 h2 => by omega, fun i _ => up_a (by decide), up_s, fun c j h1 h2 => ?_⟩
    · rw [if_neg (by omega), q2, up_s, show ((D : Nat) : Int) + 1 - 1 = (D : Int) by omega]
      exact ⟨by omega, by omega, rfl⟩
    · unfold upS
      rw [if_neg h2]
  | succ w ih =>
    intro k σ d5 q1 q2 q3
    have hg := hF (6 * a + k) (by omega)
    obtain ⟨s, g1, g2, g3, g4, g5⟩ := ih (k + 1) (upS σ 720 (6 * D + k) (cmp6 F a b k)) (some (vI (F (6 * a + k)))) (by omega) (by rw [up_a (by decide)]; exact q2) (fun i hi => by rw [up_k (by omega)]; exact q3 i hi)
    refine ⟨s, b375_62 ?_, fun i h1 h2 => ?_, fun i hi => by rw [g3 i (by omega), up_k (by omega)], g4, fun c j h1 h2 => by rw [g5 c j h1 h2, up_a h1]⟩
    · rw [if_pos (by omega), show (6 * (a : Int) + (k : Int)).toNat = 6 * a + k by omega, q3 _ (by omega), q2]
      refine ⟨by omega, by omega, by omega, by omega, by omega, fun z => by omega, fun z => by omega, fun z => by omega, b375_119 ⟨by omega, by omega, ?_⟩⟩
      have e : (if F (6 * a + k) = -1 then -1 else σ 720 (6 * (b : Int) + F (6 * a + k)).toNat) = cmp6 F a b k := by
        unfold cmp6
        by_cases z : F (6 * a + k) = -1
        · rw [if_pos z, if_pos z]
        · rw [if_neg z, if_neg z, show (6 * (b : Int) + F (6 * a + k)).toNat = 6 * b + (F (6 * a + k)).toNat by omega]
          exact q3 _ (by omega)
      rw [e, show (6 * ((D : Nat) : Int) + (k : Int)).toNat = 6 * D + k by omega, show (k : Int) + 1 = ((k + 1 : Nat) : Int) by omega]
      exact g1
    · by_cases z : i = k
      · subst z
        rw [g3 _ (by omega), up_s]
      · exact g2 i (by omega) h2
theorem o45 {σ : Sg} {c a1 a2 : Int} (H : Rel c σ) : OpR 433 375 [vA 0, vI a1, vI a2, vA 726] [vA 682, vI a1, vI a2] σ (c + 1) := by
  by_cases g1 : a1 < 0
  · exact x45_0 H g1
  by_cases g2 : σ 682 53 ≤ a1
  · exact x45_1 H g2
  have k1 : 0 ≤ a1 ∧ a1 < σ 682 53 := by omega
  by_cases g3 : a2 < 0
  · exact x45_2 H k1 g3
  by_cases g4 : σ 682 53 ≤ a2
  · exact x45_3 H k1 g4
  have k2 : 0 ≤ a2 ∧ a2 < σ 682 53 := by omega
  have hn := (rel_n H).2.2.2.1
  obtain ⟨D, hD⟩ := Int.eq_ofNat_of_zero_le hn.2.1
  obtain ⟨t1, ht1⟩ := Int.eq_ofNat_of_zero_le k1.1
  obtain ⟨t2, ht2⟩ := Int.eq_ofNat_of_zero_le k2.1
  have e653 : σ 653 1 = 6 * (D : Int) := by omega
  have e54 := d54_ok (σ := σ) e653
  have e232a := d232_ok (σ := σ) (i := a1) (n := (D : Int)) (by omega)
  have e232b := d232_ok (σ := σ) (i := a2) (n := (D : Int)) (by omega)
  have m0 : ∀ {σ' : Sg} {o : Rs}, σ' 682 53 = (D : Int) → C375_51 a1 a2 (some (vI 1)) none none (if (D : Int) = 10 then 2 else 0) σ' o → Dd 375 [vA 682, vI a1, vI a2] σ' o := by
    intro σ' o h hh
    have e1 := d246 (x := a1) (n := σ' 682 53) (σ := σ')
    rw [if_pos (by omega)] at e1
    have e2 := d246 (x := a2) (n := σ' 682 53) (σ := σ')
    rw [if_pos (by omega)] at e2
    refine b375 ⟨_, _, e1, ?_⟩
    rw [if_neg (show ¬ (1 : Int) = 0 by decide)]
    refine ⟨_, _, e2, ?_⟩
    rw [if_neg (show ¬ (1 : Int) = 0 by decide)]
    refine b375_27 ?_
    rw [if_neg (show ¬ (1 : Int) = 0 by decide), h]
    exact hh
  by_cases g5 : 10 ≤ D
  · have hA : Dd 217 [vA 0, vI a1, vI a2] σ (rX 2 σ) := b217 ⟨_, _, e54, Or.inl ⟨_, e232a, _, _, e54, Or.inl ⟨_, e232b, Or.inr ⟨_, _, b239 ⟨_, _, e54, by rw [if_pos (by omega)]⟩, rfl⟩⟩⟩⟩
    have hB : Dd 375 [vA 682, vI a1, vI a2] σ (rI 0 (upS σ 682 0 2)) := by
      refine m0 hD ?_
      rw [if_pos (by omega)]
      refine b375_51 ⟨_, _, d245, ?_⟩
      rw [if_neg (show ¬ (2 : Int) = 0 by decide), if_pos rfl]
    exact op_x H (by decide) (b433 (Or.inr (Or.inr ⟨_, hA, rfl⟩))) hB
  have hRF := H.2.2.2.2.2.2.2.1
  obtain ⟨q1, q2, q3, q4, q5⟩ := hRF
  have hF : ∀ i, i < 6 * D → -1 ≤ σ 654 i ∧ σ 654 i ≤ 5 := fun i hi => q5 i (by omega)
  obtain ⟨s1, l2, c1, c2, c3, c4, c5, c6, c7⟩ := l57 (a := t1) (b := t2) (D := D) (F := σ 654) (by omega) (by omega) (by omega) hF 6 0 (upS σ 655 1 0) [] (by omega) (by rw [up_a (by decide)]; exact e653) (fun i _ => up_a (by decide)) Rw_nil rfl
  have hl2 : ∀ i, i < 6 → l2[i]? = some (cmp6 (σ 654) t1 t2 i) := by
    intro i hi
    rw [c2, List.nil_append, List.getElem?_map, List.getElem?_range' hi]
    simp
  have e57 : Dd 57 [vA 614, vI a1, vI a2] σ (rI D s1) := by
    rw [ht1, ht2]
    exact b57 ⟨_, d152 r653.2.2.1, c1⟩
  have hA : Dd 217 [vA 0, vI a1, vI a2] σ (rI D s1) := b217 ⟨_, _, e54, Or.inl ⟨_, e232a, _, _, e54, Or.inl ⟨_, e232b, Or.inl ⟨_, b239 ⟨_, _, e54, by rw [if_neg (by omega)]⟩, _, _, e57, rfl⟩⟩⟩⟩
  have hW : Dd 433 [vA 0, vI a1, vI a2, vA 726] σ (rI 0 (upS s1 726 0 (D : Nat))) := b433 (Or.inl ⟨_, _, hA, rfl⟩)
  have f1 : ∀ c k, ¬ c = 653 → ¬ c = 654 → ¬ c = 655 → ¬ c = 656 → ¬ c = 726 → (upS s1 726 0 (D : Nat)) c k = σ c k := fun c k h1 h2 h3 h4 h5 => by rw [up_a h5, c7 c k h1 h2 h3 h4, up_a h3]
  have c3' : (upS s1 726 0 (D : Nat)) 653 1 = 6 * (D : Int) + 6 := by rw [up_a (by decide)]; exact c3
  have c4' : ∀ i, i < 6 * D → (upS s1 726 0 (D : Nat)) 654 i = σ 654 i := fun i hi => by rw [up_a (by decide)]; exact c4 i hi
  have c5' : ∀ i, i < 6 → (upS s1 726 0 (D : Nat)) 654 (6 * D + i) = cmp6 (σ 654) t1 t2 i := fun i hi => by rw [up_a (by decide)]; exact c5 i _ (hl2 i hi)
  have c6' : (upS s1 726 0 (D : Nat)) 655 1 = 6 := by rw [up_a (by decide)]; exact c6
  have c8 : (upS s1 726 0 (D : Nat)) 726 0 = (D : Nat) := up_s
  generalize (upS s1 726 0 (D : Nat)) = s at hW f1 c3' c4' c5' c6' c8
  obtain ⟨s2, m1, m2, m3, m4, m5⟩ := l375 (a := t1) (b := t2) (D := D) (F := σ 654) (by omega) (by omega) (by omega) hF (d3 := some (vI 1)) 6 0 (upS s 682 0 0) none (by omega) (by rw [up_k (by decide), f1 _ _ (by decide) (by decide) (by decide) (by decide) (by decide)]; exact hD) (fun i hi => by
    rw [up_a (by decide), f1 _ _ (by decide) (by decide) (by decide) (by decide) (by decide)]
    have := q4.2 i (by omega)
    rw [Nat.zero_add] at this
    exact this.symm)
  rw [← ht1, ← ht2] at m1
  have hB : Dd 375 [vA 682, vI a1, vI a2] s (rI D s2) := by
    refine m0 (by rw [f1 _ _ (by decide) (by decide) (by decide) (by decide) (by decide)]; exact hD) ?_
    rw [if_neg (by omega)]
    refine b375_51 ⟨_, _, d245, ?_⟩
    rw [if_pos rfl, if_neg (show ¬ (1 : Int) = 0 by decide)]
    exact m1
  have mo : ∀ c k, ¬ c = 720 → ¬ c = 682 → s2 c k = s c k := fun c k h1 h2 => by rw [m5 c k h1 (fun e => h2 e.1), up_a h2]
  have so : ∀ c k, ¬ c = 653 → ¬ c = 654 → ¬ c = 655 → ¬ c = 656 → ¬ c = 726 → ¬ (c = 682 ∧ (k = 0 ∨ k = 53)) → ¬ c = 720 → s2 c k = σ c k := by
    intro c k h1 h2 h3 h4 h5 h6 h7
    rw [m5 c k h7 (by omega)]
    have : upS s 682 0 0 c k = s c k := by
      unfold upS
      rw [if_neg (by omega)]
    rw [this, f1 c k h1 h2 h3 h4 h5]
  refine op_fin hW hB ?_ (fun _ => by rw [mo _ _ (by decide) (by decide), c8]) (fun a k ha => f1 _ _ (by omega) (by omega) (by omega) (by omega) (by omega)) (fun a k ha => so _ _ (by omega) (by omega) (by omega) (by omega) (by omega) (by omega) (by omega)) (Rel_F (by omega) (fun c k hc => so _ _ (by omega) (by omega) (by omega) (by omega) (by omega) (by omega) (by omega)) (fun a ha h1 h2 => ?_) ⟨fun f hf => ?_, by omega, by omega, ⟨?_, fun i hi => ?_⟩, fun i hi => ?_⟩ H)
  · rw [m5 _ _ (by decide) (by decide), up_s]
  · by_cases e : a = 653
    · rw [e, mo _ _ (by decide) (by decide), c3', r653.2.1]; omega
    · by_cases e2 : a = 655
      · rw [e2, mo _ _ (by decide) (by decide), c6', r653.2.2.2]; omega
      · have n1 := row_nx r653.1 ha
        have n2 := row_nx r653.2.2.1 ha
        rw [so _ _ (by omega) (by omega) (by omega) (by omega) (by omega) (by omega) (by omega)]
        exact H.1 a ha
  · obtain ⟨r1, r2, r3⟩ := q1 f hf
    rw [so 717 f (by omega) (by omega) (by omega) (by omega) (by omega) (by omega) (by omega), so 652 f (by omega) (by omega) (by omega) (by omega) (by omega) (by omega) (by omega)]
    exact ⟨r1, r2, fun hh => rowEq_fr (so _ _ (by omega) (by omega) (by omega) (by omega) (by omega) (by omega) (by omega)) (fun i => so _ _ (by omega) (by omega) (by omega) (by omega) (by omega) (by omega) (by omega)) (fun i => so _ _ (by omega) (by omega) (by omega) (by omega) (by omega) (by omega) (by omega)) (so _ _ (by omega) (by omega) (by omega) (by omega) (by omega) (by omega) (by omega)) (r3 hh)⟩
  · rw [mo _ _ (by decide) (by decide), c3', m4]
    omega
  · rw [m4] at hi
    rw [mo (653 + 1) _ (by decide) (by decide), Nat.zero_add]
    by_cases e : i < 6 * D
    · rw [m3 i (by omega), up_a (by decide), f1 720 _ (by decide) (by decide) (by decide) (by decide) (by decide)]
      have := q4.2 i (by omega)
      rw [Nat.zero_add] at this
      rw [← this]
      exact c4' i e
    · have h1 := c5' (i - 6 * D) (by omega)
      have h2 := m2 (i - 6 * D) (by omega) (by omega)
      rw [show 6 * D + (i - 6 * D) = i by omega] at h1 h2
      rw [h2]
      exact h1
  · rw [mo _ _ (by decide) (by decide), c3'] at hi
    rw [mo _ _ (by decide) (by decide)]
    by_cases e : i < 6 * D
    · rw [c4' i e]; exact hF i e
    · have h1 := c5' (i - 6 * D) (by omega)
      rw [show 6 * D + (i - 6 * D) = i by omega] at h1
      rw [h1]
      unfold cmp6
      have := hF (6 * t1 + (i - 6 * D)) (by omega)
      split
      · omega
      · exact hF _ (by omega)
end
-- DRAFT 72.patch2.lean
/-! Patches that are stored: what stays, what is new. -/
noncomputable section
theorem WF_bc {σ : Sg} {a b : Nat} (ha : isRow a = true) (hb : isRow b = true) (H : WF σ) : WF (bcS σ a b) := by
  intro r hr
  by_cases e : r = a
  · subst e
    have h1 := H b hb
    unfold bcS cpS
    rw [if_neg (by omega), up_s]
    split <;> omega
  · rw [bc_off e (row_nx ha hr)]
    exact H r hr
theorem WF_pb {σ : Sg} {P Q : Nat} (hP : isPatch P = true) (hQ : isPatch Q = true) (H : WF σ) : WF (pbS σ P Q) :=
  WF_bc (pat_9 hP) (pat_9 hQ) (WF_bc (pat_7 hP) (pat_7 hQ) (WF_bc (pat_5 hP) (pat_5 hQ) (WF_bc (pat_3 hP) (pat_3 hQ) (WF_bc (pat_1 hP) (pat_1 hQ) H))))
theorem WF_up {σ : Sg} {a k : Nat} {v : Int} (h : isRow a = false ∨ ¬ k = 1) (H : WF σ) : WF (upS σ a k v) := by
  intro r hr
  have : upS σ a k v r 1 = σ r 1 := by
    unfold upS
    rw [if_neg]
    rintro ⟨e1, e2⟩
    rcases h with h | h
    · rw [e1, h] at hr; exact absurd hr (by decide)
    · exact h e2.symm
  rw [this]
  exact H r hr
theorem cpP {p : Nat} (h : p < 24) : cap (20 + 13 * p + 1) = 16 ∧ cap (20 + 13 * p + 3) = 16 ∧ cap (20 + 13 * p + 5) = 16 ∧ cap (20 + 13 * p + 7) = 16 ∧ cap (20 + 13 * p + 9) = 68 ∧ cap (20 + 13 * p + 11) = 16 ∧ isPatch (20 + 13 * p) = true ∧ qE 19 p (20 + 13 * p) = true := by
  have h2 : ∀ m, m < 24 → cap (20 + 13 * m + 1) = 16 ∧ cap (20 + 13 * m + 3) = 16 ∧ cap (20 + 13 * m + 5) = 16 ∧ cap (20 + 13 * m + 7) = 16 ∧ cap (20 + 13 * m + 9) = 68 ∧ cap (20 + 13 * m + 11) = 16 ∧ isPatch (20 + 13 * m) = true ∧ qE 19 m (20 + 13 * m) = true := by decide +kernel
  exact h2 p h
theorem cpL {p : Nat} (h : p < 5) : cap (406 + 13 * p + 1) = 16 ∧ cap (406 + 13 * p + 3) = 16 ∧ cap (406 + 13 * p + 5) = 16 ∧ cap (406 + 13 * p + 7) = 16 ∧ cap (406 + 13 * p + 9) = 68 ∧ cap (406 + 13 * p + 11) = 16 ∧ isPatch (406 + 13 * p) = true ∧ qE 405 p (406 + 13 * p) = true := by
  have h2 : ∀ m, m < 5 → cap (406 + 13 * m + 1) = 16 ∧ cap (406 + 13 * m + 3) = 16 ∧ cap (406 + 13 * m + 5) = 16 ∧ cap (406 + 13 * m + 7) = 16 ∧ cap (406 + 13 * m + 9) = 68 ∧ cap (406 + 13 * m + 11) = 16 ∧ isPatch (406 + 13 * m) = true ∧ qE 405 m (406 + 13 * m) = true := by decide +kernel
  exact h2 p h
theorem WF_pw {σ : Sg} {Q : Nat} (H : WF σ) : ∀ j, j ≤ 9 → isRow (Q + j) = true → wR σ (Q + j) := fun j _ h => WF_w H h
theorem rowEq_fr2 {σ σ' : Sg} {a A off : Nat} {n n' : Int} (ha : σ' a 1 = σ a 1) (hb : ∀ i, σ' (a + 1) i = σ (a + 1) i) (hA : ∀ i : Nat, (i : Int) < n → σ' A (off + i) = σ A (off + i)) (hn : n' = n) (H : rowEq σ a A off n) : rowEq σ' a A off n' := by
  subst hn
  refine ⟨by rw [ha]; exact H.1, fun i hi => ?_⟩
  rw [hb, hA i hi]
  exact H.2 i hi
theorem PR_fr2 {σ σ' : Sg} {P s : Nat} (h : ∀ c k, P + 1 ≤ c ∧ c ≤ P + 6 → σ' c k = σ c k) (h2 : ∀ c k, 685 ≤ c ∧ c ≤ 687 → k < 100 → σ' c (100 * s + k) = σ c (100 * s + k)) (h3 : σ' 688 s = σ 688 s ∧ σ' 689 s = σ 689 s) (hn : σ 688 s ≤ 100 ∧ σ 689 s ≤ 100) (H : PR σ P s) : PR σ' P s :=
  ⟨rowEq_fr2 (h _ _ (by omega)) (fun i => h _ _ (by omega)) (fun i hi => h2 _ _ (by omega) (by omega)) h3.1 H.1, rowEq_fr2 (h _ _ (by omega)) (fun i => h _ _ (by omega)) (fun i hi => h2 _ _ (by omega) (by omega)) h3.2 H.2.1, rowEq_fr2 (h _ _ (by omega)) (fun i => h _ _ (by omega)) (fun i hi => h2 _ _ (by omega) (by omega)) h3.1 H.2.2⟩
theorem PR_16 {σ : Sg} {P s : Nat} {m : Int} (H : PR σ P s) (H2 : PO σ P m) : σ 688 s ≤ m ∧ σ 689 s ≤ m ∧ σ (P + 1) 1 = σ 688 s ∧ σ (P + 3) 1 = σ 689 s ∧ σ (P + 5) 1 = σ 688 s := by
  have a1 := H.1.1
  have a2 := H.2.1.1
  have b1 := H2.1
  have b2 := H2.2.1
  have b3 := H2.2.2.1
  exact ⟨by omega, by omega, by omega, by omega, by omega⟩
theorem RP_fr2 {σ σ' : Sg} (h : ∀ c k, (20 ≤ c ∧ c ≤ 331) ∨ (685 ≤ c ∧ c ≤ 687 ∧ k < 2400) ∨ ((c = 688 ∨ c = 689) ∧ k < 24) ∨ (c = 0 ∧ k = 3) ∨ (c = 682 ∧ k = 3) → σ' c k = σ c k) (H : RP σ) : RP σ' := by
  obtain ⟨h1, h2, h3, h4⟩ := H
  have e0 := h 0 3 (by omega)
  have e1 := h 682 3 (by omega)
  refine ⟨by omega, by omega, by omega, fun p hp => ?_⟩
  rw [e0] at hp
  obtain ⟨g1, g2⟩ := h4 p hp
  have b := PR_16 g1 g2
  exact ⟨PR_fr2 (fun c k hc => h _ _ (by omega)) (fun c k hc hk => h _ _ (by omega)) ⟨h _ _ (by omega), h _ _ (by omega)⟩ (by omega) g1, PO_fr (fun c k hc => h _ _ (by omega)) g2⟩
theorem RSt_fr2 {σ σ' : Sg} {c0 c1 : Int} (hc : c0 ≤ c1) (h : ∀ c k, (402 ≤ c ∧ c ≤ 472) ∨ (685 ≤ c ∧ c ≤ 687 ∧ 2400 ≤ k ∧ k < 2900) ∨ ((c = 688 ∨ c = 689) ∧ 24 ≤ k ∧ k < 29) ∨ c = 710 ∨ c = 711 ∨ (c = 682 ∧ 39 ≤ k ∧ k ≤ 41) → σ' c k = σ c k) (H : RSt c0 σ) : RSt c1 σ' := by
  obtain ⟨h1, h2, h3, h4, h5, h6, h7, h8, h9, h10, h11⟩ := H
  have e0 := h 402 3 (by omega)
  have e1 := h 402 4 (by omega)
  have e2 := h 682 39 (by omega)
  have e3 := h 682 40 (by omega)
  have e4 := h 682 41 (by omega)
  refine ⟨by omega, by omega, by omega, by omega, by omega, by omega, rowEq_fr (h _ _ (by omega)) (fun i => h _ _ (by omega)) (fun i => h _ _ (by omega)) e0 h7, fun k hk => ?_, rowEq_fr (h _ _ (by omega)) (fun i => h _ _ (by omega)) (fun i => h _ _ (by omega)) e2 h9, fun i hi => ?_, fun k hk => ?_⟩
  · rw [e0] at hk
    rw [h 472 k (by omega), e1]
    exact h8 k hk
  · rw [h 403 1 (by omega)] at hi
    rw [h 404 i (by omega)]
    exact h10 i hi
  · rw [e0] at hk
    obtain ⟨g1, g2, g3⟩ := h11 k hk
    have b := PR_16 g1 g2
    have hb : blw k = 403 ∨ (409 ≤ blw k ∧ blw k ≤ 470) := by
      unfold blw
      split
      · exact Or.inl rfl
      · right; omega
    refine ⟨PR_fr2 (fun c k hc => h _ _ (by omega)) (fun c j hc hj => h _ _ (by omega)) ⟨h _ _ (by omega), h _ _ (by omega)⟩ (by omega) g1, PO_fr (fun c k hc => h _ _ (by omega)) g2, smP_fr (funext fun k => h _ _ (by omega)) (funext fun k => h _ _ (by omega)) (funext fun k => h _ _ (by omega)) (funext fun k => h _ _ (by omega)) g3⟩
/-- one more patch -/
theorem RP_new {σ s : Sg} {p : Nat} (H : RP σ) (hp : σ 0 3 = (p : Nat)) (h24 : p < 24) (e0 : s 0 3 = (p : Int) + 1) (e1 : s 682 3 = (p : Int) + 1) (h : ∀ c k, (20 ≤ c ∧ c < 20 + 13 * p) ∨ (685 ≤ c ∧ c ≤ 687 ∧ k < 100 * p) ∨ ((c = 688 ∨ c = 689) ∧ k < p) → s c k = σ c k) (n1 : PR s (20 + 13 * p) p) (n2 : PO s (20 + 13 * p) 16) : RP s := by
  obtain ⟨h1, h2, h3, h4⟩ := H
  refine ⟨by omega, by omega, by omega, fun q hq => ?_⟩
  by_cases e : q = p
  · rw [e]; exact ⟨n1, n2⟩
  · obtain ⟨g1, g2⟩ := h4 q (by omega)
    have b := PR_16 g1 g2
    exact ⟨PR_fr2 (fun c k hc => h _ _ (by omega)) (fun c k hc hk => h _ _ (by omega)) ⟨h _ _ (by omega), h _ _ (by omega)⟩ (by omega) g1, PO_fr (fun c k hc => h _ _ (by omega)) g2⟩
/-- a patch was copied, and its slot too -/
theorem PR_cg {σ σ' : Sg} {P Q s t : Nat} (h : ∀ j, j = 1 ∨ j = 3 ∨ j = 5 ∨ j = 7 ∨ j = 9 → σ' (P + j) 1 = σ (Q + j) 1 ∧ ∀ k : Nat, (k : Int) < σ (Q + j) 1 → σ' (P + j + 1) k = σ (Q + j + 1) k) (h2 : ∀ c k, 685 ≤ c ∧ c ≤ 687 → k < 100 → σ' c (100 * t + k) = σ c (100 * s + k)) (h3 : σ' 688 t = σ 688 s ∧ σ' 689 t = σ 689 s) (hn : σ 688 s ≤ 100 ∧ σ 689 s ≤ 100) (H : PR σ Q s) : PR σ' P t := by
  obtain ⟨a1, c1⟩ := h 1 (by omega)
  obtain ⟨a3, c3⟩ := h 3 (by omega)
  obtain ⟨a5, c5⟩ := h 5 (by omega)
  obtain ⟨⟨p1, q1⟩, ⟨p2, q2⟩, ⟨p3, q3⟩⟩ := H
  refine ⟨⟨by rw [a1, h3.1]; exact p1, fun i hi => ?_⟩, ⟨by rw [a3, h3.2]; exact p2, fun i hi => ?_⟩, ⟨by rw [a5, h3.1]; exact p3, fun i hi => ?_⟩⟩
  · rw [h3.1] at hi
    rw [h2 685 i (by omega) (by omega), c1 i (by omega)]
    exact q1 i hi
  · rw [h3.2] at hi
    rw [h2 686 i (by omega) (by omega), c3 i (by omega)]
    exact q2 i hi
  · rw [h3.1] at hi
    have e5 : σ' (P + 5 + 1) i = σ (Q + 5 + 1) i := c5 i (by omega)
    rw [h2 687 i (by omega) (by omega), e5]
    exact q3 i hi
theorem d231_ok {σ : Sg} {k : Int} (hk : 0 ≤ k ∧ k < σ 402 3) (h5 : σ 402 3 ≤ 5) : Dd 231 [vA 0, vI k] σ (rA (406 + 13 * k.toNat) σ) := by
  have hc := cpL (p := k.toNat) (by omega)
  have e : Dd 89 [vA 405, vI k, vI (σ 402 3)] σ (rA (406 + 13 * k.toNat) σ) := by
    refine b89 ?_
    rw [if_pos hk.1, if_pos hk.2]
    refine ⟨5, by decide +kernel, by omega, ?_⟩
    rw [if_pos (by omega)]
    exact ⟨hk.1, _, hc.2.2.2.2.2.2.2, hc.2.2.2.2.2.2.1, rfl⟩
  refine b231 ⟨_, _, e, fun h => (by cases h), fun a h => ?_⟩
  cases h
  exact ⟨hc.2.2.2.2.2.2.1, rfl⟩
theorem d230_ok {σ : Sg} {k : Int} (hk : 0 ≤ k ∧ k < σ 0 3) (h5 : σ 0 3 ≤ 24) : Dd 230 [vA 0, vI k] σ (rA (20 + 13 * k.toNat) σ) := by
  have hc := cpP (p := k.toNat) (by omega)
  have e : Dd 89 [vA 19, vI k, vI (σ 0 3)] σ (rA (20 + 13 * k.toNat) σ) := by
    refine b89 ?_
    rw [if_pos hk.1, if_pos hk.2]
    refine ⟨24, by decide +kernel, by omega, ?_⟩
    rw [if_pos (by omega)]
    exact ⟨hk.1, _, hc.2.2.2.2.2.2.2, hc.2.2.2.2.2.2.1, rfl⟩
  refine b230 ⟨_, _, e, fun h => (by cases h), fun a h => ?_⟩
  cases h
  exact ⟨hc.2.2.2.2.2.2.1, rfl⟩
theorem d340_ok {σ : Sg} {k : Int} (hk : 0 ≤ k ∧ k < σ 682 40) : Dd 340 [vA 682, vI k] σ (rI 1 σ) := by
  have e := d246 (x := k) (n := σ 682 40) (σ := σ)
  rw [if_pos hk] at e
  exact b340 ⟨_, _, e, Or.inr rfl, rfl⟩
theorem d248_ok {σ : Sg} {k : Int} (hk : 0 ≤ k ∧ k < σ 682 3) : Dd 248 [vA 682, vI k] σ (rI 1 σ) := by
  have e := d246 (x := k) (n := σ 682 3) (σ := σ)
  rw [if_pos hk] at e
  exact b248 ⟨_, _, e, Or.inr rfl, rfl⟩
/-- PatchBench.store -/
theorem d242_ok {σ : Sg} {Q p : Nat} (hp : σ 0 3 = (p : Nat)) (h24 : p < 24) (hQ : isPatch Q = true) (hne : 20 + 13 * p < Q ∨ Q < 20 + 13 * p) (hw : ∀ j, j ≤ 9 → isRow (Q + j) = true → wR σ (Q + j)) : Dd 242 [vA 0, vA Q] σ (rI p (upS (pbS σ (20 + 13 * p) Q) 0 3 ((p : Int) + 1))) := by
  have hc := cpP h24
  refine b242 ?_
  rw [if_pos (by omega), if_neg (by omega), hp, show ((p : Nat) : Int).toNat = p by omega]
  refine ⟨by omega, _, hc.2.2.2.2.2.2.2, hc.2.2.2.2.2.2.1, _, d96 hc.2.2.2.2.2.2.1 hQ hne hw, ?_⟩
  rw [pb_off (by omega), hp, up_s, show ((p : Nat) : Int) + 1 - 1 = (p : Int) by omega]
  exact ⟨by omega, by omega, rfl⟩
theorem d242_full {σ : Sg} {Q : Nat} (h24 : ¬ σ 0 3 < 24) : Dd 242 [vA 0, vA Q] σ (rX 2 σ) := by
  refine b242 ?_
  rw [if_neg h24]
  exact b242_21 rfl
/-- the model's numbers -/
theorem d289_ok {σ : Sg} {s p : Nat} (hs : s < 44) (hp : σ 682 3 = (p : Nat)) (h24 : p < 44) : Dd 289 [vA 682, vI s] σ (rI p (upS (cpyS σ s p) 682 3 ((p : Int) + 1))) := by
  have e := d288 (σ := σ) hs h24
  rw [← hp] at e
  refine b289 ⟨_, e, ?_⟩
  rw [cpy_off (by decide), hp, up_s, show ((p : Nat) : Int) + 1 - 1 = (p : Int) by omega]
  exact ⟨by omega, by omega, rfl⟩
theorem o31 {σ : Sg} {c a1 : Int} (H : Rel c σ) : OpR 420 347 [vA 0, vI a1, vA 726] [vA 682, vI a1] σ (c + 1) := by
  by_cases g1 : a1 < 0
  · exact x31_0 H g1
  by_cases g2 : σ 402 3 ≤ a1
  · exact x31_1 H g2
  have k1 : 0 ≤ a1 ∧ a1 < σ 402 3 := by omega
  obtain ⟨⟨n1, n2, n3⟩, ⟨n4, n5, n6⟩, -⟩ := rel_n H
  obtain ⟨t, ht⟩ := Int.eq_ofNat_of_zero_le k1.1
  have hL := cpL (p := t) (by omega)
  have e231 := d231_ok k1 n6
  rw [show a1.toNat = t by omega] at e231
  have m0 : ∀ {σ' : Sg} {o : Rs}, σ' 682 40 = σ 682 40 → C347_27 a1 (if σ' 682 3 = 24 then 2 else 0) σ' o → Dd 347 [vA 682, vI a1] σ' o := by
    intro σ' o h hh
    refine b347 ⟨_, _, d340_ok (by omega), ?_⟩
    rw [if_neg (show ¬ (1 : Int) = 0 by decide)]
    exact hh
  by_cases g3 : σ 0 3 < 24
  · obtain ⟨p, hp⟩ := Int.eq_ofNat_of_zero_le n2
    have hP := cpP (p := p) (by omega)
    have hA : Dd 203 [vA 0, vI a1] σ (rI p (upS (pbS σ (20 + 13 * p) (406 + 13 * t)) 0 3 ((p : Int) + 1))) := b203 (Or.inl ⟨_, _, e231, hL.2.2.2.2.2.2.1, Or.inl ⟨_, _, d242_ok hp (by omega) hL.2.2.2.2.2.2.1 (by omega) (WF_pw H.1), rfl⟩⟩)
    have hW := b420 (Or.inl ⟨_, _, hA, rfl⟩)
    rw [show ((0 : Int).toNat) = 0 from rfl] at hW
    have c1 : ∀ c k, ¬ (20 + 13 * p + 1 ≤ c ∧ c ≤ 20 + 13 * p + 10) → ¬ (c = 0 ∧ k = 3) → ¬ c = 726 → (upS (upS (pbS σ (20 + 13 * p) (406 + 13 * t)) 0 3 ((p : Int) + 1)) 726 0 (p : Nat)) c k = σ c k := by
      intro c k h1 h2 h3
      rw [up_a h3]
      have : upS (pbS σ (20 + 13 * p) (406 + 13 * t)) 0 3 ((p : Int) + 1) c k = pbS σ (20 + 13 * p) (406 + 13 * t) c k := by
        unfold upS
        rw [if_neg h2]
      rw [this, pb_off h1]
    have c2 : (upS (upS (pbS σ (20 + 13 * p) (406 + 13 * t)) 0 3 ((p : Int) + 1)) 726 0 (p : Nat)) 0 3 = (p : Int) + 1 := by rw [up_a (by decide), up_s]
    have c3 : (upS (upS (pbS σ (20 + 13 * p) (406 + 13 * t)) 0 3 ((p : Int) + 1)) 726 0 (p : Nat)) 726 0 = (p : Nat) := up_s
    obtain ⟨r1, r2, r3⟩ := H.2.2.2.2.2.1.2.2.2.2.2.2.2.2.2.2 t (by omega)
    have hrow : ∀ j, j = 1 ∨ j = 3 ∨ j = 5 ∨ j = 7 ∨ j = 9 → isRow (406 + 13 * t + j) = true ∧ cap (406 + 13 * t + j) = cap (20 + 13 * p + j) := by
      intro j hj
      have q := hL.2.2.2.2.2.2.1
      rcases hj with hj | hj | hj | hj | hj <;> subst hj
      · exact ⟨pat_1 q, by omega⟩
      · exact ⟨pat_3 q, by omega⟩
      · exact ⟨pat_5 q, by omega⟩
      · exact ⟨pat_7 q, by omega⟩
      · exact ⟨pat_9 q, by omega⟩
    have c4 : ∀ j, j = 1 ∨ j = 3 ∨ j = 5 ∨ j = 7 ∨ j = 9 → (upS (upS (pbS σ (20 + 13 * p) (406 + 13 * t)) 0 3 ((p : Int) + 1)) 726 0 (p : Nat)) (20 + 13 * p + j) 1 = σ (406 + 13 * t + j) 1 ∧ ∀ k : Nat, (k : Int) < σ (406 + 13 * t + j) 1 → (upS (upS (pbS σ (20 + 13 * p) (406 + 13 * t)) 0 3 ((p : Int) + 1)) 726 0 (p : Nat)) (20 + 13 * p + j + 1) k = σ (406 + 13 * t + j + 1) k := by
      intro j hj
      obtain ⟨q1, q2⟩ := hrow j hj
      have w := H.1 _ q1
      obtain ⟨z1, z2⟩ := pb_row (σ := σ) (P := 20 + 13 * p) (Q := 406 + 13 * t) (by omega) hj (by omega)
      refine ⟨by rw [up_a (by omega), up_a (by omega)]; exact z1, fun k hk => by rw [up_a (by omega), up_a (by omega)]; exact z2 k hk⟩
    have c5 : WF (upS (upS (pbS σ (20 + 13 * p) (406 + 13 * t)) 0 3 ((p : Int) + 1)) 726 0 (p : Nat)) := WF_up (Or.inr (by decide)) (WF_up (Or.inr (by decide)) (WF_pb hP.2.2.2.2.2.2.1 hL.2.2.2.2.2.2.1 H.1))
    generalize (upS (upS (pbS σ (20 + 13 * p) (406 + 13 * t)) 0 3 ((p : Int) + 1)) 726 0 (p : Nat)) = s1 at hW c1 c2 c3 c4 c5
    have e3 : s1 682 3 = (p : Nat) := by rw [c1 _ _ (by omega) (by omega) (by omega)]; omega
    have hB : Dd 347 [vA 682, vI a1] s1 (rI p (upS (cpyS (upS s1 682 0 0) (24 + t) p) 682 3 ((p : Int) + 1))) := by
      refine m0 (c1 _ _ (by omega) (by omega) (by omega)) ?_
      rw [if_neg (by omega)]
      refine b347_27 ⟨_, _, d245, ?_⟩
      rw [if_pos rfl, if_neg (show ¬ (1 : Int) = 0 by decide), show 24 + a1 = ((24 + t : Nat) : Int) by omega]
      exact ⟨by omega, _, _, d289_ok (by omega) (by rw [up_k (by decide)]; exact e3) (by omega), rfl⟩
    have mo : ∀ c k, ¬ (685 ≤ c ∧ c ≤ 689) → ¬ (c = 682 ∧ (k = 0 ∨ k = 3)) → (upS (cpyS (upS s1 682 0 0) (24 + t) p) 682 3 ((p : Int) + 1)) c k = s1 c k := by
      intro c k h1 h2
      have : (upS (cpyS (upS s1 682 0 0) (24 + t) p) 682 3 ((p : Int) + 1)) c k = cpyS (upS s1 682 0 0) (24 + t) p c k := by
        unfold upS
        rw [if_neg (by omega)]
      rw [this, cpy_off h1]
      unfold upS
      rw [if_neg (by omega)]
    have z0 : (upS (cpyS (upS s1 682 0 0) (24 + t) p) 682 3 ((p : Int) + 1)) 682 0 = 0 := by rw [up_k (by decide), cpy_off (by decide), up_s]
    have z3 : (upS (cpyS (upS s1 682 0 0) (24 + t) p) 682 3 ((p : Int) + 1)) 682 3 = (p : Int) + 1 := up_s
    have z4 : ∀ u c k, ¬ u = p → k < 100 → 685 ≤ c ∧ c ≤ 687 → (upS (cpyS (upS s1 682 0 0) (24 + t) p) 682 3 ((p : Int) + 1)) c (100 * u + k) = s1 c (100 * u + k) := by
      intro u c k h1 h2 h3
      rw [up_a (by omega), cpy_other h1 h2 h3, up_a (by omega)]
    have z5 : ∀ c k, k < 100 → 685 ≤ c ∧ c ≤ 687 → (upS (cpyS (upS s1 682 0 0) (24 + t) p) 682 3 ((p : Int) + 1)) c (100 * p + k) = s1 c (100 * (24 + t) + k) := by
      intro c k h2 h3
      rw [up_a (by omega), cpy_val h2 h3, up_a (by omega)]
    have z6 : ∀ u, ¬ u = p → (upS (cpyS (upS s1 682 0 0) (24 + t) p) 682 3 ((p : Int) + 1)) 688 u = s1 688 u ∧ (upS (cpyS (upS s1 682 0 0) (24 + t) p) 682 3 ((p : Int) + 1)) 689 u = s1 689 u := by
      intro u h1
      rw [up_a (by decide), up_a (by decide), cpy_n1, cpy_n2, if_neg h1, if_neg h1, up_a (by decide), up_a (by decide)]
      exact ⟨rfl, rfl⟩
    have z7 : (upS (cpyS (upS s1 682 0 0) (24 + t) p) 682 3 ((p : Int) + 1)) 688 p = s1 688 (24 + t) ∧ (upS (cpyS (upS s1 682 0 0) (24 + t) p) 682 3 ((p : Int) + 1)) 689 p = s1 689 (24 + t) := by
      rw [up_a (by decide), up_a (by decide), cpy_n1, cpy_n2, if_pos rfl, if_pos rfl, up_a (by decide), up_a (by decide)]
      exact ⟨rfl, rfl⟩
    generalize (upS (cpyS (upS s1 682 0 0) (24 + t) p) 682 3 ((p : Int) + 1)) = s2 at hB mo z0 z3 z4 z5 z6 z7
    have so : ∀ c k, ¬ (685 ≤ c ∧ c ≤ 689) → ¬ (c = 682 ∧ (k = 0 ∨ k = 3)) → ¬ (20 + 13 * p + 1 ≤ c ∧ c ≤ 20 + 13 * p + 10) → ¬ (c = 0 ∧ k = 3) → ¬ c = 726 → s2 c k = σ c k := fun c k h1 h2 h3 h4 h5 => by rw [mo c k h1 h2, c1 c k h3 h4 h5]
    have so2 : ∀ c k, 685 ≤ c ∧ c ≤ 687 → ¬ (100 * p ≤ k ∧ k < 100 * p + 100) → s2 c k = σ c k := by
      intro c k h1 h2
      have e := z4 (k / 100) c (k % 100) (by omega) (by omega) h1
      rw [show 100 * (k / 100) + k % 100 = k by omega] at e
      rw [e, c1 c k (by omega) (by omega) (by omega)]
    have so3 : ∀ u, ¬ u = p → s2 688 u = σ 688 u ∧ s2 689 u = σ 689 u := by
      intro u h1
      rw [(z6 u h1).1, (z6 u h1).2, c1 688 u (by omega) (by omega) (by omega), c1 689 u (by omega) (by omega) (by omega)]
      exact ⟨rfl, rfl⟩
    obtain ⟨h1, h2, h3, h4, h5, h6, h7, h8, h9⟩ := H
    have b16 := PR_16 r1 r2
    have cc : ∀ j, j = 1 ∨ j = 3 ∨ j = 5 ∨ j = 7 ∨ j = 9 → s2 (20 + 13 * p + j) 1 = σ (406 + 13 * t + j) 1 ∧ ∀ k : Nat, (k : Int) < σ (406 + 13 * t + j) 1 → s2 (20 + 13 * p + j + 1) k = σ (406 + 13 * t + j + 1) k := by
      intro j hj
      obtain ⟨q1, q2⟩ := c4 j hj
      exact ⟨by rw [mo _ _ (by omega) (by omega)]; exact q1, fun k hk => by rw [mo _ _ (by omega) (by omega)]; exact q2 k hk⟩
    refine op_fin hW hB z0 (fun _ => by rw [mo _ _ (by decide) (by decide), c3]) (fun a k ha => c1 _ _ (by omega) (by omega) (by omega)) (fun a k ha => so _ _ (by omega) (by omega) (by omega) (by omega) (by omega)) ⟨WF_fr (fun a k ha => mo _ _ (by omega) (by omega)) c5, Zl_fr (fun k => so _ _ (by omega) (by omega) (by omega) (by omega) (by omega)) h2, RT_fr (fun c k hc => so _ _ (by omega) (by omega) (by omega) (by omega) (by omega)) h3, RB_fr (fun c k hc => so _ _ (by omega) (by omega) (by omega) (by omega) (by omega)) h4, ?_, RSt_fr2 (by omega) (fun c k hc => ?_) h6, RU_fr (fun c k hc => so _ _ (by omega) (by omega) (by omega) (by omega) (by omega)) h7, RF_fr (fun c k hc => so _ _ (by omega) (by omega) (by omega) (by omega) (by omega)) h8, RD_fr (fun c k hc => so _ _ (by omega) (by omega) (by omega) (by omega) (by omega)) h9⟩
    · refine RP_new h5 hp (by omega) (by rw [mo _ _ (by decide) (by decide)]; exact c2) z3 (fun c k hc => ?_) ?_ ?_
      · rcases hc with q | q | ⟨q1 | q1, q2⟩
        · exact so _ _ (by omega) (by omega) (by omega) (by omega) (by omega)
        · exact so2 c k (by omega) (by omega)
        · rw [q1]; exact (so3 k (by omega)).1
        · rw [q1]; exact (so3 k (by omega)).2
      · refine PR_cg cc (fun c k q1 q2 => ?_) ?_ (by omega) r1
        · rw [z5 c k q2 q1, c1 _ _ (by omega) (by omega) (by omega)]
        · rw [z7.1, z7.2, c1 _ _ (by omega) (by omega) (by omega), c1 _ _ (by omega) (by omega) (by omega)]
          exact ⟨rfl, rfl⟩
      · refine PO_cg cc r2 ?_
        have q := hL.2.2.2.2.2.2.1
        exact ⟨(h1 _ (pat_1 q)).1, (h1 _ (pat_3 q)).1⟩
    · rcases hc with q | q | ⟨q1 | q1, q2⟩ | q | q | q
      · exact so _ _ (by omega) (by omega) (by omega) (by omega) (by omega)
      · exact so2 c k (by omega) (by omega)
      · rw [q1]; exact (so3 k (by omega)).1
      · rw [q1]; exact (so3 k (by omega)).2
      · exact so _ _ (by omega) (by omega) (by omega) (by omega) (by omega)
      · exact so _ _ (by omega) (by omega) (by omega) (by omega) (by omega)
      · exact so _ _ (by omega) (by omega) (by omega) (by omega) (by omega)
  · have hA : Dd 203 [vA 0, vI a1] σ (rX 2 σ) := b203 (Or.inl ⟨_, _, e231, hL.2.2.2.2.2.2.1, Or.inr ⟨_, _, d242_full g3, rfl⟩⟩)
    have hB : Dd 347 [vA 682, vI a1] σ (rI 0 (upS σ 682 0 2)) := by
      refine m0 rfl ?_
      rw [if_pos (by omega)]
      refine b347_27 ⟨_, _, d245, ?_⟩
      rw [if_neg (show ¬ (2 : Int) = 0 by decide), if_pos rfl]
    exact op_x H (by decide) (b420 (Or.inr (Or.inr ⟨_, hA, rfl⟩))) hB
end
-- DRAFT 73.stack2.lean
/-! push, pop. -/
noncomputable section
theorem l344_0 {x1 : Nat} (h44 : x1 < 44) {σ : Sg} {i : Int} : C344_21 x1 0 i σ (rI 0 σ) := by
  refine b344_21 ⟨by omega, ?_⟩
  by_cases z : i < σ 688 ((x1 : Int)).toNat
  · rw [if_pos z, if_pos rfl]
    exact ⟨Or.inl rfl, rfl⟩
  · rw [if_neg z]
    exact ⟨Or.inl rfl, rfl⟩
theorem l344 {x1 n : Nat} (h44 : x1 < 44) {σ : Sg} {g : Nat → Int} (hn : σ 688 x1 = (n : Nat)) (h100 : n ≤ 100) (hg : ∀ k, k < n → Dd 342 [vA 682, vI k] σ (rI (g k) σ)) : ∀ (w i : Nat), i + w = n → ((∀ k, i ≤ k → k < n → σ 685 (100 * x1 + k) = g k) → C344_21 x1 1 i σ (rI 1 σ)) ∧ (¬ (∀ k, i ≤ k → k < n → σ 685 (100 * x1 + k) = g k) → C344_21 x1 1 i σ (rI 0 σ)) := by
  intro w
  induction w with
  | zero =>
    intro i q
    have e : C344_21 x1 1 i σ (rI 1 σ) := by
      refine b344_21 ⟨by omega, ?_⟩
      rw [show ((x1 : Int)).toNat = x1 by omega, if_neg (by omega)]
      exact ⟨Or.inr rfl, rfl⟩
    exact ⟨fun _ => e, fun h => absurd (fun k h1 h2 => by omega) h⟩
  | succ w ih =>
    intro i q
    obtain ⟨ih1, ih2⟩ := ih (i + 1) (by omega)
    have hd := hg i (by omega)
    have go : ∀ {o : Rs}, (C344_59 x1 (some (vI 1)) i (if σ 685 (100 * x1 + i) = g i then 1 else 0) σ o) → C344_21 x1 1 i σ o := by
      intro o hh
      refine b344_21 ⟨by omega, ?_⟩
      rw [show ((x1 : Int)).toNat = x1 by omega, if_pos (by omega), if_neg (show ¬ (1 : Int) = 0 by decide), show (100 * (x1 : Int) + (i : Int)).toNat = 100 * x1 + i by omega]
      exact ⟨by omega, by omega, by omega, _, _, hd, hh⟩
    constructor
    · intro h
      refine go ?_
      rw [if_pos (h i (by omega) (by omega))]
      refine b344_59 ⟨by omega, ?_⟩
      rw [show (i : Int) + 1 = ((i + 1 : Nat) : Int) by omega]
      exact ih1 (fun k h1 h2 => h k (by omega) h2)
    · intro h
      refine go ?_
      by_cases z : σ 685 (100 * x1 + i) = g i
      · rw [if_pos z]
        refine b344_59 ⟨by omega, ?_⟩
        rw [show (i : Int) + 1 = ((i + 1 : Nat) : Int) by omega]
        refine ih2 (fun hh => h (fun k h1 h2 => ?_))
        by_cases y : k = i
        · rw [y]; exact z
        · exact hh k (by omega) h2
      · rw [if_neg z]
        exact b344_59 ⟨by omega, l344_0 h44⟩
/-- the model's questions for the stack's text, wherever the class stands -/
theorem d341m {σ σ' : Sg} {c : Int} (H : Rel c σ) (f : ∀ a k, 682 ≤ a → ¬ a = 726 → σ' a k = σ a k) : Dd 341 [vA 682] σ' (rI (σ (blw (σ 402 3).toNat) 1) σ') := by
  have hn := (rel_n H).2.1
  have e40 := f 682 40 (by decide) (by decide)
  refine b341 ⟨fun _ => by omega, fun _ => by omega, fun _ => by omega, ?_⟩
  rcases rel_top H with ⟨h, e⟩ | ⟨h, e⟩
  · rw [if_pos (show σ' 682 40 = 0 by omega), f 682 39 (by decide) (by decide), e.1]
  · rw [if_neg (show ¬ σ' 682 40 = 0 by omega), e.1, show ((24 + σ' 682 40) - 1).toNat = 23 + (σ 402 3).toNat by omega, f 689 _ (by decide) (by decide)]
theorem d342m {σ σ' : Sg} {c : Int} (H : Rel c σ) (f : ∀ a k, 682 ≤ a → ¬ a = 726 → σ' a k = σ a k) {i : Nat} (hi : (i : Int) < σ (blw (σ 402 3).toNat) 1) : Dd 342 [vA 682, vI i] σ' (rI (σ (blw (σ 402 3).toNat + 1) i) σ') := by
  have hn := (rel_n H).2.1
  have h16 := rel_top16 H
  have e40 := f 682 40 (by decide) (by decide)
  refine b342 ⟨fun _ => by omega, fun _ => by omega, fun _ => by omega, fun _ => by omega, fun _ => by omega, fun _ => by omega, ?_⟩
  rcases rel_top H with ⟨h, e⟩ | ⟨h, e⟩
  · have e1 := e.1
    rw [if_pos (show σ' 682 40 = 0 by omega), e.2 i (by omega), Nat.zero_add, f 710 _ (by decide) (by decide), show ((i : Int)).toNat = i by omega]
  · have e1 := e.1
    rw [if_neg (show ¬ σ' 682 40 = 0 by omega), e.2 i (by omega), show ((100 * ((24 + σ' 682 40) - 1)) + (i : Int)).toNat = 100 * (23 + (σ 402 3).toNat) + i by omega, f 686 _ (by decide) (by decide)]
theorem d344 {σ σ' : Sg} {c : Int} {t : Nat} (H : Rel c σ) (f : ∀ a k, 682 ≤ a → ¬ a = 726 → σ' a k = σ a k) (ht : (t : Int) < σ 0 3) : (smP σ (20 + 13 * t + 1) (blw (σ 402 3).toNat) → Dd 344 [vA 682, vI t] σ' (rI 1 σ')) ∧ (¬ smP σ (20 + 13 * t + 1) (blw (σ 402 3).toNat) → Dd 344 [vA 682, vI t] σ' (rI 0 σ')) := by
  obtain ⟨p1, p2, p3, p4, p5, p6⟩ := rel_p H (p := (t : Int)) (by omega)
  rw [show ((t : Int)).toNat = t by omega] at p1 p2 p3 p4 p5 p6
  have hn := (rel_n H).1
  have pr := (H.2.2.2.2.1.2.2.2 t ht).1.1
  obtain ⟨n, hnn⟩ := Int.eq_ofNat_of_zero_le p3
  have hT := d341m H f
  have e688 := f 688 t (by decide) (by decide)
  by_cases z : σ 688 t = σ (blw (σ 402 3).toNat) 1
  · have L := l344 (x1 := t) (n := n) (σ := σ') (g := fun k => σ (blw (σ 402 3).toNat + 1) k) (by omega) (by omega) (by omega) (fun k hk => d342m H f (by omega)) n 0 (by omega)
    have iff : smP σ (20 + 13 * t + 1) (blw (σ 402 3).toNat) ↔ ∀ k, 0 ≤ k → k < n → σ' 685 (100 * t + k) = σ (blw (σ 402 3).toNat + 1) k := by
      constructor
      · rintro ⟨-, h⟩ k - hk
        rw [f 685 _ (by decide) (by decide), ← pr.2 k (by omega)]
        exact h k (by omega)
      · intro h
        refine ⟨by omega, fun k hk => ?_⟩
        rw [pr.2 k (by omega), ← f 685 _ (by decide) (by decide)]
        exact h k (by omega) (by omega)
    refine ⟨fun h => b344 ⟨by omega, _, _, hT, ?_⟩, fun h => b344 ⟨by omega, _, _, hT, ?_⟩⟩
    · rw [show ((t : Int)).toNat = t by omega, if_pos (by omega)]
      exact b344_18 (L.1 (iff.mp h))
    · rw [show ((t : Int)).toNat = t by omega, if_pos (by omega)]
      exact b344_18 (L.2 (fun h2 => h (iff.mpr h2)))
  · refine ⟨fun h => absurd (by have := h.1; omega) z, fun h => b344 ⟨by omega, _, _, hT, ?_⟩⟩
    rw [show ((t : Int)).toNat = t by omega, if_neg (by omega)]
    exact b344_18 (l344_0 (by omega))
theorem r471 : isRow 471 = true ∧ cap 471 = 5 := by decide +kernel
/-- Pile.layOn -/
theorem d128 {σ : Sg} {c : Int} {t h nm : Nat} (H : Rel c σ) (ht : (t : Int) < σ 0 3) (hh : σ 402 3 = (h : Nat)) (h5 : h < 5) (hm : σ 402 4 = (nm : Nat)) (hb : (nm : Int) < 2000000000) : Dd 128 [vA 402, vA (20 + 13 * t)] σ (rI nm (upS (upS (adS (pbS σ (406 + 13 * h) (20 + 13 * t)) 471 nm) 402 3 ((h : Int) + 1)) 402 4 ((nm : Int) + 1))) := by
  have hn := (rel_n H).1
  have hL := cpL h5
  have hP := cpP (p := t) (by omega)
  have w : wR (pbS σ (406 + 13 * h) (20 + 13 * t)) 471 := ⟨r471.1, by rw [pb_off (by omega)]; exact (H.1 _ r471.1).1, by rw [pb_off (by omega)]; exact (H.1 _ r471.1).2⟩
  refine b128 ?_
  rw [if_pos (by omega), hh, show ((h : Nat) : Int).toNat = h by omega]
  refine ⟨by omega, _, hL.2.2.2.2.2.2.2, hL.2.2.2.2.2.2.1, _, d96 hL.2.2.2.2.2.2.1 hP.2.2.2.2.2.2.1 (by omega) (WF_pw H.1), _, d149 w, ?_⟩
  have e1 : adS (pbS σ (406 + 13 * h) (20 + 13 * t)) 471 (pbS σ (406 + 13 * h) (20 + 13 * t) 402 4) 402 3 = (h : Nat) := by rw [ad_off (by decide) (by decide), pb_off (by omega)]; exact hh
  have e2 : pbS σ (406 + 13 * h) (20 + 13 * t) 402 4 = (nm : Nat) := by rw [pb_off (by omega)]; exact hm
  rw [e1, e2, up_k (show ¬ 4 = 3 by decide), ad_off (show ¬ 402 = 471 by decide) (by decide), e2]
  refine ⟨by omega, by omega, b128_56 ?_⟩
  rw [up_s, show ((nm : Nat) : Int) + 1 - 1 = (nm : Int) by omega]
  exact ⟨by omega, rfl⟩
theorem o29 {σ : Sg} {c a1 : Int} (H : Rel c σ) (hc9 : c < 1000000) : OpR 418 345 [vA 0, vI a1, vA 726] [vA 682, vI a1] σ (c + 1) := by
  by_cases g1 : a1 < 0
  · exact x29_0 H g1
  by_cases g2 : σ 0 3 ≤ a1
  · exact x29_1 H g2
  have k1 : 0 ≤ a1 ∧ a1 < σ 0 3 := by omega
  obtain ⟨⟨n1, n2, n3⟩, ⟨n4, n5, n6⟩, -⟩ := rel_n H
  obtain ⟨t, ht⟩ := Int.eq_ofNat_of_zero_le k1.1
  have hP := cpP (p := t) (by omega)
  have e230 := d230_ok k1 n3
  rw [show a1.toNat = t by omega] at e230
  have m0 : ∀ {o : Rs}, (if σ 682 40 = 5 then C345_31 a1 (some (vI 1)) σ o else (∃ (v5 : Int) (s4 : Sg), Dd 344 [vA 682, vI a1] σ (.inl (some (.inl v5)), s4) ∧ (if v5 = 0 then C345_31 a1 (some (vI 1)) s4 o else C345_36 a1 (some (vI 1)) 0 s4 o))) → Dd 345 [vA 682, vI a1] σ o := by
    intro o hh
    refine b345 ⟨_, _, d248_ok (by omega), ?_⟩
    rw [if_neg (show ¬ (1 : Int) = 0 by decide)]
    exact hh
  have bad : C345_31 a1 (some (vI 1)) σ (rI 0 (upS σ 682 0 2)) := by
    refine b345_31 (b345_36 ⟨_, _, d245, ?_⟩)
    rw [if_neg (show ¬ (2 : Int) = 0 by decide), if_pos rfl]
  by_cases g3 : 5 ≤ σ 402 3
  · have hA : Dd 201 [vA 0, vI a1] σ (rX 2 σ) := b201 (Or.inl ⟨_, _, e230, hP.2.2.2.2.2.2.1, by rw [if_pos g3]⟩)
    have hB : Dd 345 [vA 682, vI a1] σ (rI 0 (upS σ 682 0 2)) := m0 (by rw [if_pos (by omega)]; exact bad)
    exact op_x H (by decide) (b418 (Or.inr (Or.inr ⟨_, hA, rfl⟩))) hB
  have hbr := blw_row H
  have w1 := WF_w H.1 (pat_1 hP.2.2.2.2.2.2.1)
  have w2 := WF_w H.1 hbr
  obtain ⟨q344a, q344b⟩ := d344 H (fun _ _ _ _ => rfl) (t := t) (by omega)
  rw [← ht] at q344a q344b
  by_cases g4n : ¬ smP σ (20 + 13 * t + 1) (blw (σ 402 3).toNat)
  · have g4 := g4n
    have hA : Dd 201 [vA 0, vI a1] σ (rX 2 σ) := by
      refine b201 (Or.inl ⟨_, _, e230, hP.2.2.2.2.2.2.1, ?_⟩)
      rw [if_neg g3]
      refine ⟨_, _, d127 H, hbr, _, _, d156_f w1 w2 g4, ?_⟩
      rw [if_pos rfl]
    have hB : Dd 345 [vA 682, vI a1] σ (rI 0 (upS σ 682 0 2)) := m0 (by
      rw [if_neg (by omega)]
      refine ⟨_, _, q344b g4, ?_⟩
      rw [if_pos rfl]
      exact bad)
    exact op_x H (by decide) (b418 (Or.inr (Or.inr ⟨_, hA, rfl⟩))) hB
  have g4 : smP σ (20 + 13 * t + 1) (blw (σ 402 3).toNat) := Classical.byContradiction g4n
  obtain ⟨h, hh⟩ := Int.eq_ofNat_of_zero_le n5
  have hst := H.2.2.2.2.2.1
  obtain ⟨u1, u2, u3, u4, u5, u6, u7, u8, u9, u10, u11⟩ := hst
  obtain ⟨nm, hnm⟩ := Int.eq_ofNat_of_zero_le u4
  have hL := cpL (p := h) (by omega)
  have hA : Dd 201 [vA 0, vI a1] σ (rI nm (upS (upS (adS (pbS σ (406 + 13 * h) (20 + 13 * t)) 471 nm) 402 3 ((h : Int) + 1)) 402 4 ((nm : Int) + 1))) := by
    refine b201 (Or.inl ⟨_, _, e230, hP.2.2.2.2.2.2.1, ?_⟩)
    rw [if_neg g3]
    refine ⟨_, _, d127 H, hbr, _, _, d156_t w1 w2 g4, ?_⟩
    rw [if_neg (show ¬ (1 : Int) = 0 by decide)]
    exact ⟨_, _, d128 H (by omega) hh (by omega) hnm (by omega), rfl⟩
  have hW := b418 (Or.inl ⟨_, _, hA, rfl⟩)
  rw [show ((0 : Int).toNat) = 0 from rfl] at hW
  rw [show (σ 402 3).toNat = h by omega] at g4 hbr
  have hrow : ∀ j, j = 1 ∨ j = 3 ∨ j = 5 ∨ j = 7 ∨ j = 9 → isRow (20 + 13 * t + j) = true ∧ cap (20 + 13 * t + j) = cap (406 + 13 * h + j) := by
    intro j hj
    have q := hP.2.2.2.2.2.2.1
    rcases hj with hj | hj | hj | hj | hj <;> subst hj
    · exact ⟨pat_1 q, by omega⟩
    · exact ⟨pat_3 q, by omega⟩
    · exact ⟨pat_5 q, by omega⟩
    · exact ⟨pat_7 q, by omega⟩
    · exact ⟨pat_9 q, by omega⟩
  have w471 := H.1 _ r471.1
  have e471 : σ 471 1 = (h : Nat) := by have := u7.1; omega
  have c1 : ∀ c k, ¬ (406 + 13 * h + 1 ≤ c ∧ c ≤ 406 + 13 * h + 10) → ¬ (c = 402 ∧ (k = 3 ∨ k = 4)) → ¬ c = 471 → ¬ c = 472 → ¬ c = 726 → (upS (upS (upS (adS (pbS σ (406 + 13 * h) (20 + 13 * t)) 471 nm) 402 3 ((h : Int) + 1)) 402 4 ((nm : Int) + 1)) 726 0 (nm : Nat)) c k = σ c k := by
    intro c k h1 h2 h3 h4 h5
    rw [up_a h5]
    have : upS (upS (adS (pbS σ (406 + 13 * h) (20 + 13 * t)) 471 nm) 402 3 ((h : Int) + 1)) 402 4 ((nm : Int) + 1) c k = adS (pbS σ (406 + 13 * h) (20 + 13 * t)) 471 nm c k := by
      unfold upS
      rw [if_neg (by omega), if_neg (by omega)]
    rw [this, ad_off h3 h4, pb_off h1]
  have c2 : (upS (upS (upS (adS (pbS σ (406 + 13 * h) (20 + 13 * t)) 471 nm) 402 3 ((h : Int) + 1)) 402 4 ((nm : Int) + 1)) 726 0 (nm : Nat)) 402 3 = (h : Int) + 1 ∧ (upS (upS (upS (adS (pbS σ (406 + 13 * h) (20 + 13 * t)) 471 nm) 402 3 ((h : Int) + 1)) 402 4 ((nm : Int) + 1)) 726 0 (nm : Nat)) 402 4 = (nm : Int) + 1 := by
    refine ⟨by rw [up_a (by decide), up_k (by decide), up_s], by rw [up_a (by decide), up_s]⟩
  have c3 : (upS (upS (upS (adS (pbS σ (406 + 13 * h) (20 + 13 * t)) 471 nm) 402 3 ((h : Int) + 1)) 402 4 ((nm : Int) + 1)) 726 0 (nm : Nat)) 726 0 = (nm : Nat) := up_s
  have ad1 : adS (pbS σ (406 + 13 * h) (20 + 13 * t)) 471 nm = upS (upS (pbS σ (406 + 13 * h) (20 + 13 * t)) 472 h nm) 471 1 ((h : Int) + 1) := by
    have q : pbS σ (406 + 13 * h) (20 + 13 * t) 471 1 = (h : Nat) := by rw [pb_off (by omega)]; exact e471
    unfold adS
    rw [q, if_pos (by rw [r471.2]; omega), show ((h : Nat) : Int).toNat = h by omega]
  have c6 : (upS (upS (upS (adS (pbS σ (406 + 13 * h) (20 + 13 * t)) 471 nm) 402 3 ((h : Int) + 1)) 402 4 ((nm : Int) + 1)) 726 0 (nm : Nat)) 471 1 = (h : Int) + 1 ∧ (upS (upS (upS (adS (pbS σ (406 + 13 * h) (20 + 13 * t)) 471 nm) 402 3 ((h : Int) + 1)) 402 4 ((nm : Int) + 1)) 726 0 (nm : Nat)) 472 h = (nm : Nat) ∧ ∀ k, ¬ k = h → (upS (upS (upS (adS (pbS σ (406 + 13 * h) (20 + 13 * t)) 471 nm) 402 3 ((h : Int) + 1)) 402 4 ((nm : Int) + 1)) 726 0 (nm : Nat)) 472 k = σ 472 k := by
    rw [ad1]
    refine ⟨by rw [up_a (by decide), up_a (by decide), up_a (by decide), up_s], by rw [up_a (by decide), up_a (by decide), up_a (by decide), up_a (by decide), up_s], fun k hk => by rw [up_a (by decide), up_a (by decide), up_a (by decide), up_a (by decide), up_k hk, pb_off (by omega)]⟩
  have c4 : ∀ j, j = 1 ∨ j = 3 ∨ j = 5 ∨ j = 7 ∨ j = 9 → (upS (upS (upS (adS (pbS σ (406 + 13 * h) (20 + 13 * t)) 471 nm) 402 3 ((h : Int) + 1)) 402 4 ((nm : Int) + 1)) 726 0 (nm : Nat)) (406 + 13 * h + j) 1 = σ (20 + 13 * t + j) 1 ∧ ∀ k : Nat, (k : Int) < σ (20 + 13 * t + j) 1 → (upS (upS (upS (adS (pbS σ (406 + 13 * h) (20 + 13 * t)) 471 nm) 402 3 ((h : Int) + 1)) 402 4 ((nm : Int) + 1)) 726 0 (nm : Nat)) (406 + 13 * h + j + 1) k = σ (20 + 13 * t + j + 1) k := by
    intro j hj
    obtain ⟨q1, q2⟩ := hrow j hj
    have w := H.1 _ q1
    obtain ⟨z1, z2⟩ := pb_row (σ := σ) (P := 406 + 13 * h) (Q := 20 + 13 * t) (by omega) hj (by omega)
    refine ⟨by rw [up_a (by omega), up_a (by omega), up_a (by omega), ad_off (by omega) (by omega)]; exact z1, fun k hk => by rw [up_a (by omega), up_a (by omega), up_a (by omega), ad_off (by omega) (by omega)]; exact z2 k hk⟩
  have c5 : WF (upS (upS (upS (adS (pbS σ (406 + 13 * h) (20 + 13 * t)) 471 nm) 402 3 ((h : Int) + 1)) 402 4 ((nm : Int) + 1)) 726 0 (nm : Nat)) := by
    refine WF_up (Or.inr (by decide)) (WF_up (Or.inr (by decide)) (WF_up (Or.inr (by decide)) (WF_row (σ := pbS σ (406 + 13 * h) (20 + 13 * t)) (r := 471) (fun a ha hne => ad_off hne (row_nx r471.1 ha)) ?_ (WF_pb hL.2.2.2.2.2.2.1 hP.2.2.2.2.2.2.1 H.1))))
    rw [ad1, up_s, r471.2]
    omega
  generalize (upS (upS (upS (adS (pbS σ (406 + 13 * h) (20 + 13 * t)) 471 nm) 402 3 ((h : Int) + 1)) 402 4 ((nm : Int) + 1)) 726 0 (nm : Nat)) = s1 at hW c1 c2 c3 c4 c5 c6
  have fm : ∀ a k, 682 ≤ a → ¬ a = 726 → s1 a k = σ a k := fun a k h1 h2 => c1 a k (by omega) (by omega) (by omega) (by omega) h2
  obtain ⟨m344, -⟩ := d344 H fm (t := t) (by omega)
  rw [show (σ 402 3).toNat = h by omega] at m344
  have m344 := m344 g4
  have f40 : s1 682 40 = (h : Nat) := by rw [fm _ _ (by decide) (by decide)]; omega
  have f41 : s1 682 41 = (nm : Nat) := by rw [fm _ _ (by decide) (by decide)]; omega
  have e288 := d288 (σ := upS s1 682 0 0) (s := t) (t := 24 + h) (by omega) (by omega)
  have g40 : cpyS (upS s1 682 0 0) t (24 + h) 682 40 = (h : Nat) := by rw [cpy_off (by decide), up_k (by decide)]; exact f40
  have g41 : cpyS (upS s1 682 0 0) t (24 + h) 682 41 = (nm : Nat) := by rw [cpy_off (by decide), up_k (by decide)]; exact f41
  have hB : Dd 345 [vA 682, vI a1] s1 (rI nm (upS (upS (upS (cpyS (upS s1 682 0 0) t (24 + h)) 711 h (nm : Nat)) 682 40 ((h : Int) + 1)) 682 41 ((nm : Int) + 1))) := by
    refine b345 ⟨_, _, d248_ok (by rw [fm _ _ (by decide) (by decide)]; omega), ?_⟩
    rw [if_neg (show ¬ (1 : Int) = 0 by decide), if_neg (by omega)]
    rw [← ht] at m344
    refine ⟨_, _, m344, ?_⟩
    rw [if_neg (show ¬ (1 : Int) = 0 by decide)]
    refine b345_36 ⟨_, _, d245, ?_⟩
    rw [if_pos rfl, if_neg (show ¬ (1 : Int) = 0 by decide), up_k (show ¬ 40 = 0 by decide), f40, ht, show 24 + ((h : Nat) : Int) = ((24 + h : Nat) : Int) by omega]
    refine ⟨by omega, _, e288, ?_⟩
    rw [g40, g41, show ((h : Nat) : Int).toNat = h by omega, up_a (show ¬ 682 = 711 by decide), g40, up_k (show ¬ 41 = 40 by decide), up_a (show ¬ 682 = 711 by decide), g41, up_s, show ((nm : Nat) : Int) + 1 - 1 = (nm : Int) by omega]
    exact ⟨by omega, by omega, by omega, by omega, rfl⟩
  have mo : ∀ c k, ¬ (685 ≤ c ∧ c ≤ 689) → ¬ (c = 682 ∧ (k = 0 ∨ k = 40 ∨ k = 41)) → ¬ (c = 711 ∧ k = h) → (upS (upS (upS (cpyS (upS s1 682 0 0) t (24 + h)) 711 h (nm : Nat)) 682 40 ((h : Int) + 1)) 682 41 ((nm : Int) + 1)) c k = s1 c k := by
    intro c k h1 h2 h3
    have : (upS (upS (upS (cpyS (upS s1 682 0 0) t (24 + h)) 711 h (nm : Nat)) 682 40 ((h : Int) + 1)) 682 41 ((nm : Int) + 1)) c k = cpyS (upS s1 682 0 0) t (24 + h) c k := by
      unfold upS
      rw [if_neg (by omega), if_neg (by omega), if_neg (by omega)]
    rw [this, cpy_off h1]
    unfold upS
    rw [if_neg (by omega)]
  have z0 : (upS (upS (upS (cpyS (upS s1 682 0 0) t (24 + h)) 711 h (nm : Nat)) 682 40 ((h : Int) + 1)) 682 41 ((nm : Int) + 1)) 682 0 = 0 := by rw [up_k (by decide), up_k (by decide), up_a (by decide), cpy_off (by decide), up_s]
  have z40 : (upS (upS (upS (cpyS (upS s1 682 0 0) t (24 + h)) 711 h (nm : Nat)) 682 40 ((h : Int) + 1)) 682 41 ((nm : Int) + 1)) 682 40 = (h : Int) + 1 := by rw [up_k (by decide), up_s]
  have z41 : (upS (upS (upS (cpyS (upS s1 682 0 0) t (24 + h)) 711 h (nm : Nat)) 682 40 ((h : Int) + 1)) 682 41 ((nm : Int) + 1)) 682 41 = (nm : Int) + 1 := up_s
  have z711 : (upS (upS (upS (cpyS (upS s1 682 0 0) t (24 + h)) 711 h (nm : Nat)) 682 40 ((h : Int) + 1)) 682 41 ((nm : Int) + 1)) 711 h = (nm : Nat) := by rw [up_a (by decide), up_a (by decide), up_s]
  have z4 : ∀ u c k, ¬ u = 24 + h → k < 100 → 685 ≤ c ∧ c ≤ 687 → (upS (upS (upS (cpyS (upS s1 682 0 0) t (24 + h)) 711 h (nm : Nat)) 682 40 ((h : Int) + 1)) 682 41 ((nm : Int) + 1)) c (100 * u + k) = s1 c (100 * u + k) := by
    intro u c k h1 h2 h3
    rw [up_a (by omega), up_a (by omega), up_a (by omega), cpy_other h1 h2 h3, up_a (by omega)]
  have z5 : ∀ c k, k < 100 → 685 ≤ c ∧ c ≤ 687 → (upS (upS (upS (cpyS (upS s1 682 0 0) t (24 + h)) 711 h (nm : Nat)) 682 40 ((h : Int) + 1)) 682 41 ((nm : Int) + 1)) c (100 * (24 + h) + k) = s1 c (100 * t + k) := by
    intro c k h2 h3
    rw [up_a (by omega), up_a (by omega), up_a (by omega), cpy_val h2 h3, up_a (by omega)]
  have z6 : ∀ u, ¬ u = 24 + h → (upS (upS (upS (cpyS (upS s1 682 0 0) t (24 + h)) 711 h (nm : Nat)) 682 40 ((h : Int) + 1)) 682 41 ((nm : Int) + 1)) 688 u = s1 688 u ∧ (upS (upS (upS (cpyS (upS s1 682 0 0) t (24 + h)) 711 h (nm : Nat)) 682 40 ((h : Int) + 1)) 682 41 ((nm : Int) + 1)) 689 u = s1 689 u := by
    intro u h1
    refine ⟨by rw [up_a (by decide), up_a (by decide), up_a (by decide), cpy_n1, if_neg h1, up_a (by decide)], by rw [up_a (by decide), up_a (by decide), up_a (by decide), cpy_n2, if_neg h1, up_a (by decide)]⟩
  have z7 : (upS (upS (upS (cpyS (upS s1 682 0 0) t (24 + h)) 711 h (nm : Nat)) 682 40 ((h : Int) + 1)) 682 41 ((nm : Int) + 1)) 688 (24 + h) = s1 688 t ∧ (upS (upS (upS (cpyS (upS s1 682 0 0) t (24 + h)) 711 h (nm : Nat)) 682 40 ((h : Int) + 1)) 682 41 ((nm : Int) + 1)) 689 (24 + h) = s1 689 t := by
    refine ⟨by rw [up_a (by decide), up_a (by decide), up_a (by decide), cpy_n1, if_pos rfl, up_a (by decide)], by rw [up_a (by decide), up_a (by decide), up_a (by decide), cpy_n2, if_pos rfl, up_a (by decide)]⟩
  generalize (upS (upS (upS (cpyS (upS s1 682 0 0) t (24 + h)) 711 h (nm : Nat)) 682 40 ((h : Int) + 1)) 682 41 ((nm : Int) + 1)) = s2 at hB mo z0 z40 z41 z711 z4 z5 z6 z7
  have so : ∀ c k, ¬ (685 ≤ c ∧ c ≤ 689) → ¬ (c = 682 ∧ (k = 0 ∨ k = 40 ∨ k = 41)) → ¬ (c = 711 ∧ k = h) → ¬ (406 + 13 * h + 1 ≤ c ∧ c ≤ 406 + 13 * h + 10) → ¬ (c = 402 ∧ (k = 3 ∨ k = 4)) → ¬ c = 471 → ¬ c = 472 → ¬ c = 726 → s2 c k = σ c k := fun c k h1 h2 h3 h4 h5 h6 h7 h8 => by rw [mo c k h1 h2 h3, c1 c k h4 h5 h6 h7 h8]
  have so2 : ∀ c k, 685 ≤ c ∧ c ≤ 687 → ¬ (100 * (24 + h) ≤ k ∧ k < 100 * (24 + h) + 100) → s2 c k = σ c k := by
    intro c k h1 h2
    have e := z4 (k / 100) c (k % 100) (by omega) (by omega) h1
    rw [show 100 * (k / 100) + k % 100 = k by omega] at e
    rw [e, fm c k (by omega) (by omega)]
  have so3 : ∀ u, ¬ u = 24 + h → s2 688 u = σ 688 u ∧ s2 689 u = σ 689 u := by
    intro u h1
    rw [(z6 u h1).1, (z6 u h1).2, fm 688 u (by omega) (by omega), fm 689 u (by omega) (by omega)]
    exact ⟨rfl, rfl⟩
  obtain ⟨h1, h2, h3, h4, h5, -, h7, h8, h9⟩ := H
  obtain ⟨r1, r2⟩ := h5.2.2.2 t (by omega)
  have b16 := PR_16 r1 r2
  have cc : ∀ j, j = 1 ∨ j = 3 ∨ j = 5 ∨ j = 7 ∨ j = 9 → s2 (406 + 13 * h + j) 1 = σ (20 + 13 * t + j) 1 ∧ ∀ k : Nat, (k : Int) < σ (20 + 13 * t + j) 1 → s2 (406 + 13 * h + j + 1) k = σ (20 + 13 * t + j + 1) k := by
    intro j hj
    obtain ⟨q1, q2⟩ := c4 j hj
    exact ⟨by rw [mo _ _ (by omega) (by omega) (by omega)]; exact q1, fun k hk => by rw [mo _ _ (by omega) (by omega) (by omega)]; exact q2 k hk⟩
  have k3 : s2 402 3 = (h : Int) + 1 := by rw [mo _ _ (by decide) (by decide) (by omega)]; exact c2.1
  have k4 : s2 402 4 = (nm : Int) + 1 := by rw [mo _ _ (by decide) (by decide) (by omega)]; exact c2.2
  have k39 : s2 682 39 = σ 682 39 := so _ _ (by decide) (by decide) (by omega) (by omega) (by decide) (by decide) (by decide) (by decide)
  refine op_fin hW hB z0 (fun _ => by rw [mo _ _ (by decide) (by decide) (by omega), c3]) (fun a k ha => c1 _ _ (by omega) (by omega) (by omega) (by omega) (by omega)) (fun a k ha => so _ _ (by omega) (by omega) (by omega) (by omega) (by omega) (by omega) (by omega) (by omega)) ⟨WF_fr (fun a k ha => mo _ _ (by omega) (by omega) (by omega)) c5, Zl_fr (fun k => so _ _ (by omega) (by omega) (by omega) (by omega) (by omega) (by omega) (by omega) (by omega)) h2, RT_fr (fun c k hc => so _ _ (by omega) (by omega) (by omega) (by omega) (by omega) (by omega) (by omega) (by omega)) h3, RB_fr (fun c k hc => so _ _ (by omega) (by omega) (by omega) (by omega) (by omega) (by omega) (by omega) (by omega)) h4, RP_fr2 (fun c k hc => ?_) h5, ?_, RU_fr (fun c k hc => so _ _ (by omega) (by omega) (by omega) (by omega) (by omega) (by omega) (by omega) (by omega)) h7, RF_fr (fun c k hc => so _ _ (by omega) (by omega) (by omega) (by omega) (by omega) (by omega) (by omega) (by omega)) h8, RD_fr (fun c k hc => so _ _ (by omega) (by omega) (by omega) (by omega) (by omega) (by omega) (by omega) (by omega)) h9⟩
  · rcases hc with q | q | ⟨q1 | q1, q2⟩ | q | q
    · exact so _ _ (by omega) (by omega) (by omega) (by omega) (by omega) (by omega) (by omega) (by omega)
    · exact so2 c k (by omega) (by omega)
    · rw [q1]; exact (so3 k (by omega)).1
    · rw [q1]; exact (so3 k (by omega)).2
    · exact so _ _ (by omega) (by omega) (by omega) (by omega) (by omega) (by omega) (by omega) (by omega)
    · exact so _ _ (by omega) (by omega) (by omega) (by omega) (by omega) (by omega) (by omega) (by omega)
  · have hblw : ∀ k, k ≤ h → blw k = 403 ∨ (409 ≤ blw k ∧ blw k + 13 ≤ 406 + 13 * h + 3) := by
      intro k hk
      unfold blw
      split
      · exact Or.inl rfl
      · right; omega
    refine ⟨by omega, by omega, by omega, by omega, by omega, by omega, ⟨?_, fun i hi => ?_⟩, fun k hk => ?_, ⟨?_, fun i hi => ?_⟩, fun i hi => ?_, fun k hk => ?_⟩
    · rw [k3, mo _ _ (by decide) (by decide) (by omega)]; exact c6.1
    · rw [k3] at hi
      rw [mo 472 _ (by omega) (by omega) (by omega)]
      by_cases e : i = h
      · rw [e, c6.2.1, Nat.zero_add, z711]
      · rw [c6.2.2 i e, so 711 _ (by omega) (by omega) (by omega) (by omega) (by omega) (by omega) (by omega) (by omega)]
        exact u7.2 i (by omega)
    · rw [k3] at hk
      rw [k4, mo 472 _ (by omega) (by omega) (by omega)]
      by_cases e : k = h
      · rw [e, c6.2.1]; omega
      · rw [c6.2.2 k e]
        have := u8 k (by omega)
        omega
    · rw [k39, so _ _ (by decide) (by decide) (by omega) (by omega) (by decide) (by decide) (by decide) (by decide)]; exact u9.1
    · rw [k39] at hi
      rw [so (403 + 1) _ (by omega) (by omega) (by omega) (by omega) (by omega) (by omega) (by omega) (by omega), so 710 _ (by omega) (by omega) (by omega) (by omega) (by omega) (by omega) (by omega) (by omega)]
      exact u9.2 i hi
    · rw [so _ _ (by decide) (by decide) (by omega) (by omega) (by decide) (by decide) (by decide) (by decide)] at hi
      rw [so _ _ (by omega) (by omega) (by omega) (by omega) (by omega) (by omega) (by omega) (by omega)]
      exact u10 i hi
    · rw [k3] at hk
      have hbk := hblw k (by omega)
      by_cases e : k = h
      · subst e
        refine ⟨PR_cg cc (fun c k q1 q2 => ?_) ?_ (by omega) r1, PO_cg cc r2 ?_, ?_⟩
        · rw [z5 c k q2 q1, fm _ _ (by omega) (by omega)]
        · rw [z7.1, z7.2, fm _ _ (by omega) (by omega), fm _ _ (by omega) (by omega)]
          exact ⟨rfl, rfl⟩
        · have q := hP.2.2.2.2.2.2.1
          exact ⟨(h1 _ (pat_1 q)).1, (h1 _ (pat_3 q)).1⟩
        · obtain ⟨q1, q2⟩ := cc 1 (by omega)
          have b1 : s2 (blw k) 1 = σ (blw k) 1 := so _ _ (by omega) (by omega) (by omega) (by omega) (by omega) (by omega) (by omega) (by omega)
          refine ⟨by rw [q1, b1]; exact g4.1, fun i hi => ?_⟩
          rw [q1] at hi
          rw [q2 i hi, so (blw k + 1) _ (by omega) (by omega) (by omega) (by omega) (by omega) (by omega) (by omega) (by omega)]
          exact g4.2 i hi
      · obtain ⟨v1, v2, v3⟩ := u11 k (by omega)
        have bb := PR_16 v1 v2
        refine ⟨PR_fr2 (fun c j hc => so _ _ (by omega) (by omega) (by omega) (by omega) (by omega) (by omega) (by omega) (by omega)) (fun c j hc hj => so2 c _ hc (by omega)) ⟨(so3 _ (by omega)).1, (so3 _ (by omega)).2⟩ (by omega) v1, PO_fr (fun c j hc => so _ _ (by omega) (by omega) (by omega) (by omega) (by omega) (by omega) (by omega) (by omega)) v2, smP_fr (funext fun j => so _ _ (by omega) (by omega) (by omega) (by omega) (by omega) (by omega) (by omega) (by omega)) (funext fun j => so _ _ (by omega) (by omega) (by omega) (by omega) (by omega) (by omega) (by omega) (by omega)) (funext fun j => so _ _ (by omega) (by omega) (by omega) (by omega) (by omega) (by omega) (by omega) (by omega)) (funext fun j => so _ _ (by omega) (by omega) (by omega) (by omega) (by omega) (by omega) (by omega) (by omega)) v3⟩
end
-- DRAFT 74.stack3.lean
/-! pop. -/
noncomputable section
theorem o30 {σ : Sg} {c : Int} (H : Rel c σ) : OpR 419 346 [vA 0, vA 726] [vA 682] σ (c + 1) := by
  obtain ⟨-, ⟨n4, n5, n6⟩, -⟩ := rel_n H
  by_cases g0 : σ 402 3 = 0
  · have hA : Dd 202 [vA 0] σ (rX 2 σ) := b202 (Or.inr ⟨_, _, b238 (by rw [if_pos (by omega)]), rfl⟩)
    have hB : Dd 346 [vA 682] σ (rI 0 (upS σ 682 0 1)) := by
      refine b346 ?_
      rw [if_pos (by omega)]
      refine b346_13 ⟨_, _, d245, ?_⟩
      rw [if_neg (show ¬ (1 : Int) = 0 by decide), if_pos rfl]
    exact op_x H (by decide) (b419 (Or.inr ⟨_, hA, rfl⟩)) hB
  obtain ⟨h1, h2, h3, h4, h5, h6, h7, h8, h9⟩ := H
  obtain ⟨u1, u2, u3, u4, u5, u6, u7, u8, u9, u10, u11⟩ := h6
  obtain ⟨h, hh⟩ := Int.eq_ofNat_of_zero_le (show 0 ≤ σ 402 3 - 1 by omega)
  have e471 : σ 471 1 = (h : Int) + 1 := by have := u7.1; omega
  have w471 := WF_w h1 r471.1
  have d1 := d147 (i := (h : Int)) w471
  have ea : atS σ 471 (h : Int) = σ 472 h := by
    unfold atS
    rw [if_pos (by omega)]
    rfl
  rw [ea] at d1
  have hrm : ∀ c k, ¬ (c = 471 ∧ k = 1) → rmS1 σ 471 (h : Int) c k = σ c k := by
    intro c k hc
    unfold rmS1
    by_cases e : c = 471 + 1
    · rw [if_pos e, if_neg (by omega)]
    · rw [if_neg e, if_neg hc]
  have hrm1 : rmS1 σ 471 (h : Int) 471 1 = (h : Int) := by
    unfold rmS1
    rw [if_neg (by decide), if_pos ⟨rfl, rfl⟩]
    omega
  have hA : Dd 202 [vA 0] σ (rI (σ 472 h) (upS (rmS1 σ 471 (h : Int)) 402 3 (h : Int))) := by
    refine b202 (Or.inl ⟨_, b238 (by rw [if_neg (by omega)]), _, _, b129 ?_, rfl⟩)
    refine ⟨by omega, ?_⟩
    rw [hh]
    refine ⟨_, _, d1, ?_⟩
    rw [hh]
    refine ⟨by omega, _, b130 ?_, rfl⟩
    rw [if_pos (by omega), if_neg (by omega)]
    refine b130_15 ⟨by omega, ?_⟩
    rw [if_neg (by omega)]
    refine b130_59 ⟨_, d151 w471 (by omega), ?_⟩
    rw [hrm _ _ (by decide), hh]
    exact ⟨by omega, rfl⟩
  have hW := b419 (Or.inl ⟨_, _, hA, rfl⟩)
  rw [show ((0 : Int).toNat) = 0 from rfl] at hW
  have c1 : ∀ c k, ¬ (c = 471 ∧ k = 1) → ¬ (c = 402 ∧ k = 3) → ¬ c = 726 → (upS (upS (rmS1 σ 471 (h : Int)) 402 3 (h : Int)) 726 0 (σ 472 h)) c k = σ c k := by
    intro c k q1 q2 q3
    rw [up_a q3]
    have : upS (rmS1 σ 471 (h : Int)) 402 3 (h : Int) c k = rmS1 σ 471 (h : Int) c k := by
      unfold upS
      rw [if_neg q2]
    rw [this, hrm c k q1]
  have c2 : (upS (upS (rmS1 σ 471 (h : Int)) 402 3 (h : Int)) 726 0 (σ 472 h)) 402 3 = (h : Int) := by rw [up_a (by decide), up_s]
  have c3 : (upS (upS (rmS1 σ 471 (h : Int)) 402 3 (h : Int)) 726 0 (σ 472 h)) 471 1 = (h : Int) := by rw [up_a (by decide), up_a (by decide), hrm1]
  have c4 : (upS (upS (rmS1 σ 471 (h : Int)) 402 3 (h : Int)) 726 0 (σ 472 h)) 726 0 = σ 472 h := up_s
  generalize (upS (upS (rmS1 σ 471 (h : Int)) 402 3 (h : Int)) 726 0 (σ 472 h)) = s1 at hW c1 c2 c3 c4
  have f40 : s1 682 40 = (h : Int) + 1 := by rw [c1 _ _ (by decide) (by decide) (by decide)]; omega
  have e711 : s1 711 h = σ 472 h := by
    rw [c1 _ _ (by omega) (by omega) (by decide), u7.2 h (by omega), Nat.zero_add]
  have hB : Dd 346 [vA 682] s1 (rI (σ 472 h) (upS (upS s1 682 0 0) 682 40 (h : Int))) := by
    refine b346 ?_
    rw [if_neg (by omega)]
    refine b346_13 ⟨_, _, d245, ?_⟩
    rw [if_pos rfl, if_neg (show ¬ (1 : Int) = 0 by decide), up_k (show ¬ 40 = 0 by decide), f40, show (h : Int) + 1 - 1 = (h : Int) by omega, up_s, show ((h : Nat) : Int).toNat = h by omega, up_a (show ¬ 711 = 682 by decide), up_a (show ¬ 711 = 682 by decide), e711]
    exact ⟨by omega, by omega, rfl⟩
  have so : ∀ c k, ¬ (c = 471 ∧ k = 1) → ¬ (c = 402 ∧ k = 3) → ¬ c = 726 → ¬ (c = 682 ∧ (k = 0 ∨ k = 40)) → (upS (upS s1 682 0 0) 682 40 (h : Int)) c k = σ c k := by
    intro c k q1 q2 q3 q4
    have : (upS (upS s1 682 0 0) 682 40 (h : Int)) c k = s1 c k := by
      unfold upS
      rw [if_neg (by omega), if_neg (by omega)]
    rw [this, c1 c k q1 q2 q3]
  have mo : ∀ c k, ¬ c = 682 → (upS (upS s1 682 0 0) 682 40 (h : Int)) c k = s1 c k := fun c k q => by rw [up_a q, up_a q]
  have z0 : (upS (upS s1 682 0 0) 682 40 (h : Int)) 682 0 = 0 := by rw [up_k (by decide), up_s]
  have z40 : (upS (upS s1 682 0 0) 682 40 (h : Int)) 682 40 = (h : Int) := up_s
  generalize (upS (upS s1 682 0 0) 682 40 (h : Int)) = s2 at hB so mo z0 z40
  have k3 : s2 402 3 = (h : Int) := by rw [mo _ _ (by decide)]; exact c2
  have k4 : s2 402 4 = σ 402 4 := so _ _ (by decide) (by decide) (by decide) (by decide)
  have k41 : s2 682 41 = σ 682 41 := so _ _ (by decide) (by decide) (by decide) (by decide)
  have k39 : s2 682 39 = σ 682 39 := so _ _ (by decide) (by decide) (by decide) (by decide)
  refine op_fin hW hB z0 (fun _ => by rw [mo _ _ (by decide), c4]) (fun a k ha => c1 _ _ (by omega) (by omega) (by omega)) (fun a k ha => so _ _ (by omega) (by omega) (by omega) (by omega)) ⟨WF_row (r := 471) (fun a ha hne => ?_) ?_ h1, Zl_fr (fun k => so _ _ (by omega) (by omega) (by omega) (by omega)) h2, RT_fr (fun c k hc => so _ _ (by omega) (by omega) (by omega) (by omega)) h3, RB_fr (fun c k hc => so _ _ (by omega) (by omega) (by omega) (by omega)) h4, RP_fr (fun c k hc => so _ _ (by omega) (by omega) (by omega) (by omega)) h5, ⟨by omega, by omega, by omega, by omega, by omega, by omega, ⟨?_, fun i hi => ?_⟩, fun k hk => ?_, rowEq_fr (so _ _ (by decide) (by decide) (by decide) (by decide)) (fun i => so _ _ (by omega) (by omega) (by omega) (by omega)) (fun i => so _ _ (by omega) (by omega) (by omega) (by omega)) k39 u9, fun i hi => ?_, fun k hk => ?_⟩, RU_fr (fun c k hc => so _ _ (by omega) (by omega) (by omega) (by omega)) h7, RF_fr (fun c k hc => so _ _ (by omega) (by omega) (by omega) (by omega)) h8, RD_fr (fun c k hc => so _ _ (by omega) (by omega) (by omega) (by omega)) h9⟩
  · have n1 : ¬ a = 402 := by intro e; subst e; exact absurd ha (by decide +kernel)
    have := row_lt ha
    exact so _ _ (by omega) (by omega) (by omega) (by omega)
  · rw [mo _ _ (by decide), c3, r471.2]
    omega
  · rw [k3, mo _ _ (by decide), c3]
  · rw [k3] at hi
    rw [so (471 + 1) _ (by omega) (by omega) (by omega) (by omega), so 711 _ (by omega) (by omega) (by omega) (by omega)]
    exact u7.2 i (by omega)
  · rw [k3] at hk
    rw [so _ _ (by omega) (by omega) (by omega) (by omega), k4]
    exact u8 k (by omega)
  · rw [so _ _ (by omega) (by omega) (by omega) (by omega)] at hi
    rw [so _ _ (by omega) (by omega) (by omega) (by omega)]
    exact u10 i hi
  · rw [k3] at hk
    obtain ⟨v1, v2, v3⟩ := u11 k (by omega)
    have hb : blw k = 403 ∨ (409 ≤ blw k ∧ blw k ≤ 470) := by
      unfold blw
      split
      · exact Or.inl rfl
      · right; omega
    have hb : blw k = 403 ∨ (409 ≤ blw k ∧ blw k ≤ 470) := by
      unfold blw
      split
      · exact Or.inl rfl
      · right; omega
    exact ⟨PR_fr (fun c j hc => so _ _ (by omega) (by omega) (by omega) (by omega)) (fun c j hc => so _ _ (by omega) (by omega) (by omega) (by omega)) v1, PO_fr (fun c j hc => so _ _ (by omega) (by omega) (by omega) (by omega)) v2, smP_fr (funext fun j => so _ _ (by omega) (by omega) (by omega) (by omega)) (funext fun j => so _ _ (by omega) (by omega) (by omega) (by omega)) (funext fun j => so _ _ (by omega) (by omega) (by omega) (by omega)) (funext fun j => so _ _ (by omega) (by omega) (by omega) (by omega)) v3⟩
end
-- DRAFT 75.equal.lean
/-! areEqual. -/
noncomputable section
theorem op_qB {w m : Nat} {aw am : List AV} {σ : Sg} {c b : Int} (H : Rel c σ) (hA : Dd w aw σ (rI 0 (upS σ 726 0 (if b = 0 then 0 else 1)))) (hB : Dd m am (upS σ 726 0 (if b = 0 then 0 else 1)) (rI b (upS (upS σ 726 0 (if b = 0 then 0 else 1)) 682 0 0))) : OpB w m aw am σ (c + 1) :=
  op_finB hA hB up_s (fun _ => by rw [up_a (by decide), up_s]) (fun a k ha => up_a (by omega)) (fun a k ha => by rw [up_a (by omega), up_a (by omega)]) (Rel_0 (by omega) (fun c k hc => by
    unfold upS
    rw [if_neg (by omega), if_neg (by omega)]) H)
theorem l317b_0 {x1 x2 : Nat} (h1 : x1 < 44) {σ : Sg} {i : Int} : C317_153 x1 x2 0 i σ (rI 0 σ) := by
  refine b317_153 ⟨by omega, ?_⟩
  by_cases z : i < σ 689 ((x1 : Int)).toNat
  · rw [if_pos z, if_pos rfl]
    exact ⟨Or.inl rfl, rfl⟩
  · rw [if_neg z]
    exact ⟨Or.inl rfl, rfl⟩
theorem l317b {x1 x2 n : Nat} (h1 : x1 < 44) (h2 : x2 < 44) {σ : Sg} (hn : σ 689 x1 = (n : Nat)) (h100 : n ≤ 100) : ∀ (w i : Nat), i + w = n → ((∀ k, i ≤ k → k < n → σ 686 (100 * x1 + k) = σ 686 (100 * x2 + k)) → C317_153 x1 x2 1 i σ (rI 1 σ)) ∧ (¬ (∀ k, i ≤ k → k < n → σ 686 (100 * x1 + k) = σ 686 (100 * x2 + k)) → C317_153 x1 x2 1 i σ (rI 0 σ)) := by
  intro w
  induction w with
  | zero =>
    intro i q
    have e : C317_153 x1 x2 1 i σ (rI 1 σ) := by
      refine b317_153 ⟨by omega, ?_⟩
      rw [show ((x1 : Int)).toNat = x1 by omega, if_neg (by omega)]
      exact ⟨Or.inr rfl, rfl⟩
    exact ⟨fun _ => e, fun h => absurd (fun k h1 h2 => by omega) h⟩
  | succ w ih =>
    intro i q
    obtain ⟨ih1, ih2⟩ := ih (i + 1) (by omega)
    have go : ∀ {o : Rs}, (C317_200 x1 x2 (some (vI 1)) i (if σ 686 (100 * x1 + i) = σ 686 (100 * x2 + i) then 1 else 0) σ o) → C317_153 x1 x2 1 i σ o := by
      intro o hh
      refine b317_153 ⟨by omega, ?_⟩
      rw [show ((x1 : Int)).toNat = x1 by omega, if_pos (by omega), if_neg (show ¬ (1 : Int) = 0 by decide), show (100 * (x1 : Int) + (i : Int)).toNat = 100 * x1 + i by omega, show (100 * (x2 : Int) + (i : Int)).toNat = 100 * x2 + i by omega]
      exact ⟨by omega, by omega, by omega, by omega, by omega, by omega, hh⟩
    constructor
    · intro h
      refine go ?_
      rw [if_pos (h i (by omega) (by omega))]
      refine b317_200 ⟨by omega, ?_⟩
      rw [show (i : Int) + 1 = ((i + 1 : Nat) : Int) by omega]
      exact ih1 (fun k h1 h2 => h k (by omega) h2)
    · intro h
      refine go ?_
      by_cases z : σ 686 (100 * x1 + i) = σ 686 (100 * x2 + i)
      · rw [if_pos z]
        refine b317_200 ⟨by omega, ?_⟩
        rw [show (i : Int) + 1 = ((i + 1 : Nat) : Int) by omega]
        refine ih2 (fun hh => h (fun k h1 h2 => ?_))
        by_cases y : k = i
        · rw [y]; exact z
        · exact hh k (by omega) h2
      · rw [if_neg z]
        exact b317_200 ⟨by omega, l317b_0 h1⟩
theorem l317a_0 {x1 x2 : Nat} (h1 : x1 < 44) {σ : Sg} {i : Int} : C317_69 x1 x2 0 i σ (rI 0 σ) := by
  refine b317_69 ⟨by omega, ?_⟩
  by_cases z : i < σ 688 ((x1 : Int)).toNat
  · rw [if_pos z, if_pos rfl]
    exact b317_150 (l317b_0 h1)
  · rw [if_neg z]
    exact b317_150 (l317b_0 h1)
theorem l317a {x1 x2 n : Nat} (h1 : x1 < 44) (h2 : x2 < 44) {σ : Sg} (hn : σ 688 x1 = (n : Nat)) (h100 : n ≤ 100) : ∀ (w i : Nat), i + w = n → (∀ {o : Rs}, (∀ k, i ≤ k → k < n → σ 685 (100 * x1 + k) = σ 685 (100 * x2 + k) ∧ σ 687 (100 * x1 + k) = σ 687 (100 * x2 + k)) → C317_153 x1 x2 1 0 σ o → C317_69 x1 x2 1 i σ o) ∧ (¬ (∀ k, i ≤ k → k < n → σ 685 (100 * x1 + k) = σ 685 (100 * x2 + k) ∧ σ 687 (100 * x1 + k) = σ 687 (100 * x2 + k)) → C317_69 x1 x2 1 i σ (rI 0 σ)) := by
  intro w
  induction w with
  | zero =>
    intro i q
    refine ⟨fun _ hh => b317_69 ⟨by omega, ?_⟩, fun h => absurd (fun k h1 h2 => by omega) h⟩
    rw [show ((x1 : Int)).toNat = x1 by omega, if_neg (by omega)]
    exact b317_150 hh
  | succ w ih =>
    intro i q
    obtain ⟨ih1, ih2⟩ := ih (i + 1) (by omega)
    have go : ∀ {o : Rs}, (if σ 685 (100 * x1 + i) = σ 685 (100 * x2 + i) ∧ σ 687 (100 * x1 + i) = σ 687 (100 * x2 + i) then C317_69 x1 x2 1 ((i + 1 : Nat) : Int) σ o else C317_69 x1 x2 0 ((i + 1 : Nat) : Int) σ o) → C317_69 x1 x2 1 i σ o := by
      intro o hh
      refine b317_69 ⟨by omega, ?_⟩
      rw [show ((x1 : Int)).toNat = x1 by omega, if_pos (by omega), if_neg (show ¬ (1 : Int) = 0 by decide), show (100 * (x1 : Int) + (i : Int)).toNat = 100 * x1 + i by omega, show (100 * (x2 : Int) + (i : Int)).toNat = 100 * x2 + i by omega]
      refine ⟨by omega, by omega, by omega, by omega, by omega, by omega, ?_⟩
      by_cases z : σ 685 (100 * x1 + i) = σ 685 (100 * x2 + i)
      · rw [if_pos z]
        refine ⟨by omega, by omega, by omega, by omega, by omega, by omega, ?_⟩
        by_cases y : σ 687 (100 * x1 + i) = σ 687 (100 * x2 + i)
        · rw [if_pos ⟨z, y⟩] at hh
          rw [if_pos y]
          refine b317_143 ⟨by omega, ?_⟩
          rw [show (i : Int) + 1 = ((i + 1 : Nat) : Int) by omega]
          exact hh
        · rw [if_neg (fun e => y e.2)] at hh
          rw [if_neg y]
          refine b317_142 (b317_143 ⟨by omega, ?_⟩)
          rw [show (i : Int) + 1 = ((i + 1 : Nat) : Int) by omega]
          exact hh
      · rw [if_neg (fun e => z e.1)] at hh
        rw [if_neg z]
        refine b317_142 (b317_143 ⟨by omega, ?_⟩)
        rw [show (i : Int) + 1 = ((i + 1 : Nat) : Int) by omega]
        exact hh
    constructor
    · intro o h hh
      refine go ?_
      rw [if_pos (h i (by omega) (by omega))]
      exact ih1 (fun k h1 h2 => h k (by omega) h2) hh
    · intro h
      refine go ?_
      by_cases z : σ 685 (100 * x1 + i) = σ 685 (100 * x2 + i) ∧ σ 687 (100 * x1 + i) = σ 687 (100 * x2 + i)
      · rw [if_pos z]
        refine ih2 (fun hh => h (fun k h1 h2 => ?_))
        by_cases y : k = i
        · rw [y]; exact z
        · exact hh k (by omega) h2
      · rw [if_neg z]
        exact l317a_0 h1
def PEQ (σ : Sg) (P Q : Nat) : Prop := smP σ (P + 1) (Q + 1) ∧ smP σ (P + 3) (Q + 3) ∧ smP σ (P + 5) (Q + 5)
theorem d97 {σ : Sg} {P Q : Nat} (H : WF σ) (hP : isPatch P = true) (hQ : isPatch Q = true) : (PEQ σ P Q → Dd 97 [vA P, vA Q] σ (rI 1 σ)) ∧ (¬ PEQ σ P Q → Dd 97 [vA P, vA Q] σ (rI 0 σ)) := by
  have a1 := WF_w H (pat_1 hP)
  have a3 := WF_w H (pat_3 hP)
  have a5 := WF_w H (pat_5 hP)
  have b1 := WF_w H (pat_1 hQ)
  have b3 := WF_w H (pat_3 hQ)
  have b5 := WF_w H (pat_5 hQ)
  constructor
  · rintro ⟨h1, h3, h5⟩
    refine b97 hP hQ ⟨_, _, d156_t a1 b1 h1, ?_⟩
    rw [if_neg (show ¬ (1 : Int) = 0 by decide)]
    refine ⟨_, _, d156_t a3 b3 h3, ?_⟩
    rw [if_neg (show ¬ (1 : Int) = 0 by decide)]
    refine ⟨_, _, d156_t a5 b5 h5, ?_⟩
    rw [if_neg (show ¬ (1 : Int) = 0 by decide)]
  · intro h
    by_cases h1 : smP σ (P + 1) (Q + 1)
    · refine b97 hP hQ ⟨_, _, d156_t a1 b1 h1, ?_⟩
      rw [if_neg (show ¬ (1 : Int) = 0 by decide)]
      by_cases h3 : smP σ (P + 3) (Q + 3)
      · refine ⟨_, _, d156_t a3 b3 h3, ?_⟩
        rw [if_neg (show ¬ (1 : Int) = 0 by decide)]
        refine ⟨_, _, d156_f a5 b5 (fun h5 => h ⟨h1, h3, h5⟩), ?_⟩
        rw [if_pos rfl]
      · refine ⟨_, _, d156_f a3 b3 h3, ?_⟩
        rw [if_pos rfl]
    · refine b97 hP hQ ⟨_, _, d156_f a1 b1 h1, ?_⟩
      rw [if_pos rfl]
/-- the model's comparison, in a state that is related -/
theorem m317 {σ : Sg} {c : Int} {t u : Nat} (H : Rel c σ) (ht : (t : Int) < σ 0 3) (hu : (u : Int) < σ 0 3) : (PEQ σ (20 + 13 * t) (20 + 13 * u) → C317_22 t u none none 0 σ (rI 1 (upS σ 682 0 0))) ∧ (¬ PEQ σ (20 + 13 * t) (20 + 13 * u) → C317_22 t u none none 0 σ (rI 0 (upS σ 682 0 0))) := by
  have hn := (rel_n H).1
  have H2 : Rel c (upS σ 682 0 0) := Rel_0 (Int.le_refl c) (fun c k hc => by unfold upS; rw [if_neg (by omega)]) H
  have hcl : ∀ c k, ¬ c = 682 → upS σ 682 0 0 c k = σ c k := fun c k h => up_a h
  have hPEQ : PEQ (upS σ 682 0 0) (20 + 13 * t) (20 + 13 * u) ↔ PEQ σ (20 + 13 * t) (20 + 13 * u) := by
    unfold PEQ smP
    have ef : ∀ c, ¬ c = 682 → upS σ 682 0 0 c = σ c := fun c h => funext (fun k => hcl c k h)
    rw [ef (20 + 13 * t + 1) (by omega), ef (20 + 13 * u + 1) (by omega), ef (20 + 13 * t + 3) (by omega), ef (20 + 13 * u + 3) (by omega), ef (20 + 13 * t + 5) (by omega), ef (20 + 13 * u + 5) (by omega), ef (20 + 13 * t + 1 + 1) (by omega), ef (20 + 13 * u + 1 + 1) (by omega), ef (20 + 13 * t + 3 + 1) (by omega), ef (20 + 13 * u + 3 + 1) (by omega), ef (20 + 13 * t + 5 + 1) (by omega), ef (20 + 13 * u + 5 + 1) (by omega)]
  rw [← hPEQ]
  have e03 : (upS σ 682 0 0) 0 3 = σ 0 3 := up_a (by decide)
  generalize hs : upS σ 682 0 0 = s at H2 e03 ⊢
  obtain ⟨p1, p2, p3, p4, p5, p6⟩ := rel_p H2 (p := (t : Int)) (by omega)
  obtain ⟨q1, q2, q3, q4, q5, q6⟩ := rel_p H2 (p := (u : Int)) (by omega)
  rw [show ((t : Int)).toNat = t by omega] at p1 p2 p3 p4 p5 p6
  rw [show ((u : Int)).toNat = u by omega] at q1 q2 q3 q4 q5 q6
  obtain ⟨pr, po⟩ := H2.2.2.2.2.1.2.2.2 t (by omega)
  obtain ⟨qr, qo⟩ := H2.2.2.2.2.1.2.2.2 u (by omega)
  obtain ⟨n, hnn⟩ := Int.eq_ofNat_of_zero_le p3
  obtain ⟨m, hmm⟩ := Int.eq_ofNat_of_zero_le p5
  have p15 := po.2.2.1
  have q15 := qo.2.2.1
  have go : ∀ {o : Rs}, (if s 688 t = s 688 u ∧ s 689 t = s 689 u then C317_69 t u 1 0 s o else C317_69 t u 0 0 s o) → C317_22 t u none none 0 σ o := by
    intro o hh
    refine b317_22 ⟨_, _, d245, ?_⟩
    rw [hs, if_pos rfl, if_neg (show ¬ (1 : Int) = 0 by decide), show ((t : Int)).toNat = t by omega, show ((u : Int)).toNat = u by omega]
    refine ⟨by omega, by omega, ?_⟩
    by_cases z : s 688 t = s 688 u
    · rw [if_pos z]
      refine ⟨by omega, by omega, ?_⟩
      by_cases y : s 689 t = s 689 u
      · rw [if_pos ⟨z, y⟩] at hh
        rw [if_pos y]
        exact b317_65 hh
      · rw [if_neg (fun e => y e.2)] at hh
        rw [if_neg y]
        exact b317_64 (b317_65 hh)
    · rw [if_neg (fun e => z e.1)] at hh
      rw [if_neg z]
      exact b317_64 (b317_65 hh)
  have LA := l317a (x1 := t) (x2 := u) (n := n) (σ := s) (by omega) (by omega) hnn (by omega) n 0 (by omega)
  have LB := l317b (x1 := t) (x2 := u) (n := m) (σ := s) (by omega) (by omega) hmm (by omega) m 0 (by omega)
  by_cases z : s 688 t = s 688 u ∧ s 689 t = s 689 u
  · have k1 : smP s (20 + 13 * t + 1) (20 + 13 * u + 1) ↔ ∀ k, k < n → s 685 (100 * t + k) = s 685 (100 * u + k) := by
      constructor
      · rintro ⟨-, h⟩ k hk
        rw [← pr.1.2 k (by omega), ← qr.1.2 k (by omega)]
        exact h k (by omega)
      · intro h
        refine ⟨by omega, fun k hk => ?_⟩
        rw [pr.1.2 k (by omega), qr.1.2 k (by omega)]
        exact h k (by omega)
    have k3 : smP s (20 + 13 * t + 3) (20 + 13 * u + 3) ↔ ∀ k, k < m → s 686 (100 * t + k) = s 686 (100 * u + k) := by
      constructor
      · rintro ⟨-, h⟩ k hk
        rw [← pr.2.1.2 k (by omega), ← qr.2.1.2 k (by omega)]
        exact h k (by omega)
      · intro h
        refine ⟨by omega, fun k hk => ?_⟩
        rw [pr.2.1.2 k (by omega), qr.2.1.2 k (by omega)]
        exact h k (by omega)
    have k5 : smP s (20 + 13 * t + 5) (20 + 13 * u + 5) ↔ ∀ k, k < n → s 687 (100 * t + k) = s 687 (100 * u + k) := by
      constructor
      · rintro ⟨-, h⟩ k hk
        rw [← pr.2.2.2 k (by omega), ← qr.2.2.2 k (by omega)]
        exact h k (by omega)
      · intro h
        refine ⟨by omega, fun k hk => ?_⟩
        rw [pr.2.2.2 k (by omega), qr.2.2.2 k (by omega)]
        exact h k (by omega)
    have key : PEQ s (20 + 13 * t) (20 + 13 * u) ↔ ((∀ k, 0 ≤ k → k < n → s 685 (100 * t + k) = s 685 (100 * u + k) ∧ s 687 (100 * t + k) = s 687 (100 * u + k)) ∧ ∀ k, 0 ≤ k → k < m → s 686 (100 * t + k) = s 686 (100 * u + k)) := by
      unfold PEQ
      rw [k1, k3, k5]
      constructor
      · rintro ⟨h1, h3, h5⟩
        exact ⟨fun k _ hk => ⟨h1 k hk, h5 k hk⟩, fun k _ hk => h3 k hk⟩
      · rintro ⟨h1, h3⟩
        exact ⟨fun k hk => (h1 k (by omega) hk).1, fun k hk => h3 k (by omega) hk, fun k hk => (h1 k (by omega) hk).2⟩
    rw [key]
    constructor
    · rintro ⟨h1, h3⟩
      refine go ?_
      rw [if_pos z]
      exact LA.1 h1 (LB.1 h3)
    · intro h
      refine go ?_
      rw [if_pos z]
      by_cases y : ∀ k, 0 ≤ k → k < n → s 685 (100 * t + k) = s 685 (100 * u + k) ∧ s 687 (100 * t + k) = s 687 (100 * u + k)
      · exact LA.1 y (LB.2 (fun h3 => h ⟨y, h3⟩))
      · exact LA.2 y
  · constructor
    · rintro ⟨h1, h3, h5⟩
      exact absurd ⟨by have := h1.1; omega, by have := h3.1; omega⟩ z
    · intro _
      refine go ?_
      rw [if_neg z]
      exact l317a_0 (by omega)
theorem o21 {σ : Sg} {c a1 a2 : Int} (H : Rel c σ) : OpB 410 317 [vA 0, vI a1, vI a2, vA 726] [vA 682, vI a1, vI a2] σ (c + 1) := by
  by_cases g1 : a1 < 0
  · exact x21_0 H g1
  by_cases g2 : σ 0 3 ≤ a1
  · exact x21_1 H g2
  have k1 : 0 ≤ a1 ∧ a1 < σ 0 3 := by omega
  by_cases g3 : a2 < 0
  · exact x21_2 H k1 g3
  by_cases g4 : σ 0 3 ≤ a2
  · exact x21_3 H k1 g4
  have k2 : 0 ≤ a2 ∧ a2 < σ 0 3 := by omega
  have hn := (rel_n H).1
  obtain ⟨t, ht⟩ := Int.eq_ofNat_of_zero_le k1.1
  obtain ⟨u, hu⟩ := Int.eq_ofNat_of_zero_le k2.1
  have e1 := d230_ok k1 hn.2.2
  have e2 := d230_ok k2 hn.2.2
  rw [show a1.toNat = t by omega] at e1
  rw [show a2.toNat = u by omega] at e2
  have hP := (cpP (p := t) (by omega)).2.2.2.2.2.2.1
  have hQ := (cpP (p := u) (by omega)).2.2.2.2.2.2.1
  have D97 := d97 H.1 hP hQ
  have run : ∀ b : Int, b = 0 ∨ b = 1 → Dd 97 [vA (20 + 13 * t), vA (20 + 13 * u)] σ (rI b σ) → C317_22 t u none none 0 (upS σ 726 0 (if b = 0 then 0 else 1)) (rI b (upS (upS σ 726 0 (if b = 0 then 0 else 1)) 682 0 0)) → OpB 410 317 [vA 0, vI a1, vI a2, vA 726] [vA 682, vI a1, vI a2] σ (c + 1) := by
    intro b hb hA hB
    refine op_qB (b := b) H (b410 (Or.inl ⟨_, _, b193 (Or.inl ⟨_, _, e1, hP, Or.inl ⟨_, _, e2, hQ, _, _, hA, hb, rfl⟩⟩), b410_16 ⟨by decide, rfl⟩⟩)) ?_
    refine b317 ⟨_, _, d248_ok (by rw [up_a (by decide)]; omega), ?_⟩
    rw [if_neg (show ¬ (1 : Int) = 0 by decide)]
    refine ⟨_, _, d248_ok (by rw [up_a (by decide)]; omega), ?_⟩
    rw [if_neg (show ¬ (1 : Int) = 0 by decide), ht, hu]
    exact hB
  have fr : ∀ v : Int, PEQ (upS σ 726 0 v) (20 + 13 * t) (20 + 13 * u) ↔ PEQ σ (20 + 13 * t) (20 + 13 * u) := by
    intro v
    have hcl : ∀ c k, ¬ c = 726 → upS σ 726 0 v c k = σ c k := fun c k h => up_a h
    unfold PEQ smP
    have ef : ∀ c, ¬ c = 726 → upS σ 726 0 v c = σ c := fun c h => funext (fun k => hcl c k h)
    rw [ef (20 + 13 * t + 1) (by omega), ef (20 + 13 * u + 1) (by omega), ef (20 + 13 * t + 3) (by omega), ef (20 + 13 * u + 3) (by omega), ef (20 + 13 * t + 5) (by omega), ef (20 + 13 * u + 5) (by omega), ef (20 + 13 * t + 1 + 1) (by omega), ef (20 + 13 * u + 1 + 1) (by omega), ef (20 + 13 * t + 3 + 1) (by omega), ef (20 + 13 * u + 3 + 1) (by omega), ef (20 + 13 * t + 5 + 1) (by omega), ef (20 + 13 * u + 5 + 1) (by omega)]
  have M := fun v : Int => m317 (Rel_up (v := v) H) (t := t) (u := u) (by rw [up_a (by decide)]; omega) (by rw [up_a (by decide)]; omega)
  by_cases z : PEQ σ (20 + 13 * t) (20 + 13 * u)
  · exact run 1 (Or.inr rfl) (D97.1 z) ((M _).1 ((fr _).mpr z))
  · exact run 0 (Or.inl rfl) (D97.2 z) ((M _).2 (fun y => z ((fr _).mp y)))
end
-- DRAFT 76.conf.lean
/-! Conflicts in a text: marks, how many there are. -/
noncomputable section
def nmF (f : Nat → Int) (n : Nat) : Nat → Nat → Nat
  | 0, i => i
  | w + 1, i => if i < n then (if mkP (f i) then i else nmF f n w (i + 1)) else i
theorem nmF_s {f : Nat → Int} {n w i : Nat} : nmF f n (w + 1) i = if i < n then (if mkP (f i) then i else nmF f n w (i + 1)) else i := rfl
def nm (f : Nat → Int) (n i : Nat) : Nat := nmF f n n (i + 1)
theorem nmF_ge {f : Nat → Int} {n : Nat} : ∀ (w i : Nat), i ≤ nmF f n w i := by
  intro w
  induction w with
  | zero => intro i; exact Nat.le_refl _
  | succ w ih =>
    intro i
    rw [nmF_s]
    split
    · split
      · exact Nat.le_refl _
      · have := ih (i + 1); omega
    · exact Nat.le_refl _
theorem nmF_le {f : Nat → Int} {n : Nat} : ∀ (w i : Nat), i ≤ n → nmF f n w i ≤ n := by
  intro w
  induction w with
  | zero => intro i h; exact h
  | succ w ih =>
    intro i h
    rw [nmF_s]
    split
    · split
      · omega
      · exact ih (i + 1) (by omega)
    · exact h
theorem nm_ge {f : Nat → Int} {n i : Nat} : i < nm f n i := nmF_ge (f := f) n (i + 1)
theorem nm_le {f : Nat → Int} {n i : Nat} (h : i < n) : nm f n i ≤ n := nmF_le n (i + 1) h
def fat (f : Nat → Int) (n i : Nat) : Int := if i < n then f i else -1
abbrev cfP (f : Nat → Int) (n p : Nat) : Prop := fat f n p = 50001 ∧ fat f n (nm f n p) = 50002 ∧ fat f n (nm f n (nm f n p)) = 50003
theorem fat_lt {f : Nat → Int} {n i : Nat} {v : Int} (hv : 0 < v) (h : fat f n i = v) : i < n := by
  unfold fat at h
  by_cases hi : i < n
  · exact hi
  · rw [if_neg hi] at h; omega
def cnF (f : Nat → Int) (n : Nat) : Nat → Nat → Nat
  | 0, _ => 0
  | w + 1, i => (if cfP f n i then 1 else 0) + cnF f n w (i + 1)
theorem cnF_s {f : Nat → Int} {n w i : Nat} : cnF f n (w + 1) i = (if cfP f n i then 1 else 0) + cnF f n w (i + 1) := rfl
theorem cnF_le {f : Nat → Int} {n : Nat} : ∀ (w i : Nat), cnF f n w i ≤ w := by
  intro w
  induction w with
  | zero => intro i; exact Nat.le_refl _
  | succ w ih =>
    intro i
    have := ih (i + 1)
    rw [cnF_s]
    split <;> omega
section
variable {a n : Nat} {σ : Sg} {f : Nat → Int}
theorem l84 (w : wR σ a) (hn : σ a 1 = (n : Nat)) (hf : ∀ i, i < n → σ (a + 1) i = f i) {d1 : Option AV} : ∀ (k i : Nat), n ≤ i + k → C84_4 a d1 i σ (rI (nmF f n k i : Nat) σ) := by
  have hc := cap_le w.1
  have w2 := w.2.2
  intro k
  induction k with
  | zero =>
    intro i h
    refine b84_4 w.1 ⟨_, _, d146 w.1, ?_⟩
    rw [if_neg (by omega)]
    rfl
  | succ k ih =>
    intro i h
    refine b84_4 w.1 ⟨_, _, d146 w.1, ?_⟩
    by_cases h1 : i < n
    · rw [if_pos (by omega)]
      have e : atS σ a (i : Int) = f i := by
        unfold atS
        rw [if_pos (by omega), show ((i : Int)).toNat = i by omega]
        exact hf i h1
      have d := d147 (i := (i : Int)) w
      rw [e] at d
      refine ⟨_, _, d, _, _, d66, ?_⟩
      by_cases h2 : mkP (f i)
      · rw [if_pos h2, if_neg (show ¬ (1 : Int) = 0 by decide)]
        have e2 : nmF f n (k + 1) i = i := by rw [nmF_s, if_pos h1, if_pos h2]
        exact congrArg (fun z : Nat => rI (z : Int) σ) e2
      · rw [if_neg h2, if_pos rfl]
        refine ⟨by omega, ?_⟩
        have e2 : nmF f n (k + 1) i = nmF f n k (i + 1) := by rw [nmF_s, if_pos h1, if_neg h2]
        rw [e2, show (i : Int) + 1 = ((i + 1 : Nat) : Int) by omega]
        exact ih (i + 1) (by omega)
    · rw [if_neg (by omega)]
      have e2 : nmF f n (k + 1) i = i := by rw [nmF_s, if_neg h1]
      exact congrArg (fun z : Nat => rI (z : Int) σ) e2
theorem d84 (w : wR σ a) (hn : σ a 1 = (n : Nat)) (hf : ∀ i, i < n → σ (a + 1) i = f i) {i : Nat} (hi : i ≤ 5000) : Dd 84 [vA a, vI i] σ (rI (nm f n i : Nat) σ) := by
  have e := l84 w hn hf (d1 := some (vI i)) n (i + 1) (by omega)
  rw [show (((i + 1 : Nat)) : Int) = (i : Int) + 1 by omega] at e
  exact b84 ⟨by omega, e⟩
theorem d147f (w : wR σ a) (hn : σ a 1 = (n : Nat)) (hf : ∀ i, i < n → σ (a + 1) i = f i) {i : Nat} : Dd 147 [vA a, vI i] σ (rI (fat f n i) σ) := by
  have d := d147 (i := (i : Int)) w
  have e : atS σ a (i : Int) = fat f n i := by
    unfold atS fat
    by_cases h1 : i < n
    · rw [if_pos (by omega), if_pos h1, show ((i : Int)).toNat = i by omega]
      exact hf i h1
    · rw [if_neg (by omega), if_neg h1]
  rw [e] at d
  exact d
theorem d83 (w : wR σ a) (hn : σ a 1 = (n : Nat)) (hf : ∀ i, i < n → σ (a + 1) i = f i) {p : Nat} (hp : p < n) : Dd 83 [vA a, vI p] σ (rI (if cfP f n p then 1 else 0) σ) := by
  have hc := cap_le w.1
  have w2 := w.2.2
  have h1 := nm_le (f := f) hp
  refine b83 w.1 ⟨_, _, d84 w hn hf (by omega), _, _, d84 w hn hf (by omega), _, _, d147f w hn hf, ?_⟩
  by_cases e1 : fat f n p = 50001
  · rw [if_pos e1]
    refine ⟨_, _, d147f w hn hf, ?_⟩
    by_cases e2 : fat f n (nm f n p) = 50002
    · rw [if_pos e2]
      refine ⟨_, _, d147f w hn hf, ?_⟩
      by_cases e3 : fat f n (nm f n (nm f n p)) = 50003
      · rw [if_pos e3, if_pos ⟨e1, e2, e3⟩]
      · rw [if_neg e3, if_neg (fun e => e3 e.2.2)]
    · rw [if_neg e2, if_neg (fun e => e2 e.2.1)]
  · rw [if_neg e1, if_neg (fun e => e1 e.1)]
theorem l82 (w : wR σ a) (hn : σ a 1 = (n : Nat)) (hf : ∀ i, i < n → σ (a + 1) i = f i) {d0 : Option AV} : ∀ (k i x : Nat), i + k = n → x ≤ i → C82_4 d0 a x i σ (rI ((x + cnF f n k i : Nat) : Int) σ) := by
  have hc := cap_le w.1
  have w2 := w.2.2
  intro k
  induction k with
  | zero =>
    intro i x h hx
    refine b82_4 w.1 ⟨_, _, d146 w.1, ?_⟩
    rw [if_neg (by omega)]
    rfl
  | succ k ih =>
    intro i x h hx
    refine b82_4 w.1 ⟨_, _, d146 w.1, ?_⟩
    rw [if_pos (by omega)]
    refine ⟨_, _, d83 w hn hf (by omega), fun _ => by omega, b82_23 ⟨by omega, ?_⟩⟩
    rw [cnF_s]
    by_cases h1 : cfP f n i
    · have e := ih (i + 1) (x + 1) (by omega) (by omega)
      rw [if_pos h1, if_neg (show ¬ (1 : Int) = 0 by decide), if_pos h1, show x + (1 + cnF f n k (i + 1)) = x + 1 + cnF f n k (i + 1) by omega]
      rw [show (((i + 1 : Nat)) : Int) = (i : Int) + 1 by omega, show (((x + 1 : Nat)) : Int) = (x : Int) + 1 by omega] at e
      exact e
    · have e := ih (i + 1) x (by omega) (by omega)
      rw [if_neg h1, if_pos rfl, if_neg h1, Nat.zero_add]
      rw [show (((i + 1 : Nat)) : Int) = (i : Int) + 1 by omega] at e
      exact e
theorem d82 (w : wR σ a) (hn : σ a 1 = (n : Nat)) (hf : ∀ i, i < n → σ (a + 1) i = f i) : Dd 82 [vA 399, vA a] σ (rI (cnF f n n 0 : Nat) σ) := by
  have e := l82 w hn hf (d0 := some (vA 399)) n 0 0 (by omega) (by omega)
  rw [Nat.zero_add] at e
  exact b82 e
end
section
variable {t n : Nat} {σ : Sg} {f : Nat → Int}
theorem l334 (ht : t < 4) (hn : σ 684 t = (n : Nat)) (h16 : n ≤ 16) (hf : ∀ i, i < n → σ 683 (16 * t + i) = f i) {d2 : Option AV} : ∀ (k i : Nat), n ≤ i + k → i ≤ 100 → C334_4 t d2 i σ (rI (nmF f n k i : Nat) σ) := by
  intro k
  induction k with
  | zero =>
    intro i h h1
    refine b334_4 ⟨by omega, ?_⟩
    rw [show ((t : Int)).toNat = t by omega, if_neg (by omega)]
    rfl
  | succ k ih =>
    intro i h h9
    refine b334_4 ⟨by omega, ?_⟩
    rw [show ((t : Int)).toNat = t by omega]
    by_cases h1 : i < n
    · rw [if_pos (by omega), show (16 * (t : Int) + (i : Int)).toNat = 16 * t + i by omega, hf i h1]
      refine ⟨by omega, by omega, by omega, _, _, d249, ?_⟩
      by_cases h2 : mkP (f i)
      · rw [if_pos h2, if_neg (show ¬ (1 : Int) = 0 by decide)]
        have e2 : nmF f n (k + 1) i = i := by rw [nmF_s, if_pos h1, if_pos h2]
        exact congrArg (fun z : Nat => rI (z : Int) σ) e2
      · rw [if_neg h2, if_pos rfl]
        refine ⟨by omega, ?_⟩
        have e2 : nmF f n (k + 1) i = nmF f n k (i + 1) := by rw [nmF_s, if_pos h1, if_neg h2]
        rw [e2, show (i : Int) + 1 = ((i + 1 : Nat) : Int) by omega]
        exact ih (i + 1) (by omega) (by omega)
    · rw [if_neg (by omega)]
      have e2 : nmF f n (k + 1) i = i := by rw [nmF_s, if_neg h1]
      exact congrArg (fun z : Nat => rI (z : Int) σ) e2
theorem d334 (ht : t < 4) (hn : σ 684 t = (n : Nat)) (h16 : n ≤ 16) (hf : ∀ i, i < n → σ 683 (16 * t + i) = f i) {i : Nat} (hi : i ≤ 50) : Dd 334 [vA 682, vI t, vI i] σ (rI (nm f n i : Nat) σ) := by
  have e := l334 ht hn h16 hf (d2 := some (vI i)) n (i + 1) (by omega) (by omega)
  rw [show (((i + 1 : Nat)) : Int) = (i : Int) + 1 by omega] at e
  exact b334 ⟨by omega, e⟩
theorem d335 (ht : t < 4) (hn : σ 684 t = (n : Nat)) (h16 : n ≤ 16) (hf : ∀ i, i < n → σ 683 (16 * t + i) = f i) {i : Nat} {v : Int} (hv : 0 < v) : Dd 335 [vA 682, vI t, vI i, vI v] σ (rI (if fat f n i = v then 1 else 0) σ) := by
  refine b335 ?_
  rw [show ((t : Int)).toNat = t by omega, show (16 * (t : Int) + (i : Int)).toNat = 16 * t + i by omega]
  refine ⟨by omega, fun _ => by omega, fun _ => by omega, fun _ => by omega, ?_⟩
  unfold fat
  by_cases h1 : i < n
  · rw [if_pos h1, if_pos (show (i : Int) < σ 684 t by omega), hf i h1]
  · rw [if_neg h1, if_neg (show ¬ (i : Int) < σ 684 t by omega), if_neg (show ¬ (-1 : Int) = v by omega)]
theorem d336 (ht : t < 4) (hn : σ 684 t = (n : Nat)) (h16 : n ≤ 16) (hf : ∀ i, i < n → σ 683 (16 * t + i) = f i) {p : Nat} (hp : p < n) : Dd 336 [vA 682, vI t, vI p] σ (rI (if cfP f n p then 1 else 0) σ) := by
  have h1 := nm_le (f := f) hp
  refine b336 ⟨_, _, d334 ht hn h16 hf (by omega), _, _, d335 ht hn h16 hf (by decide), ?_⟩
  by_cases e1 : fat f n p = 50001
  · rw [if_pos e1, if_neg (show ¬ (1 : Int) = 0 by decide)]
    refine ⟨_, _, d335 ht hn h16 hf (by decide), ?_⟩
    by_cases e2 : fat f n (nm f n p) = 50002
    · rw [if_pos e2, if_neg (show ¬ (1 : Int) = 0 by decide)]
      refine ⟨_, _, d334 ht hn h16 hf (by omega), _, _, d335 ht hn h16 hf (by decide), ?_⟩
      by_cases e3 : fat f n (nm f n (nm f n p)) = 50003
      · rw [if_pos e3, if_neg (show ¬ (1 : Int) = 0 by decide), if_pos ⟨e1, e2, e3⟩]
      · rw [if_neg e3, if_pos rfl, if_neg (fun e => e3 e.2.2)]
    · rw [if_neg e2, if_pos rfl, if_neg (fun e => e2 e.2.1)]
  · rw [if_neg e1, if_pos rfl, if_neg (fun e => e1 e.1)]
theorem l337 (ht : t < 4) (hn : σ 684 t = (n : Nat)) (h16 : n ≤ 16) (hf : ∀ i, i < n → σ 683 (16 * t + i) = f i) : ∀ (k i x : Nat), i + k = n → x ≤ i → C337_4 t x i σ (rI ((x + cnF f n k i : Nat) : Int) σ) := by
  intro k
  induction k with
  | zero =>
    intro i x h hx
    refine b337_4 ⟨by omega, ?_⟩
    rw [show ((t : Int)).toNat = t by omega, if_neg (by omega)]
    rfl
  | succ k ih =>
    intro i x h hx
    refine b337_4 ⟨by omega, ?_⟩
    rw [show ((t : Int)).toNat = t by omega, if_pos (by omega)]
    refine ⟨_, _, d336 ht hn h16 hf (by omega), b337_29 ?_⟩
    rw [cnF_s]
    by_cases h1 : cfP f n i
    · have e := ih (i + 1) (x + 1) (by omega) (by omega)
      rw [if_pos h1, if_neg (show ¬ (1 : Int) = 0 by decide), if_pos h1, show x + (1 + cnF f n k (i + 1)) = x + 1 + cnF f n k (i + 1) by omega]
      rw [show (((i + 1 : Nat)) : Int) = (i : Int) + 1 by omega, show (((x + 1 : Nat)) : Int) = (x : Int) + 1 by omega] at e
      exact ⟨by omega, by omega, e⟩
    · have e := ih (i + 1) x (by omega) (by omega)
      rw [if_neg h1, if_pos rfl, if_neg h1, Nat.zero_add]
      rw [show (((i + 1 : Nat)) : Int) = (i : Int) + 1 by omega] at e
      refine ⟨by omega, by omega, ?_⟩
      rw [Int.add_zero]
      exact e
theorem d337 (ht : t < 4) (hn : σ 684 t = (n : Nat)) (h16 : n ≤ 16) (hf : ∀ i, i < n → σ 683 (16 * t + i) = f i) : Dd 337 [vA 682, vI t] σ (rI (cnF f n n 0 : Nat) σ) := by
  have e := l337 ht hn h16 hf n 0 0 (by omega) (by omega)
  rw [Nat.zero_add] at e
  exact b337 e
end
/-- both sides of a text that the relation holds together -/
theorem cf_two {σ : Sg} {c : Int} {t : Nat} (H : Rel c σ) (ht : t < 4) : ∃ n : Nat, n ≤ 16 ∧ σ (2 + 2 * t) 1 = (n : Nat) ∧ σ 684 t = (n : Nat) ∧ wR σ (2 + 2 * t) ∧ ∀ i, i < n → σ 683 (16 * t + i) = σ (2 + 2 * t + 1) i := by
  obtain ⟨r1, r2, r3⟩ := rel_t H (t := (t : Int)) (by omega)
  have hr := (el_1 (i := (t : Int)) (by omega)).2
  rw [show ((t : Int)).toNat = t by omega] at r1 r2 r3 hr
  obtain ⟨n, hn⟩ := Int.eq_ofNat_of_zero_le r2
  have q := (H.2.2.1 t ht).1.2
  exact ⟨n, by omega, hn, by omega, WF_w H.1 hr, fun i hi => (q i (by omega)).symm⟩
theorem o26 {σ : Sg} {c a1 : Int} (H : Rel c σ) : OpR 415 338 [vA 0, vI a1, vA 726] [vA 682, vI a1] σ (c + 1) := by
  by_cases g1 : a1 < 0
  · exact x26_0 H g1
  by_cases g2 : 4 ≤ a1
  · exact x26_1 H g2
  have k1 : 0 ≤ a1 ∧ a1 < 4 := by omega
  obtain ⟨t, rfl⟩ := Int.eq_ofNat_of_zero_le k1.1
  obtain ⟨n, h16, hn, hm, w, hf⟩ := cf_two H (t := t) (by omega)
  have e227 := d227_ok (σ := σ) k1
  rw [show ((t : Int)).toNat = t by omega] at e227
  have dA := d82 (f := fun i => σ (2 + 2 * t + 1) i) w hn (fun i _ => rfl)
  refine op_q H (b415 (Or.inl ⟨_, _, b198 (Or.inl ⟨_, _, e227, w.1, _, _, dA, rfl⟩), rfl⟩)) ?_
  refine b338 ⟨_, _, d247_ok k1, ?_⟩
  rw [if_neg (show ¬ (1 : Int) = 0 by decide)]
  refine b338_13 ⟨_, _, d245, ?_⟩
  rw [if_pos rfl, if_neg (show ¬ (1 : Int) = 0 by decide)]
  exact ⟨_, _, d337 (by omega) (by rw [up_a (by decide), up_a (by decide)]; exact hm) h16 (fun i hi => by rw [up_a (by decide), up_a (by decide)]; exact hf i hi), rfl⟩
end
-- DRAFT 77.conf2.lean
/-! A conflict is resolved. -/
noncomputable section
def sg (f : Nat → Int) (x y : Nat) : List Int := (List.range (y - x)).map (fun k => f (x + k))
theorem sg_len {f : Nat → Int} {x y : Nat} : (sg f x y).length = y - x := by
  unfold sg
  rw [List.length_map, List.length_range]
theorem sg_mem {f : Nat → Int} {x y : Nat} {v : Int} (h : v ∈ sg f x y) : ∃ j, x ≤ j ∧ j < y ∧ v = f j := by
  unfold sg at h
  obtain ⟨k, h1, h2⟩ := List.mem_map.mp h
  have := List.mem_range.mp h1
  exact ⟨x + k, by omega, by omega, h2.symm⟩
theorem sg_nil {f : Nat → Int} {x y : Nat} (h : y ≤ x) : sg f x y = [] := List.eq_nil_of_length_eq_zero (by rw [sg_len]; omega)
theorem sg_cons {f : Nat → Int} {x y : Nat} (h : x < y) : sg f x y = f x :: sg f (x + 1) y := by
  apply List.ext_getElem?
  intro i
  unfold sg
  cases i with
  | zero =>
    rw [List.getElem?_map, List.getElem?_range (by omega)]
    rfl
  | succ i =>
    rw [List.getElem?_cons_succ, List.getElem?_map, List.getElem?_map]
    by_cases hi : i < y - (x + 1)
    · rw [List.getElem?_range (by omega), List.getElem?_range hi]
      show some (f (x + (i + 1))) = some (f (x + 1 + i))
      rw [show x + (i + 1) = x + 1 + i by omega]
    · rw [List.getElem?_eq_none (by rw [List.length_range]; omega), List.getElem?_eq_none (by rw [List.length_range]; omega)]
      rfl
theorem rl_sg {σ : Sg} {a n : Nat} (hn : σ a 1 = (n : Nat)) {x y : Nat} (hy : y ≤ n) : ((rl σ a).take y).drop x = sg (fun i => σ (a + 1) i) x y := by
  apply List.ext_getElem?
  intro i
  rw [List.getElem?_drop]
  unfold rl sg
  rw [List.getElem?_map]
  by_cases hi : i < y - x
  · rw [List.getElem?_take_of_lt (by omega), List.getElem?_map, List.getElem?_range (by omega), List.getElem?_range hi]
    rfl
  · rw [List.getElem?_eq_none (by rw [List.length_take]; omega), List.getElem?_eq_none (by rw [List.length_range]; omega)]
    rfl
def plF (f : Nat → Int) (n : Nat) : Nat → Nat → Nat → Nat
  | 0, i, _ => i
  | w + 1, i, x => if cfP f n i then (if x = 0 then i else plF f n w (i + 1) (x - 1)) else plF f n w (i + 1) x
theorem plF_s {f : Nat → Int} {n w i x : Nat} : plF f n (w + 1) i x = if cfP f n i then (if x = 0 then i else plF f n w (i + 1) (x - 1)) else plF f n w (i + 1) x := rfl
theorem plF_ok {f : Nat → Int} {n : Nat} : ∀ (k i x : Nat), i + k = n → x < cnF f n k i → i ≤ plF f n k i x ∧ plF f n k i x < n ∧ cfP f n (plF f n k i x) := by
  intro k
  induction k with
  | zero =>
    intro i x h hx
    exact absurd hx (Nat.not_lt_zero x)
  | succ k ih =>
    intro i x h hx
    rw [cnF_s] at hx
    rw [plF_s]
    by_cases h1 : cfP f n i
    · rw [if_pos h1] at hx ⊢
      by_cases h2 : x = 0
      · rw [if_pos h2]; exact ⟨Nat.le_refl _, by omega, h1⟩
      · rw [if_neg h2]
        obtain ⟨q1, q2, q3⟩ := ih (i + 1) (x - 1) (by omega) (by omega)
        exact ⟨by omega, q2, q3⟩
    · rw [if_neg h1] at hx ⊢
      obtain ⟨q1, q2, q3⟩ := ih (i + 1) x (by omega) (by omega)
      exact ⟨by omega, q2, q3⟩
theorem l86 {a n : Nat} {σ : Sg} {f : Nat → Int} (w : wR σ a) (hn : σ a 1 = (n : Nat)) (hf : ∀ i, i < n → σ (a + 1) i = f i) {d1 : Option AV} : ∀ (k i x : Nat), i + k = n → x < cnF f n k i → C86_4 a d1 x i σ (rI (plF f n k i x : Nat) σ) := by
  have hc := cap_le w.1
  have w2 := w.2.2
  intro k
  induction k with
  | zero =>
    intro i x h hx
    exact absurd hx (Nat.not_lt_zero x)
  | succ k ih =>
    intro i x h hx
    have hle := cnF_le (f := f) (n := n) (k + 1) i
    have hle2 := cnF_le (f := f) (n := n) k (i + 1)
    rw [cnF_s] at hx
    refine b86_4 w.1 ⟨_, _, d146 w.1, ?_⟩
    rw [if_pos (by omega)]
    refine ⟨_, _, d83 w hn hf (by omega), ?_⟩
    by_cases h1 : cfP f n i
    · rw [if_pos h1] at hx
      rw [if_pos h1, if_neg (show ¬ (1 : Int) = 0 by decide)]
      by_cases h2 : x = 0
      · rw [if_pos (show (x : Int) = 0 by omega)]
        have e2 : plF f n (k + 1) i x = i := by rw [plF_s, if_pos h1, if_pos h2]
        exact congrArg (fun z : Nat => rI (z : Int) σ) e2
      · rw [if_neg (show ¬ (x : Int) = 0 by omega)]
        refine ⟨by omega, b86_29 ⟨by omega, ?_⟩⟩
        have e := ih (i + 1) (x - 1) (by omega) (by omega)
        rw [plF_s, if_pos h1, if_neg h2, show (x : Int) + (-1) = ((x - 1 : Nat) : Int) by omega, show (i : Int) + 1 = ((i + 1 : Nat) : Int) by omega]
        exact e
    · rw [if_neg h1] at hx
      rw [if_neg h1, if_pos rfl]
      refine b86_29 ⟨by omega, ?_⟩
      have e := ih (i + 1) x (by omega) (by omega)
      rw [plF_s, if_neg h1, show (i : Int) + 1 = ((i + 1 : Nat) : Int) by omega]
      exact e
theorem l339a {t n : Nat} {σ : Sg} {f : Nat → Int} (ht : t < 4) (hn : σ 684 t = (n : Nat)) (h16 : n ≤ 16) (hf : ∀ i, i < n → σ 683 (16 * t + i) = f i) {d2 d4 d7 d8 d9 : Option AV} {x3 : Int} {o : Rs} : ∀ (k i x : Nat), i + k = n → x < cnF f n k i → C339_132 t d2 x3 d4 (plF f n k i x : Nat) (nm f n (plF f n k i x) : Nat) (nm f n (nm f n (plF f n k i x)) : Nat) 0 d9 (upS σ 682 32 0) o → C339_65 t d2 x3 d4 i x d7 d8 d9 σ o := by
  intro k
  induction k with
  | zero =>
    intro i x h hx
    exact absurd hx (Nat.not_lt_zero x)
  | succ k ih =>
    intro i x h hx hh
    have hle := cnF_le (f := f) (n := n) (k + 1) i
    have hle2 := cnF_le (f := f) (n := n) k (i + 1)
    have hi : i < n := by omega
    have h5 := nm_le (f := f) hi
    rw [cnF_s] at hx
    rw [plF_s] at hh
    by_cases h1 : cfP f n i
    · rw [if_pos h1] at hx hh
      have d := d336 (f := f) ht hn h16 hf hi
      rw [if_pos h1] at d
      by_cases h2 : x = 0
      · rw [if_pos h2] at hh
        refine b339_65 ?_
        rw [if_pos (by omega)]
        refine ⟨_, _, d, ?_⟩
        rw [if_neg (show ¬ (1 : Int) = 0 by decide)]
        exact ⟨_, _, d334 ht hn h16 hf (by omega), _, _, d334 ht hn h16 hf (by omega), hh⟩
      · rw [if_neg h2] at hh
        have e := ih (i + 1) (x - 1) (by omega) (by omega) hh
        refine b339_65 ?_
        rw [if_neg (by omega)]
        refine b339_80 ⟨_, _, d, b339_97 ?_⟩
        rw [if_neg (show ¬ (1 : Int) = 0 by decide)]
        rw [show (x : Int) - 1 = ((x - 1 : Nat) : Int) by omega, show (i : Int) + 1 = ((i + 1 : Nat) : Int) by omega]
        exact ⟨by omega, by omega, e⟩
    · rw [if_neg h1] at hx hh
      have d := d336 (f := f) ht hn h16 hf hi
      rw [if_neg h1] at d
      have e := ih (i + 1) x (by omega) (by omega) hh
      have go : C339_80 t d2 x3 d4 i x d7 d8 d9 σ o := by
        refine b339_80 ⟨_, _, d, b339_97 ?_⟩
        rw [if_pos rfl, show (x : Int) - 0 = (x : Int) by omega, show (i : Int) + 1 = ((i + 1 : Nat) : Int) by omega]
        exact ⟨by omega, by omega, e⟩
      refine b339_65 ?_
      by_cases h2 : (x : Int) ≤ 0
      · rw [if_pos h2]
        refine ⟨_, _, d, ?_⟩
        rw [if_pos rfl]
        exact go
      · rw [if_neg h2]
        exact go
/-- the reference's made lines -/
def Rm (σ : Sg) (l : List Int) : Prop := σ 682 32 = (l.length : Nat) ∧ ∀ i v, l[i]? = some v → σ 705 i = v
theorem Rm_nil {σ : Sg} : Rm (upS σ 682 32 0) [] := ⟨by rw [up_s]; rfl, fun i v h => by simp at h⟩
theorem d319 {σ : Sg} {l : List Int} {v : Int} (H : Rm σ l) (h : l.length < 160) : ∃ s, Dd 319 [vA 682, vI v] σ (rV s) ∧ Rm s (l ++ [v]) ∧ ∀ c k, ¬ c = 705 → ¬ (c = 682 ∧ k = 32) → s c k = σ c k := by
  obtain ⟨h1, h2⟩ := H
  have e0 : (upS σ 705 (σ 682 32).toNat v) 682 32 = (l.length : Nat) := by rw [up_a (by decide)]; exact h1
  refine ⟨_, b319 ⟨by omega, by rw [e0]; omega, rfl⟩, ⟨?_, fun i w hw => ?_⟩, fun c k q1 q2 => ?_⟩
  · rw [up_s, e0, List.length_append]
    simp
  · rw [up_a (by decide)]
    by_cases hi : i < l.length
    · rw [List.getElem?_append_left hi] at hw
      rw [up_k (by omega)]
      exact h2 i w hw
    · have hle : (l ++ [v]).length = l.length + 1 := by simp
      have hi2 := (List.getElem?_eq_some_iff.mp hw).1
      have e : i = l.length := by omega
      rw [e, List.getElem?_append_right (Nat.le_refl _), Nat.sub_self] at hw
      have hw : v = w := by simpa using hw
      rw [show i = (σ 682 32).toNat by omega, up_s, hw]
  · have : ∀ s : Sg, ∀ z, upS s 682 32 z c k = s c k := fun s z => by unfold upS; rw [if_neg q2]
    rw [this, up_a q1]
theorem l325 {t m : Nat} (ht : t < 4) (hm : m ≤ 16) : ∀ (d i : Nat) (σ : Sg), σ 682 32 = (m : Nat) → i + d = m → C325_12 t i σ (rV (acS σ 683 (16 * t) 705 0 i m)) := by
  intro d
  induction d with
  | zero =>
    intro i σ h1 h2
    refine b325_12 ?_
    rw [if_neg (by omega), show i = m by omega, acS_end]
  | succ d ih =>
    intro i σ h1 h2
    refine b325_12 ?_
    rw [if_pos (by omega)]
    refine ⟨by omega, by omega, by omega, by omega, by omega, ?_⟩
    have e := ih (i + 1) (upS σ 683 (16 * t + i) (σ 705 (0 + i))) (by rw [up_a (by decide)]; exact h1) (by omega)
    rw [acS_step (by omega) (by decide)] at e
    rw [show ((i : Int)).toNat = 0 + i by omega, show (16 * (t : Int) + (i : Int)).toNat = 16 * t + i by omega, show (i : Int) + 1 = ((i + 1 : Nat) : Int) by omega]
    exact e
/-- the made lines become a text -/
theorem d325 {σ : Sg} {t : Nat} {l : List Int} (ht : t < 4) (H : Rm σ l) (h : l.length ≤ 16) : ∃ s, Dd 325 [vA 682, vI t] σ (rV s) ∧ s 684 t = (l.length : Nat) ∧ (∀ i v, l[i]? = some v → s 683 (16 * t + i) = v) ∧ s 682 32 = (l.length : Nat) ∧ ∀ c k, ¬ (c = 683 ∧ 16 * t ≤ k ∧ k < 16 * t + 16) → ¬ (c = 684 ∧ k = t) → s c k = σ c k := by
  obtain ⟨h1, h2⟩ := H
  have e := l325 ht h (l.length) 0 (upS σ 684 t (σ 682 32)) (by rw [up_a (by decide)]; exact h1) (by omega)
  refine ⟨acS (upS σ 684 t (σ 682 32)) 683 (16 * t) 705 0 0 l.length, b325 ⟨by omega, ?_⟩, ?_, fun i v hv => ?_, ?_, fun c k q1 q2 => ?_⟩
  · rw [show ((t : Int)).toNat = t by omega]
    exact e
  · rw [acS_off (by decide), up_s, h1]
  · have hi := (List.getElem?_eq_some_iff.mp hv).1
    rw [acS_val hi, up_a (by decide), Nat.zero_add]
    exact h2 i v hv
  · rw [acS_off (by decide), up_a (by decide), h1]
  · rw [show acS (upS σ 684 t (σ 682 32)) 683 (16 * t) 705 0 0 l.length c k = upS σ 684 t (σ 682 32) c k by
      by_cases hc : c = 683
      · exact acS_out (by omega)
      · exact acS_off hc]
    unfold upS
    rw [if_neg q2]
/-- what is kept of the lines, one by one -/
def kpF (f : Nat → Int) (K : Nat → Bool) : Nat → Nat → List Int
  | 0, _ => []
  | w + 1, i => if K i then f i :: kpF f K w (i + 1) else kpF f K w (i + 1)
theorem kpF_s {f : Nat → Int} {K : Nat → Bool} {w i : Nat} : kpF f K (w + 1) i = if K i then f i :: kpF f K w (i + 1) else kpF f K w (i + 1) := rfl
theorem kpF_len {f : Nat → Int} {K : Nat → Bool} : ∀ (w i : Nat), (kpF f K w i).length ≤ w := by
  intro w
  induction w with
  | zero => intro i; exact Nat.le_refl _
  | succ w ih =>
    intro i
    have := ih (i + 1)
    rw [kpF_s]
    split
    · rw [List.length_cons]; omega
    · omega
theorem kpF_add {f : Nat → Int} {K : Nat → Bool} : ∀ (u w i : Nat), kpF f K (u + w) i = kpF f K u i ++ kpF f K w (i + u) := by
  intro u
  induction u with
  | zero => intro w i; rw [Nat.zero_add]; rfl
  | succ u ih =>
    intro w i
    rw [show u + 1 + w = (u + w) + 1 by omega, kpF_s, kpF_s, ih, show i + 1 + u = i + (u + 1) by omega]
    split
    · rfl
    · rfl
theorem kpF_t {f : Nat → Int} {K : Nat → Bool} : ∀ (w i : Nat), (∀ j, i ≤ j → j < i + w → K j = true) → kpF f K w i = sg f i (i + w) := by
  intro w
  induction w with
  | zero => intro i _; rw [sg_nil (by omega)]; rfl
  | succ w ih =>
    intro i h
    rw [kpF_s, if_pos (h i (Nat.le_refl _) (by omega)), ih (i + 1) (fun j h1 h2 => h j (by omega) (by omega)), sg_cons (f := f) (x := i) (y := i + (w + 1)) (by omega), show i + 1 + w = i + (w + 1) by omega]
theorem kpF_f {f : Nat → Int} {K : Nat → Bool} : ∀ (w i : Nat), (∀ j, i ≤ j → j < i + w → K j = false) → kpF f K w i = [] := by
  intro w
  induction w with
  | zero => intro i _; rfl
  | succ w ih =>
    intro i h
    rw [kpF_s, h i (Nat.le_refl _) (by omega), if_neg (by decide), ih (i + 1) (fun j h1 h2 => h j (by omega) (by omega))]
def kpB (x : Int) (p q r : Nat) (i : Nat) : Bool := if p < i ∧ i < q then decide (x = 1 ∨ x = 3) else if q < i ∧ i < r then decide (2 ≤ x) else decide (i < p ∨ r < i)
/-- the lines that stay -/
def rsL (f : Nat → Int) (x : Int) (n p q r : Nat) : List Int := sg f 0 p ++ ((if x = 1 ∨ x = 3 then sg f (p + 1) q else []) ++ ((if x = 2 ∨ x = 3 then sg f (q + 1) r else []) ++ sg f (r + 1) n))
theorem kp_rs {f : Nat → Int} {x : Int} {n p q r : Nat} (hx : 1 ≤ x ∧ x ≤ 3) (h1 : p < q) (h2 : q < r) (h3 : r < n) : kpF f (kpB x p q r) n 0 = rsL f x n p q r := by
  have e0 : kpF f (kpB x p q r) p 0 = sg f 0 p := by
    have := kpF_t (f := f) (K := kpB x p q r) p 0 (fun j a b => by
      unfold kpB
      rw [if_neg (by omega), if_neg (by omega)]
      exact decide_eq_true (by omega))
    rw [Nat.zero_add] at this
    exact this
  have e1 : kpF f (kpB x p q r) 1 p = [] := kpF_f 1 p (fun j a b => by
    unfold kpB
    rw [if_neg (by omega), if_neg (by omega)]
    exact decide_eq_false (by omega))
  have e2 : kpF f (kpB x p q r) (q - (p + 1)) (p + 1) = (if x = 1 ∨ x = 3 then sg f (p + 1) q else []) := by
    by_cases z : x = 1 ∨ x = 3
    · rw [if_pos z]
      have := kpF_t (f := f) (K := kpB x p q r) (q - (p + 1)) (p + 1) (fun j a b => by
        unfold kpB
        rw [if_pos (by omega)]
        exact decide_eq_true z)
      rw [show p + 1 + (q - (p + 1)) = q by omega] at this
      exact this
    · rw [if_neg z]
      exact kpF_f _ _ (fun j a b => by
        unfold kpB
        rw [if_pos (by omega)]
        exact decide_eq_false z)
  have e3 : kpF f (kpB x p q r) 1 q = [] := kpF_f 1 q (fun j a b => by
    unfold kpB
    rw [if_neg (by omega), if_neg (by omega)]
    exact decide_eq_false (by omega))
  have e4 : kpF f (kpB x p q r) (r - (q + 1)) (q + 1) = (if x = 2 ∨ x = 3 then sg f (q + 1) r else []) := by
    by_cases z : x = 2 ∨ x = 3
    · rw [if_pos z]
      have := kpF_t (f := f) (K := kpB x p q r) (r - (q + 1)) (q + 1) (fun j a b => by
        unfold kpB
        rw [if_neg (by omega), if_pos (by omega)]
        exact decide_eq_true (by omega))
      rw [show q + 1 + (r - (q + 1)) = r by omega] at this
      exact this
    · rw [if_neg z]
      exact kpF_f _ _ (fun j a b => by
        unfold kpB
        rw [if_neg (by omega), if_pos (by omega)]
        exact decide_eq_false (by omega))
  have e5 : kpF f (kpB x p q r) 1 r = [] := kpF_f 1 r (fun j a b => by
    unfold kpB
    rw [if_neg (by omega), if_neg (by omega)]
    exact decide_eq_false (by omega))
  have e6 : kpF f (kpB x p q r) (n - (r + 1)) (r + 1) = sg f (r + 1) n := by
    have := kpF_t (f := f) (K := kpB x p q r) (n - (r + 1)) (r + 1) (fun j a b => by
      unfold kpB
      rw [if_neg (by omega), if_neg (by omega)]
      exact decide_eq_true (by omega))
    rw [show r + 1 + (n - (r + 1)) = n by omega] at this
    exact this
  have s := kpF_add (f := f) (K := kpB x p q r)
  rw [show n = p + (1 + ((q - (p + 1)) + (1 + ((r - (q + 1)) + (1 + (n - (r + 1))))))) by omega, s, s, s, s, s, s, Nat.zero_add, show p + 1 + (q - (p + 1)) = q by omega, show q + 1 + (r - (q + 1)) = r by omega, e0, e1, e2, e3, e4, e5, e6, List.nil_append, List.nil_append, List.nil_append]
  unfold rsL
  rw [show p + (1 + ((q - (p + 1)) + (1 + ((r - (q + 1)) + (1 + (n - (r + 1))))))) = n by omega]
theorem l339b {t n : Nat} {f : Nat → Int} (ht : t < 4) (h16 : n ≤ 16) {d2 d4 : Option AV} {x : Int} (hx : 1 ≤ x ∧ x ≤ 3) {p q r : Nat} : ∀ (w i : Nat) (d9 : Option AV) (σ : Sg) (m : List Int), i + w = n → σ 684 t = (n : Nat) → (∀ i, i < n → σ 683 (16 * t + i) = f i) → Rm σ m → m.length ≤ i → ∃ s, C339_132 t d2 x d4 p q r i d9 σ (rI ((m ++ kpF f (kpB x p q r) w i).length : Nat) s) ∧ s 684 t = ((m ++ kpF f (kpB x p q r) w i).length : Nat) ∧ (∀ k v, (m ++ kpF f (kpB x p q r) w i)[k]? = some v → s 683 (16 * t + k) = v) ∧ ∀ c k, ¬ (c = 683 ∧ 16 * t ≤ k ∧ k < 16 * t + 16) → ¬ (c = 684 ∧ k = t) → ¬ c = 705 → ¬ (c = 682 ∧ k = 32) → s c k = σ c k := by
  intro w
  induction w with
  | zero =>
    intro i d9 σ m h hn hf hm hl
    obtain ⟨s, g1, g2, g3, g4, g5⟩ := d325 ht hm (by omega)
    rw [show kpF f (kpB x p q r) 0 i = [] from rfl, List.append_nil]
    refine ⟨s, b339_132 ⟨by omega, ?_⟩, g2, g3, fun c k q1 q2 _ _ => g5 c k q1 q2⟩
    rw [show ((t : Int)).toNat = t by omega, if_neg (by omega)]
    exact ⟨_, g1, by rw [g4]⟩
  | succ w ih =>
    intro i d9 σ m h hn hf hm hl
    have step : ∀ b : Bool, kpB x p q r i = b → (∀ {o : Rs}, C339_218 t d2 x d4 p q r i d9 (if b then 1 else 0) σ o → C339_132 t d2 x d4 p q r i d9 σ o) → ∃ s, C339_132 t d2 x d4 p q r i d9 σ (rI ((m ++ kpF f (kpB x p q r) (w + 1) i).length : Nat) s) ∧ s 684 t = ((m ++ kpF f (kpB x p q r) (w + 1) i).length : Nat) ∧ (∀ k v, (m ++ kpF f (kpB x p q r) (w + 1) i)[k]? = some v → s 683 (16 * t + k) = v) ∧ ∀ c k, ¬ (c = 683 ∧ 16 * t ≤ k ∧ k < 16 * t + 16) → ¬ (c = 684 ∧ k = t) → ¬ c = 705 → ¬ (c = 682 ∧ k = 32) → s c k = σ c k := by
      intro b hb go
      rw [kpF_s, hb]
      cases b with
      | false =>
        rw [if_neg (by decide)]
        obtain ⟨s, g1, g2, g3, g4⟩ := ih (i + 1) (some (vI 0)) σ m (by omega) hn hf hm (by omega)
        refine ⟨s, go (b339_218 ?_), g2, g3, g4⟩
        rw [if_neg (show ¬ false = true by decide), if_pos rfl]
        refine b339_241 ⟨by omega, ?_⟩
        rw [show (i : Int) + 1 = ((i + 1 : Nat) : Int) by omega]
        exact g1
      | true =>
        rw [if_pos rfl]
        obtain ⟨s1, f1, f2, f3⟩ := d319 (v := f i) hm (by omega)
        obtain ⟨s, g1, g2, g3, g4⟩ := ih (i + 1) (some (vI 1)) s1 (m ++ [f i]) (by omega) (by rw [f3 _ _ (by decide) (by omega)]; exact hn) (fun j hj => by rw [f3 _ _ (by decide) (by omega)]; exact hf j hj) f2 (by rw [List.length_append]; simp; omega)
        rw [List.append_assoc] at g1 g2 g3
        refine ⟨s, go (b339_218 ?_), g2, g3, fun c k q1 q2 q3 q4 => by rw [g4 c k q1 q2 q3 q4, f3 c k q3 q4]⟩
        rw [if_pos rfl, if_neg (show ¬ (1 : Int) = 0 by decide), show (16 * (t : Int) + (i : Int)).toNat = 16 * t + i by omega, hf i (by omega)]
        refine ⟨by omega, by omega, by omega, _, f1, b339_241 ⟨by omega, ?_⟩⟩
        rw [show (i : Int) + 1 = ((i + 1 : Nat) : Int) by omega]
        exact g1
    have base : ∀ {o : Rs}, (if (p : Int) < i then (if (i : Int) < q then C339_218 t d2 x d4 p q r i d9 (if (Int.tmod x 2) = 1 then 1 else 0) σ o else C339_172 t d2 x d4 p q r i d9 σ o) else C339_172 t d2 x d4 p q r i d9 σ o) → C339_132 t d2 x d4 p q r i d9 σ o := by
      intro o hh
      refine b339_132 ⟨by omega, ?_⟩
      rw [show ((t : Int)).toNat = t by omega, if_pos (by omega)]
      exact hh
    have hodd : (Int.tmod x 2 = 1) ↔ (x = 1 ∨ x = 3) := by
      rw [tm (by omega)]
      omega
    by_cases z1 : p < i ∧ i < q
    · refine step (decide (x = 1 ∨ x = 3)) (by unfold kpB; rw [if_pos z1]) (fun hh => base ?_)
      rw [if_pos (by omega), if_pos (by omega)]
      by_cases y : x = 1 ∨ x = 3
      · rw [decide_eq_true y, if_pos rfl] at hh
        rw [if_pos (hodd.mpr y)]
        exact hh
      · rw [decide_eq_false y, if_neg (by decide)] at hh
        rw [if_neg (fun e => y (hodd.mp e))]
        exact hh
    · have to172 : ∀ {o : Rs}, C339_172 t d2 x d4 p q r i d9 σ o → C339_132 t d2 x d4 p q r i d9 σ o := by
        intro o hh
        refine base ?_
        by_cases y1 : (p : Int) < i
        · rw [if_pos y1, if_neg (by omega)]; exact hh
        · rw [if_neg y1]; exact hh
      by_cases z2 : q < i ∧ i < r
      · refine step (decide (2 ≤ x)) (by unfold kpB; rw [if_neg z1, if_pos z2]) (fun hh => to172 (b339_172 ?_))
        rw [if_pos (by omega), if_pos (by omega)]
        by_cases y : 2 ≤ x
        · rw [decide_eq_true y, if_pos rfl] at hh
          rw [if_pos y]
          exact hh
        · rw [decide_eq_false y, if_neg (by decide)] at hh
          rw [if_neg y]
          exact hh
      · have to199 : ∀ {o : Rs}, C339_199 t d2 x d4 p q r i d9 σ o → C339_132 t d2 x d4 p q r i d9 σ o := by
          intro o hh
          refine to172 (b339_172 ?_)
          by_cases y1 : (q : Int) < i
          · rw [if_pos y1, if_neg (by omega)]; exact hh
          · rw [if_neg y1]; exact hh
        refine step (decide (i < p ∨ r < i)) (by unfold kpB; rw [if_neg z1, if_neg z2]) (fun hh => to199 (b339_199 ?_))
        by_cases y1 : (p : Int) ≤ i
        · rw [if_pos y1]
          by_cases y2 : (r : Int) < i
          · rw [decide_eq_true (by omega), if_pos rfl] at hh
            rw [if_pos y2]
            exact b339_213 hh
          · rw [decide_eq_false (by omega), if_neg (by decide)] at hh
            rw [if_neg y2]
            exact hh
        · rw [decide_eq_true (by omega), if_pos rfl] at hh
          rw [if_neg y1]
          exact b339_213 hh
end
-- DRAFT 78.conf3.lean
/-! resolve. -/
noncomputable section
theorem st154 {a n : Nat} {σ0 σ : Sg} {la : List Int} (w : wR σ0 a) (ha : a ≤ 18) (hn : σ0 a 1 = (n : Nat)) (hA : Rw σ 400 la) (hB : Rw σ a (rl σ0 a)) {x y : Nat} (hy : y ≤ n) (hl : la.length + (y - x) ≤ 16) : ∃ s, Dd 154 [vA 400, vA a, vI x, vI y] σ (rV s) ∧ Rw s 400 (la ++ sg (fun i => σ0 (a + 1) i) x y) ∧ Rw s a (rl σ0 a) ∧ ∀ c k, ¬ c = 400 → ¬ c = 401 → s c k = σ c k := by
  have h4 : isRow 400 = true := by decide +kernel
  have hc4 : 16 ≤ cap 400 := by decide +kernel
  have hL : (rl σ0 a).length = n := by
    unfold rl
    rw [List.length_map, List.length_range]
    omega
  have w2 := w.2.2
  have e := rl_sg hn (x := x) hy
  obtain ⟨s, g1, g2, g3⟩ := d154 (x := (x : Int)) (y := (y : Int)) h4 w.1 hA hB (by omega) (by omega) (by
    rw [show ((y : Int)).toNat = y by omega, show ((x : Int)).toNat = x by omega, e, sg_len]
    omega)
  rw [show ((y : Int)).toNat = y by omega, show ((x : Int)).toNat = x by omega, e] at g2
  exact ⟨s, g1, g2, Rw_fr (g3 _ _ (by omega) (by omega)) (fun i => g3 _ _ (by omega) (by omega)) hB, g3⟩
theorem p85 {a n x : Nat} {σ : Sg} {x3 : Int} (w : wR σ a) (ha : a ≤ 18) (hn : σ a 1 = (n : Nat)) (h16 : n ≤ 16) (hcap : cap a = 16) (hx3 : 1 ≤ x3 ∧ x3 ≤ 3) {p q r : Nat} (hp : p = plF (fun i => σ (a + 1) i) n n 0 x) (hq : q = nm (fun i => σ (a + 1) i) n p) (hr : r = nm (fun i => σ (a + 1) i) n q) (hx : x < cnF (fun i => σ (a + 1) i) n n 0) (k1 : p < q) (k2 : q < r) (k3 : r < n) : ∃ s, Dd 85 [vA 399, vA a, vI x, vI x3] σ (rV s) ∧ Rw s a (rsL (fun i => σ (a + 1) i) x3 n p q r) ∧ s 400 1 = ((rsL (fun i => σ (a + 1) i) x3 n p q r).length : Nat) ∧ ∀ c k, ¬ c = a → ¬ c = a + 1 → ¬ c = 400 → ¬ c = 401 → s c k = σ c k := by
  have h4 : isRow 400 = true := by decide +kernel
  have hc4 : 16 ≤ cap 400 := by decide +kernel
  have w0 := w.2
  have e86 := l86 (f := fun i => σ (a + 1) i) w hn (fun i _ => rfl) (d1 := some (vI x)) n 0 x (by omega) hx
  rw [← hp] at e86
  have e84 := d84 (f := fun i => σ (a + 1) i) w hn (fun i _ => rfl) (i := p) (by omega)
  rw [← hq] at e84
  have e84b := d84 (f := fun i => σ (a + 1) i) w hn (fun i _ => rfl) (i := q) (by omega)
  rw [← hr] at e84b
  have hB0 : Rw (upS σ 400 1 0) a (rl σ a) := Rw_fr (up_a (by omega)) (fun i => up_a (by omega)) (Rw_rl w.2.1)
  obtain ⟨s1, a1, a2, a3, a4⟩ := st154 w ha hn (Rw_nil (σ := σ) (a := 400)) hB0 (x := 0) (y := p) (by omega) (by simp; omega)
  rw [List.nil_append] at a2
  have l1 : (sg (fun i => σ (a + 1) i) 0 p).length = p := by rw [sg_len]; omega
  -- the first side
  have S2 : ∃ s2, (C85_65 a (some (vI x)) x3 (some (vI p)) q r s2 = C85_65 a (some (vI x)) x3 (some (vI p)) q r s2) ∧ (∀ {o : Rs}, C85_65 a (some (vI x)) x3 (some (vI p)) q r s2 o → (if x3 = 1 then C85_51 a (some (vI x)) x3 p q r s1 o else (if x3 = 3 then C85_51 a (some (vI x)) x3 p q r s1 o else C85_65 a (some (vI x)) x3 (some (vI p)) q r s1 o))) ∧ Rw s2 400 (sg (fun i => σ (a + 1) i) 0 p ++ (if x3 = 1 ∨ x3 = 3 then sg (fun i => σ (a + 1) i) (p + 1) q else [])) ∧ Rw s2 a (rl σ a) ∧ ∀ c k, ¬ c = 400 → ¬ c = 401 → s2 c k = s1 c k := by
    by_cases z : x3 = 1 ∨ x3 = 3
    · obtain ⟨s2, b1, b2, b3, b4⟩ := st154 w ha hn a2 a3 (x := p + 1) (y := q) (by omega) (by omega)
      refine ⟨s2, rfl, fun {o} hh => ?_, by rw [if_pos z]; exact b2, b3, b4⟩
      have g : C85_51 a (some (vI x)) x3 p q r s1 o := by
        rw [show (((p + 1 : Nat)) : Int) = (p : Int) + 1 by omega] at b1
        exact b85_51 ⟨by omega, _, b1, hh⟩
      by_cases z1 : x3 = 1
      · rw [if_pos z1]; exact g
      · rw [if_neg z1, if_pos (by omega)]; exact g
    · refine ⟨s1, rfl, fun {o} hh => ?_, by rw [if_neg z, List.append_nil]; exact a2, a3, fun _ _ _ _ => rfl⟩
      rw [if_neg (by omega), if_neg (by omega)]
      exact hh
  obtain ⟨s2, -, b1, b2, b3, b4⟩ := S2
  have l2 : (sg (fun i => σ (a + 1) i) 0 p ++ (if x3 = 1 ∨ x3 = 3 then sg (fun i => σ (a + 1) i) (p + 1) q else [])).length ≤ q := by
    rw [List.length_append, l1]
    split
    · rw [sg_len]; omega
    · rw [List.length_nil]; omega
  have S3 : ∃ s3, (∀ {o : Rs}, C85_89 a (some (vI x)) (some (vI x3)) (some (vI p)) (some (vI q)) r s3 o → C85_65 a (some (vI x)) x3 (some (vI p)) q r s2 o) ∧ Rw s3 400 ((sg (fun i => σ (a + 1) i) 0 p ++ (if x3 = 1 ∨ x3 = 3 then sg (fun i => σ (a + 1) i) (p + 1) q else [])) ++ (if x3 = 2 ∨ x3 = 3 then sg (fun i => σ (a + 1) i) (q + 1) r else [])) ∧ Rw s3 a (rl σ a) ∧ ∀ c k, ¬ c = 400 → ¬ c = 401 → s3 c k = s2 c k := by
    by_cases z : x3 = 2 ∨ x3 = 3
    · obtain ⟨s3, c1, c2, c3, c4⟩ := st154 w ha hn b2 b3 (x := q + 1) (y := r) (by omega) (by omega)
      refine ⟨s3, fun {o} hh => ?_, by rw [if_pos z]; exact c2, c3, c4⟩
      have g : C85_75 a (some (vI x)) (some (vI x3)) (some (vI p)) q r s2 o := by
        rw [show (((q + 1 : Nat)) : Int) = (q : Int) + 1 by omega] at c1
        exact b85_75 ⟨by omega, _, c1, hh⟩
      refine b85_65 ?_
      by_cases z1 : x3 = 2
      · rw [if_pos z1]; exact g
      · rw [if_neg z1, if_pos (by omega)]; exact g
    · refine ⟨s2, fun {o} hh => b85_65 ?_, by rw [if_neg z, List.append_nil]; exact b2, b3, fun _ _ _ _ => rfl⟩
      rw [if_neg (by omega), if_neg (by omega)]
      exact hh
  obtain ⟨s3, c1, c2, c3, c4⟩ := S3
  have l3 : ((sg (fun i => σ (a + 1) i) 0 p ++ (if x3 = 1 ∨ x3 = 3 then sg (fun i => σ (a + 1) i) (p + 1) q else [])) ++ (if x3 = 2 ∨ x3 = 3 then sg (fun i => σ (a + 1) i) (q + 1) r else [])).length ≤ r := by
    have u1 : (if x3 = 1 ∨ x3 = 3 then sg (fun i => σ (a + 1) i) (p + 1) q else []).length ≤ q - (p + 1) := by
      split
      · rw [sg_len]; exact Nat.le_refl _
      · exact Nat.zero_le _
    have u2 : (if x3 = 2 ∨ x3 = 3 then sg (fun i => σ (a + 1) i) (q + 1) r else []).length ≤ r - (q + 1) := by
      split
      · rw [sg_len]; exact Nat.le_refl _
      · exact Nat.zero_le _
    rw [List.length_append, List.length_append, sg_len]
    omega
  obtain ⟨s4, e1, e2, e3, e4⟩ := st154 w ha hn c2 c3 (x := r + 1) (y := n) (by omega) (by omega)
  have hR : ((sg (fun i => σ (a + 1) i) 0 p ++ (if x3 = 1 ∨ x3 = 3 then sg (fun i => σ (a + 1) i) (p + 1) q else [])) ++ (if x3 = 2 ∨ x3 = 3 then sg (fun i => σ (a + 1) i) (q + 1) r else [])) ++ sg (fun i => σ (a + 1) i) (r + 1) n = rsL (fun i => σ (a + 1) i) x3 n p q r := by
    unfold rsL
    rw [List.append_assoc, List.append_assoc]
  rw [hR] at e2
  have hlen : (rsL (fun i => σ (a + 1) i) x3 n p q r).length ≤ n := by
    rw [← hR, List.length_append, sg_len]
    omega
  have w4 : wR s4 400 := Rw_wR h4 e2 (by omega)
  have hsz : s4 400 1 ≤ (cap a : Int) := by rw [e2.1]; omega
  have f3 : s3 a 1 = (n : Nat) := by rw [c4 _ _ (by omega) (by omega), b4 _ _ (by omega) (by omega), a4 _ _ (by omega) (by omega), up_a (by omega)]; exact hn
  refine ⟨bcS s4 a 400, ?_, ⟨by rw [bc_sz hsz]; exact e2.1, fun i v hv => ?_⟩, ?_, fun c k q1 q2 q3 q4 => ?_⟩
  · refine b85 ⟨_, _, b86 e86, _, _, e84, _, _, e84b, _, d152 h4, _, a1, b1 (c1 (b85_89 w.1 ⟨by omega, ?_⟩))⟩
    have d := d146 (σ := s3) w.1
    rw [f3] at d
    rw [show (((r + 1 : Nat)) : Int) = (r : Int) + 1 by omega] at e1
    exact ⟨_, _, d, _, e1, _, d155 w.1 w4, rfl⟩
  · have hi := (List.getElem?_eq_some_iff.mp hv).1
    rw [bc_val hsz (by omega) (by rw [e2.1]; omega)]
    exact e2.2 i v hv
  · rw [bc_off (by omega) (by omega)]
    exact e2.1
  · rw [bc_off q1 q2, e4 c k q3 q4, c4 c k q3 q4, b4 c k q3 q4, a4 c k q3 q4, up_a q3]
theorem o27 {σ : Sg} {c a1 a2 a3 : Int} (H : Rel c σ) : OpR 416 339 [vA 0, vI a1, vI a2, vI a3, vA 726] [vA 682, vI a1, vI a2, vI a3] σ (c + 1) := by
  by_cases g1 : a1 < 0
  · exact x27_0 H g1
  by_cases g2 : 4 ≤ a1
  · exact x27_1 H g2
  have k1 : 0 ≤ a1 ∧ a1 < 4 := by omega
  obtain ⟨t, rfl⟩ := Int.eq_ofNat_of_zero_le k1.1
  obtain ⟨n, h16, hn, hm, w, hf⟩ := cf_two H (t := t) (by omega)
  have e227 := d227_ok (σ := σ) k1
  have hcap := cp_1 k1
  rw [show ((t : Int)).toNat = t by omega] at e227 hcap
  have dA := d82 (f := fun i => σ (2 + 2 * t + 1) i) w hn (fun i _ => rfl)
  have dM : ∀ s : Sg, (∀ c k, 683 ≤ c ∧ c ≤ 684 → s c k = σ c k) → Dd 337 [vA 682, vI t] s (rI (cnF (fun i => σ (2 + 2 * t + 1) i) n n 0 : Nat) s) := fun s hs => d337 (by omega) (by rw [hs _ _ (by decide)]; exact hm) h16 (fun i hi => by rw [hs _ _ (by decide)]; exact hf i hi)
  by_cases g3 : 0 ≤ a2 ∧ a2 < (cnF (fun i => σ (2 + 2 * t + 1) i) n n 0 : Nat)
  · have e232 := d232_ok (σ := σ) g3
    by_cases g4 : 1 ≤ a3 ∧ a3 ≤ 3
    · have e234 := d234_ok (σ := σ) g4
      obtain ⟨x, rfl⟩ := Int.eq_ofNat_of_zero_le g3.1
      have hx : x < cnF (fun i => σ (2 + 2 * t + 1) i) n n 0 := by omega
      obtain ⟨q1, q2, q3⟩ := plF_ok n 0 x (by omega) hx
      obtain ⟨p, hp⟩ : ∃ p, p = plF (fun i => σ (2 + 2 * t + 1) i) n n 0 x := ⟨_, rfl⟩
      rw [← hp] at q2 q3
      obtain ⟨q, hq⟩ : ∃ q, q = nm (fun i => σ (2 + 2 * t + 1) i) n p := ⟨_, rfl⟩
      obtain ⟨r, hr⟩ : ∃ r, r = nm (fun i => σ (2 + 2 * t + 1) i) n q := ⟨_, rfl⟩
      have z1 : p < q := by rw [hq]; exact nm_ge
      have z2 : q < r := by rw [hr]; exact nm_ge
      have z3 : r < n := by
        have := q3.2.2
        rw [← hq, ← hr] at this
        exact fat_lt (by decide) this
      obtain ⟨s, b1, b2, b3, b4⟩ := p85 (x := x) w (by omega) hn h16 (by omega) g4 hp hq hr hx z1 z2 z3
      have hA := b416 (Or.inl ⟨_, _, b199 (Or.inl ⟨_, _, e227, w.1, _, _, dA, Or.inl ⟨_, e232, Or.inl ⟨_, e234, _, b1, _, _, d146 w.1, rfl⟩⟩⟩), rfl⟩)
      rw [b2.1] at hA
      have hRm : ∀ v ∈ rsL (fun i => σ (2 + 2 * t + 1) i) a3 n p q r, isLn v = true := by
        have hl := (H.2.2.1 t (by omega)).2
        have one : ∀ x y v, y ≤ n → v ∈ sg (fun i => σ (2 + 2 * t + 1) i) x y → isLn v = true := by
          intro x y v hy hv
          obtain ⟨j, j1, j2, j3⟩ := sg_mem hv
          rw [j3]
          exact hl j (by omega)
        intro v hv
        unfold rsL at hv
        rcases List.mem_append.mp hv with h | h
        · exact one _ _ _ (by omega) h
        · rcases List.mem_append.mp h with h | h
          · split at h
            · exact one _ _ _ (by omega) h
            · simp at h
          · rcases List.mem_append.mp h with h | h
            · split at h
              · exact one _ _ _ (by omega) h
              · simp at h
            · exact one _ _ _ (by omega) h
      have hkp := kp_rs (f := fun i => σ (2 + 2 * t + 1) i) g4 z1 z2 z3
      have hRl : (rsL (fun i => σ (2 + 2 * t + 1) i) a3 n p q r).length ≤ 16 := by
        have := kpF_len (f := fun i => σ (2 + 2 * t + 1) i) (K := kpB a3 p q r) n 0
        rw [hkp] at this
        omega
      generalize hRR : rsL (fun i => σ (2 + 2 * t + 1) i) a3 n p q r = R at hA b2 b3 hRm hkp hRl
      have sm : ∀ c k, 683 ≤ c → ¬ c = 726 → (upS s 726 ((0 : Int).toNat) ((R.length : Nat) : Int)) c k = σ c k := fun c k h1 h2 => by rw [up_a h2, b4 _ _ (by omega) (by omega) (by omega) (by omega)]
      have s7 : (upS s 726 ((0 : Int).toNat) ((R.length : Nat) : Int)) 726 0 = (R.length : Nat) := up_s
      have so : ∀ c k, ¬ c = 2 + 2 * t → ¬ c = 2 + 2 * t + 1 → ¬ c = 400 → ¬ c = 401 → ¬ c = 726 → (upS s 726 ((0 : Int).toNat) ((R.length : Nat) : Int)) c k = σ c k := fun c k h1 h2 h3 h4 h5 => by rw [up_a h5, b4 _ _ h1 h2 h3 h4]
      have sa : Rw (upS s 726 ((0 : Int).toNat) ((R.length : Nat) : Int)) (2 + 2 * t) R := Rw_fr (up_a (by omega)) (fun i => up_a (by omega)) b2
      have s4 : (upS s 726 ((0 : Int).toNat) ((R.length : Nat) : Int)) 400 1 = (R.length : Nat) := by rw [up_a (by omega)]; exact b3
      generalize (upS s 726 ((0 : Int).toNat) ((R.length : Nat) : Int)) = s1 at hA sm s7 so sa s4
      have m1 : ∀ c k, ¬ c = 682 → (upS (upS s1 682 0 0) 682 32 0) c k = s1 c k := fun c k h => by rw [up_a h, up_a h]
      obtain ⟨s2, f1, f2, f3, f4⟩ := l339b (f := fun i => σ (2 + 2 * t + 1) i) (t := t) (n := n) (by omega) h16 (d2 := some (vI x)) (d4 := some (vI 1)) g4 (p := p) (q := q) (r := r) n 0 none (upS (upS s1 682 0 0) 682 32 0) [] (by omega) (by rw [m1 _ _ (by decide), sm _ _ (by decide) (by decide)]; exact hm) (fun i hi => by rw [m1 _ _ (by decide), sm _ _ (by decide) (by decide)]; exact hf i hi) Rm_nil (by simp)
      rw [List.nil_append, hkp] at f1 f2 f3
      have hB : Dd 339 [vA 682, vI t, vI x, vI a3] s1 (rI (R.length : Nat) s2) := by
        refine b339 ⟨_, _, d247_ok k1, ?_⟩
        rw [if_neg (show ¬ (1 : Int) = 0 by decide)]
        refine ⟨_, _, dM s1 (fun c k h => sm _ _ (by omega) (by omega)), _, _, d246, ?_⟩
        rw [if_pos g3, if_neg (show ¬ (1 : Int) = 0 by decide)]
        refine b339_24 ?_
        rw [if_neg (show ¬ (1 : Int) = 0 by decide), if_pos g4.1, if_pos g4.2]
        refine b339_51 ⟨_, _, d245, ?_⟩
        rw [if_pos rfl, if_neg (show ¬ (1 : Int) = 0 by decide)]
        have := l339a (f := fun i => σ (2 + 2 * t + 1) i) (σ := upS s1 682 0 0) (t := t) (n := n) (by omega) (by rw [up_a (by decide), sm _ _ (by decide) (by decide)]; exact hm) h16 (fun i hi => by rw [up_a (by decide), sm _ _ (by decide) (by decide)]; exact hf i hi) (d2 := some (vI x)) (d4 := some (vI 1)) (d7 := none) (d8 := none) (d9 := none) (x3 := a3) (o := rI (R.length : Nat) s2) n 0 x (by omega) hx (by rw [← hp, ← hq, ← hr]; exact f1)
        exact this
      have m2 : ∀ c k, ¬ (c = 683 ∧ 16 * t ≤ k ∧ k < 16 * t + 16) → ¬ (c = 684 ∧ k = t) → ¬ c = 705 → ¬ (c = 682 ∧ (k = 0 ∨ k = 32)) → s2 c k = s1 c k := by
        intro c k h1 h2 h3 h4
        rw [f4 c k h1 h2 h3 (by omega)]
        unfold upS
        rw [if_neg (by omega), if_neg (by omega)]
      have m20 : s2 682 0 = 0 := by rw [f4 _ _ (by omega) (by omega) (by omega) (by omega), up_k (by omega), up_s]
      clear f1 f4 m1 dM dA e227 hkp
      have hoff : ∀ c k, ¬ (c = 2 + 2 * t ∨ c = 2 + 2 * t + 1 ∨ c = 400 ∨ c = 401 ∨ c = 726 ∨ c = 705 ∨ (c = 683 ∧ 16 * t ≤ k ∧ k < 16 * t + 16) ∨ (c = 684 ∧ k = t) ∨ (c = 682 ∧ (k = 0 ∨ k = 32))) → s2 c k = σ c k := by
        intro c k h
        rw [m2 c k (by omega) (by omega) (by omega) (by omega), so c k (by omega) (by omega) (by omega) (by omega) (by omega)]
      have a2 : Rw s2 (2 + 2 * t) R := Rw_fr (m2 _ _ (by omega) (by omega) (by omega) (by omega)) (fun i => m2 _ _ (by omega) (by omega) (by omega) (by omega)) sa
      have a4 : s2 400 1 = (R.length : Nat) := by rw [m2 _ _ (by omega) (by omega) (by omega) (by omega)]; exact s4
      refine op_fin hA hB m20 (fun _ => by rw [m2 _ _ (by omega) (by omega) (by omega) (by omega)]; exact s7) (fun a k ha => so _ _ (by omega) (by omega) (by omega) (by omega) (by omega)) (fun a k ha => hoff _ _ (by omega)) ?_
      obtain ⟨h1, h2, h3, h4, h5, h6, h7, h8, h9⟩ := H
      refine ⟨?_, Zl_fr (fun k => hoff _ _ (by omega)) h2, ?_, RB_fr (fun c k hc => hoff _ _ (by omega)) h4, RP_fr (fun c k hc => hoff _ _ (by omega)) h5, RSt_fr (by omega) (fun c k hc => hoff _ _ (by omega)) h6, RU_fr (fun c k hc => hoff _ _ (by omega)) h7, RF_fr (fun c k hc => hoff _ _ (by omega)) h8, RD_fr (fun c k hc => hoff _ _ (by omega)) h9⟩
      · intro a ha
        have hl := row_lt ha
        by_cases y1 : a = 2 + 2 * t
        · rw [y1, a2.1, hcap]; omega
        · by_cases y2 : a = 400
          · have hc4 : 16 ≤ cap 400 := by decide +kernel
            rw [y2, a4]; omega
          · have n1 : ¬ a = 401 := row_nx (a := 400) (by decide +kernel) ha
            have n2 : ¬ a = 2 + 2 * t + 1 := row_nx w.1 ha
            rw [hoff _ _ (by omega)]
            exact h1 a ha
      · intro u hu
        by_cases y : u = t
        · rw [y]
          refine ⟨⟨by rw [a2.1, f2], fun i hi => ?_⟩, fun i hi => ?_⟩
          · rw [f2] at hi
            have hl : i < R.length := by omega
            rw [a2.2 i _ (List.getElem?_eq_getElem hl), f3 i _ (List.getElem?_eq_getElem hl)]
          · rw [a2.1] at hi
            have hl : i < R.length := by omega
            rw [a2.2 i _ (List.getElem?_eq_getElem hl)]
            exact hRm _ (List.getElem_mem hl)
        · obtain ⟨v1, v2⟩ := h3 u hu
          have hw := (rel_t ⟨h1, h2, h3, h4, h5, h6, h7, h8, h9⟩ (t := (u : Int)) (by omega)).2.2
          rw [show ((u : Int)).toNat = u by omega] at hw
          have v11 := v1.1
          refine ⟨rowEq_fr2 (hoff _ _ (by omega)) (fun i => hoff _ _ (by omega)) (fun i hi => hoff _ _ (by omega)) (hoff _ _ (by omega)) v1, fun i hi => ?_⟩
          rw [hoff _ _ (by omega)] at hi ⊢
          exact v2 i hi
    · have hA : Dd 199 [vA 0, vI t, vI a2, vI a3] σ (rX 1 σ) := by
        refine b199 (Or.inl ⟨_, _, e227, w.1, _, _, dA, Or.inl ⟨_, e232, Or.inr ⟨_, _, b234 ?_, rfl⟩⟩⟩)
        by_cases y : 1 ≤ a3
        · rw [if_pos y, if_pos (by omega)]; exact b234_10 rfl
        · rw [if_neg y]; exact b234_10 rfl
      have hB : Dd 339 [vA 682, vI t, vI a2, vI a3] σ (rI 0 (upS σ 682 0 2)) := by
        refine b339 ⟨_, _, d247_ok k1, ?_⟩
        rw [if_neg (show ¬ (1 : Int) = 0 by decide)]
        refine ⟨_, _, dM σ (fun c k h => rfl), _, _, d246, ?_⟩
        rw [if_pos g3, if_neg (show ¬ (1 : Int) = 0 by decide)]
        have go : ∀ {d4 d5 d6 d7 d8 d9 : Option AV}, C339_51 t a2 a3 d4 d5 d6 d7 d8 d9 2 σ (rI 0 (upS σ 682 0 2)) := by
          intro d4 d5 d6 d7 d8 d9
          refine b339_51 ⟨_, _, d245, ?_⟩
          rw [if_neg (show ¬ (2 : Int) = 0 by decide), if_pos rfl]
        refine b339_24 ?_
        rw [if_neg (show ¬ (1 : Int) = 0 by decide)]
        by_cases y : 1 ≤ a3
        · rw [if_pos y, if_neg (by omega)]; exact b339_50 go
        · rw [if_neg y]; exact b339_50 go
      exact op_x H (by decide) (b416 (Or.inr (Or.inr ⟨_, hA, rfl⟩))) hB
  · have hA : Dd 199 [vA 0, vI t, vI a2, vI a3] σ (rX 0 σ) := by
      refine b199 (Or.inl ⟨_, _, e227, w.1, _, _, dA, Or.inr ⟨_, _, b232 ?_, rfl⟩⟩)
      by_cases y : 0 ≤ a2
      · rw [if_pos y, if_pos (by omega)]; exact b232_9 rfl
      · rw [if_neg y]; exact b232_9 rfl
    have hB : Dd 339 [vA 682, vI t, vI a2, vI a3] σ (rI 0 (upS σ 682 0 1)) := by
      refine b339 ⟨_, _, d247_ok k1, ?_⟩
      rw [if_neg (show ¬ (1 : Int) = 0 by decide)]
      refine ⟨_, _, dM σ (fun c k h => rfl), _, _, d246, ?_⟩
      rw [if_neg g3, if_pos rfl]
      refine b339_23 (b339_24 ?_)
      rw [if_pos rfl]
      refine b339_51 ⟨_, _, d245, ?_⟩
      rw [if_neg (show ¬ (1 : Int) = 0 by decide), if_pos rfl]
    exact op_x H (by decide) (b416 (Or.inr (Or.inl ⟨_, hA, rfl⟩))) hB
end
-- DRAFT 79.hunk1.lean
/-! The hunks of a patch, on both sides. -/
noncomputable section
/-- the cells that the relation speaks of -/
abbrev KP (c k : Nat) : Prop := (2 ≤ c ∧ c ≤ 9) ∨ (11 ≤ c ∧ c ≤ 18) ∨ (20 ≤ c ∧ c ≤ 331) ∨ (c = 0 ∧ k = 3) ∨ c = 393 ∨ c = 394 ∨ (402 ≤ c ∧ c ≤ 472) ∨ (616 ≤ c ∧ c ≤ 654) ∨ (c = 658 ∧ k = 1) ∨ (660 ≤ c ∧ c ≤ 679) ∨ (683 ≤ c ∧ c ≤ 689) ∨ c = 695 ∨ c = 706 ∨ c = 707 ∨ c = 710 ∨ c = 711 ∨ (717 ≤ c ∧ c ≤ 720) ∨ (722 ≤ c ∧ c ≤ 725) ∨ (c = 682 ∧ (k = 3 ∨ k = 33 ∨ (39 ≤ k ∧ k ≤ 41) ∨ k = 53 ∨ k = 58))
theorem kp_1 {c k : Nat} (h : 2 ≤ c ∧ c ≤ 9) : KP c k := (Or.inl h)
theorem kp_2 {c k : Nat} (h : 11 ≤ c ∧ c ≤ 18) : KP c k := (Or.inr (Or.inl h))
theorem kp_3 {c k : Nat} (h : 20 ≤ c ∧ c ≤ 331) : KP c k := (Or.inr (Or.inr (Or.inl h)))
theorem kp_4 {c k : Nat} (h : c = 0 ∧ k = 3) : KP c k := (Or.inr (Or.inr (Or.inr (Or.inl h))))
theorem kp_5 {c k : Nat} (h : c = 393) : KP c k := (Or.inr (Or.inr (Or.inr (Or.inr (Or.inl h)))))
theorem kp_6 {c k : Nat} (h : c = 394) : KP c k := (Or.inr (Or.inr (Or.inr (Or.inr (Or.inr (Or.inl h))))))
theorem kp_7 {c k : Nat} (h : 402 ≤ c ∧ c ≤ 472) : KP c k := (Or.inr (Or.inr (Or.inr (Or.inr (Or.inr (Or.inr (Or.inl h)))))))
theorem kp_8 {c k : Nat} (h : 616 ≤ c ∧ c ≤ 654) : KP c k := (Or.inr (Or.inr (Or.inr (Or.inr (Or.inr (Or.inr (Or.inr (Or.inl h))))))))
theorem kp_9 {c k : Nat} (h : c = 658 ∧ k = 1) : KP c k := (Or.inr (Or.inr (Or.inr (Or.inr (Or.inr (Or.inr (Or.inr (Or.inr (Or.inl h)))))))))
theorem kp_10 {c k : Nat} (h : 660 ≤ c ∧ c ≤ 679) : KP c k := (Or.inr (Or.inr (Or.inr (Or.inr (Or.inr (Or.inr (Or.inr (Or.inr (Or.inr (Or.inl h))))))))))
theorem kp_11 {c k : Nat} (h : 683 ≤ c ∧ c ≤ 689) : KP c k := (Or.inr (Or.inr (Or.inr (Or.inr (Or.inr (Or.inr (Or.inr (Or.inr (Or.inr (Or.inr (Or.inl h)))))))))))
theorem kp_12 {c k : Nat} (h : c = 695) : KP c k := (Or.inr (Or.inr (Or.inr (Or.inr (Or.inr (Or.inr (Or.inr (Or.inr (Or.inr (Or.inr (Or.inr (Or.inl h))))))))))))
theorem kp_13 {c k : Nat} (h : c = 706) : KP c k := (Or.inr (Or.inr (Or.inr (Or.inr (Or.inr (Or.inr (Or.inr (Or.inr (Or.inr (Or.inr (Or.inr (Or.inr (Or.inl h)))))))))))))
theorem kp_14 {c k : Nat} (h : c = 707) : KP c k := (Or.inr (Or.inr (Or.inr (Or.inr (Or.inr (Or.inr (Or.inr (Or.inr (Or.inr (Or.inr (Or.inr (Or.inr (Or.inr (Or.inl h))))))))))))))
theorem kp_15 {c k : Nat} (h : c = 710) : KP c k := (Or.inr (Or.inr (Or.inr (Or.inr (Or.inr (Or.inr (Or.inr (Or.inr (Or.inr (Or.inr (Or.inr (Or.inr (Or.inr (Or.inr (Or.inl h)))))))))))))))
theorem kp_16 {c k : Nat} (h : c = 711) : KP c k := (Or.inr (Or.inr (Or.inr (Or.inr (Or.inr (Or.inr (Or.inr (Or.inr (Or.inr (Or.inr (Or.inr (Or.inr (Or.inr (Or.inr (Or.inr (Or.inl h))))))))))))))))
theorem kp_17 {c k : Nat} (h : 717 ≤ c ∧ c ≤ 720) : KP c k := (Or.inr (Or.inr (Or.inr (Or.inr (Or.inr (Or.inr (Or.inr (Or.inr (Or.inr (Or.inr (Or.inr (Or.inr (Or.inr (Or.inr (Or.inr (Or.inr (Or.inl h)))))))))))))))))
theorem kp_18 {c k : Nat} (h : 722 ≤ c ∧ c ≤ 725) : KP c k := (Or.inr (Or.inr (Or.inr (Or.inr (Or.inr (Or.inr (Or.inr (Or.inr (Or.inr (Or.inr (Or.inr (Or.inr (Or.inr (Or.inr (Or.inr (Or.inr (Or.inr (Or.inl h))))))))))))))))))
theorem kp_19 {c k : Nat} (h : c = 682 ∧ (k = 3 ∨ k = 33 ∨ (39 ≤ k ∧ k ≤ 41) ∨ k = 53 ∨ k = 58)) : KP c k := (Or.inr (Or.inr (Or.inr (Or.inr (Or.inr (Or.inr (Or.inr (Or.inr (Or.inr (Or.inr (Or.inr (Or.inr (Or.inr (Or.inr (Or.inr (Or.inr (Or.inr (Or.inr h))))))))))))))))))
/-- only what the relation doesn't speak of was written -/
theorem Rel_sc {σ σ' : Sg} {c0 c1 : Int} (hc : c0 ≤ c1) (hw : WF σ') (h : ∀ c k, KP c k → σ' c k = σ c k) (H : Rel c0 σ) : Rel c1 σ' := by
  obtain ⟨h1, h2, h3, h4, h5, h6, h7, h8, h9⟩ := H
  refine ⟨hw, Zl_fr (fun k => h _ _ (kp_12 rfl)) h2, RT_fr (fun c k hc => ?_) h3, RB_fr (fun c k hc => ?_) h4, RP_fr (fun c k hc => ?_) h5, RSt_fr hc (fun c k hc => ?_) h6, RU_fr (fun c k hc => ?_) h7, RF_fr (fun c k hc => ?_) h8, RD_fr (fun c k hc => ?_) h9⟩
  · rcases hc with e | e | e
    · exact h _ _ (kp_1 e)
    · exact h _ _ (kp_11 (by omega))
    · exact h _ _ (kp_11 (by omega))
  · rcases hc with e | e | e
    · exact h _ _ (kp_2 e)
    · exact h _ _ (kp_18 (by omega))
    · exact h _ _ (kp_18 (by omega))
  · rcases hc with e | e | e | e
    · exact h _ _ (kp_3 e)
    · exact h _ _ (kp_11 (by omega))
    · exact h _ _ (kp_4 e)
    · exact h _ _ (kp_19 ⟨e.1, Or.inl e.2⟩)
  · rcases hc with e | e | e | e | e
    · exact h _ _ (kp_7 e)
    · exact h _ _ (kp_11 (by omega))
    · exact h _ _ (kp_15 e)
    · exact h _ _ (kp_16 e)
    · exact h _ _ (kp_19 ⟨e.1, Or.inr (Or.inr (Or.inl e.2))⟩)
  · rcases hc with e | e | e | e | e
    · exact h _ _ (kp_5 e)
    · exact h _ _ (kp_6 e)
    · exact h _ _ (kp_13 e)
    · exact h _ _ (kp_14 e)
    · exact h _ _ (kp_19 ⟨e.1, Or.inr (Or.inl e.2)⟩)
  · rcases hc with e | e | e
    · exact h _ _ (kp_8 e)
    · exact h _ _ (kp_17 e)
    · exact h _ _ (kp_19 ⟨e.1, Or.inr (Or.inr (Or.inr (Or.inl e.2)))⟩)
  · rcases hc with e | e | e | e | e
    · exact h _ _ (kp_10 e)
    · exact h _ _ (kp_18 (by omega))
    · exact h _ _ (kp_18 (by omega))
    · exact h _ _ (kp_9 e)
    · exact h _ _ (kp_19 ⟨e.1, Or.inr (Or.inr (Or.inr (Or.inr e.2)))⟩)
theorem tw_len {l : List Nat} {p : Nat → Bool} : (l.takeWhile p).length ≤ l.length := by
  induction l with
  | nil => exact Nat.le_refl _
  | cons a t ih =>
    rw [List.takeWhile_cons]
    split
    · rw [List.length_cons, List.length_cons]; omega
    · rw [List.length_nil]; omega
theorem tw_a {p : Nat → Bool} : ∀ {l : List Nat} (d : Nat), d < (l.takeWhile p).length → ∃ x, l[d]? = some x ∧ p x = true := by
  intro l
  induction l with
  | nil => intro d h; exact absurd h (Nat.not_lt_zero d)
  | cons a t ih =>
    intro d h
    rw [List.takeWhile_cons] at h
    by_cases hp : p a = true
    · rw [if_pos hp] at h
      cases d with
      | zero => exact ⟨a, rfl, hp⟩
      | succ d =>
        rw [List.length_cons] at h
        obtain ⟨x, h1, h2⟩ := ih d (by omega)
        exact ⟨x, by rw [List.getElem?_cons_succ]; exact h1, h2⟩
    · rw [if_neg hp] at h
      exact absurd h (Nat.not_lt_zero d)
theorem tw_b {p : Nat → Bool} : ∀ {l : List Nat}, (l.takeWhile p).length < l.length → ∃ x, l[(l.takeWhile p).length]? = some x ∧ p x = false := by
  intro l
  induction l with
  | nil => intro h; exact absurd h (Nat.not_lt_zero _)
  | cons a t ih =>
    intro h
    rw [List.takeWhile_cons] at h ⊢
    by_cases hp : p a = true
    · rw [if_pos hp] at h ⊢
      rw [List.length_cons, List.length_cons] at h
      obtain ⟨x, h1, h2⟩ := ih (by omega)
      exact ⟨x, by rw [List.length_cons, List.getElem?_cons_succ]; exact h1, h2⟩
    · rw [if_neg hp]
      exact ⟨a, rfl, by simpa using hp⟩
def nx (f : Nat → Int) (nb i : Nat) : Nat := i + ((List.range (nb - i)).takeWhile (fun d => decide (f (i + d) = -1))).length
theorem nx_ge {f : Nat → Int} {nb i : Nat} : i ≤ nx f nb i := Nat.le_add_right _ _
theorem nx_le {f : Nat → Int} {nb i : Nat} (h : i ≤ nb) : nx f nb i ≤ nb := by
  have := tw_len (l := List.range (nb - i)) (p := fun d => decide (f (i + d) = -1))
  rw [List.length_range] at this
  unfold nx
  omega
theorem nx_m {f : Nat → Int} {nb i k : Nat} (h1 : i ≤ k) (h2 : k < nx f nb i) : f k = -1 := by
  have hl := tw_len (l := List.range (nb - i)) (p := fun d => decide (f (i + d) = -1))
  rw [List.length_range] at hl
  unfold nx at h2
  obtain ⟨x, g1, g2⟩ := tw_a (p := fun d => decide (f (i + d) = -1)) (l := List.range (nb - i)) (k - i) (by omega)
  rw [List.getElem?_range (by omega)] at g1
  have e : k - i = x := by simpa using g1
  rw [← e, show i + (k - i) = k by omega] at g2
  exact of_decide_eq_true g2
theorem nx_n {f : Nat → Int} {nb i : Nat} (h : nx f nb i < nb) : ¬ f (nx f nb i) = -1 := by
  have hl := tw_len (l := List.range (nb - i)) (p := fun d => decide (f (i + d) = -1))
  rw [List.length_range] at hl
  have h2 : ((List.range (nb - i)).takeWhile (fun d => decide (f (i + d) = -1))).length < (List.range (nb - i)).length := by
    rw [List.length_range]
    unfold nx at h
    omega
  obtain ⟨x, g1, g2⟩ := tw_b (p := fun d => decide (f (i + d) = -1)) h2
  rw [List.getElem?_range (by rw [List.length_range] at h2; exact h2)] at g1
  have e : ((List.range (nb - i)).takeWhile (fun d => decide (f (i + d) = -1))).length = x := by simpa using g1
  rw [← e] at g2
  exact of_decide_eq_false g2
def j2F (f : Nat → Int) (nb na i : Nat) : Nat := if nx f nb i < nb then (f (nx f nb i)).toNat else na
theorem hkF_s {f : Nat → Int} {nb na w i j : Nat} : hkF f nb na (w + 1) i j = if i < nb ∨ j < na then (if i < nb ∧ f i = (j : Int) then hkF f nb na w (i + 1) (j + 1) else (i, nx f nb i - i, j, j2F f nb na i - j) :: hkF f nb na w (nx f nb i) (j2F f nb na i)) else [] := rfl
/-- pairs in order -/
def VF (f : Nat → Int) (nb na : Nat) : Prop := (∀ i, i < nb → f i = -1 ∨ (0 ≤ f i ∧ f i < na)) ∧ ∀ i i', i < i' → i' < nb → ¬ f i = -1 → ¬ f i' = -1 → f i < f i'
def VI (f : Nat → Int) (nb na i j : Nat) : Prop := i ≤ nb ∧ j ≤ na ∧ ∀ k, i ≤ k → k < nb → ¬ f k = -1 → (j : Int) ≤ f k
theorem VI_0 {f : Nat → Int} {nb na : Nat} (h : VF f nb na) : VI f nb na 0 0 := ⟨Nat.zero_le _, Nat.zero_le _, fun k _ h2 h3 => by
  rcases h.1 k h2 with e | e
  · exact absurd e h3
  · exact e.1⟩
theorem VI_s {f : Nat → Int} {nb na i j : Nat} (h : VF f nb na) (hi : VI f nb na i j) (h1 : i < nb) (h2 : f i = (j : Int)) : VI f nb na (i + 1) (j + 1) := by
  obtain ⟨g1, g2, g3⟩ := hi
  have := h.1 i h1
  refine ⟨by omega, by omega, fun k k1 k2 k3 => ?_⟩
  have := h.2 i k (by omega) k2 (by omega) k3
  omega
theorem VI_h {f : Nat → Int} {nb na i j : Nat} (h : VF f nb na) (hi : VI f nb na i j) (h1 : i < nb ∨ j < na) (h2 : ¬ (i < nb ∧ f i = (j : Int))) : VI f nb na (nx f nb i) (j2F f nb na i) ∧ (nb - nx f nb i) + (na - j2F f nb na i) < (nb - i) + (na - j) ∧ j ≤ j2F f nb na i ∧ ((nx f nb i < nb ∧ f (nx f nb i) = (j2F f nb na i : Nat)) ∨ (nx f nb i = nb ∧ j2F f nb na i = na)) := by
  obtain ⟨g1, g2, g3⟩ := hi
  have a1 := nx_ge (f := f) (nb := nb) (i := i)
  have a2 := nx_le (f := f) g1
  unfold j2F
  by_cases hx : nx f nb i < nb
  · have a3 := nx_n hx
    rw [if_pos hx]
    have a4 := h.1 _ hx
    have a5 := g3 _ a1 hx a3
    refine ⟨⟨a2, by omega, fun k k1 k2 k3 => ?_⟩, ?_, by omega, Or.inl ⟨hx, by omega⟩⟩
    · by_cases e : k = nx f nb i
      · rw [e]; omega
      · have := h.2 _ k (by omega) k2 a3 k3
        omega
    · by_cases e : nx f nb i = i
      · rw [e] at a3 a4 a5 hx ⊢
        have : ¬ f i = (j : Int) := fun z => h2 ⟨hx, z⟩
        omega
      · omega
  · rw [if_neg hx]
    refine ⟨⟨a2, Nat.le_refl _, fun k k1 k2 _ => by omega⟩, by omega, g2, Or.inr ⟨by omega, rfl⟩⟩
def HK (σ : Sg) (wh nn : Nat) (l : List (Nat × Nat × Nat × Nat)) : Prop := ∀ h q, l[h]? = some q → σ 700 (128 * wh + (nn + h)) = (q.1 : Nat) ∧ σ 701 (128 * wh + (nn + h)) = (q.2.1 : Nat) ∧ σ 702 (128 * wh + (nn + h)) = (q.2.2.1 : Nat) ∧ σ 703 (128 * wh + (nn + h)) = (q.2.2.2 : Nat)
theorem l280i {s wh nb : Nat} {f : Nat → Int} (hs : s < 44) (h100 : nb ≤ 100) {nn : Int} {d5 : Option AV} {x6 : Int} {o : Rs} {σ : Sg} (hn : σ 688 s = (nb : Nat)) (hf : ∀ i, i < nb → σ 687 (100 * s + i) = f i) {i : Nat} (hi : i ≤ nb) : ∀ (d i' : Nat), i ≤ i' → i' + d = nx f nb i → C280_127 s wh nn (nx f nb i : Nat) d5 x6 σ o → C280_94 s wh nn i' d5 x6 σ o := by
  have a2 := nx_le (f := f) hi
  intro d
  induction d with
  | zero =>
    intro i' h1 h2 hh
    have e : i' = nx f nb i := by omega
    rw [e]
    refine b280_94 ⟨by omega, ?_⟩
    rw [show ((s : Int)).toNat = s by omega]
    by_cases hx : nx f nb i < nb
    · rw [if_pos (by omega), show (100 * (s : Int) + ((nx f nb i : Nat) : Int)).toNat = 100 * s + nx f nb i by omega, hf _ hx, if_neg (nx_n hx)]
      exact ⟨by omega, by omega, by omega, hh⟩
    · rw [if_neg (by omega)]
      exact hh
  | succ d ih =>
    intro i' h1 h2 hh
    refine b280_94 ⟨by omega, ?_⟩
    rw [show ((s : Int)).toNat = s by omega, if_pos (by omega), show (100 * (s : Int) + (i' : Int)).toNat = 100 * s + i' by omega, hf i' (by omega), if_pos (nx_m (nb := nb) h1 (by omega)), show (i' : Int) + 1 = ((i' + 1 : Nat) : Int) by omega]
    exact ⟨by omega, by omega, by omega, by omega, ih (i' + 1) (by omega) (by omega) hh⟩
theorem l280 {s wh nb na : Nat} {f : Nat → Int} (hs : s < 44) (hwh : wh < 2) (h100 : nb ≤ 100) (h100' : na ≤ 100) (V : VF f nb na) : ∀ (w nn i j : Nat) (d6 : Option AV) (σ : Sg), σ 688 s = (nb : Nat) → σ 689 s = (na : Nat) → (∀ i, i < nb → σ 687 (100 * s + i) = f i) → (nb - i) + (na - j) ≤ w → VI f nb na i j → (nn ≤ i ∨ (nn ≤ i + 1 ∧ ((i < nb ∧ f i = (j : Int)) ∨ (i = nb ∧ j = na)))) → ∃ σ', C280_8 s wh nn i j d6 σ (rI ((nn + (hkF f nb na w i j).length : Nat) : Int) σ') ∧ HK σ' wh nn (hkF f nb na w i j) ∧ σ' 704 wh = ((nn + (hkF f nb na w i j).length : Nat) : Int) ∧ (nn + (hkF f nb na w i j).length ≤ nb + 1) ∧ ∀ c k, ¬ (700 ≤ c ∧ c ≤ 703 ∧ 128 * wh + nn ≤ k ∧ k < 128 * wh + 128) → ¬ (c = 704 ∧ k = wh) → σ' c k = σ c k := by
  have fin : ∀ (nn i j : Nat) (d6 : Option AV) (σ : Sg), σ 688 s = (nb : Nat) → σ 689 s = (na : Nat) → VI f nb na i j → ¬ (i < nb ∨ j < na) → (nn ≤ i ∨ (nn ≤ i + 1 ∧ ((i < nb ∧ f i = (j : Int)) ∨ (i = nb ∧ j = na)))) → ∃ σ', C280_8 s wh nn i j d6 σ (rI ((nn + 0 : Nat) : Int) σ') ∧ HK σ' wh nn [] ∧ σ' 704 wh = ((nn + 0 : Nat) : Int) ∧ (nn + 0 ≤ nb + 1) ∧ ∀ c k, ¬ (700 ≤ c ∧ c ≤ 703 ∧ 128 * wh + nn ≤ k ∧ k < 128 * wh + 128) → ¬ (c = 704 ∧ k = wh) → σ' c k = σ c k := by
    intro nn i j d6 σ hn hm hi he hb
    obtain ⟨g1, g2, g3⟩ := hi
    refine ⟨upS σ 704 wh nn, b280_8 ⟨by omega, ?_⟩, fun h q hq => by simp at hq, up_s, by omega, fun c k q1 q2 => by unfold upS; rw [if_neg q2]⟩
    rw [show ((s : Int)).toNat = s by omega, show ((wh : Int)).toNat = wh by omega, if_pos (by omega)]
    refine ⟨by omega, ?_⟩
    rw [if_neg (by omega)]
    exact ⟨by omega, rfl⟩
  intro w
  induction w with
  | zero =>
    intro nn i j d6 σ hn hm hf hw hi hb
    exact fin nn i j d6 σ hn hm hi (by omega) hb
  | succ w ih =>
    intro nn i j d6 σ hn hm hf hw hi hb
    rw [hkF_s]
    by_cases h1 : i < nb ∨ j < na
    · rw [if_pos h1]
      have hi' := hi
      obtain ⟨g1, g2, g3⟩ := hi'
      have to30 : ∀ {o : Rs}, C280_30 s wh nn i j d6 σ o → C280_8 s wh nn i j d6 σ o := by
        intro o hh
        refine b280_8 ⟨by omega, ?_⟩
        rw [show ((s : Int)).toNat = s by omega]
        by_cases y : i < nb
        · rw [if_neg (by omega)]; exact hh
        · rw [if_pos (by omega), if_pos (by omega)]
          exact ⟨by omega, hh⟩
      by_cases h2 : i < nb ∧ f i = (j : Int)
      · rw [if_pos h2]
        have hv := V.1 i h2.1
        obtain ⟨σ', a1, a2, a3, a4, a5⟩ := ih nn (i + 1) (j + 1) d6 σ hn hm hf (by omega) (VI_s V hi h2.1 h2.2) (Or.inl (by omega))
        refine ⟨σ', to30 (b280_30 ⟨by omega, ?_⟩), a2, a3, a4, a5⟩
        rw [show ((s : Int)).toNat = s by omega, if_pos (by omega), show (100 * (s : Int) + (i : Int)).toNat = 100 * s + i by omega, hf _ h2.1, if_pos h2.2, show (i : Int) + 1 = ((i + 1 : Nat) : Int) by omega, show (j : Int) + 1 = ((j + 1 : Nat) : Int) by omega]
        exact ⟨by omega, by omega, by omega, by omega, by omega, a1⟩
      · rw [if_neg h2]
        obtain ⟨u1, u2, u3, u4⟩ := VI_h V hi h1 h2
        have n1 := nx_ge (f := f) (nb := nb) (i := i)
        have n2 := nx_le (f := f) g1
        have hnn : nn ≤ i := by omega
        have hix : (128 * (wh : Int) + (nn : Int)).toNat = 128 * wh + nn := by omega
        have m1 : ∀ c k, ¬ (700 ≤ c ∧ c ≤ 703) → (upS (upS (upS (upS σ 700 (128 * wh + nn) i) 702 (128 * wh + nn) j) 701 (128 * wh + nn) ((nx f nb i : Nat) - (i : Int))) 703 (128 * wh + nn) ((j2F f nb na i : Nat) - (j : Int))) c k = σ c k := fun c k h => by rw [up_a (by omega), up_a (by omega), up_a (by omega), up_a (by omega)]
        have m2 : ∀ c k, ¬ k = 128 * wh + nn → (upS (upS (upS (upS σ 700 (128 * wh + nn) i) 702 (128 * wh + nn) j) 701 (128 * wh + nn) ((nx f nb i : Nat) - (i : Int))) 703 (128 * wh + nn) ((j2F f nb na i : Nat) - (j : Int))) c k = σ c k := fun c k h => by rw [up_k h, up_k h, up_k h, up_k h]
        have v0 : (upS (upS (upS (upS σ 700 (128 * wh + nn) i) 702 (128 * wh + nn) j) 701 (128 * wh + nn) ((nx f nb i : Nat) - (i : Int))) 703 (128 * wh + nn) ((j2F f nb na i : Nat) - (j : Int))) 700 (128 * wh + nn) = i := by rw [up_a (by decide), up_a (by decide), up_a (by decide), up_s]
        have v1 : (upS (upS (upS (upS σ 700 (128 * wh + nn) i) 702 (128 * wh + nn) j) 701 (128 * wh + nn) ((nx f nb i : Nat) - (i : Int))) 703 (128 * wh + nn) ((j2F f nb na i : Nat) - (j : Int))) 701 (128 * wh + nn) = (nx f nb i : Nat) - (i : Int) := by rw [up_a (by decide), up_s]
        have v2 : (upS (upS (upS (upS σ 700 (128 * wh + nn) i) 702 (128 * wh + nn) j) 701 (128 * wh + nn) ((nx f nb i : Nat) - (i : Int))) 703 (128 * wh + nn) ((j2F f nb na i : Nat) - (j : Int))) 702 (128 * wh + nn) = j := by rw [up_a (by decide), up_a (by decide), up_s]
        have v3 : (upS (upS (upS (upS σ 700 (128 * wh + nn) i) 702 (128 * wh + nn) j) 701 (128 * wh + nn) ((nx f nb i : Nat) - (i : Int))) 703 (128 * wh + nn) ((j2F f nb na i : Nat) - (j : Int))) 703 (128 * wh + nn) = (j2F f nb na i : Nat) - (j : Int) := up_s
        have body : ∀ {o : Rs}, C280_8 s wh ((nn + 1 : Nat) : Int) (nx f nb i : Nat) (j2F f nb na i : Nat) (some (vI (128 * (wh : Int) + (nn : Int)))) (upS (upS (upS (upS σ 700 (128 * wh + nn) i) 702 (128 * wh + nn) j) 701 (128 * wh + nn) ((nx f nb i : Nat) - (i : Int))) 703 (128 * wh + nn) ((j2F f nb na i : Nat) - (j : Int))) o → C280_8 s wh nn i j d6 σ o := by
          intro o hh
          have t67 : C280_67 s wh nn i j d6 σ o := by
            refine b280_67 ⟨by omega, by omega, by omega, by omega, ?_⟩
            rw [hix]
            have e0 : (upS (upS σ 700 (128 * wh + nn) i) 702 (128 * wh + nn) j) 688 s = (nb : Nat) := by rw [up_a (by decide), up_a (by decide)]; exact hn
            have e9 : (upS (upS σ 700 (128 * wh + nn) i) 702 (128 * wh + nn) j) 689 s = (na : Nat) := by rw [up_a (by decide), up_a (by decide)]; exact hm
            have e7 : ∀ k, (upS (upS σ 700 (128 * wh + nn) i) 702 (128 * wh + nn) j) 687 k = σ 687 k := fun k => by rw [up_a (by decide), up_a (by decide)]
            refine l280i (s := s) (wh := wh) (nb := nb) (f := f) hs h100 e0 (fun k hk => by rw [e7]; exact hf k hk) g1 (nx f nb i - i) i (Nat.le_refl _) (by omega) ?_
            have ej : (if ((nx f nb i : Nat) : Int) < (upS (upS σ 700 (128 * wh + nn) i) 702 (128 * wh + nn) j) 688 ((s : Int)).toNat then (upS (upS σ 700 (128 * wh + nn) i) 702 (128 * wh + nn) j) 687 (100 * (s : Int) + ((nx f nb i : Nat) : Int)).toNat else (upS (upS σ 700 (128 * wh + nn) i) 702 (128 * wh + nn) j) 689 ((s : Int)).toNat) = (j2F f nb na i : Nat) := by
              rw [show ((s : Int)).toNat = s by omega, e0, e9, e7]
              unfold j2F
              by_cases hx : nx f nb i < nb
              · have a4 := V.1 _ hx
                have a3 := nx_n hx
                rw [if_pos (by omega), if_pos hx, show (100 * (s : Int) + ((nx f nb i : Nat) : Int)).toNat = 100 * s + nx f nb i by omega, hf _ hx]
                omega
              · rw [if_neg (by omega), if_neg hx]
            have e0t : (upS (upS σ 700 (128 * wh + nn) i) 702 (128 * wh + nn) j) 688 ((s : Int)).toNat = ((nb : Nat) : Int) := by
              rw [show ((s : Int)).toNat = s by omega]
              exact e0
            refine b280_127 ⟨by omega, fun _ => by omega, fun _ => by omega, fun _ => by omega, fun _ => by omega, ?_⟩
            rw [ej]
            have p0 : (upS (upS σ 700 (128 * wh + nn) i) 702 (128 * wh + nn) j) 700 (128 * wh + nn) = i := by rw [up_a (by decide), up_s]
            have p2 : (upS (upS (upS σ 700 (128 * wh + nn) i) 702 (128 * wh + nn) j) 701 (128 * wh + nn) ((nx f nb i : Nat) - (i : Int))) 702 (128 * wh + nn) = j := by rw [up_a (by decide), up_s]
            refine b280_159 ?_
            rw [hix, p0, p2, show (nn : Int) + 1 = ((nn + 1 : Nat) : Int) by omega]
            have := u1.2.1
            exact ⟨by omega, by omega, by omega, by omega, by omega, by omega, by omega, hh⟩
          refine to30 (b280_30 ⟨by omega, ?_⟩)
          rw [show ((s : Int)).toNat = s by omega]
          by_cases y : i < nb
          · rw [if_pos (by omega), show (100 * (s : Int) + (i : Int)).toNat = 100 * s + i by omega, hf _ y, if_neg (fun e => h2 ⟨y, e⟩)]
            exact ⟨by omega, by omega, by omega, t67⟩
          · rw [if_neg (by omega)]
            exact t67
        generalize (upS (upS (upS (upS σ 700 (128 * wh + nn) i) 702 (128 * wh + nn) j) 701 (128 * wh + nn) ((nx f nb i : Nat) - (i : Int))) 703 (128 * wh + nn) ((j2F f nb na i : Nat) - (j : Int))) = σ1 at m1 m2 v0 v1 v2 v3 body
        obtain ⟨σ', a1, a2, a3, a4, a5⟩ := ih (nn + 1) (nx f nb i) (j2F f nb na i) (some (vI (128 * (wh : Int) + (nn : Int)))) σ1 (by rw [m1 _ _ (by decide)]; exact hn) (by rw [m1 _ _ (by decide)]; exact hm) (fun k hk => by rw [m1 _ _ (by decide)]; exact hf k hk) (by omega) u1 (Or.inr ⟨by omega, u4⟩)
        rw [List.length_cons, show nn + ((hkF f nb na w (nx f nb i) (j2F f nb na i)).length + 1) = nn + 1 + (hkF f nb na w (nx f nb i) (j2F f nb na i)).length by omega]
        refine ⟨σ', body a1, fun h q hq => ?_, a3, a4, fun c k q1 q2 => ?_⟩
        · cases h with
          | zero =>
            have hq : (i, nx f nb i - i, j, j2F f nb na i - j) = q := by simpa using hq
            rw [← hq, Nat.add_zero]
            have fr : ∀ c, 700 ≤ c → c ≤ 703 → σ' c (128 * wh + nn) = σ1 c (128 * wh + nn) := fun c _ _ => a5 _ _ (by omega) (by omega)
            rw [fr 700 (by decide) (by decide), fr 701 (by decide) (by decide), fr 702 (by decide) (by decide), fr 703 (by decide) (by decide), v0, v1, v2, v3]
            refine ⟨rfl, ?_, rfl, ?_⟩
            · show ((nx f nb i : Nat) : Int) - i = ((nx f nb i - i : Nat) : Int)
              omega
            · show ((j2F f nb na i : Nat) : Int) - j = ((j2F f nb na i - j : Nat) : Int)
              omega
          | succ h =>
            rw [List.getElem?_cons_succ] at hq
            have := a2 h q hq
            rw [show nn + (h + 1) = nn + 1 + h by omega]
            exact this
        · rw [a5 c k (by omega) q2]
          by_cases e : k = 128 * wh + nn
          · exact m1 c k (by omega)
          · exact m2 c k e
    · rw [if_neg h1]
      exact fin nn i j d6 σ hn hm hi h1 hb
/-- laysHunks -/
theorem d280 {s wh nb na : Nat} {f : Nat → Int} {σ : Sg} (hs : s < 44) (hwh : wh < 2) (h100 : nb ≤ 100) (h100' : na ≤ 100) (V : VF f nb na) (hn : σ 688 s = (nb : Nat)) (hm : σ 689 s = (na : Nat)) (hf : ∀ i, i < nb → σ 687 (100 * s + i) = f i) : ∃ σ', Dd 280 [vA 682, vI s, vI wh] σ (rI ((hks f nb na).length : Nat) σ') ∧ HK σ' wh 0 (hks f nb na) ∧ σ' 704 wh = ((hks f nb na).length : Nat) ∧ (hks f nb na).length ≤ nb + 1 ∧ ∀ c k, ¬ (700 ≤ c ∧ c ≤ 703 ∧ 128 * wh ≤ k ∧ k < 128 * wh + 128) → ¬ (c = 704 ∧ k = wh) → σ' c k = σ c k := by
  obtain ⟨σ', a1, a2, a3, a4, a5⟩ := l280 hs hwh h100 h100' V (nb + na) 0 0 0 none σ hn hm hf (by omega) (VI_0 V) (Or.inl (Nat.le_refl _))
  rw [Nat.zero_add] at a1 a3 a4
  exact ⟨σ', b280 a1, a2, a3, a4, a5⟩
/-- what the relation says of a patch, both sides together -/
theorem po_two {σ : Sg} {P s : Nat} (H : PR σ P s) (H2 : PO σ P 16) (w1 : 0 ≤ σ (P + 1) 1) (w3 : 0 ≤ σ (P + 3) 1) : ∃ nb na : Nat, nb ≤ 16 ∧ na ≤ 16 ∧ σ (P + 1) 1 = (nb : Nat) ∧ σ (P + 3) 1 = (na : Nat) ∧ σ 688 s = (nb : Nat) ∧ σ 689 s = (na : Nat) ∧ VF (σ (P + 6)) nb na ∧ (∀ i, i < nb → σ 687 (100 * s + i) = σ (P + 6) i) ∧ (∀ i, i < nb → σ 685 (100 * s + i) = σ (P + 2) i) ∧ ∀ i, i < na → σ 686 (100 * s + i) = σ (P + 4) i := by
  obtain ⟨nb, hb⟩ := Int.eq_ofNat_of_zero_le w1
  obtain ⟨na, ha⟩ := Int.eq_ofNat_of_zero_le w3
  obtain ⟨⟨r1, q1⟩, ⟨r2, q2⟩, ⟨r3, q3⟩⟩ := H
  obtain ⟨o1, o2, o3, o4, o5, o6, o7, -⟩ := H2
  refine ⟨nb, na, by omega, by omega, hb, ha, by omega, by omega, ⟨fun i hi => ?_, fun i i' h1 h2 h3 h4 => o7 i i' h1 (by omega) h3 h4⟩, fun i hi => (q3 i (by omega)).symm, fun i hi => (q1 i (by omega)).symm, fun i hi => (q2 i (by omega)).symm⟩
  rcases o5 i (by omega) with e | e
  · exact Or.inl e
  · exact Or.inr ⟨e.1, by omega⟩
theorem po_pat {σ : Sg} {c : Int} {p : Nat} (H : Rel c σ) (hp : (p : Int) < σ 0 3) : isPatch (20 + 13 * p) = true ∧ PR σ (20 + 13 * p) p ∧ PO σ (20 + 13 * p) 16 ∧ 0 ≤ σ (20 + 13 * p + 1) 1 ∧ 0 ≤ σ (20 + 13 * p + 3) 1 := by
  have hn := (rel_n H).1
  have hP := (cpP (p := p) (by omega)).2.2.2.2.2.2.1
  obtain ⟨g1, g2⟩ := H.2.2.2.2.1.2.2.2 p hp
  exact ⟨hP, g1, g2, (H.1 _ (pat_1 hP)).1, (H.1 _ (pat_3 hP)).1⟩
theorem d98 {σ : Sg} {P n : Nat} (hP : isPatch P = true) (h : σ (P + 9) 1 = 4 * (n : Nat)) : Dd 98 [vA P] σ (rI (n : Nat) σ) := by
  refine b98 hP ⟨_, _, d146 (pat_9 hP), ?_⟩
  rw [h, td (by omega), show (4 * ((n : Nat) : Int)) / 4 = (n : Nat) by omega]
theorem WF_hi {σ s : Sg} (h : ∀ a k, a < 682 → s a k = σ a k) (H : WF σ) : WF s := WF_fr h H
theorem o18 {σ : Sg} {c a1 : Int} (H : Rel c σ) : OpR 407 310 [vA 0, vI a1, vA 726] [vA 682, vI a1] σ (c + 1) := by
  by_cases g1 : a1 < 0
  · exact x18_0 H g1
  by_cases g2 : σ 0 3 ≤ a1
  · exact x18_1 H g2
  have k1 : 0 ≤ a1 ∧ a1 < σ 0 3 := by omega
  obtain ⟨p, rfl⟩ := Int.eq_ofNat_of_zero_le k1.1
  have hn := (rel_n H).1
  obtain ⟨hP, q1, q2, w1, w3⟩ := po_pat H k1.2
  obtain ⟨nb, na, b1, b2, b3, b4, b5, b6, V, f1, f2, f3⟩ := po_two q1 q2 w1 w3
  have hpc := q2.2.2.2.2.2.2.2.2.2.1
  rw [b3, b4, show ((nb : Nat) : Int).toNat = nb by omega, show ((na : Nat) : Int).toNat = na by omega] at hpc
  have e230 := d230_ok (σ := σ) k1 hn.2.2
  rw [show ((p : Int)).toNat = p by omega] at e230
  have hA := b407 (Or.inl ⟨_, _, b190 (Or.inl ⟨_, _, e230, hP, _, _, d98 hP hpc, rfl⟩), rfl⟩)
  have u1 : ∀ v : Int, ∀ c k, ¬ c = 726 → ¬ c = 682 → upS (upS σ 726 ((0 : Int).toNat) v) 682 0 0 c k = σ c k := fun v c k h1 h2 => by rw [up_a h2, up_a h1]
  obtain ⟨s2, c1, c2, c3, c4, c5⟩ := d280 (s := p) (wh := 0) (f := σ (20 + 13 * p + 6)) (σ := upS (upS σ 726 ((0 : Int).toNat) (((hks (σ (20 + 13 * p + 6)) nb na).length : Nat) : Int)) 682 0 0) (by omega) (by decide) (by omega) (by omega) V (by rw [u1 _ _ _ (by decide) (by decide)]; exact b5) (by rw [u1 _ _ _ (by decide) (by decide)]; exact b6) (fun i hi => by rw [u1 _ _ _ (by decide) (by decide)]; exact f1 i hi)
  have hoff : ∀ c k, ¬ c = 726 → ¬ (c = 682 ∧ k = 0) → ¬ (700 ≤ c ∧ c ≤ 704) → s2 c k = σ c k := by
    intro c k h1 h2 h3
    rw [c5 c k (by omega) (by omega)]
    unfold upS
    rw [if_neg (by omega), if_neg (by omega)]
  refine op_fin hA (b := ((hks (σ (20 + 13 * p + 6)) nb na).length : Nat)) (s2 := s2) ?_ ?_ (fun _ => ?_) (fun a k ha => up_a (by omega)) (fun a k ha => hoff _ _ (by omega) (by omega) (by omega)) (Rel_sc (by omega) (WF_fr (fun a k ha => hoff _ _ (by omega) (by omega) (by omega)) H.1) (fun c k hk => hoff _ _ (by omega) (by omega) (by omega)) H)
  · refine b310 ⟨_, _, d248_ok (by rw [up_a (by decide)]; omega), ?_⟩
    rw [if_neg (show ¬ (1 : Int) = 0 by decide)]
    refine b310_14 ⟨_, _, d245, ?_⟩
    rw [if_pos rfl, if_neg (show ¬ (1 : Int) = 0 by decide)]
    exact ⟨_, _, c1, rfl⟩
  · rw [c5 _ _ (by omega) (by omega), up_s]
  · rw [c5 _ _ (by omega) (by omega), up_a (by decide)]
    exact up_s
theorem o19 {σ : Sg} {c a1 a2 a3 : Int} (H : Rel c σ) : OpR 408 311 [vA 0, vI a1, vI a2, vI a3, vA 726] [vA 682, vI a1, vI a2, vI a3] σ (c + 1) := by
  by_cases g1 : a1 < 0
  · exact x19_0 H g1
  by_cases g2 : σ 0 3 ≤ a1
  · exact x19_1 H g2
  have k1 : 0 ≤ a1 ∧ a1 < σ 0 3 := by omega
  obtain ⟨p, rfl⟩ := Int.eq_ofNat_of_zero_le k1.1
  have hn := (rel_n H).1
  obtain ⟨hP, q1, q2, w1, w3⟩ := po_pat H k1.2
  obtain ⟨nb, na, b1, b2, b3, b4, b5, b6, V, f1, f2, f3⟩ := po_two q1 q2 w1 w3
  obtain ⟨hpc, hpv⟩ := q2.2.2.2.2.2.2.2.2.2
  rw [b3, b4, show ((nb : Nat) : Int).toNat = nb by omega, show ((na : Nat) : Int).toNat = na by omega] at hpc hpv
  have e230 := d230_ok (σ := σ) k1 hn.2.2
  rw [show ((p : Int)).toNat = p by omega] at e230
  have e98 := d98 hP hpc
  have hlen : (hks (σ (20 + 13 * p + 6)) nb na).length ≤ nb + 1 := by
    obtain ⟨_, _, _, _, c4, _⟩ := d280 (s := p) (wh := 0) (f := σ (20 + 13 * p + 6)) (σ := σ) (by omega) (by decide) (by omega) (by omega) V b5 b6 f1
    exact c4
  -- the reference lays the hunks in any state that agrees
  have M : ∀ s1 : Sg, (∀ c k, 683 ≤ c → ¬ c = 726 → s1 c k = σ c k) → s1 682 3 = σ 682 3 → 0 ≤ a2 → ∃ s2, Dd 304 [vA 682, vI p, vI a2] s1 (rI (if a2 < ((hks (σ (20 + 13 * p + 6)) nb na).length : Nat) then 1 else 0) s2) ∧ HK s2 0 0 (hks (σ (20 + 13 * p + 6)) nb na) ∧ ∀ c k, ¬ (700 ≤ c ∧ c ≤ 704) → s2 c k = s1 c k := by
    intro s1 h1 h3 h2
    obtain ⟨s2, c1, c2, c3, c4, c5⟩ := d280 (s := p) (wh := 0) (f := σ (20 + 13 * p + 6)) (σ := s1) (by omega) (by decide) (by omega) (by omega) V (by rw [h1 _ _ (by decide) (by decide)]; exact b5) (by rw [h1 _ _ (by decide) (by decide)]; exact b6) (fun i hi => by rw [h1 _ _ (by decide) (by decide)]; exact f1 i hi)
    refine ⟨s2, b304 ⟨_, _, d248_ok (by omega), ?_⟩, c2, fun c k h => c5 c k (by omega) (by omega)⟩
    rw [if_neg (show ¬ (1 : Int) = 0 by decide), if_pos h2]
    exact ⟨_, _, c1, rfl⟩
  have Mn : a2 < 0 → ∀ s1 : Sg, s1 682 3 = σ 682 3 → Dd 304 [vA 682, vI p, vI a2] s1 (rI 0 s1) := by
    intro h2 s1 h3
    refine b304 ⟨_, _, d248_ok (by omega), ?_⟩
    rw [if_neg (show ¬ (1 : Int) = 0 by decide), if_neg (by omega)]
  by_cases g3 : 0 ≤ a2 ∧ a2 < ((hks (σ (20 + 13 * p + 6)) nb na).length : Nat)
  · have e232 := d232_ok (σ := σ) g3
    obtain ⟨h, rfl⟩ := Int.eq_ofNat_of_zero_le g3.1
    by_cases g4 : 0 ≤ a3 ∧ a3 ≤ 3
    · have e234 := d234_ok (σ := σ) g4
      have hl : h < (hks (σ (20 + 13 * p + 6)) nb na).length := by omega
      obtain ⟨q, hq⟩ : ∃ q, (hks (σ (20 + 13 * p + 6)) nb na)[h]? = some q := ⟨_, List.getElem?_eq_getElem hl⟩
      obtain ⟨y0, y1, y2, y3⟩ := hpv h q hq
      have ev : atS σ (20 + 13 * p + 9) (4 * (h : Int) + a3) = σ (20 + 13 * p + 10) (4 * h + a3.toNat) := by
        unfold atS
        rw [if_pos (by omega), show (4 * (h : Int) + a3).toNat = 4 * h + a3.toNat by omega]
      have d147' := d147 (i := 4 * (h : Int) + a3) (WF_w H.1 (pat_9 hP))
      rw [ev] at d147'
      have hA := b408 (Or.inl ⟨_, _, b191 (Or.inl ⟨_, _, e230, hP, _, _, e98, Or.inl ⟨_, e232, Or.inl ⟨_, e234, _, _, b99 hP ⟨by omega, by omega, _, _, d147', rfl⟩, rfl⟩⟩⟩), rfl⟩)
      obtain ⟨s2, c1, c2, c3⟩ := M (upS σ 726 ((0 : Int).toNat) (σ (20 + 13 * p + 10) (4 * h + a3.toNat))) (fun c k h1 h2 => up_a h2) (up_a (by decide)) g3.1
      rw [if_pos g3.2] at c1
      obtain ⟨z0, z1, z2, z3⟩ := c2 h q hq
      rw [show 128 * 0 + (0 + h) = h by omega] at z0 z1 z2 z3
      have hoff : ∀ c k, ¬ c = 726 → ¬ (c = 682 ∧ k = 0) → ¬ (700 ≤ c ∧ c ≤ 704) → upS s2 682 0 0 c k = σ c k := by
        intro c k h1 h2 h3
        have : upS s2 682 0 0 c k = s2 c k := by unfold upS; rw [if_neg (by omega)]
        rw [this, c3 c k (by omega), up_a h1]
      refine op_fin hA (b := σ (20 + 13 * p + 10) (4 * h + a3.toNat)) (s2 := upS s2 682 0 0) ?_ up_s (fun _ => by rw [up_a (by decide), c3 _ _ (by decide)]; exact up_s) (fun a k ha => up_a (by omega)) (fun a k ha => hoff _ _ (by omega) (by omega) (by omega)) (Rel_sc (by omega) (WF_fr (fun a k ha => hoff _ _ (by omega) (by omega) (by omega)) H.1) (fun c k hk => hoff _ _ (by omega) (by omega) (by omega)) H)
      refine b311 ⟨_, _, c1, ?_⟩
      rw [if_neg (show ¬ (1 : Int) = 0 by decide)]
      refine ⟨_, _, d246, ?_⟩
      rw [if_pos (show 0 ≤ a3 ∧ a3 < 4 by omega), if_neg (show ¬ (1 : Int) = 0 by decide)]
      refine b311_31 ⟨_, _, d245, ?_⟩
      rw [if_pos rfl]
      refine ⟨fun _ _ => by omega, fun _ _ _ => by omega, fun _ _ _ _ => by omega, fun _ _ _ _ => by omega, ?_⟩
      rw [if_neg (show ¬ (1 : Int) = 0 by decide), show ((h : Int)).toNat = h by omega, up_a (by decide), up_a (by decide), up_a (by decide), up_a (by decide), z0, z1, z2, z3]
      by_cases t0 : a3 = 0
      · rw [if_pos t0, t0, show 4 * h + ((0 : Int)).toNat = 4 * h by omega, y0]
      · by_cases t1 : a3 = 1
        · rw [if_neg t0, if_pos t1, t1, show 4 * h + ((1 : Int)).toNat = 4 * h + 1 by omega, y1]
        · by_cases t2 : a3 = 2
          · rw [if_neg t0, if_neg t1, if_pos t2, t2, show 4 * h + ((2 : Int)).toNat = 4 * h + 2 by omega, y2]
          · have t3 : a3 = 3 := by omega
            rw [if_neg t0, if_neg t1, if_neg t2, t3, show 4 * h + ((3 : Int)).toNat = 4 * h + 3 by omega, y3]
    · have hA : Dd 191 [vA 0, vI p, vI h, vI a3] σ (rX 1 σ) := by
        refine b191 (Or.inl ⟨_, _, e230, hP, _, _, e98, Or.inl ⟨_, e232, Or.inr ⟨_, _, b234 ?_, rfl⟩⟩⟩)
        by_cases y : 0 ≤ a3
        · rw [if_pos y, if_pos (by omega)]; exact b234_10 rfl
        · rw [if_neg y]; exact b234_10 rfl
      obtain ⟨s2, c1, c2, c3⟩ := M σ (fun c k h1 h2 => rfl) rfl g3.1
      rw [if_pos g3.2] at c1
      have hoff : ∀ c k, ¬ (c = 682 ∧ k = 0) → ¬ (700 ≤ c ∧ c ≤ 704) → upS s2 682 0 2 c k = σ c k := by
        intro c k h2 h3
        have : upS s2 682 0 2 c k = s2 c k := by unfold upS; rw [if_neg (by omega)]
        rw [this, c3 c k (by omega)]
      refine op_fin (b408 (Or.inr (Or.inr ⟨_, hA, rfl⟩))) (b := 0) (s2 := upS s2 682 0 2) ?_ up_s (fun h => absurd h (by decide)) (fun a k ha => rfl) (fun a k ha => hoff _ _ (by omega) (by omega)) (Rel_sc (by omega) (WF_fr (fun a k ha => hoff _ _ (by omega) (by omega)) H.1) (fun c k hk => hoff _ _ (by omega) (by omega)) H)
      refine b311 ⟨_, _, c1, ?_⟩
      rw [if_neg (show ¬ (1 : Int) = 0 by decide)]
      refine ⟨_, _, d246, ?_⟩
      rw [if_neg (show ¬ (0 ≤ a3 ∧ a3 < 4) by omega), if_pos rfl]
      refine b311_31 ⟨_, _, d245, ?_⟩
      rw [if_neg (show ¬ (2 : Int) = 0 by decide)]
      refine ⟨fun h => absurd rfl h, fun h => absurd rfl h, fun h => absurd rfl h, fun h => absurd rfl h, ?_⟩
      rw [if_pos rfl]
  · have hA : Dd 191 [vA 0, vI p, vI a2, vI a3] σ (rX 0 σ) := by
      refine b191 (Or.inl ⟨_, _, e230, hP, _, _, e98, Or.inr ⟨_, _, b232 ?_, rfl⟩⟩)
      by_cases y : 0 ≤ a2
      · rw [if_pos y, if_pos (by omega)]; exact b232_9 rfl
      · rw [if_neg y]; exact b232_9 rfl
    have M2 : ∃ s2, Dd 304 [vA 682, vI p, vI a2] σ (rI 0 s2) ∧ ∀ c k, ¬ (700 ≤ c ∧ c ≤ 704) → s2 c k = σ c k := by
      by_cases y : 0 ≤ a2
      · obtain ⟨s2, c1, c2, c3⟩ := M σ (fun c k h1 h2 => rfl) rfl y
        rw [if_neg (fun e => g3 ⟨y, e⟩)] at c1
        exact ⟨s2, c1, c3⟩
      · exact ⟨σ, Mn (by omega) σ rfl, fun _ _ _ => rfl⟩
    obtain ⟨s2, c1, c3⟩ := M2
    have hoff : ∀ c k, ¬ (c = 682 ∧ k = 0) → ¬ (700 ≤ c ∧ c ≤ 704) → upS s2 682 0 1 c k = σ c k := by
      intro c k h2 h3
      have : upS s2 682 0 1 c k = s2 c k := by unfold upS; rw [if_neg (by omega)]
      rw [this, c3 c k (by omega)]
    refine op_fin (b408 (Or.inr (Or.inl ⟨_, hA, rfl⟩))) (b := 0) (s2 := upS s2 682 0 1) ?_ up_s (fun h => absurd h (by decide)) (fun a k ha => rfl) (fun a k ha => hoff _ _ (by omega) (by omega)) (Rel_sc (by omega) (WF_fr (fun a k ha => hoff _ _ (by omega) (by omega)) H.1) (fun c k hk => hoff _ _ (by omega) (by omega)) H)
    refine b311 ⟨_, _, c1, ?_⟩
    rw [if_pos rfl]
    refine b311_31 ⟨_, _, d245, ?_⟩
    rw [if_neg (show ¬ (1 : Int) = 0 by decide)]
    refine ⟨fun h => absurd rfl h, fun h => absurd rfl h, fun h => absurd rfl h, fun h => absurd rfl h, ?_⟩
    rw [if_pos rfl]
end
-- DRAFT 80.build.lean
/-! Patch.finish and Patch.build. -/
noncomputable section
theorem nx_u {f : Nat → Int} {nb i e : Nat} (h1 : i ≤ e) (h2 : e ≤ nb) (h3 : ∀ k, i ≤ k → k < e → f k = -1) (h4 : e < nb → ¬ f e = -1) : nx f nb i = e := by
  have a1 := nx_ge (f := f) (nb := nb) (i := i)
  have a2 := nx_le (f := f) (nb := nb) (i := i) (by omega)
  by_cases h : nx f nb i < e
  · exact absurd (h3 _ a1 h) (nx_n (by omega))
  · by_cases h' : e < nx f nb i
    · exact absurd (nx_m h1 h') (h4 (by omega))
    · omega
theorem hkF_e {f : Nat → Int} {nb na i j : Nat} (h : ¬ (i < nb ∨ j < na)) (w : Nat) : hkF f nb na w i j = [] := by
  cases w with
  | zero => rfl
  | succ w => rw [hkF_s, if_neg h]
theorem hkF_fuel {f : Nat → Int} {nb na : Nat} (V : VF f nb na) : ∀ (w i j : Nat), VI f nb na i j → (nb - i) + (na - j) ≤ w → hkF f nb na (w + 1) i j = hkF f nb na w i j := by
  intro w
  induction w with
  | zero =>
    intro i j hi hw
    rw [hkF_e (by omega), hkF_e (by omega)]
  | succ w ih =>
    intro i j hi hw
    rw [hkF_s, hkF_s (w := w)]
    by_cases h1 : i < nb ∨ j < na
    · rw [if_pos h1, if_pos h1]
      by_cases h2 : i < nb ∧ f i = (j : Int)
      · rw [if_pos h2, if_pos h2]
        exact ih _ _ (VI_s V hi h2.1 h2.2) (by omega)
      · rw [if_neg h2, if_neg h2]
        obtain ⟨u1, u2, u3, u4⟩ := VI_h V hi h1 h2
        rw [ih _ _ u1 (by omega)]
    · rw [if_neg h1, if_neg h1]
theorem hkF_len {f : Nat → Int} {nb na : Nat} (V : VF f nb na) : ∀ (w i j : Nat), VI f nb na i j → (nb - i) + (na - j) ≤ w → (hkF f nb na w i j).length ≤ (nb - i) + 1 ∧ (((i < nb ∧ f i = (j : Int)) ∨ (i = nb ∧ j = na)) → (hkF f nb na w i j).length ≤ nb - i) := by
  intro w
  induction w with
  | zero =>
    intro i j hi hw
    rw [hkF_e (by omega)]
    exact ⟨Nat.zero_le _, fun _ => Nat.zero_le _⟩
  | succ w ih =>
    intro i j hi hw
    rw [hkF_s]
    by_cases h1 : i < nb ∨ j < na
    · rw [if_pos h1]
      by_cases h2 : i < nb ∧ f i = (j : Int)
      · rw [if_pos h2]
        obtain ⟨g1, g2⟩ := ih _ _ (VI_s V hi h2.1 h2.2) (by omega)
        have := h2.1
        exact ⟨by omega, fun _ => by omega⟩
      · rw [if_neg h2]
        obtain ⟨u1, u2, u3, u4⟩ := VI_h V hi h1 h2
        obtain ⟨g1, g2⟩ := ih _ _ u1 (by omega)
        have g3 := g2 u4
        have n1 := nx_ge (f := f) (nb := nb) (i := i)
        rw [List.length_cons]
        refine ⟨by omega, fun h => ?_⟩
        rcases h with h | h
        · exact absurd h h2
        · omega
    · rw [if_neg h1]
      exact ⟨Nat.zero_le _, fun _ => Nat.zero_le _⟩
theorem hks_len {f : Nat → Int} {nb na : Nat} (V : VF f nb na) : (hks f nb na).length ≤ nb + 1 := by
  have := (hkF_len V (nb + na) 0 0 (VI_0 V) (by omega)).1
  exact this
def fl4 : List (Nat × Nat × Nat × Nat) → List Int
  | [] => []
  | q :: t => (q.1 : Int) :: (q.2.1 : Int) :: (q.2.2.1 : Int) :: (q.2.2.2 : Int) :: fl4 t
theorem fl4_len : ∀ (l : List (Nat × Nat × Nat × Nat)), (fl4 l).length = 4 * l.length := by
  intro l
  induction l with
  | nil => rfl
  | cons q t ih =>
    unfold fl4
    rw [List.length_cons, List.length_cons, List.length_cons, List.length_cons, List.length_cons, ih]
    omega
theorem fl4_get : ∀ (l : List (Nat × Nat × Nat × Nat)) (h : Nat) (q : Nat × Nat × Nat × Nat), l[h]? = some q → (fl4 l)[4 * h]? = some (q.1 : Int) ∧ (fl4 l)[4 * h + 1]? = some (q.2.1 : Int) ∧ (fl4 l)[4 * h + 2]? = some (q.2.2.1 : Int) ∧ (fl4 l)[4 * h + 3]? = some (q.2.2.2 : Int) := by
  intro l
  induction l with
  | nil => intro h q hq; simp at hq
  | cons a t ih =>
    intro h q hq
    cases h with
    | zero =>
      have hq : a = q := by simpa using hq
      rw [← hq]
      exact ⟨rfl, rfl, rfl, rfl⟩
    | succ h =>
      rw [List.getElem?_cons_succ] at hq
      have g := ih h q hq
      rw [show 4 * (h + 1) = 4 * h + 4 by omega]
      exact g
/-- each the other's inverse -/
def IV (F K : Nat → Int) (nb na : Nat) : Prop := (∀ j : Nat, j < na → K j = -1 ∨ (0 ≤ K j ∧ K j < nb ∧ F (K j).toNat = j)) ∧ ∀ i : Nat, i < nb → ¬ F i = -1 → K (F i).toNat = i
theorem d159 {a n : Nat} {σ : Sg} (w : wR σ a) (hn : σ a 1 = (n : Nat)) {i : Nat} (hi : i ≤ n) : Dd 159 [vA a, vI (-1), vI i] σ (rI (nx (σ (a + 1)) n i : Nat) σ) := by
  have hc := cap_le w.1
  have w2 := w.2.2
  have a1 := nx_ge (f := σ (a + 1)) (nb := n) (i := i)
  have a2 := nx_le (f := σ (a + 1)) hi
  have L : ∀ (d i' : Nat) (d2 : Option AV), i ≤ i' → i' + d = nx (σ (a + 1)) n i → C159_6 a (-1) d2 i' σ (rI (nx (σ (a + 1)) n i : Nat) σ) := by
    intro d
    induction d with
    | zero =>
      intro i' d2 h1 h2
      have e : i' = nx (σ (a + 1)) n i := by omega
      rw [e]
      refine b159_6 w.1 ?_
      by_cases hx : nx (σ (a + 1)) n i < n
      · rw [if_pos (by omega), show ((nx (σ (a + 1)) n i : Nat) : Int).toNat = nx (σ (a + 1)) n i by omega, if_neg (nx_n hx)]
        exact ⟨by omega, rfl⟩
      · rw [if_neg (by omega)]
    | succ d ih =>
      intro i' d2 h1 h2
      refine b159_6 w.1 ?_
      rw [if_pos (by omega), show ((i' : Nat) : Int).toNat = i' by omega, if_pos (nx_m h1 (by omega)), show (i' : Int) + 1 = ((i' + 1 : Nat) : Int) by omega]
      exact ⟨by omega, by omega, ih (i' + 1) d2 (by omega) (by omega)⟩
  refine b159 ?_
  rw [show (if 0 < (i : Int) then (i : Int) else 0) = (i : Int) by split <;> omega]
  exact L (nx (σ (a + 1)) n i - i) i _ (Nat.le_refl _) (by omega)
theorem l94 {P nb na : Nat} {σ0 : Sg} (hP : isPatch P = true) (h1 : σ0 (P + 1) 1 = (nb : Nat)) (h3 : σ0 (P + 3) 1 = (na : Nat)) (h5 : σ0 (P + 5) 1 = (nb : Nat)) (h7 : σ0 (P + 7) 1 = (na : Nat)) (w5 : wR σ0 (P + 5)) (w7 : wR σ0 (P + 7)) (V : VF (σ0 (P + 6)) nb na) (K : IV (σ0 (P + 6)) (σ0 (P + 8)) nb na) : ∀ (w i j : Nat) (d3 d4 : Option AV) (σ : Sg) (m : List Int), (∀ c k, P + 1 ≤ c → c ≤ P + 8 → σ c k = σ0 c k) → Rw σ (P + 9) m → m.length + 4 * (hkF (σ0 (P + 6)) nb na w i j).length ≤ cap (P + 9) → (nb - i) + (na - j) ≤ w → VI (σ0 (P + 6)) nb na i j → (∀ k, k < i → k < nb → ¬ σ0 (P + 6) k = -1 → σ0 (P + 6) k < j) → ∃ s, C94_11 P i j d3 d4 σ (rV s) ∧ Rw s (P + 9) (m ++ fl4 (hkF (σ0 (P + 6)) nb na w i j)) ∧ ∀ c k, ¬ c = P + 9 → ¬ c = P + 10 → s c k = σ c k := by
  have hc5 := cap_le w5.1
  have hc7 := cap_le w7.1
  have w52 := w5.2.2
  have w72 := w7.2.2
  have q9 := pat_9 hP
  have fin : ∀ (i j : Nat) (d3 d4 : Option AV) (σ : Sg), (∀ c k, P + 1 ≤ c → c ≤ P + 8 → σ c k = σ0 c k) → nb ≤ i → na ≤ j → C94_11 P i j d3 d4 σ (rV σ) := by
    intro i j d3 d4 σ hs hi hj
    refine b94_11 hP ⟨_, _, d146 (pat_1 hP), ?_⟩
    rw [hs _ _ (by omega) (by omega), h1, if_pos (by omega)]
    refine ⟨_, _, d146 (pat_3 hP), ?_⟩
    rw [hs _ _ (by omega) (by omega), h3, if_neg (by omega)]
  intro w
  induction w with
  | zero =>
    intro i j d3 d4 σ m hs hm hr hw hi hj
    refine ⟨σ, fin i j d3 d4 σ hs (by omega) (by omega), ?_, fun _ _ _ _ => rfl⟩
    rw [show hkF (σ0 (P + 6)) nb na 0 i j = [] from rfl, show fl4 [] = [] from rfl, List.append_nil]
    exact hm
  | succ w ih =>
    intro i j d3 d4 σ m hs hm hr hw hi hj
    by_cases e1 : i < nb ∨ j < na
    · have hi' := hi
      obtain ⟨g1, g2, g3⟩ := hi'
      have to33 : ∀ {o : Rs}, C94_33 P i j d3 d4 σ o → C94_11 P i j d3 d4 σ o := by
        intro o hh
        refine b94_11 hP ⟨_, _, d146 (pat_1 hP), ?_⟩
        rw [hs _ _ (by omega) (by omega), h1]
        by_cases y : i < nb
        · rw [if_neg (by omega)]; exact hh
        · rw [if_pos (by omega)]
          refine ⟨_, _, d146 (pat_3 hP), ?_⟩
          rw [hs _ _ (by omega) (by omega), h3, if_pos (by omega)]
          exact hh
      have s6 : σ (P + 5 + 1) = σ0 (P + 6) := funext fun k => hs _ _ (by omega) (by omega)
      have s8 : σ (P + 7 + 1) = σ0 (P + 8) := funext fun k => hs _ _ (by omega) (by omega)
      have d5 := d159 (σ := σ) (a := P + 5) (n := nb) ⟨w5.1, by rw [hs _ _ (by omega) (by omega)]; exact w5.2⟩ (by rw [hs _ _ (by omega) (by omega)]; exact h5) g1
      have d7 := d159 (σ := σ) (a := P + 7) (n := na) ⟨w7.1, by rw [hs _ _ (by omega) (by omega)]; exact w7.2⟩ (by rw [hs _ _ (by omega) (by omega)]; exact h7) g2
      rw [s6] at d5
      rw [s8] at d7
      have hK : ∀ k, j ≤ k → k < na → ¬ σ0 (P + 8) k = -1 → ∃ i' : Nat, i ≤ i' ∧ i' < nb ∧ σ0 (P + 6) i' = (k : Int) := by
        intro k k1 k2 k3
        rcases K.1 k k2 with z | z
        · exact absurd z k3
        · refine ⟨(σ0 (P + 8) k).toNat, ?_, by omega, z.2.2⟩
          by_cases y : (σ0 (P + 8) k).toNat < i
          · have := hj _ y (by omega) (by rw [z.2.2]; omega)
            rw [z.2.2] at this
            omega
          · omega
      rw [hkF_s, if_pos e1] at hr ⊢
      by_cases e2 : i < nb ∧ σ0 (P + 6) i = (j : Int)
      · rw [if_pos e2] at hr ⊢
        have v := V.1 i e2.1
        have x1 : nx (σ0 (P + 6)) nb i = i := nx_u (Nat.le_refl _) g1 (fun k k1 k2 => by omega) (fun _ => by omega)
        have x2 : nx (σ0 (P + 8)) na j = j := nx_u (Nat.le_refl _) g2 (fun k k1 k2 => by omega) (fun _ => by
          have := K.2 i e2.1 (by omega)
          rw [e2.2, show ((j : Int)).toNat = j by omega] at this
          omega)
        rw [x1] at d5
        rw [x2] at d7
        obtain ⟨s, a1, a2, a3⟩ := ih (i + 1) (j + 1) (some (vI i)) (some (vI j)) σ m hs hm hr (by omega) (VI_s V hi e2.1 e2.2) (fun k k1 k2 k3 => by
          by_cases y : k = i
          · rw [y, e2.2]; omega
          · have := hj k (by omega) k2 k3
            omega)
        refine ⟨s, to33 (b94_33 hP ⟨_, _, d5, _, _, d7, ?_⟩), a2, a3⟩
        rw [if_pos (Int.le_refl _), if_neg (by omega)]
        refine b94_102 ⟨by omega, by omega, ?_⟩
        rw [show (i : Int) + 1 = ((i + 1 : Nat) : Int) by omega, show (j : Int) + 1 = ((j + 1 : Nat) : Int) by omega]
        exact a1
      · rw [if_neg e2] at hr ⊢
        obtain ⟨u1, u2, u3, u4⟩ := VI_h V hi e1 e2
        have n1 := nx_ge (f := σ0 (P + 6)) (nb := nb) (i := i)
        have n2 := nx_le (f := σ0 (P + 6)) g1
        have n3 := u1.2.1
        have x2 : nx (σ0 (P + 8)) na j = j2F (σ0 (P + 6)) nb na i := by
          refine nx_u u3 n3 (fun k k1 k2 => ?_) (fun hx => ?_)
          · by_cases y : σ0 (P + 8) k = -1
            · exact y
            · exfalso
              obtain ⟨i', z1, z2, z3⟩ := hK k k1 (by omega) y
              by_cases t : i' < nx (σ0 (P + 6)) nb i
              · have := nx_m z1 t
                omega
              · have := u1.2.2 i' (by omega) z2 (by omega)
                omega
          · rcases u4 with u4 | u4
            · have := K.2 _ u4.1 (by omega)
              rw [u4.2, show ((j2F (σ0 (P + 6)) nb na i : Nat) : Int).toNat = j2F (σ0 (P + 6)) nb na i by omega] at this
              omega
            · omega
        rw [x2] at d7
        rw [List.length_cons] at hr
        -- the four numbers
        have hc9 := cap_le q9
        obtain ⟨q, hq⟩ : ∃ q : Nat × Nat × Nat × Nat, q = (i, nx (σ0 (P + 6)) nb i - i, j, j2F (σ0 (P + 6)) nb na i - j) := ⟨_, rfl⟩
        have r1 := Rw_ad (v := (i : Int)) hm (by omega)
        have r2 := Rw_ad (v := ((nx (σ0 (P + 6)) nb i : Nat) : Int) - i) r1 (by rw [List.length_append]; simp; omega)
        have r3 := Rw_ad (v := (j : Int)) r2 (by rw [List.length_append, List.length_append]; simp; omega)
        have r4 := Rw_ad (v := ((j2F (σ0 (P + 6)) nb na i : Nat) : Int) - j) r3 (by rw [List.length_append, List.length_append, List.length_append]; simp; omega)
        have ww : ∀ {σ' : Sg} {l : List Int}, Rw σ' (P + 9) l → l.length ≤ cap (P + 9) → wR σ' (P + 9) := fun h hl => Rw_wR q9 h hl
        have t65 : ∀ {o : Rs}, C94_102 P (some (vI i)) (some (vI j)) (nx (σ0 (P + 6)) nb i : Nat) (j2F (σ0 (P + 6)) nb na i : Nat) (adS (adS (adS (adS σ (P + 9) i) (P + 9) (((nx (σ0 (P + 6)) nb i : Nat) : Int) - i)) (P + 9) j) (P + 9) (((j2F (σ0 (P + 6)) nb na i : Nat) : Int) - j)) o → C94_65 P i j (nx (σ0 (P + 6)) nb i : Nat) (j2F (σ0 (P + 6)) nb na i : Nat) σ o := by
          intro o hh
          exact b94_65 hP ⟨_, d149 (ww hm (by omega)), by omega, _, d149 (ww r1 (by rw [List.length_append]; simp; omega)), _, d149 (ww r2 (by rw [List.length_append, List.length_append]; simp; omega)), by omega, _, d149 (ww r3 (by rw [List.length_append, List.length_append, List.length_append]; simp; omega)), hh⟩
        have toB : ∀ {o : Rs}, C94_102 P (some (vI i)) (some (vI j)) (nx (σ0 (P + 6)) nb i : Nat) (j2F (σ0 (P + 6)) nb na i : Nat) (adS (adS (adS (adS σ (P + 9) i) (P + 9) (((nx (σ0 (P + 6)) nb i : Nat) : Int) - i)) (P + 9) j) (P + 9) (((j2F (σ0 (P + 6)) nb na i : Nat) : Int) - j)) o → C94_11 P i j d3 d4 σ o := by
          intro o hh
          refine to33 (b94_33 hP ⟨_, _, d5, _, _, d7, ?_⟩)
          by_cases y : ((nx (σ0 (P + 6)) nb i : Nat) : Int) ≤ i
          · rw [if_pos y, if_pos (by
              rcases u4 with u4 | u4
              · have : nx (σ0 (P + 6)) nb i = i := by omega
                rw [this] at u4
                have : ¬ j2F (σ0 (P + 6)) nb na i = j := fun z => e2 ⟨u4.1, by rw [u4.2, z]⟩
                omega
              · omega)]
            exact t65 hh
          · rw [if_neg y]
            exact t65 hh
        have rf : ∀ c k, ¬ c = P + 9 → ¬ c = P + 10 → adS (adS (adS (adS σ (P + 9) i) (P + 9) (((nx (σ0 (P + 6)) nb i : Nat) : Int) - i)) (P + 9) j) (P + 9) (((j2F (σ0 (P + 6)) nb na i : Nat) : Int) - j) c k = σ c k := fun c k y1 y2 => by rw [ad_off y1 (by omega), ad_off y1 (by omega), ad_off y1 (by omega), ad_off y1 (by omega)]
        have r5 : Rw (adS (adS (adS (adS σ (P + 9) i) (P + 9) (((nx (σ0 (P + 6)) nb i : Nat) : Int) - i)) (P + 9) j) (P + 9) (((j2F (σ0 (P + 6)) nb na i : Nat) : Int) - j)) (P + 9) (m ++ [(i : Int), ((nx (σ0 (P + 6)) nb i - i : Nat) : Int), (j : Int), ((j2F (σ0 (P + 6)) nb na i - j : Nat) : Int)]) := by
          rw [List.append_assoc, List.append_assoc, List.append_assoc] at r4
          rw [show ((nx (σ0 (P + 6)) nb i - i : Nat) : Int) = ((nx (σ0 (P + 6)) nb i : Nat) : Int) - i by omega, show ((j2F (σ0 (P + 6)) nb na i - j : Nat) : Int) = ((j2F (σ0 (P + 6)) nb na i : Nat) : Int) - j by omega]
          exact r4
        generalize (adS (adS (adS (adS σ (P + 9) i) (P + 9) (((nx (σ0 (P + 6)) nb i : Nat) : Int) - i)) (P + 9) j) (P + 9) (((j2F (σ0 (P + 6)) nb na i : Nat) : Int) - j)) = σ1 at toB rf r5
        clear r1 r2 r3 r4 t65
        have hs1 : ∀ c k, P + 1 ≤ c → c ≤ P + 8 → σ1 c k = σ0 c k := fun c k y1 y2 => by rw [rf c k (by omega) (by omega)]; exact hs c k y1 y2
        have hcons : fl4 ((i, nx (σ0 (P + 6)) nb i - i, j, j2F (σ0 (P + 6)) nb na i - j) :: hkF (σ0 (P + 6)) nb na w (nx (σ0 (P + 6)) nb i) (j2F (σ0 (P + 6)) nb na i)) = [(i : Int), ((nx (σ0 (P + 6)) nb i - i : Nat) : Int), (j : Int), ((j2F (σ0 (P + 6)) nb na i - j : Nat) : Int)] ++ fl4 (hkF (σ0 (P + 6)) nb na w (nx (σ0 (P + 6)) nb i) (j2F (σ0 (P + 6)) nb na i)) := rfl
        rw [hcons, ← List.append_assoc]
        rcases u4 with u4 | u4
        · -- a pair follows
          have ef : hkF (σ0 (P + 6)) nb na w (nx (σ0 (P + 6)) nb i) (j2F (σ0 (P + 6)) nb na i) = hkF (σ0 (P + 6)) nb na w (nx (σ0 (P + 6)) nb i + 1) (j2F (σ0 (P + 6)) nb na i + 1) := by
            cases w with
            | zero => exact absurd u4.1 (by omega)
            | succ w =>
              rw [hkF_s, if_pos (Or.inl u4.1), if_pos u4]
              exact (hkF_fuel V w _ _ (VI_s V u1 u4.1 u4.2) (by omega)).symm
          rw [ef] at hr ⊢
          obtain ⟨s, a1, a2, a3⟩ := ih (nx (σ0 (P + 6)) nb i + 1) (j2F (σ0 (P + 6)) nb na i + 1) (some (vI (nx (σ0 (P + 6)) nb i : Nat))) (some (vI (j2F (σ0 (P + 6)) nb na i : Nat))) σ1 _ hs1 r5 (by rw [List.length_append]; simp; omega) (by omega) (VI_s V u1 u4.1 u4.2) (fun k k1 k2 k3 => by
            by_cases y : k = nx (σ0 (P + 6)) nb i
            · rw [y, u4.2]; omega
            · by_cases y2 : k < i
              · have := hj k y2 k2 k3
                omega
              · exact absurd (nx_m (by omega) (by omega)) k3)
          refine ⟨s, toB (b94_102 ⟨by omega, by omega, ?_⟩), a2, fun c k y1 y2 => by rw [a3 c k y1 y2, rf c k y1 y2]⟩
          rw [show ((nx (σ0 (P + 6)) nb i : Nat) : Int) + 1 = ((nx (σ0 (P + 6)) nb i + 1 : Nat) : Int) by omega, show ((j2F (σ0 (P + 6)) nb na i : Nat) : Int) + 1 = ((j2F (σ0 (P + 6)) nb na i + 1 : Nat) : Int) by omega]
          exact a1
        · have ee : hkF (σ0 (P + 6)) nb na w (nx (σ0 (P + 6)) nb i) (j2F (σ0 (P + 6)) nb na i) = [] := hkF_e (by omega) w
          rw [ee, show fl4 [] = [] from rfl, List.append_nil]
          refine ⟨σ1, toB (b94_102 ⟨by omega, by omega, ?_⟩), r5, rf⟩
          have := fin (nx (σ0 (P + 6)) nb i + 1) (j2F (σ0 (P + 6)) nb na i + 1) (some (vI (nx (σ0 (P + 6)) nb i : Nat))) (some (vI (j2F (σ0 (P + 6)) nb na i : Nat))) σ1 hs1 (by omega) (by omega)
          rw [show ((nx (σ0 (P + 6)) nb i : Nat) : Int) + 1 = ((nx (σ0 (P + 6)) nb i + 1 : Nat) : Int) by omega, show ((j2F (σ0 (P + 6)) nb na i : Nat) : Int) + 1 = ((j2F (σ0 (P + 6)) nb na i + 1 : Nat) : Int) by omega]
          exact this
    · rw [hkF_e e1, show fl4 [] = [] from rfl, List.append_nil]
      exact ⟨σ, fin i j d3 d4 σ hs (by omega) (by omega), hm, fun _ _ _ _ => rfl⟩
/-- the pieces of a patch are its hunks -/
def PCS (σ : Sg) (P nb na : Nat) : Prop := σ (P + 9) 1 = 4 * ((hks (σ (P + 6)) nb na).length : Nat) ∧ ∀ h : Nat, ∀ q, (hks (σ (P + 6)) nb na)[h]? = some q → σ (P + 10) (4 * h) = (q.1 : Nat) ∧ σ (P + 10) (4 * h + 1) = (q.2.1 : Nat) ∧ σ (P + 10) (4 * h + 2) = (q.2.2.1 : Nat) ∧ σ (P + 10) (4 * h + 3) = (q.2.2.2 : Nat)
/-- Patch.finish -/
theorem d94 {P nb na : Nat} {σ : Sg} (hP : isPatch P = true) (h1 : σ (P + 1) 1 = (nb : Nat)) (h3 : σ (P + 3) 1 = (na : Nat)) (h5 : σ (P + 5) 1 = (nb : Nat)) (h7 : σ (P + 7) 1 = (na : Nat)) (w5 : wR σ (P + 5)) (w7 : wR σ (P + 7)) (V : VF (σ (P + 6)) nb na) (K : IV (σ (P + 6)) (σ (P + 8)) nb na) (hc : 4 * (nb + 1) ≤ cap (P + 9)) : ∃ s, Dd 94 [vA P] σ (rV s) ∧ PCS s P nb na ∧ wR s (P + 9) ∧ ∀ c k, ¬ c = P + 9 → ¬ c = P + 10 → s c k = σ c k := by
  have hl := hks_len V
  have q9 := pat_9 hP
  have e6 : upS σ (P + 9) 1 0 (P + 6) = σ (P + 6) := funext fun k => up_a (by omega)
  have e8 : upS σ (P + 9) 1 0 (P + 8) = σ (P + 8) := funext fun k => up_a (by omega)
  obtain ⟨s, a1, a2, a3⟩ := l94 (σ0 := upS σ (P + 9) 1 0) hP (by rw [up_a (by omega)]; exact h1) (by rw [up_a (by omega)]; exact h3) (by rw [up_a (by omega)]; exact h5) (by rw [up_a (by omega)]; exact h7) ⟨w5.1, by rw [up_a (by omega)]; exact w5.2⟩ ⟨w7.1, by rw [up_a (by omega)]; exact w7.2⟩ (by rw [e6]; exact V) (by rw [e6, e8]; exact K) (nb + na) 0 0 none none (upS σ (P + 9) 1 0) [] (fun _ _ _ _ => rfl) Rw_nil (by
    rw [e6]
    have : (hkF (σ (P + 6)) nb na (nb + na) 0 0).length ≤ nb + 1 := hl
    simp
    omega) (by omega) (by rw [e6]; exact VI_0 V) (fun k k1 => absurd k1 (Nat.not_lt_zero k))
  rw [List.nil_append, e6] at a2
  have s6 : s (P + 6) = σ (P + 6) := funext fun k => by rw [a3 _ _ (by omega) (by omega), up_a (by omega)]
  refine ⟨s, b94 hP ⟨_, d152 q9, a1⟩, ⟨?_, fun h q hq => ?_⟩, ?_, fun c k y1 y2 => by rw [a3 c k y1 y2, up_a y1]⟩
  · rw [s6, a2.1, fl4_len]
    have : hks (σ (P + 6)) nb na = hkF (σ (P + 6)) nb na (nb + na) 0 0 := rfl
    rw [this]
    omega
  · rw [s6] at hq
    obtain ⟨z0, z1, z2, z3⟩ := fl4_get _ h q hq
    exact ⟨a2.2 _ _ z0, a2.2 _ _ z1, a2.2 _ _ z2, a2.2 _ _ z3⟩
  · refine Rw_wR q9 a2 ?_
    rw [fl4_len]
    have : (hkF (σ (P + 6)) nb na (nb + na) 0 0).length ≤ nb + 1 := hl
    omega
end
-- DRAFT 81.build2.lean
/-! Patch.build, and a patch that is stored. -/
noncomputable section
theorem fl_sz {σ : Sg} {a : Nat} {n v : Int} (h0 : 0 ≤ n) (hc : n ≤ (cap a : Int)) : flS σ a n v a 1 = n := by
  unfold flS flS1
  rw [if_neg (by omega), up_s, if_neg (show ¬ (cap a : Int) < n by omega)]
  split <;> omega
theorem fl_off {σ : Sg} {a c k : Nat} {n v : Int} (h1 : ¬ c = a) (h2 : ¬ c = a + 1) : flS σ a n v c k = σ c k := by
  unfold flS flS1
  rw [if_neg (fun e => h2 e.1), up_a h1]
theorem fl_val {σ : Sg} {a k : Nat} {n v : Int} (h0 : 0 ≤ n) (hc : n ≤ (cap a : Int)) (hk : (k : Int) < n) : flS σ a n v (a + 1) k = v := by
  have e := fl_sz (σ := σ) (v := v) h0 hc
  unfold flS flS1 at e
  unfold flS flS1
  rw [if_neg (by omega)] at e
  rw [e, if_pos ⟨rfl, by omega, hk⟩]
/-- a patch in order, but for its lines -/
def NP (σ : Sg) (P nb na : Nat) : Prop := σ (P + 1) 1 = (nb : Nat) ∧ σ (P + 3) 1 = (na : Nat) ∧ σ (P + 5) 1 = (nb : Nat) ∧ σ (P + 7) 1 = (na : Nat) ∧ VF (σ (P + 6)) nb na ∧ IV (σ (P + 6)) (σ (P + 8)) nb na ∧ PCS σ P nb na
theorem PO_of {σ : Sg} {P nb na : Nat} {m : Int} (N : NP σ P nb na) (hb : (nb : Int) ≤ m) (ha : (na : Int) ≤ m) (he : ∀ i : Nat, i < nb → ¬ σ (P + 6) i = -1 → σ (P + 2) i = σ (P + 4) (σ (P + 6) i).toNat) (l1 : ∀ i : Nat, i < nb → isLn (σ (P + 2) i) = true) (l2 : ∀ i : Nat, i < na → isLn (σ (P + 4) i) = true) : PO σ P m := by
  obtain ⟨n1, n3, n5, n7, V, K, C1, C2⟩ := N
  refine ⟨by omega, by omega, by omega, by omega, fun i hi => ?_, fun j hj => ?_, fun i i' h1 h2 h3 h4 => V.2 i i' h1 (by omega) h3 h4, fun i hi => l1 i (by omega), fun i hi => l2 i (by omega), ?_⟩
  · by_cases e : σ (P + 6) i = -1
    · exact Or.inl e
    · rcases V.1 i (by omega) with z | z
      · exact absurd z e
      · exact Or.inr ⟨z.1, by omega, K.2 i (by omega) e, he i (by omega) e⟩
  · rcases K.1 j (by omega) with z | z
    · exact Or.inl z
    · exact Or.inr ⟨z.1, by omega, z.2.2⟩
  · rw [n1, n3, show ((nb : Nat) : Int).toNat = nb by omega, show ((na : Nat) : Int).toNat = na by omega]
    exact ⟨C1, C2⟩
theorem NP_of {σ : Sg} {P : Nat} {m : Int} (H : PO σ P m) {nb na : Nat} (h1 : σ (P + 1) 1 = (nb : Nat)) (h3 : σ (P + 3) 1 = (na : Nat)) : NP σ P nb na := by
  obtain ⟨o1, o2, o3, o4, o5, o6, o7, o8, o9, o10⟩ := H
  rw [h1, h3, show ((nb : Nat) : Int).toNat = nb by omega, show ((na : Nat) : Int).toNat = na by omega] at o10
  refine ⟨h1, h3, by omega, by omega, ⟨fun i hi => ?_, fun i i' a b c d => o7 i i' a (by omega) c d⟩, ⟨fun j hj => ?_, fun i hi e => ?_⟩, o10⟩
  · rcases o5 i (by omega) with z | z
    · exact Or.inl z
    · exact Or.inr ⟨z.1, by omega⟩
  · rcases o6 j (by omega) with z | z
    · exact Or.inl z
    · exact Or.inr ⟨z.1, by omega, z.2.2⟩
  · rcases o5 i (by omega) with z | z
    · exact absurd z e
    · exact z.2.2.1
theorem l95 {P x3 nb na : Nat} {F : Nat → Int} (hP : isPatch P = true) (h3 : isRow x3 = true) (hc : nb ≤ cap x3) (hx : x3 < P ∨ P + 12 < x3) (V : VF F nb na) (hc7 : na ≤ cap (P + 7)) {d1 d2 : Option AV} : ∀ (d i : Nat) (σ : Sg), i + d = nb → σ x3 1 = (nb : Nat) → (∀ k, k < nb → σ (x3 + 1) k = F k) → σ (P + 7) 1 = (na : Nat) → (∀ j : Nat, j < na → σ (P + 8) j = -1 ∨ (0 ≤ σ (P + 8) j ∧ σ (P + 8) j < i ∧ F (σ (P + 8) j).toNat = j)) → (∀ k : Nat, k < i → ¬ F k = -1 → σ (P + 8) (F k).toNat = k) → ∃ s, (∀ {o : Rs}, (∃ s10, Dd 94 [vA P] s (.inl none, s10) ∧ o = (.inl none, s10)) → C95_39 P d1 d2 x3 i σ o) ∧ (∀ j : Nat, j < na → s (P + 8) j = -1 ∨ (0 ≤ s (P + 8) j ∧ s (P + 8) j < nb ∧ F (s (P + 8) j).toNat = j)) ∧ (∀ k : Nat, k < nb → ¬ F k = -1 → s (P + 8) (F k).toNat = k) ∧ ∀ c k, ¬ c = P + 8 → s c k = σ c k := by
  have hcl := cap_le h3
  intro d
  induction d with
  | zero =>
    intro i σ hi hs hf h7 b1 b2
    have e : i = nb := by omega
    subst e
    refine ⟨σ, fun {o} hh => b95_39 h3 hP ⟨_, _, d146 h3, ?_⟩, b1, b2, fun _ _ _ => rfl⟩
    rw [if_neg (by omega)]
    exact hh
  | succ d ih =>
    intro i σ hi hs hf h7 b1 b2
    have hv : atS σ x3 (i : Int) = F i := by
      unfold atS
      rw [if_pos (by omega), show ((i : Int)).toNat = i by omega]
      exact hf i (by omega)
    have d147' := d147 (i := (i : Int)) (show wR σ x3 from ⟨h3, by omega, by omega⟩)
    rw [hv] at d147'
    have d148' := d148 (i := F i) (v := (i : Int)) (show wR σ (P + 7) from ⟨pat_7 hP, by omega, by omega⟩)
    have go : ∀ {o : Rs}, C95_39 P d1 d2 x3 ((i + 1 : Nat) : Int) (stS σ (P + 7) (F i) i) o → C95_39 P d1 d2 x3 i σ o := by
      intro o hh
      refine b95_39 h3 hP ⟨_, _, d146 h3, ?_⟩
      rw [if_pos (by omega)]
      rw [show (((i + 1 : Nat)) : Int) = (i : Int) + 1 by omega] at hh
      exact ⟨_, _, d147', _, d148', by omega, hh⟩
    rcases V.1 i (by omega) with z | z
    · have est : stS σ (P + 7) (F i) i = σ := by
        unfold stS
        rw [if_neg (by omega)]
      rw [est] at go
      obtain ⟨s, a1, a2, a3, a4⟩ := ih (i + 1) σ (by omega) hs hf h7 (fun j hj => by
        rcases b1 j hj with y | y
        · exact Or.inl y
        · exact Or.inr ⟨y.1, by omega, y.2.2⟩) (fun k hk e => by
        by_cases y : k = i
        · rw [y] at e; exact absurd z e
        · exact b2 k (by omega) e)
      exact ⟨s, fun {o} hh => go (a1 hh), a2, a3, a4⟩
    · have est : stS σ (P + 7) (F i) i = upS σ (P + 8) (F i).toNat i := by
        unfold stS
        rw [if_pos (by omega)]
      rw [est] at go
      obtain ⟨s, a1, a2, a3, a4⟩ := ih (i + 1) (upS σ (P + 8) (F i).toNat i) (by omega) (by rw [up_a (by omega)]; exact hs) (fun k hk => by rw [up_a (by omega)]; exact hf k hk) (by rw [up_a (by omega)]; exact h7) (fun j hj => by
        by_cases y : j = (F i).toNat
        · rw [y, up_s]
          exact Or.inr ⟨by omega, by omega, by rw [show ((i : Int)).toNat = i by omega]; omega⟩
        · rw [up_k y]
          rcases b1 j hj with y | y
          · exact Or.inl y
          · exact Or.inr ⟨y.1, by omega, y.2.2⟩) (fun k hk e => by
        by_cases y : k = i
        · rw [y, up_s]
        · have hk2 : k < i := by omega
          have := V.2 k i hk2 (by omega) e (by omega)
          have zk := V.1 k (by omega)
          rw [up_k (by omega)]
          exact b2 k hk2 e)
      exact ⟨s, fun {o} hh => go (a1 hh), a2, a3, fun c k h => by rw [a4 c k h, up_a h]⟩
/-- Patch.build -/
theorem d95 {P x1 x2 x3 nb na : Nat} {σ : Sg} (hP : isPatch P = true) (w1 : wR σ x1) (w2 : wR σ x2) (w3 : wR σ x3) (h1 : σ x1 1 = (nb : Nat)) (h2 : σ x2 1 = (na : Nat)) (h3 : σ x3 1 = (nb : Nat)) (V : VF (σ (x3 + 1)) nb na) (hc1 : nb ≤ cap (P + 1)) (hc3 : na ≤ cap (P + 3)) (hc5 : nb ≤ cap (P + 5)) (hc7 : na ≤ cap (P + 7)) (hc9 : 4 * (nb + 1) ≤ cap (P + 9)) (e1 : x1 < P ∨ P + 12 < x1) (e2 : x2 < P ∨ P + 12 < x2) (e3 : x3 < P ∨ P + 12 < x3) : ∃ s, Dd 95 [vA P, vA x1, vA x2, vA x3] σ (rV s) ∧ NP s P nb na ∧ wR s (P + 9) ∧ (∀ i, i < nb → s (P + 2) i = σ (x1 + 1) i) ∧ (∀ i, i < na → s (P + 4) i = σ (x2 + 1) i) ∧ (∀ i, i < nb → s (P + 6) i = σ (x3 + 1) i) ∧ ∀ c k, ¬ (P + 1 ≤ c ∧ c ≤ P + 10) → s c k = σ c k := by
  have q1 := pat_1 hP
  have q3 := pat_3 hP
  have q5 := pat_5 hP
  have q7 := pat_7 hP
  have n1 : ¬ x1 + 1 = P := fun e => by
    have := row_nx w1.1 (show isRow (x1 + 1) = true by
      rw [e]
      exfalso
      have hq := hP
      unfold isPatch at hq
      simp only [Bool.and_eq_true, decide_eq_true_eq] at hq
      have hr := w1.1
      unfold isRow at hr
      simp only [Bool.and_eq_true, decide_eq_true_eq] at hr
      rw [e] at hr
      have e := hq.1.symm.trans hr.2
      simp at e)
    exact this rfl
  have n2 : ¬ x2 + 1 = P := fun e => by
    have := row_nx w2.1 (show isRow (x2 + 1) = true by
      rw [e]
      exfalso
      have hq := hP
      unfold isPatch at hq
      simp only [Bool.and_eq_true, decide_eq_true_eq] at hq
      have hr := w2.1
      unfold isRow at hr
      simp only [Bool.and_eq_true, decide_eq_true_eq] at hr
      rw [e] at hr
      have e := hq.1.symm.trans hr.2
      simp at e)
    exact this rfl
  have n3 : ¬ x3 + 1 = P := fun e => by
    have := row_nx w3.1 (show isRow (x3 + 1) = true by
      rw [e]
      exfalso
      have hq := hP
      unfold isPatch at hq
      simp only [Bool.and_eq_true, decide_eq_true_eq] at hq
      have hr := w3.1
      unfold isRow at hr
      simp only [Bool.and_eq_true, decide_eq_true_eq] at hr
      rw [e] at hr
      have e := hq.1.symm.trans hr.2
      simp at e)
    exact this rfl
  obtain ⟨s1, es1⟩ : ∃ s1, s1 = bcS σ (P + 1) x1 := ⟨_, rfl⟩
  have f1 : ∀ c k, ¬ c = P + 1 → ¬ c = P + 2 → s1 c k = σ c k := fun c k a b => by rw [es1]; exact bc_off a b
  obtain ⟨s2, es2⟩ : ∃ s2, s2 = bcS s1 (P + 3) x2 := ⟨_, rfl⟩
  have f2 : ∀ c k, ¬ c = P + 3 → ¬ c = P + 4 → s2 c k = s1 c k := fun c k a b => by rw [es2]; exact bc_off a b
  obtain ⟨s3, es3⟩ : ∃ s3, s3 = bcS s2 (P + 5) x3 := ⟨_, rfl⟩
  have f3 : ∀ c k, ¬ c = P + 5 → ¬ c = P + 6 → s3 c k = s2 c k := fun c k a b => by rw [es3]; exact bc_off a b
  obtain ⟨s4, es4⟩ : ∃ s4, s4 = flS s3 (P + 7) na (-1) := ⟨_, rfl⟩
  have f4 : ∀ c k, ¬ c = P + 7 → ¬ c = P + 8 → s4 c k = s3 c k := fun c k a b => by rw [es4]; exact fl_off a b
  have g2 : ∀ k, s1 x2 k = σ x2 k := fun k => f1 _ _ (by omega) (by omega)
  have g3 : ∀ k, s2 x3 k = σ x3 k := fun k => by rw [f2 _ _ (by omega) (by omega), f1 _ _ (by omega) (by omega)]
  have v1 : s1 (P + 1) 1 = (nb : Nat) := by rw [es1, bc_sz (by omega)]; exact h1
  have v1' : ∀ i, i < nb → s1 (P + 2) i = σ (x1 + 1) i := fun i hi => by rw [es1]; exact bc_val (by omega) (by omega) (by omega)
  have v2 : s2 (P + 3) 1 = (na : Nat) := by rw [es2, bc_sz (by rw [g2]; omega), g2]; exact h2
  have v2' : ∀ i, i < na → s2 (P + 4) i = σ (x2 + 1) i := fun i hi => by
    rw [es2, bc_val (a := P + 3) (by rw [g2]; omega) (by omega) (by rw [g2]; omega), f1 _ _ (by omega) (by omega)]
  have v3 : s3 (P + 5) 1 = (nb : Nat) := by rw [es3, bc_sz (by rw [g3]; omega), g3]; exact h3
  have v3' : ∀ i, i < nb → s3 (P + 6) i = σ (x3 + 1) i := fun i hi => by
    rw [es3, bc_val (a := P + 5) (by rw [g3]; omega) (by omega) (by rw [g3]; omega), f2 _ _ (by omega) (by omega), f1 _ _ (by omega) (by omega)]
  have v4 : s4 (P + 7) 1 = (na : Nat) := by rw [es4]; exact fl_sz (by omega) (by omega)
  have v4' : ∀ i : Nat, i < na → s4 (P + 8) i = -1 := fun i hi => by rw [es4]; exact fl_val (a := P + 7) (by omega) (by omega) (by omega)
  have gx : ∀ c k, ¬ (P + 1 ≤ c ∧ c ≤ P + 8) → s4 c k = σ c k := fun c k h => by rw [f4 c k (by omega) (by omega), f3 c k (by omega) (by omega), f2 c k (by omega) (by omega), f1 c k (by omega) (by omega)]
  have r1 := d155 (σ := σ) (a := P + 1) q1 w1
  have r2 := d155 (σ := s1) (a := P + 3) (b := x2) q3 ⟨w2.1, by rw [g2]; exact w2.2⟩
  have r3 := d155 (σ := s2) (a := P + 5) (b := x3) q5 ⟨w3.1, by rw [g3]; exact w3.2⟩
  have r4 := d153 (σ := s3) (a := P + 7) (n := na) (v := -1) q7
  have r5 := d146 (σ := s3) w2.1
  rw [f3 _ _ (by omega) (by omega), f2 _ _ (by omega) (by omega), g2, h2] at r5
  rw [← es1] at r1
  rw [← es2] at r2
  rw [← es3] at r3
  rw [← es4] at r4
  have w33 := w3.2.2
  obtain ⟨s5, a1, a2, a3, a4⟩ := l95 (F := σ (x3 + 1)) (na := na) hP w3.1 (by omega) (by omega) V hc7 (d1 := some (vA x1)) (d2 := some (vA x2)) nb 0 s4 (by omega) (by rw [gx _ _ (by omega)]; exact h3) (fun k hk => gx _ _ (by omega)) v4 (fun j hj => Or.inl (v4' j hj)) (fun k hk => absurd hk (Nat.not_lt_zero k))
  have u6 : ∀ i, i < nb → s5 (P + 6) i = σ (x3 + 1) i := fun i hi => by rw [a4 _ _ (by omega), f4 _ _ (by omega) (by omega)]; exact v3' i hi
  have V5 : VF (s5 (P + 6)) nb na := ⟨fun i hi => by rw [u6 i hi]; exact V.1 i hi, fun i i' z1 z2 z3 z4 => by
    rw [u6 i (by omega)] at z3 ⊢
    rw [u6 i' z2] at z4 ⊢
    exact V.2 i i' z1 z2 z3 z4⟩
  have K5 : IV (s5 (P + 6)) (s5 (P + 8)) nb na := ⟨fun j hj => by
    rcases a2 j hj with z | z
    · exact Or.inl z
    · exact Or.inr ⟨z.1, z.2.1, by rw [u6 _ (by omega)]; exact z.2.2⟩, fun i hi e => by
    rw [u6 i hi] at e ⊢
    exact a3 i hi e⟩
  have t1 : s5 (P + 1) 1 = (nb : Nat) := by rw [a4 _ _ (by omega), f4 _ _ (by omega) (by omega), f3 _ _ (by omega) (by omega), f2 _ _ (by omega) (by omega)]; exact v1
  have t3 : s5 (P + 3) 1 = (na : Nat) := by rw [a4 _ _ (by omega), f4 _ _ (by omega) (by omega), f3 _ _ (by omega) (by omega)]; exact v2
  have t5 : s5 (P + 5) 1 = (nb : Nat) := by rw [a4 _ _ (by omega), f4 _ _ (by omega) (by omega)]; exact v3
  have t7 : s5 (P + 7) 1 = (na : Nat) := by rw [a4 _ _ (by omega)]; exact v4
  obtain ⟨s, c1, c2, c3, c4⟩ := d94 hP t1 t3 t5 t7 ⟨q5, by omega, by omega⟩ ⟨q7, by omega, by omega⟩ V5 K5 hc9
  have s6 : s (P + 6) = s5 (P + 6) := funext fun k => c4 _ _ (by omega) (by omega)
  have s8 : s (P + 8) = s5 (P + 8) := funext fun k => c4 _ _ (by omega) (by omega)
  refine ⟨s, b95 hP w2.1 ⟨_, r1, _, r2, _, r3, _, _, r5, _, r4, a1 ⟨_, c1, rfl⟩⟩, ⟨by rw [c4 _ _ (by omega) (by omega)]; exact t1, by rw [c4 _ _ (by omega) (by omega)]; exact t3, by rw [c4 _ _ (by omega) (by omega)]; exact t5, by rw [c4 _ _ (by omega) (by omega)]; exact t7, by rw [s6]; exact V5, by rw [s6, s8]; exact K5, c2⟩, c3, fun i hi => ?_, fun i hi => ?_, fun i hi => ?_, fun c k h => ?_⟩
  · rw [c4 _ _ (by omega) (by omega), a4 _ _ (by omega), f4 _ _ (by omega) (by omega), f3 _ _ (by omega) (by omega), f2 _ _ (by omega) (by omega)]; exact v1' i hi
  · rw [c4 _ _ (by omega) (by omega), a4 _ _ (by omega), f4 _ _ (by omega) (by omega), f3 _ _ (by omega) (by omega)]; exact v2' i hi
  · rw [c4 _ _ (by omega) (by omega)]; exact u6 i hi
  · rw [c4 c k (by omega) (by omega), a4 c k (by omega)]; exact gx c k (by omega)
/-- a new patch, on both sides -/
theorem Rel_new {σ s1 s2 : Sg} {c : Int} {p : Nat} (H : Rel c σ) (hp : σ 0 3 = (p : Nat)) (h24 : p < 24) (w : WF s1) (c0 : s1 0 3 = (p : Int) + 1) (cf : ∀ a k, a < 682 → KP a k → ¬ (a = 0 ∧ k = 3) → ¬ (20 + 13 * p + 1 ≤ a ∧ a ≤ 20 + 13 * p + 10) → s1 a k = σ a k) (m0 : ∀ a k, a < 682 → s2 a k = s1 a k) (m3 : s2 682 3 = (p : Int) + 1) (mf : ∀ a k, 682 ≤ a → KP a k → ¬ (a = 682 ∧ k = 3) → ¬ (685 ≤ a ∧ a ≤ 687 ∧ 100 * p ≤ k ∧ k < 100 * p + 100) → ¬ ((a = 688 ∨ a = 689) ∧ k = p) → s2 a k = σ a k) (n1 : PR s2 (20 + 13 * p) p) (n2 : PO s2 (20 + 13 * p) 16) : Rel (c + 1) s2 := by
  have hoff : ∀ a k, KP a k → ¬ (a = 0 ∧ k = 3) → ¬ (20 + 13 * p + 1 ≤ a ∧ a ≤ 20 + 13 * p + 10) → ¬ (a = 682 ∧ k = 3) → ¬ (685 ≤ a ∧ a ≤ 687 ∧ 100 * p ≤ k ∧ k < 100 * p + 100) → ¬ ((a = 688 ∨ a = 689) ∧ k = p) → s2 a k = σ a k := by
    intro a k h1 h2 h3 h4 h5 h6
    by_cases h : a < 682
    · rw [m0 a k h]; exact cf a k h h1 h2 h3
    · exact mf a k (by omega) h1 h4 h5 h6
  obtain ⟨h1, h2, h3, h4, h5, h6, h7, h8, h9⟩ := H
  exact ⟨WF_fr m0 w, Zl_fr (fun k => hoff _ _ (by omega) (by omega) (by omega) (by omega) (by omega) (by omega)) h2, RT_fr (fun c k hc => hoff _ _ (by omega) (by omega) (by omega) (by omega) (by omega) (by omega)) h3, RB_fr (fun c k hc => hoff _ _ (by omega) (by omega) (by omega) (by omega) (by omega) (by omega)) h4, RP_new h5 hp h24 (by rw [m0 _ _ (by decide)]; exact c0) m3 (fun c k hc => hoff _ _ (by omega) (by omega) (by omega) (by omega) (by omega) (by omega)) n1 n2, RSt_fr2 (by omega) (fun c k hc => hoff _ _ (by omega) (by omega) (by omega) (by omega) (by omega) (by omega)) h6, RU_fr (fun c k hc => hoff _ _ (by omega) (by omega) (by omega) (by omega) (by omega) (by omega)) h7, RF_fr (fun c k hc => hoff _ _ (by omega) (by omega) (by omega) (by omega) (by omega) (by omega)) h8, RD_fr (fun c k hc => hoff _ _ (by omega) (by omega) (by omega) (by omega) (by omega) (by omega)) h9⟩
end
-- DRAFT 82.inv.lean
/-! A scratch patch that is stored; invert. -/
noncomputable section
theorem WF_np {σ s : Sg} {P nb na : Nat} (H : WF σ) (hP : isPatch P = true) (N : NP s P nb na) (w9 : wR s (P + 9)) (c1 : nb ≤ cap (P + 1)) (c3 : na ≤ cap (P + 3)) (c5 : nb ≤ cap (P + 5)) (c7 : na ≤ cap (P + 7)) (hf : ∀ c k, ¬ (P + 1 ≤ c ∧ c ≤ P + 10) → s c k = σ c k) : WF s := by
  obtain ⟨n1, n3, n5, n7, -⟩ := N
  intro r hr
  by_cases h : P + 1 ≤ r ∧ r ≤ P + 10
  · have e2 : ¬ r = P + 2 := row_nx (pat_1 hP) hr
    have e4 : ¬ r = P + 4 := row_nx (pat_3 hP) hr
    have e6 : ¬ r = P + 6 := row_nx (pat_5 hP) hr
    have e8 : ¬ r = P + 8 := row_nx (pat_7 hP) hr
    have e10 : ¬ r = P + 10 := row_nx (pat_9 hP) hr
    have h5 : r = P + 1 ∨ r = P + 3 ∨ r = P + 5 ∨ r = P + 7 ∨ r = P + 9 := by omega
    rcases h5 with h5 | h5 | h5 | h5 | h5 <;> subst h5
    · omega
    · omega
    · omega
    · omega
    · exact w9.2
  · rw [hf r 1 h]
    exact H r hr
/-- the store of a scratch patch -/
theorem st_new {σ σ1 : Sg} {Q p : Nat} (hp : σ 0 3 = (p : Nat)) (h24 : p < 24) (hQ : isPatch Q = true) (hQ2 : 332 ≤ Q) (w1 : WF σ1) (f1 : ∀ a k, a < 682 → KP a k → σ1 a k = σ a k) (P1 : PO σ1 Q 16) : ∃ s, Dd 242 [vA 0, vA Q] σ1 (rI p s) ∧ WF s ∧ s 0 3 = (p : Int) + 1 ∧ (∀ a k, a < 682 → KP a k → ¬ (a = 0 ∧ k = 3) → ¬ (20 + 13 * p + 1 ≤ a ∧ a ≤ 20 + 13 * p + 10) → s a k = σ a k) ∧ (∀ a k, 682 ≤ a → s a k = σ1 a k) ∧ (∀ j, j = 1 ∨ j = 3 ∨ j = 5 ∨ j = 7 ∨ j = 9 → s (20 + 13 * p + j) 1 = σ1 (Q + j) 1 ∧ ∀ k : Nat, (k : Int) < σ1 (Q + j) 1 → s (20 + 13 * p + j + 1) k = σ1 (Q + j + 1) k) ∧ PO s (20 + 13 * p) 16 := by
  have hc := cpP h24
  have e03 : σ1 0 3 = (p : Nat) := by rw [f1 0 3 (by decide) (by omega)]; exact hp
  have b1 := w1 _ (pat_1 hQ)
  have b3 := w1 _ (pat_3 hQ)
  obtain ⟨nb, hb⟩ := Int.eq_ofNat_of_zero_le b1.1
  obtain ⟨na, ha⟩ := Int.eq_ofNat_of_zero_le b3.1
  obtain ⟨n1, n3, n5, n7, V, K, C1, C2⟩ := NP_of P1 hb ha
  have hl := hks_len V
  have z1 := P1.1
  have z2 := P1.2.1
  have hrow : ∀ j, j = 1 ∨ j = 3 ∨ j = 5 ∨ j = 7 ∨ j = 9 → σ1 (Q + j) 1 ≤ (cap (20 + 13 * p + j) : Int) := by
    intro j hj
    rcases hj with hj | hj | hj | hj | hj <;> subst hj <;> omega
  have c4 : ∀ j, j = 1 ∨ j = 3 ∨ j = 5 ∨ j = 7 ∨ j = 9 → (upS (pbS σ1 (20 + 13 * p) Q) 0 3 ((p : Int) + 1)) (20 + 13 * p + j) 1 = σ1 (Q + j) 1 ∧ ∀ k : Nat, (k : Int) < σ1 (Q + j) 1 → (upS (pbS σ1 (20 + 13 * p) Q) 0 3 ((p : Int) + 1)) (20 + 13 * p + j + 1) k = σ1 (Q + j + 1) k := by
    intro j hj
    obtain ⟨y1, y2⟩ := pb_row (σ := σ1) (P := 20 + 13 * p) (Q := Q) (by omega) hj (hrow j hj)
    exact ⟨by rw [up_a (by omega)]; exact y1, fun k hk => by rw [up_a (by omega)]; exact y2 k hk⟩
  refine ⟨_, d242_ok e03 h24 hQ (by omega) (WF_pw w1), WF_up (Or.inr (by decide)) (WF_pb hc.2.2.2.2.2.2.1 hQ w1), up_s, fun a k h1 h2 h3 h4 => ?_, fun a k h1 => ?_, c4, PO_cg c4 P1 ⟨b1.1, b3.1⟩⟩
  · have : upS (pbS σ1 (20 + 13 * p) Q) 0 3 ((p : Int) + 1) a k = pbS σ1 (20 + 13 * p) Q a k := by
      unfold upS
      rw [if_neg h3]
    rw [this, pb_off h4]
    exact f1 a k h1 h2
  · rw [up_a (by omega), pb_off (by omega)]
/-- what the reference's run leaves in a new slot -/
def Slot (s : Sg) (p nb na : Nat) (O N F : Nat → Int) : Prop := s 688 p = (nb : Nat) ∧ s 689 p = (na : Nat) ∧ (∀ i, i < nb → s 685 (100 * p + i) = O i) ∧ (∀ i, i < na → s 686 (100 * p + i) = N i) ∧ ∀ i, i < nb → s 687 (100 * p + i) = F i
/-- a call that makes a patch -/
theorem op_st {w m : Nat} {aw am : List AV} {σ σ1 : Sg} {c : Int} {Q p nb na : Nat} (H : Rel c σ) (hp : σ 0 3 = (p : Nat)) (h24 : p < 24) (hQ : isPatch Q = true) (hQ2 : 332 ≤ Q) (w1 : WF σ1) (f1 : ∀ a k, a < 682 → KP a k → σ1 a k = σ a k) (g1 : ∀ a k, 682 ≤ a → σ1 a k = σ a k) (P1 : PO σ1 Q 16) (hb : σ1 (Q + 1) 1 = (nb : Nat)) (ha : σ1 (Q + 3) 1 = (na : Nat)) (hA : ∀ s, Dd 242 [vA 0, vA Q] σ1 (rI p s) → Dd w aw σ (rI 0 (upS s 726 0 p))) (hB : ∀ s : Sg, (∀ a k, 682 ≤ a → ¬ a = 726 → s a k = σ a k) → ∃ s2, Dd m am s (rI p s2) ∧ s2 682 0 = 0 ∧ s2 682 3 = (p : Int) + 1 ∧ (∀ a k, a < 682 ∨ 726 ≤ a → s2 a k = s a k) ∧ (∀ a k, 682 ≤ a → a ≤ 725 → KP a k → ¬ (a = 682 ∧ k = 3) → ¬ (685 ≤ a ∧ a ≤ 687 ∧ 100 * p ≤ k ∧ k < 100 * p + 100) → ¬ ((a = 688 ∨ a = 689) ∧ k = p) → s2 a k = σ a k) ∧ Slot s2 p nb na (σ1 (Q + 2)) (σ1 (Q + 4)) (σ1 (Q + 6))) : OpR w m aw am σ (c + 1) := by
  obtain ⟨s, a1, a2, a3, a4, a5, a6, a7⟩ := st_new hp h24 hQ hQ2 w1 f1 P1
  have z1 := P1.1
  have z2 := P1.2.1
  have z5 := P1.2.2.1
  obtain ⟨s2, b1, b2, b3, b4, b5, b6⟩ := hB (upS s 726 0 p) (fun a k h1 h2 => by rw [up_a h2, a5 a k h1]; exact g1 a k h1)
  have k1 : ∀ a k, a < 682 → s2 a k = s a k := fun a k h => by rw [b4 a k (Or.inl h), up_a (by omega)]
  obtain ⟨t1, t3⟩ := a6 1 (by omega)
  obtain ⟨u1, u3⟩ := a6 3 (by omega)
  obtain ⟨v1, v3⟩ := a6 5 (by omega)
  obtain ⟨y1, y2, y3, y4, y5⟩ := b6
  refine op_fin (hA s a1) b1 b2 (fun _ => by rw [b4 _ _ (by omega)]; exact up_s) (fun a k h => by rw [up_a (by omega), a5 a k (by omega)]; exact g1 a k (by omega)) (fun a k h => by rw [b4 a k (by omega), up_a (by omega), a5 a k (by omega)]; exact g1 a k (by omega)) (Rel_new H hp h24 a2 a3 a4 (fun a k h => k1 a k h) b3 (fun a k h1 h2 h3 h4 h5 => b5 a k h1 (by omega) h2 h3 h4 h5) ?_ (PO_fr (fun a k h => k1 a k (by omega)) a7))
  refine ⟨⟨by rw [k1 _ _ (by omega), t1, y1]; exact hb, fun i hi => ?_⟩, ⟨by rw [k1 _ _ (by omega), u1, y2]; exact ha, fun i hi => ?_⟩, ⟨by rw [k1 _ _ (by omega), v1, y1]; omega, fun i hi => ?_⟩⟩
  · rw [y1] at hi
    rw [k1 _ _ (by omega), t3 i (by omega), y3 i (by omega)]
  · rw [y2] at hi
    rw [k1 _ _ (by omega), u3 i (by omega), y4 i (by omega)]
  · rw [y1] at hi
    rw [k1 _ _ (by omega), v3 i (by omega), y5 i (by omega)]
/-- a call that could make no patch: there are too many -/
theorem op_full {w m : Nat} {aw am : List AV} {σ σ1 : Sg} {c kx : Int} (H : Rel c σ) (hk : ¬ kx = 0) (w1 : WF σ1) (f1 : ∀ a k, a < 682 → KP a k → σ1 a k = σ a k) (g1 : ∀ a k, 682 ≤ a → σ1 a k = σ a k) (hA : Dd w aw σ (rI kx σ1)) (hB : ∃ s2 b, Dd m am σ1 (rI b s2) ∧ s2 682 0 = kx ∧ (∀ a k, a < 682 ∨ 726 ≤ a → s2 a k = σ1 a k) ∧ ∀ a k, 682 ≤ a → KP a k → s2 a k = σ a k) : OpR w m aw am σ (c + 1) := by
  obtain ⟨s2, b, b1, b2, b3, b4⟩ := hB
  refine op_fin hA b1 b2 (fun h => absurd h hk) (fun a k h => g1 a k (by omega)) (fun a k h => by rw [b3 a k (by omega)]; exact g1 a k (by omega)) (Rel_sc (by omega) (WF_fr (fun a k h => b3 a k (by omega)) w1) (fun a k h => ?_) H)
  by_cases h' : a < 682
  · rw [b3 a k (by omega)]; exact f1 a k h' h
  · exact b4 a k (by omega) h
/-- the inverse of the pairs of a slot -/
theorem l293a {s na : Nat} (hs : s < 44) (h100 : na ≤ 100) : ∀ (d j : Nat) (σ : Sg), j + d = na → σ 689 s = (na : Nat) → (∀ k, k < j → σ 690 k = -1) → ∃ σ', (∀ {o : Rs}, C293_27 s 0 σ' o → C293_2 s j σ o) ∧ (∀ k, k < na → σ' 690 k = -1) ∧ ∀ c k, ¬ c = 690 → σ' c k = σ c k := by
  intro d
  induction d with
  | zero =>
    intro j σ hj hn h1
    refine ⟨σ, fun {o} hh => b293_2 ⟨by omega, ?_⟩, fun k hk => h1 k (by omega), fun _ _ _ => rfl⟩
    rw [show ((s : Nat) : Int).toNat = s by omega, if_neg (by omega)]
    exact hh
  | succ d ih =>
    intro j σ hj hn h1
    obtain ⟨σ', a1, a2, a3⟩ := ih (j + 1) (upS σ 690 j (-1)) (by omega) (by rw [up_a (by decide)]; exact hn) (fun k hk => by
      by_cases e : k = j
      · rw [e, up_s]
      · rw [up_k e]; exact h1 k (by omega))
    refine ⟨σ', fun {o} hh => b293_2 ⟨by omega, ?_⟩, a2, fun c k h => by rw [a3 c k h, up_a h]⟩
    rw [show ((s : Nat) : Int).toNat = s by omega, if_pos (by omega), show ((j : Nat) : Int).toNat = j by omega]
    have := a1 hh
    rw [show (((j + 1 : Nat)) : Int) = (j : Int) + 1 by omega] at this
    exact ⟨by omega, by omega, this⟩
theorem l293b {s nb na : Nat} {F K : Nat → Int} (hs : s < 44) (h100 : nb ≤ 100) (h100' : na ≤ 100) (V : VF F nb na) (I : IV F K nb na) : ∀ (d i : Nat) (σ : Sg), i + d = nb → σ 688 s = (nb : Nat) → (∀ k, k < nb → σ 687 (100 * s + k) = F k) → (∀ j, j < na → σ 690 j = if ¬ K j = -1 ∧ K j < i then K j else -1) → ∃ σ', C293_27 s i σ (rV σ') ∧ (∀ j, j < na → σ' 690 j = K j) ∧ ∀ c k, ¬ c = 690 → σ' c k = σ c k := by
  intro d
  induction d with
  | zero =>
    intro i σ hi hn hf h1
    refine ⟨σ, b293_27 ⟨by omega, ?_⟩, fun j hj => ?_, fun _ _ _ => rfl⟩
    · rw [show ((s : Nat) : Int).toNat = s by omega, if_neg (by omega)]
    · rw [h1 j hj]
      rcases I.1 j hj with e | e
      · rw [if_neg (fun h => h.1 e), e]
      · rw [if_pos ⟨by omega, by omega⟩]
  | succ d ih =>
    intro i σ hi hn hf h1
    have hfi := hf i (by omega)
    have e1 : ((100 * (s : Int)) + (i : Int)).toNat = 100 * s + i := by omega
    rcases V.1 i (by omega) with v | v
    · obtain ⟨σ', a1, a2, a3⟩ := ih (i + 1) σ (by omega) hn hf (fun j hj => by
        rw [h1 j hj]
        have hne : ¬ K j = i := by
          intro e
          rcases I.1 j hj with z | z
          · omega
          · have z2 := z.2.2
            rw [e, show ((i : Nat) : Int).toNat = i by omega, v] at z2
            omega
        by_cases h : ¬ K j = -1 ∧ K j < i
        · rw [if_pos h, if_pos ⟨h.1, by omega⟩]
        · rw [if_neg h, if_neg (fun g => h ⟨g.1, by omega⟩)])
      refine ⟨σ', b293_27 ⟨by omega, ?_⟩, a2, a3⟩
      rw [show ((s : Nat) : Int).toNat = s by omega, if_pos (by omega), e1, hfi, if_pos v]
      rw [show (((i + 1 : Nat)) : Int) = (i : Int) + 1 by omega] at a1
      exact ⟨by omega, by omega, by omega, b293_69 ⟨by omega, a1⟩⟩
    · have kv := I.2 i (by omega) (by omega)
      obtain ⟨σ', a1, a2, a3⟩ := ih (i + 1) (upS σ 690 (F i).toNat i) (by omega) (by rw [up_a (by decide)]; exact hn) (fun k hk => by rw [up_a (by decide)]; exact hf k hk) (fun j hj => by
        by_cases e : j = (F i).toNat
        · rw [e, up_s, kv, if_pos ⟨by omega, by omega⟩]
        · rw [up_k e, h1 j hj]
          have hne : ¬ K j = i := by
            intro e2
            rcases I.1 j hj with z | z
            · omega
            · have z2 := z.2.2
              rw [e2, show ((i : Nat) : Int).toNat = i by omega] at z2
              omega
          by_cases h : ¬ K j = -1 ∧ K j < i
          · rw [if_pos h, if_pos ⟨h.1, by omega⟩]
          · rw [if_neg h, if_neg (fun g => h ⟨g.1, by omega⟩)])
      refine ⟨σ', b293_27 ⟨by omega, ?_⟩, a2, fun c k h => by rw [a3 c k h, up_a h]⟩
      rw [show ((s : Nat) : Int).toNat = s by omega, if_pos (by omega), e1, hfi, if_neg (by omega)]
      rw [show (((i + 1 : Nat)) : Int) = (i : Int) + 1 by omega] at a1
      exact ⟨by omega, by omega, by omega, by omega, by omega, by omega, by omega, b293_69 ⟨by omega, a1⟩⟩
theorem d293 {s nb na : Nat} {F K : Nat → Int} {σ : Sg} (hs : s < 44) (h100 : nb ≤ 100) (h100' : na ≤ 100) (V : VF F nb na) (I : IV F K nb na) (hn : σ 688 s = (nb : Nat)) (hm : σ 689 s = (na : Nat)) (hf : ∀ k, k < nb → σ 687 (100 * s + k) = F k) : ∃ σ', Dd 293 [vA 682, vI s] σ (rV σ') ∧ (∀ j, j < na → σ' 690 j = K j) ∧ ∀ c k, ¬ c = 690 → σ' c k = σ c k := by
  obtain ⟨s1, a1, a2, a3⟩ := l293a hs h100' na 0 σ (by omega) hm (fun k hk => absurd hk (Nat.not_lt_zero k))
  obtain ⟨s2, c1, c2, c3⟩ := l293b hs h100 h100' V I nb 0 s1 (by omega) (by rw [a3 _ _ (by decide)]; exact hn) (fun k hk => by rw [a3 _ _ (by decide)]; exact hf k hk) (fun j hj => by
    rw [a2 j hj, if_neg]
    rintro ⟨z1, z2⟩
    rcases I.1 j hj with z | z
    · exact z1 z
    · omega)
  exact ⟨s2, b293 (a1 c1), c2, fun c k h => by rw [c3 c k h, a3 c k h]⟩
theorem l294b {s t nb : Nat} {O : Nat → Int} (hs : s < 44) (ht : t < 44) (h100 : nb ≤ 100) : ∀ (d i : Nat) (σ : Sg), i + d = nb → σ 689 t = (nb : Nat) → (∀ k, k < nb → σ 685 (100 * s + k) = O k) → (∀ k, k < i → σ 686 (100 * t + k) = O k) → ∃ σ', C294_88 s t i σ (rV σ') ∧ (∀ k, k < nb → σ' 686 (100 * t + k) = O k) ∧ ∀ c k, ¬ (c = 686 ∧ 100 * t ≤ k ∧ k < 100 * t + 100) → σ' c k = σ c k := by
  intro d
  induction d with
  | zero =>
    intro i σ hi hn hf h1
    refine ⟨σ, b294_88 ⟨by omega, ?_⟩, fun k hk => h1 k (by omega), fun _ _ _ => rfl⟩
    rw [show ((t : Nat) : Int).toNat = t by omega, if_neg (by omega)]
  | succ d ih =>
    intro i σ hi hn hf h1
    have e1 : ((100 * (t : Int)) + (i : Int)).toNat = 100 * t + i := by omega
    have e2 : ((100 * (s : Int)) + (i : Int)).toNat = 100 * s + i := by omega
    obtain ⟨σ', a1, a2, a3⟩ := ih (i + 1) (upS σ 686 (100 * t + i) (σ 685 (100 * s + i))) (by omega) (by rw [up_a (by decide)]; exact hn) (fun k hk => by rw [up_a (by decide)]; exact hf k hk) (fun k hk => by
      by_cases e : k = i
      · rw [e, up_s]; exact hf i (by omega)
      · rw [up_k (by omega)]; exact h1 k (by omega))
    refine ⟨σ', b294_88 ⟨by omega, ?_⟩, a2, fun c k h => ?_⟩
    · rw [show ((t : Nat) : Int).toNat = t by omega, if_pos (by omega), e1, e2]
      rw [show (((i + 1 : Nat)) : Int) = (i : Int) + 1 by omega] at a1
      exact ⟨by omega, by omega, by omega, by omega, by omega, by omega, by omega, a1⟩
    · rw [a3 c k h]
      unfold upS
      rw [if_neg (by omega)]
theorem l294a {s t nb na : Nat} {O N K : Nat → Int} (hs : s < 44) (ht : t < 44) (hst : ¬ s = t) (h100 : nb ≤ 100) (h100' : na ≤ 100) : ∀ (d i : Nat) (σ : Sg), i + d = na → σ 688 t = (na : Nat) → σ 689 t = (nb : Nat) → (∀ k, k < na → σ 686 (100 * s + k) = N k) → (∀ k, k < nb → σ 685 (100 * s + k) = O k) → (∀ k, k < na → σ 690 k = K k) → (∀ k, k < i → σ 685 (100 * t + k) = N k ∧ σ 687 (100 * t + k) = K k) → ∃ σ', C294_31 s t i σ (rV σ') ∧ (∀ k, k < na → σ' 685 (100 * t + k) = N k ∧ σ' 687 (100 * t + k) = K k) ∧ (∀ k, k < nb → σ' 686 (100 * t + k) = O k) ∧ ∀ c k, ¬ (685 ≤ c ∧ c ≤ 687 ∧ 100 * t ≤ k ∧ k < 100 * t + 100) → σ' c k = σ c k := by
  intro d
  induction d with
  | zero =>
    intro i σ hi hn hm hN hO hK h1
    obtain ⟨σ', a1, a2, a3⟩ := l294b (O := O) hs ht h100 nb 0 σ (by omega) hm hO (fun k hk => absurd hk (Nat.not_lt_zero k))
    refine ⟨σ', b294_31 ⟨by omega, ?_⟩, fun k hk => ?_, a2, fun c k h => a3 c k (by omega)⟩
    · rw [show ((t : Nat) : Int).toNat = t by omega, if_neg (by omega)]
      exact a1
    · rw [a3 _ _ (by omega), a3 _ _ (by omega)]
      exact h1 k (by omega)
  | succ d ih =>
    intro i σ hi hn hm hN hO hK h1
    have e1 : ((100 * (t : Int)) + (i : Int)).toNat = 100 * t + i := by omega
    have e2 : ((100 * (s : Int)) + (i : Int)).toNat = 100 * s + i := by omega
    have g : ∀ c k, ¬ ((c = 685 ∨ c = 687) ∧ k = 100 * t + i) → upS (upS σ 685 (100 * t + i) (σ 686 (100 * s + i))) 687 (100 * t + i) ((upS σ 685 (100 * t + i) (σ 686 (100 * s + i))) 690 i) c k = σ c k := by
      intro c k h
      unfold upS
      rw [if_neg (by omega), if_neg (by omega)]
    obtain ⟨σ', a1, a2, a3, a4⟩ := ih (i + 1) (upS (upS σ 685 (100 * t + i) (σ 686 (100 * s + i))) 687 (100 * t + i) ((upS σ 685 (100 * t + i) (σ 686 (100 * s + i))) 690 i)) (by omega) (by rw [g _ _ (by omega)]; exact hn) (by rw [g _ _ (by omega)]; exact hm) (fun k hk => by rw [g _ _ (by omega)]; exact hN k hk) (fun k hk => by rw [g _ _ (by omega)]; exact hO k hk) (fun k hk => by rw [g _ _ (by omega)]; exact hK k hk) (fun k hk => by
      by_cases e : k = i
      · rw [e, up_s, up_a (by decide), up_s, up_a (by decide)]
        exact ⟨hN i (by omega), hK i (by omega)⟩
      · rw [g _ _ (by omega), g _ _ (by omega)]
        exact h1 k (by omega))
    refine ⟨σ', b294_31 ⟨by omega, ?_⟩, a2, a3, fun c k h => by rw [a4 c k h, g c k (by omega)]⟩
    rw [show ((t : Nat) : Int).toNat = t by omega, if_pos (by omega), e1, e2, show ((i : Nat) : Int).toNat = i by omega]
    rw [show (((i + 1 : Nat)) : Int) = (i : Int) + 1 by omega] at a1
    exact ⟨by omega, by omega, by omega, by omega, by omega, by omega, by omega, by omega, by omega, by omega, by omega, a1⟩
/-- inverts, in a slot of its own -/
theorem d294 {s t nb na : Nat} {O N F K : Nat → Int} {σ : Sg} (hs : s < 44) (ht : t < 44) (hst : ¬ s = t) (h100 : nb ≤ 100) (h100' : na ≤ 100) (V : VF F nb na) (I : IV F K nb na) (hS : Slot σ s nb na O N F) : ∃ σ', Dd 294 [vA 682, vI s, vI t] σ (rV σ') ∧ Slot σ' t na nb N O K ∧ ∀ c k, ¬ c = 690 → ¬ (685 ≤ c ∧ c ≤ 687 ∧ 100 * t ≤ k ∧ k < 100 * t + 100) → ¬ ((c = 688 ∨ c = 689) ∧ k = t) → σ' c k = σ c k := by
  obtain ⟨hn, hm, hO, hN, hF⟩ := hS
  obtain ⟨s1, a1, a2, a3⟩ := d293 hs h100 h100' V I hn hm hF
  have hn1 : s1 688 s = (nb : Nat) := by rw [a3 _ _ (by decide)]; exact hn
  have hm1 : s1 689 s = (na : Nat) := by rw [a3 _ _ (by decide)]; exact hm
  have g : ∀ c k, ¬ ((c = 688 ∨ c = 689) ∧ k = t) → upS (upS s1 688 t (s1 689 s)) 689 t ((upS s1 688 t (s1 689 s)) 688 s) c k = s1 c k := by
    intro c k h
    unfold upS
    rw [if_neg (by omega), if_neg (by omega)]
  have v1 : upS (upS s1 688 t (s1 689 s)) 689 t ((upS s1 688 t (s1 689 s)) 688 s) 688 t = (na : Nat) := by
    rw [up_a (by decide), up_s]; exact hm1
  have v2 : upS (upS s1 688 t (s1 689 s)) 689 t ((upS s1 688 t (s1 689 s)) 688 s) 689 t = (nb : Nat) := by
    rw [up_s, up_k hst]; exact hn1
  obtain ⟨σ', c1, c2, c3, c4⟩ := l294a (O := O) (N := N) (K := K) hs ht hst h100 h100' na 0 (upS (upS s1 688 t (s1 689 s)) 689 t ((upS s1 688 t (s1 689 s)) 688 s)) (by omega) v1 v2 (fun k hk => by rw [g _ _ (by omega), a3 _ _ (by decide)]; exact hN k hk) (fun k hk => by rw [g _ _ (by omega), a3 _ _ (by decide)]; exact hO k hk) (fun k hk => by rw [g _ _ (by omega)]; exact a2 k hk) (fun k hk => absurd hk (Nat.not_lt_zero k))
  refine ⟨σ', b294 ⟨s1, a1, by omega, by omega, by omega, by omega, ?_⟩, ⟨by rw [c4 _ _ (by omega)]; exact v1, by rw [c4 _ _ (by omega)]; exact v2, fun i hi => (c2 i hi).1, c3, fun i hi => (c2 i hi).2⟩, fun c k h1 h2 h3 => ?_⟩
  · rw [show ((t : Nat) : Int).toNat = t by omega, show ((s : Nat) : Int).toNat = s by omega]
    exact c1
  · rw [c4 c k h2, g c k h3, a3 c k h1]
theorem VF_K {F K : Nat → Int} {nb na : Nat} (V : VF F nb na) (I : IV F K nb na) : VF K na nb := by
  refine ⟨fun j hj => ?_, fun j j' h1 h2 h3 h4 => ?_⟩
  · rcases I.1 j hj with e | e
    · exact Or.inl e
    · exact Or.inr ⟨e.1, e.2.1⟩
  · rcases I.1 j (by omega) with e | e
    · exact absurd e h3
    rcases I.1 j' h2 with e' | e'
    · exact absurd e' h4
    by_cases h : K j < K j'
    · exact h
    · exfalso
      by_cases h5 : K j = K j'
      · have q1 := e.2.2
        have q2 := e'.2.2
        rw [h5] at q1
        omega
      · have q := V.2 (K j').toNat (K j).toNat (by omega) (by omega) (by rw [e'.2.2]; omega) (by rw [e.2.2]; omega)
        rw [e.2.2, e'.2.2] at q
        omega
/-- the slot of a patch of the relation -/
theorem po_slot {σ : Sg} {P s : Nat} (H : PR σ P s) (H2 : PO σ P 16) (w1 : 0 ≤ σ (P + 1) 1) (w3 : 0 ≤ σ (P + 3) 1) : ∃ nb na : Nat, nb ≤ 16 ∧ na ≤ 16 ∧ NP σ P nb na ∧ Slot σ s nb na (σ (P + 2)) (σ (P + 4)) (σ (P + 6)) := by
  obtain ⟨nb, na, b1, b2, b3, b4, b5, b6, V, f1, f2, f3⟩ := po_two H H2 w1 w3
  exact ⟨nb, na, b1, b2, NP_of H2 b3 b4, b5, b6, f2, f3, f1⟩
theorem Slot_fr {σ s : Sg} {p nb na : Nat} {O N F : Nat → Int} (h : ∀ c k, 685 ≤ c ∧ c ≤ 689 → s c k = σ c k) (H : Slot σ p nb na O N F) : Slot s p nb na O N F := by
  obtain ⟨h1, h2, h3, h4, h5⟩ := H
  exact ⟨by rw [h _ _ (by decide)]; exact h1, by rw [h _ _ (by decide)]; exact h2, fun i hi => by rw [h _ _ (by decide)]; exact h3 i hi, fun i hi => by rw [h _ _ (by decide)]; exact h4 i hi, fun i hi => by rw [h _ _ (by decide)]; exact h5 i hi⟩
theorem cpS351 : isPatch 351 = true ∧ cap 352 = 100 ∧ cap 354 = 100 ∧ cap 356 = 100 ∧ cap 358 = 100 ∧ cap 360 = 404 := by decide +kernel
theorem cpS364 : isPatch 364 = true ∧ cap 365 = 100 ∧ cap 367 = 100 ∧ cap 369 = 100 ∧ cap 371 = 100 ∧ cap 373 = 404 := by decide +kernel
theorem o10 {σ : Sg} {c a1 : Int} (H : Rel c σ) : OpR 400 300 [vA 0, vI a1, vA 726] [vA 682, vI a1] σ (c + 1) := by
  by_cases g1 : a1 < 0
  · exact x10_0 H g1
  by_cases g2 : σ 0 3 ≤ a1
  · exact x10_1 H g2
  have k1 : 0 ≤ a1 ∧ a1 < σ 0 3 := by omega
  obtain ⟨a, rfl⟩ := Int.eq_ofNat_of_zero_le k1.1
  have hn := (rel_n H).1
  obtain ⟨hP, q1, q2, w1, w3⟩ := po_pat H k1.2
  obtain ⟨nb, na, b1, b2, N, S⟩ := po_slot q1 q2 w1 w3
  obtain ⟨n1, n3, n5, n7, V, K, C1, C2⟩ := N
  have e230 := d230_ok (σ := σ) k1 hn.2.2
  rw [show ((a : Int)).toNat = a by omega] at e230
  obtain ⟨p351, c352, c354, c356, c358, c360⟩ := cpS351
  have hlt : 20 + 13 * a < 351 := by omega
  have hgp := patch_gap hP p351 hlt
  obtain ⟨s1, a1', a2, a3, a4, a5, a6, a7⟩ := d95 (P := 351) (x1 := 20 + 13 * a + 3) (x2 := 20 + 13 * a + 1) (x3 := 20 + 13 * a + 7) (nb := na) (na := nb) (σ := σ) p351 (WF_w H.1 (pat_3 hP)) (WF_w H.1 (pat_1 hP)) (WF_w H.1 (pat_7 hP)) n3 n1 n7 (VF_K V K) (by omega) (by omega) (by omega) (by omega) (by omega) (by omega) (by omega) (by omega)
  have W1 : WF s1 := WF_np H.1 p351 a2 a3 (by omega) (by omega) (by omega) (by omega) a7
  have F1 : ∀ a k, a < 682 → KP a k → s1 a k = σ a k := fun a k h1 h2 => a7 a k (by omega)
  have G1 : ∀ a k, 682 ≤ a → s1 a k = σ a k := fun a k h1 => a7 a k (by omega)
  have A1 := a2.1
  have A3 := a2.2.1
  have q5 := q2.2.2.2.2.1
  have P1 : PO s1 351 16 := by
    refine PO_of a2 (by omega) (by omega) (fun i hi e => ?_) (fun i hi => ?_) (fun i hi => ?_)
    · have z6 := a6 i hi
      rw [z6] at e
      rcases K.1 i hi with y | y
      · exact absurd y e
      have zz := q5 (σ (20 + 13 * a + 7 + 1) i).toNat (by omega)
      have y2 : σ (20 + 13 * a + 6) (σ (20 + 13 * a + 7 + 1) i).toNat = i := y.2.2
      rcases zz with zz | zz
      · omega
      · have z := zz.2.2.2
        rw [y2, show ((i : Nat) : Int).toNat = i by omega] at z
        rw [a4 i hi, z6, a5 _ (by omega)]
        exact z.symm
    · rw [a4 i hi]; exact q2.2.2.2.2.2.2.2.2.1 i (by omega)
    · rw [a5 i hi]; exact q2.2.2.2.2.2.2.2.1 i (by omega)
  have hd : Dd 3 [vA 350, vA (20 + 13 * a)] σ (rA 351 s1) := b3 hP ⟨s1, a1', rfl⟩
  have m0 : ∀ {s : Sg} {o : Rs}, (∀ a k, 682 ≤ a → ¬ a = 726 → s a k = σ a k) → C300_27 a (if s 682 3 = 24 then 2 else 0) s o → Dd 300 [vA 682, vI a] s o := by
    intro s o h hh
    have e3 := h 682 3 (by decide) (by decide)
    refine b300 ⟨_, _, d248_ok (by omega), ?_⟩
    rw [if_neg (show ¬ (1 : Int) = 0 by decide)]
    exact hh
  by_cases g3 : σ 0 3 < 24
  · obtain ⟨p, hp⟩ := Int.eq_ofNat_of_zero_le hn.2.1
    refine op_st H hp (by omega) p351 (by decide) W1 F1 G1 P1 A1 A3 (fun s hs => b400 (Or.inl ⟨_, _, b182 (Or.inl ⟨_, _, e230, hP, _, _, hd, p351, Or.inl ⟨_, _, hs, rfl⟩⟩), rfl⟩)) (fun s hs => ?_)
    have e3 := hs 682 3 (by decide) (by decide)
    have S2 : Slot (upS s 682 0 0) a nb na (σ (20 + 13 * a + 2)) (σ (20 + 13 * a + 4)) (σ (20 + 13 * a + 6)) := Slot_fr (fun c k h => by rw [up_a (by omega)]; exact hs c k (by omega) (by omega)) S
    obtain ⟨s', d1, d2, d3⟩ := d294 (s := a) (t := p) (σ := upS s 682 0 0) (by omega) (by omega) (by omega) (by omega) (by omega) V K S2
    have e4 : s' 682 3 = (p : Nat) := by rw [d3 _ _ (by decide) (by omega) (by omega), up_k (by decide)]; omega
    refine ⟨upS s' 682 3 ((p : Int) + 1), m0 hs ?_, ?_, up_s, fun b k h => ?_, fun b k h1 h2 h3 h4 h5 h6 => ?_, ?_⟩
    · rw [if_neg (by omega)]
      refine b300_27 ⟨_, _, d245, ?_⟩
      rw [if_pos rfl, if_neg (show ¬ (1 : Int) = 0 by decide), up_k (by decide), e3, hn.1, hp]
      refine ⟨s', d1, ?_⟩
      rw [e4, up_s, show ((p : Nat) : Int) + 1 - 1 = (p : Int) by omega]
      exact ⟨by omega, by omega, rfl⟩
    · rw [up_k (by decide), d3 _ _ (by decide) (by omega) (by omega), up_s]
    · rw [up_a (by omega), d3 _ _ (by omega) (by omega) (by omega), up_a (by omega)]
    · have : upS s' 682 3 ((p : Int) + 1) b k = s' b k := by unfold upS; rw [if_neg h4]
      rw [this, d3 _ _ (by omega) h5 h6]
      have : upS s 682 0 0 b k = s b k := by unfold upS; rw [if_neg (by omega)]
      rw [this]
      exact hs b k h1 (by omega)
    · obtain ⟨t1, t2, t3, t4, t5⟩ := d2
      refine ⟨by rw [up_a (by decide)]; exact t1, by rw [up_a (by decide)]; exact t2, fun i hi => ?_, fun i hi => ?_, fun i hi => ?_⟩
      · rw [up_a (by decide), t3 i hi]; exact (a4 i hi).symm
      · rw [up_a (by decide), t4 i hi]; exact (a5 i hi).symm
      · rw [up_a (by decide), t5 i hi]; exact (a6 i hi).symm
  · have hfull : Dd 242 [vA 0, vA 351] s1 (rX 2 s1) := d242_full (by rw [F1 0 3 (by decide) (by omega)]; exact g3)
    refine op_full H (kx := 2) (by decide) W1 F1 G1 (b400 (Or.inr (Or.inr ⟨_, b182 (Or.inl ⟨_, _, e230, hP, _, _, hd, p351, Or.inr ⟨_, _, hfull, rfl⟩⟩), rfl⟩))) ⟨upS s1 682 0 2, 0, m0 (fun b k h1 h2 => G1 b k h1) ?_, up_s, fun b k h => by rw [up_a (by omega)], fun b k h1 h2 => ?_⟩
    · have e3 := G1 682 3 (by decide)
      rw [if_pos (by omega)]
      refine b300_27 ⟨_, _, d245, ?_⟩
      rw [if_neg (show ¬ (2 : Int) = 0 by decide), if_pos rfl]
    · have : upS s1 682 0 2 b k = s1 b k := by unfold upS; rw [if_neg (by omega)]
      rw [this]
      exact G1 b k h1
end
-- DRAFT 83.dep.lean
/-! depends: two patches touch. -/
noncomputable section
theorem hkF_bd {f : Nat → Int} {nb na : Nat} (V : VF f nb na) : ∀ (w i j : Nat), VI f nb na i j → ∀ h q, (hkF f nb na w i j)[h]? = some q → i ≤ q.1 ∧ j ≤ q.2.2.1 ∧ q.1 + q.2.1 ≤ nb ∧ q.2.2.1 + q.2.2.2 ≤ na := by
  intro w
  induction w with
  | zero => intro i j hi h q hq; simp [hkF] at hq
  | succ w ih =>
    intro i j hi h q hq
    rw [hkF_s] at hq
    by_cases h1 : i < nb ∨ j < na
    · rw [if_pos h1] at hq
      by_cases h2 : i < nb ∧ f i = (j : Int)
      · rw [if_pos h2] at hq
        have := ih _ _ (VI_s V hi h2.1 h2.2) h q hq
        omega
      · rw [if_neg h2] at hq
        obtain ⟨u1, u2, u3, u4⟩ := VI_h V hi h1 h2
        have n1 := nx_ge (f := f) (nb := nb) (i := i)
        have n2 := u1.1
        have n3 := u1.2.1
        cases h with
        | zero =>
          have hq : (i, nx f nb i - i, j, j2F f nb na i - j) = q := by simpa using hq
          rw [← hq]
          dsimp only
          omega
        | succ h =>
          rw [List.getElem?_cons_succ] at hq
          have := ih _ _ u1 h q hq
          omega
    · rw [if_neg h1] at hq
      simp at hq
theorem hks_bd {f : Nat → Int} {nb na : Nat} (V : VF f nb na) {h : Nat} {q : Nat × Nat × Nat × Nat} (hq : (hks f nb na)[h]? = some q) : q.1 + q.2.1 ≤ nb ∧ q.2.2.1 + q.2.2.2 ≤ na := (hkF_bd V _ _ _ (VI_0 V) h q hq).2.2
/-- the pieces of a patch -/
def PC (σ : Sg) (P : Nat) (l : List (Nat × Nat × Nat × Nat)) : Prop := σ (P + 9) 1 = 4 * (l.length : Nat) ∧ (∀ h : Nat, ∀ q, l[h]? = some q → σ (P + 10) (4 * h) = (q.1 : Nat) ∧ σ (P + 10) (4 * h + 1) = (q.2.1 : Nat) ∧ σ (P + 10) (4 * h + 2) = (q.2.2.1 : Nat) ∧ σ (P + 10) (4 * h + 3) = (q.2.2.2 : Nat)) ∧ ∀ h : Nat, ∀ q, l[h]? = some q → q.1 + q.2.1 ≤ 100 ∧ q.2.2.1 + q.2.2.2 ≤ 100
theorem PC_of {σ : Sg} {P nb na : Nat} (N : NP σ P nb na) (hb : nb ≤ 100) (ha : na ≤ 100) : PC σ P (hks (σ (P + 6)) nb na) := by
  obtain ⟨n1, n3, n5, n7, V, K, C1, C2⟩ := N
  exact ⟨C1, C2, fun h q hq => by have := hks_bd V hq; omega⟩
theorem pc_at {σ : Sg} {P : Nat} {l : List (Nat × Nat × Nat × Nat)} (hP : isPatch P = true) (w : wR σ (P + 9)) (C : PC σ P l) {h : Nat} {q : Nat × Nat × Nat × Nat} (hq : l[h]? = some q) : Dd 100 [vA P, vI h] σ (rI (q.1 : Nat) σ) ∧ Dd 102 [vA P, vI h] σ (rI ((q.1 + q.2.1 : Nat) : Int) σ) ∧ Dd 103 [vA P, vI h] σ (rI (q.2.2.1 : Nat) σ) ∧ Dd 105 [vA P, vI h] σ (rI ((q.2.2.1 + q.2.2.2 : Nat) : Int) σ) := by
  obtain ⟨c1, c2, c3⟩ := C
  obtain ⟨v0, v1, v2, v3⟩ := c2 h q hq
  obtain ⟨b1, b2⟩ := c3 h q hq
  have hl := (List.getElem?_eq_some_iff.mp hq).1
  have hc := cap_le w.1
  have w2 := w.2.2
  have at' : ∀ (i : Int) (n : Nat), i = ((4 * h + n : Nat) : Int) → n < 4 → atS σ (P + 9) i = σ (P + 10) (4 * h + n) := by
    intro i n hi hn
    unfold atS
    rw [if_pos (by omega), hi, show ((4 * h + n : Nat) : Int).toNat = 4 * h + n by omega]
  have e0 := d147 (i := 4 * (h : Int) + 0) w
  have e1 := d147 (i := 4 * (h : Int) + 1) w
  have e2 := d147 (i := 4 * (h : Int) + 2) w
  have e3 := d147 (i := 4 * (h : Int) + 3) w
  rw [at' _ 0 (by omega) (by omega), Nat.add_zero, v0] at e0
  rw [at' _ 1 (by omega) (by omega), v1] at e1
  rw [at' _ 2 (by omega) (by omega), v2] at e2
  rw [at' _ 3 (by omega) (by omega), v3] at e3
  refine ⟨b100 hP ⟨by omega, by omega, _, _, e0, rfl⟩, b102 hP ⟨by omega, by omega, _, _, e0, by omega, by omega, _, _, e1, by omega, ?_⟩, b103 hP ⟨by omega, by omega, _, _, e2, rfl⟩, b105 hP ⟨by omega, by omega, _, _, e2, by omega, by omega, _, _, e3, by omega, ?_⟩⟩
  · rw [show ((q.1 + q.2.1 : Nat) : Int) = (q.1 : Nat) + (q.2.1 : Nat) by omega]
  · rw [show ((q.2.2.1 + q.2.2.2 : Nat) : Int) = (q.2.2.1 : Nat) + (q.2.2.2 : Nat) by omega]
/-- a hunk of the first and one of the second lie in one place between -/
def T2 (q r : Nat × Nat × Nat × Nat) : Prop := q.2.2.1 ≤ r.1 + r.2.1 ∧ r.1 ≤ q.2.2.1 + q.2.2.2
def TCH (l1 l2 : List (Nat × Nat × Nat × Nat)) : Prop := ∃ h q g r, l1[h]? = some q ∧ l2[g]? = some r ∧ T2 q r
theorem d98' {σ : Sg} {P : Nat} {l : List (Nat × Nat × Nat × Nat)} (hP : isPatch P = true) (C : PC σ P l) : Dd 98 [vA P] σ (rI (l.length : Nat) σ) := d98 hP C.1
theorem l6b {σ : Sg} {P Q h : Nat} {q : Nat × Nat × Nat × Nat} {l1 l2 : List (Nat × Nat × Nat × Nat)} (hP : isPatch P = true) (hQ : isPatch Q = true) (wP : wR σ (P + 9)) (wQ : wR σ (Q + 9)) (C1 : PC σ P l1) (C2 : PC σ Q l2) (hq : l1[h]? = some q) {d0 : Option AV} : ∀ (d g : Nat), g + d = l2.length → ((∃ g' r, g ≤ g' ∧ l2[g']? = some r ∧ T2 q r) → C6_13 d0 P Q h g σ (rI 1 σ)) ∧ (¬ (∃ g' r, g ≤ g' ∧ l2[g']? = some r ∧ T2 q r) → ∀ {o : Rs}, (∀ d4, C6_2 d0 P Q ((h + 1 : Nat) : Int) d4 σ o) → C6_13 d0 P Q h g σ o) := by
  have hlh := (List.getElem?_eq_some_iff.mp hq).1
  have hc := cap_le wP.1
  have hc2 := cap_le wQ.1
  have z1 := C1.1
  have z2 := C2.1
  have w2 := wP.2.2
  have w3 := wQ.2.2
  intro d
  induction d with
  | zero =>
    intro g hg
    refine ⟨fun ⟨g', r, h1, h2, h3⟩ => ?_, fun _ {o} hh => ?_⟩
    · have := (List.getElem?_eq_some_iff.mp h2).1
      omega
    · refine b6_13 hQ hP ⟨_, _, d98' hQ C2, ?_⟩
      rw [if_neg (by omega), show (h : Int) + 1 = ((h + 1 : Nat) : Int) by omega]
      exact ⟨by omega, hh _⟩
  | succ d ih =>
    intro g hg
    obtain ⟨i1, i2⟩ := ih (g + 1) (by omega)
    obtain ⟨r, hr⟩ : ∃ r, l2[g]? = some r := ⟨_, List.getElem?_eq_getElem (by omega)⟩
    obtain ⟨-, -, a3, a5⟩ := pc_at hP wP C1 hq
    obtain ⟨b0, b2, -, -⟩ := pc_at hQ wQ C2 hr
    have nxt : ∀ {o : Rs}, ¬ T2 q r → C6_13 d0 P Q h ((g + 1 : Nat) : Int) σ o → C6_13 d0 P Q h g σ o := by
      intro o ht hh
      have h52 : C6_52 d0 P Q h g σ o := b6_52 ⟨by omega, by rw [show (g : Int) + 1 = ((g + 1 : Nat) : Int) by omega]; exact hh⟩
      refine b6_13 hQ hP ⟨_, _, d98' hQ C2, ?_⟩
      rw [if_pos (by omega)]
      refine ⟨_, _, a3, _, _, b2, ?_⟩
      by_cases y : q.2.2.1 ≤ r.1 + r.2.1
      · rw [if_pos (by omega)]
        refine ⟨_, _, b0, _, _, a5, ?_⟩
        rw [if_neg (fun e => ht ⟨y, by omega⟩)]
        exact h52
      · rw [if_neg (by omega)]
        exact h52
    by_cases ht : T2 q r
    · refine ⟨fun _ => ?_, fun hn => absurd ⟨g, r, Nat.le_refl g, hr, ht⟩ hn⟩
      refine b6_13 hQ hP ⟨_, _, d98' hQ C2, ?_⟩
      have t1 := ht.1
      have t2 := ht.2
      rw [if_pos (by omega)]
      refine ⟨_, _, a3, _, _, b2, ?_⟩
      rw [if_pos (by omega)]
      refine ⟨_, _, b0, _, _, a5, ?_⟩
      rw [if_pos (by omega)]
    · refine ⟨fun ⟨g', r', h1, h2, h3⟩ => nxt ht (i1 ⟨g', r', ?_, h2, h3⟩), fun hn {o} hh => nxt ht (i2 (fun ⟨g', r', h1, h2, h3⟩ => hn ⟨g', r', by omega, h2, h3⟩) hh)⟩
      by_cases e : g' = g
      · rw [e, hr] at h2
        cases h2
        exact absurd h3 ht
      · omega
theorem l6a {σ : Sg} {P Q : Nat} {l1 l2 : List (Nat × Nat × Nat × Nat)} (hP : isPatch P = true) (hQ : isPatch Q = true) (wP : wR σ (P + 9)) (wQ : wR σ (Q + 9)) (C1 : PC σ P l1) (C2 : PC σ Q l2) {d0 : Option AV} : ∀ (d h : Nat) (d4 : Option AV), h + d = l1.length → ((∃ h' q g r, h ≤ h' ∧ l1[h']? = some q ∧ l2[g]? = some r ∧ T2 q r) → C6_2 d0 P Q h d4 σ (rI 1 σ)) ∧ (¬ (∃ h' q g r, h ≤ h' ∧ l1[h']? = some q ∧ l2[g]? = some r ∧ T2 q r) → C6_2 d0 P Q h d4 σ (rI 0 σ)) := by
  intro d
  induction d with
  | zero =>
    intro h d4 hh
    refine ⟨fun ⟨h', q, g, r, h1, h2, h3, h4⟩ => ?_, fun _ => ?_⟩
    · have := (List.getElem?_eq_some_iff.mp h2).1
      omega
    · refine b6_2 hP ⟨_, _, d98' hP C1, ?_⟩
      rw [if_neg (by omega)]
  | succ d ih =>
    intro h d4 hh
    obtain ⟨q, hq⟩ : ∃ q, l1[h]? = some q := ⟨_, List.getElem?_eq_getElem (by omega)⟩
    obtain ⟨j1, j2⟩ := l6b (d0 := d0) hP hQ wP wQ C1 C2 hq l2.length 0 (by omega)
    have go : ∀ {o : Rs}, C6_13 d0 P Q h ((0 : Nat) : Int) σ o → C6_2 d0 P Q h d4 σ o := by
      intro o hx
      refine b6_2 hP ⟨_, _, d98' hP C1, ?_⟩
      rw [if_pos (by omega)]
      exact hx
    by_cases ht : ∃ g' r, 0 ≤ g' ∧ l2[g']? = some r ∧ T2 q r
    · refine ⟨fun _ => go (j1 ht), fun hn => ?_⟩
      obtain ⟨g, r, -, h2, h3⟩ := ht
      exact absurd ⟨h, q, g, r, Nat.le_refl h, hq, h2, h3⟩ hn
    · refine ⟨fun ⟨h', q', g, r, h1, h2, h3, h4⟩ => go (j2 ht (fun d4 => (ih (h + 1) d4 (by omega)).1 ⟨h', q', g, r, ?_, h2, h3, h4⟩)), fun hn => go (j2 ht (fun d4 => (ih (h + 1) d4 (by omega)).2 (fun ⟨h', q', g, r, h1, h2, h3, h4⟩ => hn ⟨h', q', g, r, by omega, h2, h3, h4⟩)))⟩
      by_cases e : h' = h
      · rw [e, hq] at h2
        cases h2
        exact absurd ⟨g, r, Nat.zero_le _, h3, h4⟩ ht
      · omega
/-- Combiner.doTouch -/
theorem d6 {σ : Sg} {P Q : Nat} {l1 l2 : List (Nat × Nat × Nat × Nat)} (hP : isPatch P = true) (hQ : isPatch Q = true) (wP : wR σ (P + 9)) (wQ : wR σ (Q + 9)) (C1 : PC σ P l1) (C2 : PC σ Q l2) : (TCH l1 l2 → Dd 6 [vA 350, vA P, vA Q] σ (rI 1 σ)) ∧ (¬ TCH l1 l2 → Dd 6 [vA 350, vA P, vA Q] σ (rI 0 σ)) := by
  obtain ⟨a, b⟩ := l6a (d0 := some (vA 350)) hP hQ wP wQ C1 C2 l1.length 0 none (by omega)
  exact ⟨fun ⟨h, q, g, r, h1, h2, h3⟩ => b6 (a ⟨h, q, g, r, Nat.zero_le _, h1, h2, h3⟩), fun hn => b6 (b (fun ⟨h, q, g, r, _, h1, h2, h3⟩ => hn ⟨h, q, g, r, h1, h2, h3⟩))⟩
/-- the reference's dependsOn -/
theorem l292b {σ : Sg} {h : Nat} {q : Nat × Nat × Nat × Nat} {l1 l2 : List (Nat × Nat × Nat × Nat)} (H1 : HK σ 0 0 l1) (H2 : HK σ 1 0 l2) (b1 : ∀ h : Nat, ∀ q, l1[h]? = some q → q.1 + q.2.1 ≤ 100 ∧ q.2.2.1 + q.2.2.2 ≤ 100) (b2 : ∀ h : Nat, ∀ q, l2[h]? = some q → q.1 + q.2.1 ≤ 100 ∧ q.2.2.1 + q.2.2.2 ≤ 100) (n1 : l1.length ≤ 120) (n2 : l2.length ≤ 120) (hq : l1[h]? = some q) {d1 d2 : Option AV} {z : Int} {o : Rs} : ∀ (d g : Nat) (y : Int), g + d = l2.length → (y = 0 ∨ y = 1) → (z = 0 ∨ z = 1) → (z = 1 ↔ (y = 1 ∨ ∃ g' r, g ≤ g' ∧ l2[g']? = some r ∧ T2 q r)) → (∀ d7, C292_21 d1 d2 (l1.length : Nat) (l2.length : Nat) z ((h + 1 : Nat) : Int) d7 σ o) → C292_32 d1 d2 (l1.length : Nat) (l2.length : Nat) y h ((128 + g : Nat) : Int) σ o := by
  have hlh := (List.getElem?_eq_some_iff.mp hq).1
  intro d
  induction d with
  | zero =>
    intro g y hg hy hz hi hh
    have ey : y = z := by
      have hno : ¬ ∃ g' r, g ≤ g' ∧ l2[g']? = some r ∧ T2 q r := by
        rintro ⟨g', r, h1, h2, h3⟩
        have := (List.getElem?_eq_some_iff.mp h2).1
        omega
      rcases hy with hy | hy
      · rcases hz with hz | hz
        · omega
        · rcases hi.mp hz with e | e
          · omega
          · exact absurd e hno
      · have := hi.mpr (Or.inl hy)
        omega
    refine b292_32 ⟨by omega, ?_⟩
    rw [if_neg (by omega), ey, show (h : Int) + 1 = ((h + 1 : Nat) : Int) by omega]
    exact ⟨by omega, hh _⟩
  | succ d ih =>
    intro g y hg hy hz hi hh
    obtain ⟨r, hr⟩ : ∃ r, l2[g]? = some r := ⟨_, List.getElem?_eq_getElem (by omega)⟩
    obtain ⟨v0, v1, v2, v3⟩ := H1 h q hq
    obtain ⟨u0, u1, u2, u3⟩ := H2 g r hr
    rw [show 128 * 0 + (0 + h) = h by omega] at v0 v1 v2 v3
    rw [show 128 * 1 + (0 + g) = 128 + g by omega] at u0 u1 u2 u3
    have bq := b1 h q hq
    have br := b2 g r hr
    have nxt : ∀ y1 : Int, C292_32 d1 d2 (l1.length : Nat) (l2.length : Nat) y1 h ((128 + (g + 1) : Nat) : Int) σ o → ∀ d5, C292_103 d1 d2 (l1.length : Nat) (l2.length : Nat) d5 h ((128 + g : Nat) : Int) y1 σ o := by
      intro y1 hx d5
      refine b292_103 ⟨by omega, ?_⟩
      rw [show ((128 + g : Nat) : Int) + 1 = ((128 + (g + 1) : Nat) : Int) by omega]
      exact hx
    have sp : (∃ g' r, g ≤ g' ∧ l2[g']? = some r ∧ T2 q r) ↔ (T2 q r ∨ ∃ g' r, g + 1 ≤ g' ∧ l2[g']? = some r ∧ T2 q r) := by
      refine ⟨fun ⟨g', r', h1, h2, h3⟩ => ?_, fun e => ?_⟩
      · by_cases e : g' = g
        · rw [e, hr] at h2
          cases h2
          exact Or.inl h3
        · exact Or.inr ⟨g', r', by omega, h2, h3⟩
      · rcases e with e | ⟨g', r', h1, h2, h3⟩
        · exact ⟨g, r, Nat.le_refl g, hr, e⟩
        · exact ⟨g', r', by omega, h2, h3⟩
    refine b292_32 ⟨by omega, ?_⟩
    rw [if_pos (by omega)]
    by_cases hy0 : y = 0
    · rw [if_pos hy0, show ((h : Nat) : Int).toNat = h by omega, show ((128 + g : Nat) : Int).toNat = 128 + g by omega, v2, v3, u0, u1]
      refine ⟨by omega, by omega, by omega, by omega, by omega, by omega, by omega, by omega, _, _, b291 rfl, ?_⟩
      by_cases ht : T2 q r
      · have t1 := ht.1
        have t2 := ht.2
        rw [if_pos (by omega), if_pos (by omega), if_neg (show ¬ (1 : Int) = 0 by decide)]
        refine b292_98 (nxt 1 (ih (g + 1) 1 (by omega) (Or.inr rfl) hz ?_ hh) _)
        rw [hi]
        exact ⟨fun _ => Or.inl rfl, fun _ => Or.inr (sp.mpr (Or.inl ht))⟩
      · have e0 : (if ((q.2.2.1 : Nat) : Int) ≤ (r.1 : Nat) + (r.2.1 : Nat) then (if ((r.1 : Nat) : Int) ≤ (q.2.2.1 : Nat) + (q.2.2.2 : Nat) then (1 : Int) else 0) else 0) = 0 := by
          by_cases y1 : q.2.2.1 ≤ r.1 + r.2.1
          · rw [if_pos (by omega), if_neg (fun e => ht ⟨y1, by omega⟩)]
          · rw [if_neg (by omega)]
        rw [e0, if_pos rfl]
        refine nxt 0 (ih (g + 1) 0 (by omega) (Or.inl rfl) hz ?_ hh) _
        rw [hi, sp]
        refine ⟨fun e => ?_, fun e => ?_⟩
        · rcases e with e | e | e
          · omega
          · exact absurd e ht
          · exact Or.inr e
        · rcases e with e | e
          · exact absurd e (by decide)
          · exact Or.inr (Or.inr e)
    · rw [if_neg hy0]
      have hy1 : y = 1 := by omega
      refine b292_98 (nxt 1 (ih (g + 1) 1 (by omega) (Or.inr rfl) hz ?_ hh) _)
      rw [hi]
      exact ⟨fun _ => Or.inl rfl, fun _ => Or.inl hy1⟩
theorem l292a {σ : Sg} {l1 l2 : List (Nat × Nat × Nat × Nat)} (H1 : HK σ 0 0 l1) (H2 : HK σ 1 0 l2) (b1 : ∀ h : Nat, ∀ q, l1[h]? = some q → q.1 + q.2.1 ≤ 100 ∧ q.2.2.1 + q.2.2.2 ≤ 100) (b2 : ∀ h : Nat, ∀ q, l2[h]? = some q → q.1 + q.2.1 ≤ 100 ∧ q.2.2.1 + q.2.2.2 ≤ 100) (n1 : l1.length ≤ 120) (n2 : l2.length ≤ 120) {d1 d2 : Option AV} {z : Int} (hz : z = 0 ∨ z = 1) : ∀ (d h : Nat) (y : Int) (d7 : Option AV), h + d = l1.length → (y = 0 ∨ y = 1) → (z = 1 ↔ (y = 1 ∨ ∃ h' q g r, h ≤ h' ∧ l1[h']? = some q ∧ l2[g]? = some r ∧ T2 q r)) → C292_21 d1 d2 (l1.length : Nat) (l2.length : Nat) y h d7 σ (rI z σ) := by
  intro d
  induction d with
  | zero =>
    intro h y d7 hh hy hi
    have ey : y = z := by
      have hno : ¬ ∃ h' q g r, h ≤ h' ∧ l1[h']? = some q ∧ l2[g]? = some r ∧ T2 q r := by
        rintro ⟨h', q, g, r, h1, h2, h3, h4⟩
        have := (List.getElem?_eq_some_iff.mp h2).1
        omega
      rcases hy with hy | hy
      · rcases hz with hz | hz
        · omega
        · rcases hi.mp hz with e | e
          · omega
          · exact absurd e hno
      · have := hi.mpr (Or.inl hy)
        omega
    refine b292_21 ?_
    rw [if_neg (by omega), ey]
    exact ⟨hz, rfl⟩
  | succ d ih =>
    intro h y d7 hh hy hi
    obtain ⟨q, hq⟩ : ∃ q, l1[h]? = some q := ⟨_, List.getElem?_eq_getElem (by omega)⟩
    have sp : (∃ h' q g r, h ≤ h' ∧ l1[h']? = some q ∧ l2[g]? = some r ∧ T2 q r) ↔ ((∃ g' r, 0 ≤ g' ∧ l2[g']? = some r ∧ T2 q r) ∨ ∃ h' q g r, h + 1 ≤ h' ∧ l1[h']? = some q ∧ l2[g]? = some r ∧ T2 q r) := by
      refine ⟨fun ⟨h', q', g, r, h1, h2, h3, h4⟩ => ?_, fun e => ?_⟩
      · by_cases e : h' = h
        · rw [e, hq] at h2
          cases h2
          exact Or.inl ⟨g, r, Nat.zero_le _, h3, h4⟩
        · exact Or.inr ⟨h', q', g, r, by omega, h2, h3, h4⟩
      · rcases e with ⟨g, r, _, h3, h4⟩ | ⟨h', q', g, r, h1, h2, h3, h4⟩
        · exact ⟨h, q, g, r, Nat.le_refl h, hq, h3, h4⟩
        · exact ⟨h', q', g, r, by omega, h2, h3, h4⟩
    refine b292_21 ?_
    rw [if_pos (by omega)]
    obtain ⟨z1, hz1, e1⟩ : ∃ z1 : Int, (z1 = 0 ∨ z1 = 1) ∧ (z1 = 1 ↔ (y = 1 ∨ ∃ g' r, 0 ≤ g' ∧ l2[g']? = some r ∧ T2 q r)) := by
      by_cases e : (y = 1 ∨ ∃ g' r, 0 ≤ g' ∧ l2[g']? = some r ∧ T2 q r)
      · exact ⟨1, Or.inr rfl, ⟨fun _ => e, fun _ => rfl⟩⟩
      · exact ⟨0, Or.inl rfl, ⟨fun h => absurd h (by decide), fun h => absurd h e⟩⟩
    refine l292b (z := z1) H1 H2 b1 b2 n1 n2 hq l2.length 0 y (by omega) hy hz1 e1 (fun d7 => ih (h + 1) z1 d7 (by omega) hz1 ?_)
    rw [hi, e1, sp]
    exact or_assoc.symm
theorem d292 {s t nb na nb' na' : Nat} {O N F O' N' F' : Nat → Int} {σ : Sg} (hs : s < 44) (ht : t < 44) (h1 : nb ≤ 100) (h2 : na ≤ 100) (h3 : nb' ≤ 100) (h4 : na' ≤ 100) (V : VF F nb na) (V' : VF F' nb' na') (S : Slot σ s nb na O N F) (S' : Slot σ t nb' na' O' N' F') : ∃ z σ', Dd 292 [vA 682, vI s, vI t] σ (rI z σ') ∧ (z = 0 ∨ z = 1) ∧ (z = 1 ↔ TCH (hks F nb na) (hks F' nb' na')) ∧ ∀ c k, ¬ (700 ≤ c ∧ c ≤ 704) → σ' c k = σ c k := by
  obtain ⟨s1, a1, a2, a3, a4, a5⟩ := d280 (wh := 0) hs (by decide) h1 h2 V S.1 S.2.1 S.2.2.2.2
  obtain ⟨s2, c1, c2, c3, c4, c5⟩ := d280 (wh := 1) (σ := s1) ht (by decide) h3 h4 V' (by rw [a5 _ _ (by omega) (by omega)]; exact S'.1) (by rw [a5 _ _ (by omega) (by omega)]; exact S'.2.1) (fun i hi => by rw [a5 _ _ (by omega) (by omega)]; exact S'.2.2.2.2 i hi)
  have H1 : HK s2 0 0 (hks F nb na) := by
    intro h q hq
    have hl := (List.getElem?_eq_some_iff.mp hq).1
    have := a2 h q hq
    rw [c5 _ _ (by omega) (by omega), c5 _ _ (by omega) (by omega), c5 _ _ (by omega) (by omega), c5 _ _ (by omega) (by omega)]
    exact this
  obtain ⟨z, hz, e⟩ : ∃ z : Int, (z = 0 ∨ z = 1) ∧ (z = 1 ↔ TCH (hks F nb na) (hks F' nb' na')) := by
    by_cases e : TCH (hks F nb na) (hks F' nb' na')
    · exact ⟨1, Or.inr rfl, ⟨fun _ => e, fun _ => rfl⟩⟩
    · exact ⟨0, Or.inl rfl, ⟨fun h => absurd h (by decide), fun h => absurd h e⟩⟩
  have L := l292a (z := z) (d1 := some (vI s)) (d2 := some (vI t)) H1 c2 (fun h q hq => by have := hks_bd V hq; omega) (fun h q hq => by have := hks_bd V' hq; omega) (by omega) (by omega) hz (hks F nb na).length 0 0 none (by omega) (Or.inl rfl) (by
    rw [e]
    exact ⟨fun ⟨h, q, g, r, y1, y2, y3⟩ => Or.inr ⟨h, q, g, r, Nat.zero_le _, y1, y2, y3⟩, fun y => by
      rcases y with y | ⟨h, q, g, r, _, y1, y2, y3⟩
      · exact absurd y (by decide)
      · exact ⟨h, q, g, r, y1, y2, y3⟩⟩)
  exact ⟨z, s2, b292 ⟨_, _, a1, _, _, c1, L⟩, hz, e, fun c k h => by rw [c5 c k (by omega) (by omega), a5 c k (by omega) (by omega)]⟩
/-- the second was made of what the first made -/
theorem l290 {s t nb na nb' na' : Nat} {O N F O' N' F' : Nat → Int} {σ : Sg} (hs : s < 44) (ht : t < 44) (h2 : na ≤ 100) (S : Slot σ s nb na O N F) (S' : Slot σ t nb' na' O' N' F') (he : na = nb') : ∀ (d i : Nat), i + d = na → ((∀ k, i ≤ k → k < na → N k = O' k) → C290_24 s t 1 i σ (rI 1 σ)) ∧ (¬ (∀ k, i ≤ k → k < na → N k = O' k) → C290_24 s t 1 i σ (rI 0 σ)) := by
  intro d
  induction d with
  | zero =>
    intro i hi
    refine ⟨fun _ => b290_24 ⟨by omega, ?_⟩, fun h => absurd (fun k h1 h2 => by omega) h⟩
    rw [show ((s : Nat) : Int).toNat = s by omega, S.2.1, if_neg (by omega)]
    exact ⟨Or.inr rfl, rfl⟩
  | succ d ih =>
    intro i hi
    obtain ⟨j1, j2⟩ := ih (i + 1) (by omega)
    have e1 : ((100 * (s : Int)) + (i : Int)).toNat = 100 * s + i := by omega
    have e2 : ((100 * (t : Int)) + (i : Int)).toNat = 100 * t + i := by omega
    have go : ∀ {o : Rs} (y : Int), y = (if N i = O' i then 1 else 0) → C290_24 s t y ((i + 1 : Nat) : Int) σ o → C290_24 s t 1 i σ o := by
      intro o y hy hh
      refine b290_24 ⟨by omega, ?_⟩
      rw [show ((s : Nat) : Int).toNat = s by omega, S.2.1, if_pos (by omega), if_neg (by decide), e1, e2, S.2.2.2.1 i (by omega), S'.2.2.1 i (by omega), ← hy]
      refine ⟨by omega, by omega, by omega, by omega, by omega, by omega, b290_71 ⟨by omega, ?_⟩⟩
      rw [show (i : Int) + 1 = ((i + 1 : Nat) : Int) by omega]
      exact hh
    have z0 : C290_24 s t 0 ((i + 1 : Nat) : Int) σ (rI 0 σ) := by
      refine b290_24 ⟨by omega, ?_⟩
      by_cases y : ((i + 1 : Nat) : Int) < σ 689 ((s : Int)).toNat
      · rw [if_pos y, if_pos rfl]; exact ⟨Or.inl rfl, rfl⟩
      · rw [if_neg y]; exact ⟨Or.inl rfl, rfl⟩
    by_cases hx : N i = O' i
    · have hx1 : (1 : Int) = (if N i = O' i then 1 else 0) := by rw [if_pos hx]
      refine ⟨fun h => go 1 hx1 (j1 (fun k h1 h2 => h k (by omega) h2)), fun h => go 1 hx1 (j2 (fun g => h (fun k h1 h2 => ?_)))⟩
      by_cases e : k = i
      · rw [e]; exact hx
      · exact g k (by omega) h2
    · have hx0 : (0 : Int) = (if N i = O' i then 1 else 0) := by rw [if_neg hx]
      exact ⟨fun h => absurd (h i (Nat.le_refl i) (by omega)) hx, fun _ => go 0 hx0 z0⟩
def FLW (nb' na : Nat) (N O' : Nat → Int) : Prop := na = nb' ∧ ∀ k, k < na → N k = O' k
theorem d290 {s t nb na nb' na' : Nat} {O N F O' N' F' : Nat → Int} {σ : Sg} (hs : s < 44) (ht : t < 44) (h2 : na ≤ 100) (S : Slot σ s nb na O N F) (S' : Slot σ t nb' na' O' N' F') : (FLW nb' na N O' → Dd 290 [vA 682, vI s, vI t] σ (rI 1 σ)) ∧ (¬ FLW nb' na N O' → Dd 290 [vA 682, vI s, vI t] σ (rI 0 σ)) := by
  have go : ∀ {o : Rs}, C290_24 s t (if na = nb' then 1 else 0) ((0 : Nat) : Int) σ o → Dd 290 [vA 682, vI s, vI t] σ o := by
    intro o hh
    refine b290 ⟨by omega, by omega, b290_20 ?_⟩
    rw [show ((s : Nat) : Int).toNat = s by omega, show ((t : Nat) : Int).toNat = t by omega, S.2.1, S'.1]
    by_cases e : na = nb'
    · rw [if_pos (by omega)]
      rw [if_pos e] at hh
      exact hh
    · rw [if_neg (by omega)]
      rw [if_neg e] at hh
      exact hh
  by_cases e : na = nb'
  · obtain ⟨a, b⟩ := l290 hs ht h2 S S' e na 0 (by omega)
    rw [if_pos e] at go
    exact ⟨fun h => go (a (fun k _ hk => h.2 k hk)), fun h => go (b (fun g => h ⟨e, fun k hk => g k (Nat.zero_le k) hk⟩))⟩
  · rw [if_neg e] at go
    refine ⟨fun h => absurd h.1 e, fun _ => go (b290_24 ⟨by omega, ?_⟩)⟩
    by_cases y : ((0 : Nat) : Int) < σ 689 ((s : Int)).toNat
    · rw [if_pos y, if_pos rfl]; exact ⟨Or.inl rfl, rfl⟩
    · rw [if_neg y]; exact ⟨Or.inl rfl, rfl⟩
theorem d237 {σ : Sg} {P Q nb na nb' na' : Nat} (hP : isPatch P = true) (hQ : isPatch Q = true) (w : WF σ) (N : NP σ P nb na) (N' : NP σ Q nb' na') : (FLW nb' na (σ (P + 4)) (σ (Q + 2)) → Dd 237 [vA 0, vA P, vA Q] σ (rV σ)) ∧ (¬ FLW nb' na (σ (P + 4)) (σ (Q + 2)) → Dd 237 [vA 0, vA P, vA Q] σ (rX 2 σ)) := by
  have n3 := N.2.1
  have n1 := N'.1
  refine ⟨fun h => b237 hQ hP ⟨_, _, d156_t (WF_w w (pat_1 hQ)) (WF_w w (pat_3 hP)) ⟨by have := h.1; omega, fun k hk => (h.2 k (by have := h.1; omega)).symm⟩, ?_⟩, fun h => b237 hQ hP ⟨_, _, d156_f (WF_w w (pat_1 hQ)) (WF_w w (pat_3 hP)) (fun g => h ⟨by have := g.1; omega, fun k hk => (g.2 k (by have := g.1; omega)).symm⟩), ?_⟩⟩
  · rw [if_neg (show ¬ (1 : Int) = 0 by decide)]
  · rw [if_pos rfl]
theorem o12 {σ : Sg} {c a1 a2 : Int} (H : Rel c σ) : OpB 402 302 [vA 0, vI a1, vI a2, vA 726] [vA 682, vI a1, vI a2] σ (c + 1) := by
  by_cases g1 : a1 < 0
  · exact x12_0 H g1
  by_cases g2 : σ 0 3 ≤ a1
  · exact x12_1 H g2
  have k1 : 0 ≤ a1 ∧ a1 < σ 0 3 := by omega
  by_cases g3 : a2 < 0
  · exact x12_2 H k1 g3
  by_cases g4 : σ 0 3 ≤ a2
  · exact x12_3 H k1 g4
  have k2 : 0 ≤ a2 ∧ a2 < σ 0 3 := by omega
  obtain ⟨a, rfl⟩ := Int.eq_ofNat_of_zero_le k1.1
  obtain ⟨b, rfl⟩ := Int.eq_ofNat_of_zero_le k2.1
  have hn := (rel_n H).1
  obtain ⟨hP, q1, q2, w1, w3⟩ := po_pat H k1.2
  obtain ⟨nb, na, b1, b2, N, S⟩ := po_slot q1 q2 w1 w3
  obtain ⟨hQ, r1, r2, y1, y3⟩ := po_pat H k2.2
  obtain ⟨nb', na', b3, b4, N', S'⟩ := po_slot r1 r2 y1 y3
  have e230 := d230_ok (σ := σ) k1 hn.2.2
  have f230 := d230_ok (σ := σ) k2 hn.2.2
  rw [show ((a : Int)).toNat = a by omega] at e230
  rw [show ((b : Int)).toNat = b by omega] at f230
  obtain ⟨c1, c2⟩ := d237 hP hQ H.1 N N'
  have m0 : ∀ {s : Sg} {o : Rs}, s 682 3 = σ 682 3 → C302_21 a b none 1 s o → Dd 302 [vA 682, vI a, vI b] s o := by
    intro s o h hh
    refine b302 ⟨_, _, d248_ok (by omega), ?_⟩
    rw [if_neg (show ¬ (1 : Int) = 0 by decide)]
    refine ⟨_, _, d248_ok (by omega), ?_⟩
    rw [if_neg (show ¬ (1 : Int) = 0 by decide)]
    exact hh
  by_cases hf : FLW nb' na (σ (20 + 13 * a + 4)) (σ (20 + 13 * b + 2))
  · obtain ⟨t1, t2⟩ := d6 hP hQ (WF_w H.1 (pat_9 hP)) (WF_w H.1 (pat_9 hQ)) (PC_of N (by omega) (by omega)) (PC_of N' (by omega) (by omega))
    obtain ⟨v, hv, ev, dv⟩ : ∃ v : Int, (v = 0 ∨ v = 1) ∧ (v = 1 ↔ TCH (hks (σ (20 + 13 * a + 6)) nb na) (hks (σ (20 + 13 * b + 6)) nb' na')) ∧ Dd 6 [vA 350, vA (20 + 13 * a), vA (20 + 13 * b)] σ (rI v σ) := by
      by_cases e : TCH (hks (σ (20 + 13 * a + 6)) nb na) (hks (σ (20 + 13 * b + 6)) nb' na')
      · exact ⟨1, Or.inr rfl, ⟨fun _ => e, fun _ => rfl⟩, t1 e⟩
      · exact ⟨0, Or.inl rfl, ⟨fun h => absurd h (by decide), fun h => absurd h e⟩, t2 e⟩
    have hA : Dd 402 [vA 0, vI a, vI b, vA 726] σ (rI 0 (upS σ 726 0 v)) := by
      refine b402 (Or.inl ⟨_, _, b184 (Or.inl ⟨_, _, e230, hP, Or.inl ⟨_, _, f230, hQ, Or.inl ⟨_, c1 hf, _, _, dv, hv, rfl⟩⟩⟩), b402_16 ⟨by decide, ?_⟩⟩)
      rcases hv with e | e <;> rw [e] <;> rfl
    have fr : ∀ c k, 685 ≤ c ∧ c ≤ 689 → upS (upS σ 726 0 v) 682 0 0 c k = σ c k := fun c k h => by rw [up_a (by omega), up_a (by omega)]
    have S1 := Slot_fr fr S
    have S2 := Slot_fr fr S'
    have fr0 : ∀ c k, 685 ≤ c ∧ c ≤ 689 → upS σ 726 0 v c k = σ c k := fun c k h => by rw [up_a (by omega)]
    obtain ⟨z, s2, d1, d2, d3, d4⟩ := d292 (s := a) (t := b) (by omega) (by omega) (by omega) (by omega) (by omega) (by omega) N.2.2.2.2.1 N'.2.2.2.2.1 S1 S2
    have ezv : z = v := by
      rcases hv with e | e
      · rcases d2 with e2 | e2
        · omega
        · have := ev.mpr (d3.mp e2)
          omega
      · have := d3.mpr (ev.mp e)
        omega
    have hoff : ∀ c k, ¬ (c = 682 ∧ k = 0) → ¬ c = 726 → ¬ (700 ≤ c ∧ c ≤ 704) → s2 c k = σ c k := by
      intro c k h1 h2 h3
      rw [d4 c k h3]
      unfold upS
      rw [if_neg (by omega), if_neg (by omega)]
    refine op_finB hA (b := if z = 0 then 0 else 1) (s2 := s2) (m0 (up_a (by decide)) ?_) ?_ (fun _ => ?_) (fun a k ha => up_a (by omega)) (fun a k ha => hoff _ _ (by omega) (by omega) (by omega)) (Rel_sc (by omega) (WF_fr (fun a k ha => hoff _ _ (by omega) (by omega) (by omega)) H.1) (fun c k hk => hoff _ _ (by omega) (by omega) (by omega)) H)
    · refine b302_21 ?_
      rw [if_neg (show ¬ (1 : Int) = 0 by decide)]
      refine ⟨_, _, (d290 (by omega) (by omega) (by omega) (Slot_fr fr0 S) (Slot_fr fr0 S')).1 hf, ?_⟩
      rw [if_neg (show ¬ (1 : Int) = 0 by decide)]
      refine b302_45 ⟨_, _, d245, ?_⟩
      rw [if_pos rfl, if_neg (show ¬ (1 : Int) = 0 by decide)]
      exact ⟨_, _, d1, rfl⟩
    · rw [d4 _ _ (by omega), up_s]
    · rw [d4 _ _ (by omega), up_a (by decide), up_s, ezv]
      rcases hv with e | e <;> rw [e] <;> rfl
  · refine op_xB H (kx := 2) (b := 0) (by decide) (b402 (Or.inr (Or.inr ⟨_, b184 (Or.inl ⟨_, _, e230, hP, Or.inl ⟨_, _, f230, hQ, Or.inr ⟨_, _, c2 hf, rfl⟩⟩⟩), rfl⟩))) (m0 rfl ?_)
    refine b302_21 ?_
    rw [if_neg (show ¬ (1 : Int) = 0 by decide)]
    refine ⟨_, _, (d290 (by omega) (by omega) (by omega) S S').2 hf, ?_⟩
    rw [if_pos rfl]
    refine b302_45 ⟨_, _, d245, ?_⟩
    rw [if_neg (show ¬ (2 : Int) = 0 by decide), if_pos rfl]
end
