/-! delta: how a second row comes of a first one. -/
noncomputable section
def mL (f g : Nat → Int) (n1 n2 : Nat) : Nat → Nat → Nat → Nat
  | 0, _, _ => 0
  | w + 1, p, h => if p < n1 ∧ h < n2 ∧ f p = g h then 1 + mL f g n1 n2 w (p + 1) (h + 1) else 0
def mT (f g : Nat → Int) (n1 n2 p h : Nat) : Nat := mL f g n1 n2 (n2 - h) p h
theorem mL_le {f g : Nat → Int} {n1 n2 : Nat} : ∀ (w p h : Nat), mL f g n1 n2 w p h ≤ w ∧ (p ≤ n1 → p + mL f g n1 n2 w p h ≤ n1) := by
  intro w
  induction w with
  | zero => intro p h; unfold mL; exact ⟨Nat.le_refl _, fun h => by omega⟩
  | succ w ih =>
    intro p h
    unfold mL
    obtain ⟨g1, g2⟩ := ih (p + 1) (h + 1)
    by_cases z : p < n1 ∧ h < n2 ∧ f p = g h
    · rw [if_pos z]
      refine ⟨by omega, fun _ => ?_⟩
      have := g2 (by omega)
      omega
    · rw [if_neg z]
      exact ⟨by omega, fun h => by omega⟩
theorem mT_step {f g : Nat → Int} {n1 n2 p h : Nat} : mT f g n1 n2 p h = if p < n1 ∧ h < n2 ∧ f p = g h then 1 + mT f g n1 n2 (p + 1) (h + 1) else 0 := by
  unfold mT
  by_cases z : h < n2
  · rw [show n2 - h = (n2 - (h + 1)) + 1 by omega]
    rfl
  · rw [show n2 - h = 0 by omega, if_neg (fun e => z e.2.1)]
    rfl
theorem l40 {a b n1 n2 p h : Nat} {σ : Sg} {f g : Nat → Int} (ha : isRow a = true) (hb : isRow b = true) (hA : σ a 1 = (n1 : Nat)) (hB : σ b 1 = (n2 : Nat)) (hn1 : n1 ≤ cap a ∧ n1 ≤ 5000) (hn2 : n2 ≤ cap b ∧ n2 ≤ 5000) (hf : ∀ k, k < n1 → σ (a + 1) k = f k) (hg : ∀ k, k < n2 → σ (b + 1) k = g k) (hp : p ≤ n1) (hh : h ≤ n2) {mo : Nat} (hm : mo = min (n1 - p) (n2 - h)) : ∀ (w j : Nat), j + w = mo → C40_20 a p b h mo j σ (rI ((j + mT f g n1 n2 (p + j) (h + j) : Nat) : Int) σ) := by
  have wa : wR σ a := ⟨ha, by omega, by omega⟩
  have wb : wR σ b := ⟨hb, by omega, by omega⟩
  intro w
  induction w with
  | zero =>
    intro j q
    refine b40_20 ha hb ?_
    rw [if_neg (by omega), mT_step, if_neg (by omega)]
    rfl
  | succ w ih =>
    intro j q
    refine b40_20 ha hb ?_
    have d1 := d147 (i := ((p + j : Nat) : Int)) wa
    rw [at_in hA (by omega), hf _ (by omega)] at d1
    have d2 := d147 (i := ((h + j : Nat) : Int)) wb
    rw [at_in hB (by omega), hg _ (by omega)] at d2
    rw [if_pos (by omega), show (p : Int) + (j : Int) = ((p + j : Nat) : Int) by omega, show (h : Int) + (j : Int) = ((h + j : Nat) : Int) by omega]
    refine ⟨by omega, _, _, d1, by omega, _, _, d2, ?_⟩
    rw [mT_step]
    by_cases z : f (p + j) = g (h + j)
    · rw [if_pos z, if_pos ⟨by omega, by omega, z⟩]
      refine ⟨by omega, ?_⟩
      have e := ih (j + 1) (by omega)
      rw [show j + 1 + mT f g n1 n2 (p + (j + 1)) (h + (j + 1)) = j + (1 + mT f g n1 n2 (p + j + 1) (h + j + 1)) by
        rw [show p + (j + 1) = p + j + 1 by omega, show h + (j + 1) = h + j + 1 by omega]
        omega] at e
      rw [show (j : Int) + 1 = ((j + 1 : Nat) : Int) by omega]
      exact e
    · rw [if_neg z, if_neg (fun e => z e.2.2)]
      rfl
/-- Deltas.matchLength -/
theorem d40 {a b n1 n2 p h : Nat} {σ : Sg} {f g : Nat → Int} (ha : isRow a = true) (hb : isRow b = true) (hA : σ a 1 = (n1 : Nat)) (hB : σ b 1 = (n2 : Nat)) (hn1 : n1 ≤ cap a ∧ n1 ≤ 5000) (hn2 : n2 ≤ cap b ∧ n2 ≤ 5000) (hf : ∀ k, k < n1 → σ (a + 1) k = f k) (hg : ∀ k, k < n2 → σ (b + 1) k = g k) (hp : p ≤ n1) (hh : h ≤ n2) : Dd 40 [vA a, vI p, vA b, vI h] σ (rI (mT f g n1 n2 p h : Nat) σ) := by
  have e := l40 ha hb hA hB hn1 hn2 hf hg hp hh (mo := min (n1 - p) (n2 - h)) rfl _ 0 (Nat.zero_add _)
  have e1 := d146 (σ := σ) ha
  have e2 := d146 (σ := σ) hb
  rw [hA] at e1
  rw [hB] at e2
  refine b40 ha hb ⟨_, _, e1, by omega, _, _, e2, by omega, ?_⟩
  have hm : (if ((n2 : Nat) : Int) - (h : Int) < ((n1 : Nat) : Int) - (p : Int) then ((n2 : Nat) : Int) - (h : Int) else ((n1 : Nat) : Int) - (p : Int)) = ((min (n1 - p) (n2 - h) : Nat) : Int) := by
    split <;> omega
  rw [hm]
  rw [show 0 + mT f g n1 n2 (p + 0) (h + 0) = mT f g n1 n2 p h by rw [Nat.add_zero, Nat.add_zero, Nat.zero_add]] at e
  exact e
def bS (f g : Nat → Int) (n1 n2 h : Nat) : Nat → Nat → Nat × Nat → Nat × Nat
  | 0, _, r => r
  | w + 1, p, r => bS f g n1 n2 h w (p + 1) (if r.2 < mT f g n1 n2 p h then (p, mT f g n1 n2 p h) else r)
def bT (f g : Nat → Int) (n1 n2 h : Nat) : Nat × Nat := bS f g n1 n2 h n1 0 (0, 0)
theorem bS_inv {f g : Nat → Int} {n1 n2 h : Nat} : ∀ (w p : Nat) (r : Nat × Nat), p + w = n1 → r.2 = mT f g n1 n2 r.1 h → r.1 < n1 → (bS f g n1 n2 h w p r).2 = mT f g n1 n2 (bS f g n1 n2 h w p r).1 h ∧ (bS f g n1 n2 h w p r).1 < n1 := by
  intro w
  induction w with
  | zero => intro p r h1 h2 h3; unfold bS; exact ⟨h2, h3⟩
  | succ w ih =>
    intro p r h1 h2 h3
    unfold bS
    refine ih (p + 1) _ (by omega) ?_ ?_
    · split
      · rfl
      · exact h2
    · split
      · show p < n1
        omega
      · exact h3
theorem bT_m {f g : Nat → Int} {n1 n2 h : Nat} : (bT f g n1 n2 h).2 = mT f g n1 n2 (bT f g n1 n2 h).1 h ∧ (bT f g n1 n2 h).1 ≤ n1 := by
  unfold bT
  cases n1 with
  | zero =>
    unfold bS
    refine ⟨?_, Nat.le_refl _⟩
    show 0 = mT f g 0 n2 0 h
    rw [mT_step, if_neg (by omega)]
  | succ n =>
    unfold bS
    have e : (if (0, 0).2 < mT f g (n + 1) n2 0 h then (0, mT f g (n + 1) n2 0 h) else (0, 0)) = (0, mT f g (n + 1) n2 0 h) := by
      by_cases z : 0 < mT f g (n + 1) n2 0 h
      · exact if_pos z
      · rw [if_neg z, show mT f g (n + 1) n2 0 h = 0 by omega]
    rw [e]
    have g := bS_inv (f := f) (g := g) (n1 := n + 1) (n2 := n2) (h := h) n (0 + 1) (0, mT f g (n + 1) n2 0 h) (by omega) rfl (by show 0 < n + 1; omega)
    exact ⟨g.1, by omega⟩
theorem bT_le {f g : Nat → Int} {n1 n2 h : Nat} : (bT f g n1 n2 h).2 ≤ n2 - h ∧ (bT f g n1 n2 h).1 + (bT f g n1 n2 h).2 ≤ n1 := by
  obtain ⟨e1, e2⟩ := bT_m (f := f) (g := g) (n1 := n1) (n2 := n2) (h := h)
  have := mL_le (f := f) (g := g) (n1 := n1) (n2 := n2) (n2 - h) (bT f g n1 n2 h).1 h
  rw [e1]
  exact ⟨this.1, this.2 e2⟩
theorem l39 {a b n1 n2 h : Nat} {σ : Sg} {f g : Nat → Int} (ha : isRow a = true) (hb : isRow b = true) (hA : σ a 1 = (n1 : Nat)) (hB : σ b 1 = (n2 : Nat)) (hn1 : n1 ≤ cap a ∧ n1 ≤ 5000) (hn2 : n2 ≤ cap b ∧ n2 ≤ 5000) (hf : ∀ k, k < n1 → σ (a + 1) k = f k) (hg : ∀ k, k < n2 → σ (b + 1) k = g k) (hh : h ≤ n2) : ∀ (w p : Nat) (r : Nat × Nat) (d6 : Option AV), p + w = n1 → C39_8 a b h r.1 r.2 p d6 σ (rI ((bS f g n1 n2 h w p r).1 : Nat) σ) := by
  have e1 := d146 (σ := σ) ha
  rw [hA] at e1
  intro w
  induction w with
  | zero =>
    intro p r d6 q
    refine b39_8 ha ⟨_, _, e1, ?_⟩
    rw [if_neg (by omega)]
    rfl
  | succ w ih =>
    intro p r d6 q
    refine b39_8 ha ⟨_, _, e1, ?_⟩
    rw [if_pos (by omega)]
    refine ⟨_, _, d40 ha hb hA hB hn1 hn2 hf hg (by omega) hh, b39_41 ⟨by omega, ?_⟩⟩
    unfold bS
    have e := ih (p + 1) (if r.2 < mT f g n1 n2 p h then (p, mT f g n1 n2 p h) else r) (some (vI (mT f g n1 n2 p h : Nat))) (by omega)
    rw [show (p : Int) + 1 = ((p + 1 : Nat) : Int) by omega]
    by_cases z : r.2 < mT f g n1 n2 p h
    · rw [if_pos z] at e
      rw [if_pos (by omega), if_pos (by omega), if_pos z]
      exact e
    · rw [if_neg z] at e
      rw [if_neg (by omega), if_neg (by omega), if_neg z]
      exact e
theorem l38 {p m : Nat} (hp : p ≤ 100) (hm : m ≤ 40) : ∀ (w i : Nat) (σ : Sg) (l : List Int), i + w = m → Rw σ 680 l → l.length + w ≤ 40 → ∃ s, C38_2 p m i σ (rV s) ∧ Rw s 680 (l ++ (List.range' i w).map (fun k => ((p + k : Nat) : Int))) ∧ ∀ c k, ¬ c = 680 → ¬ c = 681 → s c k = σ c k := by
  intro w
  induction w with
  | zero =>
    intro i σ l q1 q2 q3
    refine ⟨σ, b38_2 ?_, by simpa using q2, fun _ _ _ _ => rfl⟩
    rw [if_neg (by omega)]
  | succ w ih =>
    intro i σ l q1 q2 q3
    obtain ⟨s, g1, g2, g3⟩ := ih (i + 1) (adS σ 680 ((p + i : Nat) : Int)) (l ++ [((p + i : Nat) : Int)]) (by omega) (Rw_ad q2 (by rw [cp680.2]; omega)) (by simp only [List.length_append, List.length_cons, List.length_nil]; omega)
    refine ⟨s, b38_2 ?_, ?_, fun c k h1 h2 => by rw [g3 c k h1 h2, ad_off h1 h2]⟩
    · rw [if_pos (by omega), show (p : Int) + (i : Int) = ((p + i : Nat) : Int) by omega]
      refine ⟨by omega, _, d149 (Rw_wR cp680.1 q2 (by rw [cp680.2]; omega)), by omega, ?_⟩
      rw [show (i : Int) + 1 = ((i + 1 : Nat) : Int) by omega]
      exact g1
    · rw [List.append_assoc] at g2
      rw [List.range'_succ, List.map_cons]
      exact g2
def cds (f g : Nat → Int) (n1 n2 : Nat) : Nat → Nat → List Int
  | 0, _ => []
  | w + 1, h => if h < n2 then (if 3 ≤ (bT f g n1 n2 h).2 then (List.range' 0 (bT f g n1 n2 h).2).map (fun k => (((bT f g n1 n2 h).1 + k : Nat) : Int)) ++ cds f g n1 n2 w (h + (bT f g n1 n2 h).2) else (500 + g h) :: cds f g n1 n2 w (h + 1)) else []
theorem cds_len {f g : Nat → Int} {n1 n2 : Nat} : ∀ (w h : Nat), n2 - h ≤ w → (cds f g n1 n2 w h).length = n2 - h := by
  intro w
  induction w with
  | zero => intro h q; unfold cds; show 0 = _; omega
  | succ w ih =>
    intro h q
    unfold cds
    by_cases z : h < n2
    · rw [if_pos z]
      have hb := (bT_le (f := f) (g := g) (n1 := n1) (n2 := n2) (h := h)).1
      by_cases y : 3 ≤ (bT f g n1 n2 h).2
      · rw [if_pos y, List.length_append, List.length_map, List.length_range', ih _ (by omega)]
        omega
      · rw [if_neg y, List.length_cons, ih _ (by omega)]
        omega
    · rw [if_neg z]
      show 0 = _
      omega
theorem cds_ok {f g : Nat → Int} {n1 n2 : Nat} (h1 : n1 ≤ 40) (hg : ∀ k, k < n2 → 0 ≤ g k ∧ g k ≤ 255) : ∀ (w h : Nat), ∀ v ∈ cds f g n1 n2 w h, (0 ≤ v ∧ v < 40) ∨ (500 ≤ v ∧ v ≤ 755) := by
  intro w
  induction w with
  | zero => intro h v hv; unfold cds at hv; simp at hv
  | succ w ih =>
    intro h v hv
    unfold cds at hv
    by_cases z : h < n2
    · rw [if_pos z] at hv
      have hb := (bT_le (f := f) (g := g) (n1 := n1) (n2 := n2) (h := h)).2
      by_cases y : 3 ≤ (bT f g n1 n2 h).2
      · rw [if_pos y] at hv
        rcases List.mem_append.mp hv with q | q
        · obtain ⟨k, hk, rfl⟩ := List.mem_map.mp q
          have := List.mem_range'_1.mp hk
          left
          omega
        · exact ih _ v q
      · rw [if_neg y] at hv
        rcases List.mem_cons.mp hv with q | q
        · have := hg h z
          right
          omega
        · exact ih _ v q
    · rw [if_neg z] at hv
      simp at hv
/-- Deltas.find, from a place on -/
theorem l36 {a b n1 n2 : Nat} {f g : Nat → Int} (ha : isRow a = true) (hb : isRow b = true) (hab : a < 679 ∧ b < 679) (hn1 : n1 ≤ cap a ∧ n1 ≤ 40) (hn2 : n2 ≤ cap b ∧ n2 ≤ 40) (hg9 : ∀ k, k < n2 → 0 ≤ g k ∧ g k ≤ 255) {D : Nat} (h10 : D < 10) : ∀ (w h : Nat) (σ : Sg) (l : List Int) (d4 d5 : Option AV), n2 - h ≤ w → h ≤ n2 → σ a 1 = (n1 : Nat) → σ b 1 = (n2 : Nat) → (∀ k, k < n1 → σ (a + 1) k = f k) → (∀ k, k < n2 → σ (b + 1) k = g k) → σ 658 1 = (D : Nat) → Rw σ 680 l → l.length = h → ∃ s, C36_9 a b h d4 d5 σ (rI D s) ∧ Rw s (660 + 2 * D) (l ++ cds f g n1 n2 w h) ∧ s 658 1 = (D : Int) + 1 ∧ (∀ c j, ¬ c = 660 + 2 * D → ¬ c = 660 + 2 * D + 1 → ¬ c = 658 → ¬ c = 680 → ¬ c = 681 → s c j = σ c j) ∧ 0 ≤ s 680 1 ∧ s 680 1 ≤ 40 := by
  intro w
  have stop : ∀ (w h : Nat) (σ : Sg) (l : List Int) (d4 d5 : Option AV), h = n2 → σ b 1 = (n2 : Nat) → σ 658 1 = (D : Nat) → Rw σ 680 l → l.length = h → ∃ s, C36_9 a b h d4 d5 σ (rI D s) ∧ Rw s (660 + 2 * D) (l ++ cds f g n1 n2 w h) ∧ s 658 1 = (D : Int) + 1 ∧ (∀ c j, ¬ c = 660 + 2 * D → ¬ c = 660 + 2 * D + 1 → ¬ c = 658 → ¬ c = 680 → ¬ c = 681 → s c j = σ c j) ∧ 0 ≤ s 680 1 ∧ s 680 1 ≤ 40 := by
    intro w h σ l d4 d5 q1 q2 q6 q7 q8
    obtain ⟨s, g1, g2, g3, g4⟩ := d37 q6 h10 q7 (by omega)
    have hc : cds f g n1 n2 w h = [] := by
      cases w with
      | zero => rfl
      | succ w => unfold cds; rw [if_neg (by omega)]
    refine ⟨s, b36_9 hb ⟨_, _, d146 hb, ?_⟩, by rw [hc, List.append_nil]; exact g2, g3, fun c j h1 h2 h3 _ _ => g4 c j h1 h2 h3, by rw [g4 680 1 (by omega) (by omega) (by omega), q7.1]; omega, by rw [g4 680 1 (by omega) (by omega) (by omega), q7.1]; omega⟩
    rw [if_neg (by omega)]
    exact ⟨_, _, g1, rfl⟩
  induction w with
  | zero =>
    intro h σ l d4 d5 q0 q1 q2 q3 q4 q5 q6 q7 q8
    exact stop 0 h σ l d4 d5 (by omega) q3 q6 q7 q8
  | succ w ih =>
    intro h σ l d4 d5 q0 q1 q2 q3 q4 q5 q6 q7 q8
    by_cases hlt : h < n2
    · have e39 := l39 ha hb q2 q3 ⟨hn1.1, by omega⟩ ⟨hn2.1, by omega⟩ q4 q5 q1 n1 0 (0, 0) none (by omega)
      have e39 : Dd 39 [vA a, vA b, vI h] σ (rI ((bT f g n1 n2 h).1 : Nat) σ) := b39 e39
      have hbm := bT_m (f := f) (g := g) (n1 := n1) (n2 := n2) (h := h)
      have hbl := bT_le (f := f) (g := g) (n1 := n1) (n2 := n2) (h := h)
      have e40 := d40 ha hb q2 q3 ⟨hn1.1, by omega⟩ ⟨hn2.1, by omega⟩ q4 q5 hbm.2 q1
      rw [← hbm.1] at e40
      have wb : wR σ b := ⟨hb, by omega, by omega⟩
      unfold cds
      rw [if_pos hlt]
      generalize hP : (bT f g n1 n2 h).1 = P at e39 e40 hbl ⊢
      generalize hM : (bT f g n1 n2 h).2 = M at e40 hbl ⊢
      by_cases y : 3 ≤ M
      · rw [if_pos y]
        obtain ⟨s0, k1, k2, k3⟩ := l38 (p := P) (m := M) (by omega) (by omega) M 0 σ l (by omega) q7 (by omega)
        obtain ⟨s, g1, g2, g3, g4, g5⟩ := ih (h + M) s0 (l ++ (List.range' 0 M).map (fun k => ((P + k : Nat) : Int))) (some (vI (P : Nat))) (some (vI (M : Nat))) (by omega) (by omega) (by rw [k3 _ _ (by omega) (by omega)]; exact q2) (by rw [k3 _ _ (by omega) (by omega)]; exact q3) (fun k hk => by rw [k3 _ _ (by omega) (by omega)]; exact q4 k hk) (fun k hk => by rw [k3 _ _ (by omega) (by omega)]; exact q5 k hk) (by rw [k3 _ _ (by omega) (by omega)]; exact q6) k2 (by rw [List.length_append, List.length_map, List.length_range', q8])
        refine ⟨s, b36_9 hb ⟨_, _, d146 hb, ?_⟩, by rw [List.append_assoc] at g2; exact g2, g3, fun c j h1 h2 h3 h4 h5 => by rw [g4 c j h1 h2 h3 h4 h5, k3 _ _ h4 h5], g5⟩
        rw [if_pos (by omega)]
        refine ⟨_, _, e39, _, _, e40, ?_⟩
        rw [if_pos (by omega)]
        refine ⟨_, b38 k1, by omega, b36_76 ?_⟩
        rw [show (h : Int) + ((M : Nat) : Int) = ((h + M : Nat) : Int) by omega]
        exact g1
      · rw [if_neg y]
        have hd := d147 (i := (h : Int)) wb
        rw [at_in q3 hlt, q5 _ hlt] at hd
        have hgh := hg9 h hlt
        obtain ⟨s, g1, g2, g3, g4, g5⟩ := ih (h + 1) (adS σ 680 (500 + g h)) (l ++ [500 + g h]) (some (vI (P : Nat))) (some (vI (M : Nat))) (by omega) (by omega) (by rw [ad_off (by omega) (by omega)]; exact q2) (by rw [ad_off (by omega) (by omega)]; exact q3) (fun k hk => by rw [ad_off (by omega) (by omega)]; exact q4 k hk) (fun k hk => by rw [ad_off (by omega) (by omega)]; exact q5 k hk) (by rw [ad_off (by omega) (by omega)]; exact q6) (Rw_ad q7 (by rw [cp680.2]; omega)) (by rw [List.length_append, q8]; rfl)
        refine ⟨s, b36_9 hb ⟨_, _, d146 hb, ?_⟩, by rw [List.append_assoc] at g2; exact g2, g3, fun c j h1 h2 h3 h4 h5 => by rw [g4 c j h1 h2 h3 h4 h5, ad_off h4 h5], g5⟩
        rw [if_pos (by omega)]
        refine ⟨_, _, e39, _, _, e40, ?_⟩
        rw [if_neg (by omega)]
        refine ⟨_, _, hd, by omega, _, d149 (Rw_wR cp680.1 q7 (by rw [cp680.2]; omega)), by omega, b36_76 ?_⟩
        rw [show (h : Int) + 1 = ((h + 1 : Nat) : Int) by omega]
        exact g1
    · exact stop (w + 1) h σ l d4 d5 (by omega) q3 q6 q7 q8
end
