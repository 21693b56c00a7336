-- DRAFT c5by.lean
/-! Rows of bytes and deltas, of the class. -/
noncomputable section
theorem mL_match {f g : Nat → Int} {n1 n2 : Nat} : ∀ (w p h j : Nat), j < mL f g n1 n2 w p h → f (p + j) = g (h + j) := by
  intro w
  induction w with
  | zero => intro p h j hj; unfold mL at hj; omega
  | succ w ih =>
    intro p h j hj
    unfold mL at hj
    by_cases z : p < n1 ∧ h < n2 ∧ f p = g h
    · rw [if_pos z] at hj
      cases j with
      | zero => exact z.2.2
      | succ j =>
        have := ih (p + 1) (h + 1) j (by omega)
        rw [show p + (j + 1) = p + 1 + j by omega, show h + (j + 1) = h + 1 + j by omega]
        exact this
    · rw [if_neg z] at hj; omega
/-- what the codes of a delta are: a copy of the line's own byte, in blocks of three or more, or the byte -/
def cdP (f g : Nat → Int) (n1 h : Nat) (L : List Int) (i : Nat) (v : Int) : Prop := (0 ≤ v ∧ v < n1 ∧ f v.toNat = g (h + i) ∧ ((0 < i ∧ L[i - 1]? = some (v - 1) ∧ 0 ≤ v - 1) ∨ (L[i + 1]? = some (v + 1) ∧ L[i + 2]? = some (v + 2)))) ∨ v = 500 + g (h + i)
theorem cds_sd {f g : Nat → Int} {n1 n2 : Nat} : ∀ (w h : Nat), ∀ i v, (cds f g n1 n2 w h)[i]? = some v → cdP f g n1 h (cds f g n1 n2 w h) i v := by
  intro w
  induction w with
  | zero => intro h i v hv; unfold cds at hv; simp at hv
  | succ w ih =>
    intro h i v hv
    unfold cds at hv ⊢
    by_cases z : h < n2
    · rw [if_pos z] at hv ⊢
      have hb := (bT_le (f := f) (g := g) (n1 := n1) (n2 := n2) (h := h)).2
      have hm := (bT_m (f := f) (g := g) (n1 := n1) (n2 := n2) (h := h)).1
      obtain ⟨P, hP⟩ : ∃ P, P = (bT f g n1 n2 h).1 := ⟨_, rfl⟩
      obtain ⟨m, hmm⟩ : ∃ m, m = (bT f g n1 n2 h).2 := ⟨_, rfl⟩
      rw [← hP, ← hmm] at hm hb
      rw [← hP, ← hmm] at hv ⊢
      by_cases y : 3 ≤ m
      · rw [if_pos y] at hv ⊢
        obtain ⟨B, hB⟩ : ∃ B : List Int, B = (List.range' 0 m).map (fun k => ((P + k : Nat) : Int)) := ⟨_, rfl⟩
        rw [← hB] at hv ⊢
        have lB : B.length = m := by rw [hB, List.length_map, List.length_range']
        have gB : ∀ j, j < m → B[j]? = some ((P + j : Nat) : Int) := fun j hj => by
          rw [hB, List.getElem?_map, List.getElem?_range' hj]
          simp
        by_cases hi : i < m
        · rw [List.getElem?_append_left (by omega), gB i hi] at hv
          cases hv
          refine Or.inl ⟨by omega, by omega, ?_, ?_⟩
          · rw [tn]
            refine mL_match (n1 := n1) (n2 := n2) (n2 - h) P h i ?_
            have : m = mL f g n1 n2 (n2 - h) P h := hm
            omega
          · by_cases i0 : i = 0
            · refine Or.inr ⟨?_, ?_⟩
              · rw [List.getElem?_append_left (by omega), gB _ (by omega)]
                congr 1
              · rw [List.getElem?_append_left (by omega), gB _ (by omega)]
                congr 1
            · refine Or.inl ⟨by omega, ?_, by omega⟩
              rw [List.getElem?_append_left (by omega), gB _ (by omega)]
              congr 1
              omega
        · rw [List.getElem?_append_right (by omega), lB] at hv
          rcases ih (h + m) (i - m) v hv with ⟨e1, e2, e3, e4⟩ | e1
          · rw [show h + m + (i - m) = h + i by omega] at e3
            refine Or.inl ⟨e1, e2, e3, ?_⟩
            rcases e4 with ⟨e4, e5, e6⟩ | ⟨e4, e5⟩
            · refine Or.inl ⟨by omega, ?_, e6⟩
              rw [List.getElem?_append_right (by omega), lB, show i - 1 - m = i - m - 1 by omega]
              exact e5
            · refine Or.inr ⟨?_, ?_⟩
              · rw [List.getElem?_append_right (by omega), lB, show i + 1 - m = i - m + 1 by omega]
                exact e4
              · rw [List.getElem?_append_right (by omega), lB, show i + 2 - m = i - m + 2 by omega]
                exact e5
          · rw [show h + m + (i - m) = h + i by omega] at e1
            exact Or.inr e1
      · rw [if_neg y] at hv ⊢
        cases i with
        | zero =>
          have hv : some (500 + g h) = some v := hv
          cases hv
          exact Or.inr rfl
        | succ i =>
          have hv : (cds f g n1 n2 w (h + 1))[i]? = some v := hv
          rcases ih (h + 1) i v hv with ⟨e1, e2, e3, e4⟩ | e1
          · rw [show h + 1 + i = h + (i + 1) by omega] at e3
            refine Or.inl ⟨e1, e2, e3, ?_⟩
            rcases e4 with ⟨e4, e5, e6⟩ | ⟨e4, e5⟩
            · refine Or.inl ⟨by omega, ?_, e6⟩
              cases i with
              | zero => omega
              | succ i => exact e5
            · exact Or.inr ⟨e4, e5⟩
          · rw [show h + 1 + i = h + (i + 1) by omega] at e1
            exact Or.inr e1
    · rw [if_neg z] at hv
      simp at hv
/-- from one step of a delta to the next -/
def rnD (f : Nat → Int) (n s e : Nat) : Prop := s < e ∧ e ≤ n ∧ (∀ k, s < k → k < e → gT f k = true) ∧ (e = n ∨ gT f e = false)
def Rn (f : Nat → Int) (n : Nat) : Nat → Nat → Prop
  | 0, s => s = 0
  | k + 1, s => ∃ s', Rn f n k s' ∧ s' < n ∧ rnD f n s' s
theorem run_u {f : Nat → Int} {n s e e' : Nat} (h : rnD f n s e) (h' : rnD f n s e') : e = e' := by
  obtain ⟨a1, a2, a3, a4⟩ := h
  obtain ⟨b1, b2, b3, b4⟩ := h'
  rcases Nat.lt_trichotomy e e' with h | h | h
  · have := b3 e a1 h
    rcases a4 with a4 | a4
    · omega
    · rw [this] at a4; cases a4
  · exact h
  · have := a3 e' b1 h
    rcases b4 with b4 | b4
    · omega
    · rw [this] at b4; cases b4
theorem Rn_b {f : Nat → Int} {n : Nat} : ∀ (k s : Nat), Rn f n k s → k ≤ s ∧ s ≤ n ∧ (s = n ∨ gT f s = false) := by
  intro k
  induction k with
  | zero =>
    intro s h
    have h : s = 0 := h
    subst h
    exact ⟨Nat.le_refl _, Nat.zero_le _, Or.inr (by unfold gT; rfl)⟩
  | succ k ih =>
    intro s h
    obtain ⟨s', h1, h2, h3⟩ := h
    have := (ih s' h1).1
    exact ⟨by have := h3.1; omega, h3.2.1, h3.2.2.2⟩
theorem Rn_ev {σ : Sg} {a d n : Nat} (h : Dl σ a d n) {d0 d2 : Option AV} {o : Rs} : ∀ (k s : Nat), Rn (σ (a + 1)) n k s → ∀ left : Nat, left + k ≤ 1000 → (∀ d5, C48_5 d0 a d2 s (left : Int) d5 σ o) → ∀ d5, C48_5 d0 a d2 0 ((left + k : Nat) : Int) d5 σ o := by
  intro k
  induction k with
  | zero =>
    intro s hs left hl K d5
    have hs : s = 0 := hs
    subst hs
    exact K d5
  | succ k ih =>
    intro s hs left hl K d5
    obtain ⟨s', h1, h2, h3⟩ := hs
    have := ih s' h1 (left + 1) (by omega) (fun d5 => by
      obtain ⟨e, r1, r2, r3, r4, r5⟩ := d45 h h2
      have ee : e = s := run_u ⟨r1, r2, r3, r4⟩ h3
      subst ee
      refine b48_5 h.1 ⟨_, _, d146 h.1, ?_⟩
      rw [h.2.2.1, if_pos (by omega)]
      refine ⟨_, _, r5, ?_⟩
      rw [if_neg (by omega)]
      refine ⟨by omega, ?_⟩
      rw [show ((left + 1 : Nat) : Int) + (-1) = (left : Int) by omega]
      exact K _) d5
    rw [show left + (k + 1) = left + 1 + k by omega]
    exact this
theorem Rn_nx {σ : Sg} {a d n k s : Nat} (h : Dl σ a d n) (hs : s < n) (R : Rn (σ (a + 1)) n k s) : ∃ e, rnD (σ (a + 1)) n s e ∧ Rn (σ (a + 1)) n (k + 1) e := by
  obtain ⟨e, r1, r2, r3, r4, r5⟩ := d45 h hs
  exact ⟨e, ⟨r1, r2, r3, r4⟩, s, R, hs, r1, r2, r3, r4⟩
/-- the codes of delta d, and how many -/
def dF (σ : Sg) (d : Nat) : Nat → Int := σ (660 + 2 * d + 1)
theorem dl_ok {σ : Sg} {c : Int} {d n : Nat} (H : Rel c σ) (hd : (d : Int) < σ 658 1) (hn : σ (660 + 2 * d) 1 = (n : Nat)) : Dl σ (660 + 2 * d) d n ∧ Dd 229 [vA 0, vI d] σ (rA (660 + 2 * d) σ) := by
  have h1 := rel_d H (d := (d : Int)) (by omega)
  have h2 := d229_ok H (d := (d : Int)) (by omega)
  rw [tn] at h1 h2
  rw [hn, tn] at h1
  exact ⟨h1, h2⟩
/-- step -/
theorem q225 {σ : Sg} {c : Int} {d n k s e : Nat} (H : Rel c σ) (hd : (d : Int) < σ 658 1) (hn : σ (660 + 2 * d) 1 = (n : Nat)) (R : Rn (dF σ d) n k s) (hs : s < n) (he : rnD (dF σ d) n s e) : Dc 225 [vA 0, vI d, vI k] σ (.inl (some (.inl (1000 * ((e : Int) - s) + dF σ d s)))) σ := by
  obtain ⟨h, h229⟩ := dl_ok H hd hn
  have hb := Rn_b k s R
  have n40 := h.2.2.2.1
  have cs0 := h.2.2.2.2.2.2 s hs
  have hv : -1 ≤ σ (660 + 2 * d + 1) s ∧ σ (660 + 2 * d + 1) s ≤ 1000 := by
    rcases cs0 with ⟨z1, z2, z3⟩ | ⟨z1, z2, z3⟩ <;> omega
  have ev := Rn_ev h (d0 := some (vA 658)) (d2 := some (vI k)) (o := rI (1000 * ((e : Int) - s) + σ (660 + 2 * d + 1) s) σ) k s R 0 (by omega) (fun d5 => by
    obtain ⟨e', r1, r2, r3, r4, r5⟩ := d45 h hs
    have ee : e' = e := run_u ⟨r1, r2, r3, r4⟩ he
    subst ee
    have hd := d147 (i := (s : Int)) (Dl_w h)
    rw [at_in h.2.2.1 hs] at hd
    refine b48_5 h.1 ⟨_, _, d146 h.1, ?_⟩
    rw [h.2.2.1, if_pos (by omega)]
    refine ⟨_, _, r5, ?_⟩
    rw [if_pos (show ((0 : Nat) : Int) = 0 from rfl)]
    exact ⟨by omega, by omega, _, _, hd, by omega, rfl⟩) none
  rw [Nat.zero_add] at ev
  exact Dc_of (b225 (Or.inl ⟨_, _, h229, h.1, Or.inl ⟨_, b233 (by rw [if_neg (by omega)]), _, _, b48 ev, rfl⟩⟩))
theorem q225o {σ : Sg} {c : Int} {d n k : Nat} (H : Rel c σ) (hd : (d : Int) < σ 658 1) (hn : σ (660 + 2 * d) 1 = (n : Nat)) (R : Rn (dF σ d) n k n) : Dc 225 [vA 0, vI d, vI k] σ (.inl (some (.inl (-1)))) σ := by
  obtain ⟨h, h229⟩ := dl_ok H hd hn
  have hb := Rn_b k n R
  have n40 := h.2.2.2.1
  have ev := Rn_ev h (d0 := some (vA 658)) (d2 := some (vI k)) (o := rI (-1) σ) k n R 0 (by omega) (fun d5 => by
    refine b48_5 h.1 ⟨_, _, d146 h.1, ?_⟩
    rw [h.2.2.1, if_neg (by omega)]) none
  rw [Nat.zero_add] at ev
  exact Dc_of (b225 (Or.inl ⟨_, _, h229, h.1, Or.inl ⟨_, b233 (by rw [if_neg (by omega)]), _, _, b48 ev, rfl⟩⟩))
/-- sizeOf -/
theorem q224 {σ : Sg} {c : Int} {d n : Nat} (H : Rel c σ) (hd : (d : Int) < σ 658 1) (hn : σ (660 + 2 * d) 1 = (n : Nat)) : Dc 224 [vA 0, vI d] σ (.inl (some (.inl (sW (dF σ d) n 0)))) σ := by
  obtain ⟨h, h229⟩ := dl_ok H hd hn
  refine Dc_of (b224 (Or.inl ⟨_, _, h229, h.1, _, _, b47 ?_, rfl⟩))
  have e := l47 h (d0 := some (vA 658)) n 0 0 none (by omega) (by omega) (by
    right
    unfold gT
    rfl) (by omega)
  rw [Int.zero_add, Nat.sub_zero] at e
  exact e
/-- addByte -/
theorem c219 {σ : Sg} {c v : Int} {t n : Nat} (H : Rel c σ) (ht : t < 4) (hv : 0 ≤ v ∧ v ≤ 255) (hn : σ (11 + 2 * t) 1 = (n : Nat)) (h40 : n < 40) : ∃ s2 : Sg, Dc 219 [vA 0, vI t, vI v] σ (.inl (some (.inl ((n : Int) + 1)))) s2 ∧ Rel (c + 1) s2 ∧ ODt σ s2 ∧ s2 658 1 = σ 658 1 ∧ s2 (11 + 2 * t) 1 = (n : Int) + 1 ∧ s2 (11 + 2 * t + 1) n = v := by
  have k1 : 0 ≤ (t : Int) ∧ (t : Int) < 4 := by omega
  have hr := (el_10 k1).2
  have cc := cp_10 k1
  have e228 := d228_ok (σ := σ) k1
  rw [tn] at hr cc e228
  have w := WF_w H.1 hr
  have hsz : σ (11 + 2 * t) 1 < (cap (11 + 2 * t) : Int) := by omega
  have d1 := d146 (σ := adS σ (11 + 2 * t) v) hr
  rw [ad_sz hsz, hn] at d1
  have e6 := d146 (σ := σ) hr
  rw [hn] at e6
  obtain ⟨s2, a1, a2, a3⟩ := fc_join (fc47 (a1 := t) (a2 := v) H) (b219 (Or.inl ⟨_, _, e228, hr, Or.inl ⟨_, d234_ok hv, _, _, e6, by
    rw [if_neg (by omega)]
    exact ⟨_, d149 w, _, _, d1, rfl⟩⟩⟩))
  refine ⟨s2, a1, a2, fun x k h1 h2 h3 h4 => by rw [a3 x h1, ad_off (by omega) (by omega)], by rw [a3 658 (by decide), ad_off (by omega) (by omega)], by rw [a3 _ (by omega), ad_sz hsz, hn], ?_⟩
  rw [a3 _ (by omega), ad_val hsz (by omega), if_pos hn.symm]
/-- clear -/
theorem c220 {σ : Sg} {c : Int} {t : Nat} (H : Rel c σ) (ht : t < 4) : ∃ s2 : Sg, Dc 220 [vA 0, vI t] σ (.inl (some (.inl (σ (11 + 2 * t) 1)))) s2 ∧ Rel (c + 1) s2 ∧ ODt σ s2 ∧ s2 658 1 = σ 658 1 ∧ s2 (11 + 2 * t) 1 = 0 := by
  have k1 : 0 ≤ (t : Int) ∧ (t : Int) < 4 := by omega
  have hr := (el_10 k1).2
  have e228 := d228_ok (σ := σ) k1
  rw [tn] at hr e228
  obtain ⟨s2, a1, a2, a3⟩ := fc_join (fc48 (a1 := t) H) (b220 (Or.inl ⟨_, _, e228, hr, _, _, d146 hr, _, b152 hr rfl, rfl⟩))
  exact ⟨s2, a1, a2, fun x k h1 h2 h3 h4 => by rw [a3 x h1, up_a (by omega)], by rw [a3 658 (by decide), up_a (by omega)], by rw [a3 _ (by omega), up_s]⟩
/-- delta -/
theorem c222 {σ : Sg} {c : Int} {t1 t2 n1 n2 D : Nat} (H : Rel c σ) (h1 : t1 < 4) (h2 : t2 < 4) (hn1 : σ (11 + 2 * t1) 1 = (n1 : Nat)) (hn2 : σ (11 + 2 * t2) 1 = (n2 : Nat)) (hD : σ 658 1 = (D : Nat)) (h10 : D < 10) : ∃ s2 : Sg, Dc 222 [vA 0, vI t1, vI t2] σ (.inl (some (.inl D))) s2 ∧ Rel (c + 1) s2 ∧ (∀ x k, x < 682 → KP x k → ¬ x = 658 → ¬ x = 660 + 2 * D → ¬ x = 660 + 2 * D + 1 → s2 x k = σ x k) ∧ s2 658 1 = (D : Int) + 1 ∧ s2 (660 + 2 * D) 1 = (n2 : Nat) ∧ ∀ i v, (cds (σ (11 + 2 * t1 + 1)) (σ (11 + 2 * t2 + 1)) n1 n2 n2 0)[i]? = some v → dF s2 D i = v := by
  have k1 : 0 ≤ (t1 : Int) ∧ (t1 : Int) < 4 := by omega
  have k2 : 0 ≤ (t2 : Int) ∧ (t2 : Int) < 4 := by omega
  obtain ⟨b1, b2, b3⟩ := rel_b H k1
  obtain ⟨d1, d2, d3⟩ := rel_b H k2
  obtain ⟨hb1, hb2⟩ := H.2.2.2.1 t1 h1
  obtain ⟨hd1, hd2⟩ := H.2.2.2.1 t2 h2
  have hr1 := (el_10 k1).2
  have hr2 := (el_10 k2).2
  have hc1 := cp_10 k1
  have hc2 := cp_10 k2
  have kk1 := d228_ok (σ := σ) k1
  have kk2 := d228_ok (σ := σ) k2
  rw [tn] at kk1 b1 b2 b3 hr1 hc1
  rw [tn] at kk2 d1 d2 d3 hr2 hc2
  have hg9 : ∀ k, k < n2 → 0 ≤ σ (11 + 2 * t2 + 1) k ∧ σ (11 + 2 * t2 + 1) k ≤ 255 := fun k hk => hd2 k (by omega)
  have off0 : ∀ c k, ¬ c = 680 → upS σ 680 1 0 c k = σ c k := fun c k h => up_a h
  obtain ⟨s1, c1, c2, c3, c4, c5⟩ := l36 (f := σ (11 + 2 * t1 + 1)) (g := σ (11 + 2 * t2 + 1)) (n1 := n1) (n2 := n2) hr1 hr2 (by omega) (by omega) (by omega) hg9 (D := D) h10 n2 0 (upS σ 680 1 0) [] none none (by omega) (by omega) (by rw [off0 _ _ (by omega)]; exact hn1) (by rw [off0 _ _ (by omega)]; exact hn2) (fun k _ => off0 _ _ (by omega)) (fun k _ => off0 _ _ (by omega)) (by rw [off0 _ _ (by omega)]; exact hD) Rw_nil rfl
  obtain ⟨s2, a1, a2, a3⟩ := fc_join (fc50 (a1 := t1) (a2 := t2) H) (b222 (Or.inl ⟨_, _, kk1, hr1, Or.inl ⟨_, _, kk2, hr2, Or.inl ⟨_, b240 (by rw [if_neg (by omega)]), _, _, b36 ⟨_, d152 cp680.1, c1⟩, rfl⟩⟩⟩))
  rw [List.nil_append] at c2
  refine ⟨s2, a1, a2, fun x k y1 y2 y3 y4 y5 => ?_, by rw [a3 658 (by decide)]; exact c3, ?_, fun i v hv => ?_⟩
  · unfold KP at y2
    rw [a3 x y1, c4 x k (by omega) (by omega) (by omega) (by omega) (by omega), off0 _ _ (by omega)]
  · rw [a3 _ (by omega), c2.1, cds_len n2 0 (by omega), Nat.sub_zero]
  · unfold dF
    rw [a3 _ (by omega)]
    exact c2.2 i v hv
/-- chain -/
theorem c223 {σ : Sg} {c : Int} {t1 t2 n m D : Nat} (H : Rel c σ) (h1 : (t1 : Int) < σ 658 1) (h2 : (t2 : Int) < σ 658 1) (hn : σ (660 + 2 * t1) 1 = (n : Nat)) (hm : σ (660 + 2 * t2) 1 = (m : Nat)) (hD : σ 658 1 = (D : Nat)) : Dc 223 [vA 0, vI t1, vI t2] σ (.inr 2) σ ∨ (rS (dF σ t2) m 0 0 ≤ (n : Int) ∧ ∃ s2 : Sg, Dc 223 [vA 0, vI t1, vI t2] σ (.inl (some (.inl D))) s2 ∧ Rel (c + 1) s2 ∧ (∀ x k, x < 682 → KP x k → ¬ x = 658 → ¬ x = 660 + 2 * D → ¬ x = 660 + 2 * D + 1 → s2 x k = σ x k) ∧ s2 658 1 = (D : Int) + 1 ∧ s2 (660 + 2 * D) 1 = (m : Nat) ∧ D < 10 ∧ ∀ i, i < m → dF s2 D i = thr (dF σ t1) (dF σ t2) i) := by
  have hnn := (rel_n H).2.2.2.2
  obtain ⟨hD1, kk1⟩ := dl_ok H h1 hn
  obtain ⟨hD2, kk2⟩ := dl_ok H h2 hm
  have hRD := H.2.2.2.2.2.2.2.2
  have cls : ∀ {o : Rs}, ((∃ (s12 : Sg), Dd 241 [vA 0, vA (660 + 2 * t2), vI (n : Nat)] σ (.inl none, s12) ∧ ((∃ (s14 : Sg), Dd 240 [vA 0] s12 (.inl none, s14) ∧ (∃ (v17 : Int) (s16 : Sg), Dd 43 [vA 658, vA (660 + 2 * t1), vA (660 + 2 * t2)] s14 (.inl (some (.inl v17)), s16) ∧ o = (.inl (some (.inl v17)), s16))) ∨ (∃ (E0 : Nat) (s0 : Sg), Dd 240 [vA 0] s12 (.inr E0, s0) ∧ o = (.inr E0, s0)))) ∨ (∃ (E0 : Nat) (s0 : Sg), Dd 241 [vA 0, vA (660 + 2 * t2), vI (n : Nat)] σ (.inr E0, s0) ∧ o = (.inr E0, s0))) → Dd 223 [vA 0, vI t1, vI t2] σ o := by
    intro o hh
    have e6 := d146 (σ := σ) hD1.1
    rw [hD1.2.2.1] at e6
    exact b223 (Or.inl ⟨_, _, kk1, hD1.1, Or.inl ⟨_, _, kk2, hD2.1, _, _, e6, hh⟩⟩)
  by_cases g5 : (n : Int) < rS (σ (660 + 2 * t2 + 1)) m 0 0
  · refine Or.inl (Dc_of (cls (Or.inr ⟨_, _, b241 ⟨_, _, d42 hD2, ?_⟩, rfl⟩)))
    rw [if_pos g5]
  by_cases g6 : 10 ≤ σ 658 1
  · exact Or.inl (Dc_of (cls (Or.inl ⟨_, b241 ⟨_, _, d42 hD2, by rw [if_neg g5]⟩, Or.inr ⟨_, _, b240 (by rw [if_pos g6]), rfl⟩⟩)))
  have hge := (rS_ge (f := σ (660 + 2 * t2 + 1)) m 0 0).2
  have cd2 := hD2.2.2.2.2.2.2
  have hgg : ∀ k, k < m → 0 ≤ σ (660 + 2 * t2 + 1) k ∧ (σ (660 + 2 * t2 + 1) k < 500 → σ (660 + 2 * t2 + 1) k < n) := by
    intro k hk
    refine ⟨?_, fun z => ?_⟩
    · rcases cd2 k hk with ⟨z1, z2, z3⟩ | ⟨z1, z2, z3⟩ <;> omega
    · have := hge k (by omega) (by omega) z
      omega
  have off0 : ∀ c k, ¬ c = 680 → upS σ 680 1 0 c k = σ c k := fun c k h => up_a h
  obtain ⟨s1, c1, c2, c3, c4, c5⟩ := l43 (f := σ (660 + 2 * t1 + 1)) (g := σ (660 + 2 * t2 + 1)) hD1.1 hD2.1 ⟨hD1.2.2.2.1, hD1.2.1⟩ ⟨hD2.2.2.2.1, hD2.2.1⟩ (by omega) hgg (D := D) (by omega) m 0 (upS σ 680 1 0) [] none (by omega) (by rw [off0 _ _ (by omega)]; exact hD1.2.2.1) (by rw [off0 _ _ (by omega)]; exact hD2.2.2.1) (fun i _ => off0 _ _ (by omega)) (fun i _ => off0 _ _ (by omega)) (by rw [off0 _ _ (by decide)]; exact hD) Rw_nil rfl (by omega)
  obtain ⟨s2, a1, a2, a3⟩ := fc_join (fc51 (a1 := t1) (a2 := t2) H) (cls (Or.inl ⟨_, b241 ⟨_, _, d42 hD2, by rw [if_neg g5]⟩, Or.inl ⟨_, b240 (by rw [if_neg g6]), _, _, b43 ⟨_, d152 cp680.1, c1⟩, rfl⟩⟩))
  rw [List.nil_append] at c2
  refine Or.inr ⟨by show rS (σ (660 + 2 * t2 + 1)) m 0 0 ≤ _; omega, s2, a1, a2, fun x k y1 y2 y3 y4 y5 => ?_, by rw [a3 658 (by decide)]; exact c3, ?_, by omega, fun i hi => ?_⟩
  · unfold KP at y2
    rw [a3 x y1, c4 x k (by omega) (by omega) (by omega) (by omega) (by omega), off0 _ _ (by omega)]
  · rw [a3 _ (by omega), c2.1, List.length_map, List.length_range']
  · unfold dF
    rw [a3 _ (by omega)]
    refine c2.2 i _ ?_
    rw [List.getElem?_map, List.getElem?_range' hi]
    simp
/-- putDelta -/
theorem c226 {σ : Sg} {c : Int} {t1 t2 t3 n m : Nat} (H : Rel c σ) (h1 : (t1 : Int) < σ 658 1) (h2 : t2 < 4) (h3 : t3 < 4) (hn : σ (660 + 2 * t1) 1 = (n : Nat)) (hm : σ (11 + 2 * t2) 1 = (m : Nat)) : ((m : Int) < rS (dF σ t1) n 0 0 ∧ Dc 226 [vA 0, vI t1, vI t2, vI t3] σ (.inr 2) σ) ∨ (rS (dF σ t1) n 0 0 ≤ (m : Int) ∧ ∃ s2 : Sg, Dc 226 [vA 0, vI t1, vI t2, vI t3] σ (.inl (some (.inl (n : Int)))) s2 ∧ Rel (c + 1) s2 ∧ (∀ x k, x < 682 → KP x k → ¬ x = 11 + 2 * t3 → ¬ x = 11 + 2 * t3 + 1 → s2 x k = σ x k) ∧ s2 (11 + 2 * t3) 1 = (n : Nat) ∧ ∀ i, i < n → s2 (11 + 2 * t3 + 1) i = ptb (dF σ t1) (σ (11 + 2 * t2 + 1)) i) := by
  have k2 : 0 ≤ (t2 : Int) ∧ (t2 : Int) < 4 := by omega
  have k3 : 0 ≤ (t3 : Int) ∧ (t3 : Int) < 4 := by omega
  obtain ⟨hD1, kk1⟩ := dl_ok H h1 hn
  have hRD := H.2.2.2.2.2.2.2.2
  obtain ⟨b1, b2, b3⟩ := rel_b H k2
  have hr2 := (el_10 k2).2
  have hr3 := (el_10 k3).2
  have hc2 := cp_10 k2
  have hc3 := cp_10 k3
  have kk2 := d228_ok (σ := σ) k2
  have kk3 := d228_ok (σ := σ) k3
  rw [tn] at kk2 b1 b2 b3 hr2 hc2
  rw [tn] at kk3 hr3 hc3
  have n40 := hD1.2.2.2.1
  have cd1 := hD1.2.2.2.2.2.2
  have e6 := d146 (σ := σ) hr2
  rw [hm] at e6
  have hRD1 := (rel_n H).2.2.2.2
  by_cases g7 : (m : Int) < rS (σ (660 + 2 * t1 + 1)) n 0 0
  · refine Or.inl ⟨g7, Dc_of (b226 (Or.inl ⟨_, _, kk1, hD1.1, Or.inl ⟨_, _, kk2, hr2, Or.inl ⟨_, _, kk3, hr3, _, _, e6, Or.inr ⟨_, _, b241 ⟨_, _, d42 hD1, ?_⟩, rfl⟩⟩⟩⟩))⟩
    rw [if_pos g7]
  have hge := (rS_ge (f := σ (660 + 2 * t1 + 1)) n 0 0).2
  have hff : ∀ k, k < n → 0 ≤ σ (660 + 2 * t1 + 1) k ∧ σ (660 + 2 * t1 + 1) k ≤ 1000 ∧ (σ (660 + 2 * t1 + 1) k < 500 → σ (660 + 2 * t1 + 1) k < m) := by
    intro k hk
    have := hge k (by omega) (by omega)
    rcases cd1 k hk with ⟨z1, z2, z3⟩ | ⟨z1, z2, z3⟩
    · exact ⟨by omega, by omega, fun z => by have := this z; omega⟩
    · exact ⟨by omega, by omega, fun z => by omega⟩
  have off0 : ∀ c k, ¬ c = 680 → upS σ 680 1 0 c k = σ c k := fun c k h => up_a h
  obtain ⟨s1, c1, c2, c4, c5⟩ := l44 (f := σ (660 + 2 * t1 + 1)) (g := σ (11 + 2 * t2 + 1)) hD1.1 hr2 hr3 (by omega) ⟨hD1.2.2.2.1, hD1.2.1⟩ (m := m) ⟨by omega, by omega⟩ (by omega) hff n 0 (upS σ 680 1 0) [] none (by omega) (by rw [off0 _ _ (by omega)]; exact hD1.2.2.1) (by rw [off0 _ _ (by omega)]; exact hm) (fun i _ => off0 _ _ (by omega)) (fun i _ => off0 _ _ (by omega)) Rw_nil rfl
  have hlen : ([] ++ (List.range' 0 n).map (ptb (σ (660 + 2 * t1 + 1)) (σ (11 + 2 * t2 + 1)))).length = n := by simp
  have es1 : s1 (11 + 2 * t3) 1 = (n : Nat) := by rw [c2.1, hlen]
  have e9 := d146 (σ := s1) hr3
  rw [es1] at e9
  obtain ⟨s2, a1, a2, a3⟩ := fc_join (fc54 (a1 := t1) (a2 := t2) (a3 := t3) H) (b226 (Or.inl ⟨_, _, kk1, hD1.1, Or.inl ⟨_, _, kk2, hr2, Or.inl ⟨_, _, kk3, hr3, _, _, e6, Or.inl ⟨_, b241 ⟨_, _, d42 hD1, by rw [if_neg g7]⟩, _, b44 ⟨_, d152 cp680.1, c1⟩, _, _, e9, rfl⟩⟩⟩⟩))
  rw [List.nil_append] at c2
  refine Or.inr ⟨by show rS (σ (660 + 2 * t1 + 1)) n 0 0 ≤ _; omega, s2, a1, a2, fun x k y1 y2 y3 y4 => ?_, by rw [a3 _ (by omega)]; exact es1, fun i hi => ?_⟩
  · unfold KP at y2
    rw [a3 x y1, c4 x k (by omega) (by omega) (by omega) (by omega), off0 _ _ (by omega)]
  · rw [a3 _ (by omega)]
    refine c2.2 i _ ?_
    rw [List.getElem?_map, List.getElem?_range' hi]
    simp [dF]
theorem rS_le {f : Nat → Int} {b : Int} : ∀ (w k : Nat) (acc : Int), acc ≤ b → (∀ i, k ≤ i → i < k + w → f i < 500 → f i < b) → rS f w k acc ≤ b := by
  intro w
  induction w with
  | zero => intro k acc h _; exact h
  | succ w ih =>
    intro k acc h hb
    unfold rS
    refine ih (k + 1) _ ?_ (fun i h1 h2 => hb i (by omega) (by omega))
    have := hb k (Nat.le_refl _) (by omega)
    split
    · split <;> omega
    · exact h
end
