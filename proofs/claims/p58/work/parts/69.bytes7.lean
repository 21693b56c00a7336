/-! delta: the model's side, and the call. -/
noncomputable section
theorem d381 {r t n1 n2 p h : Nat} {σ : Sg} {f g : Nat → Int} (hr : r < 4) (ht : t < 4) (hA : σ 723 r = (n1 : Nat)) (hB : σ 723 t = (n2 : Nat)) (hn1 : n1 ≤ 40) (hn2 : n2 ≤ 40) (hf : ∀ k, k < n1 → σ 722 (40 * r + k) = f k) (hg : ∀ k, k < n2 → σ 722 (40 * t + k) = g k) (hp : p ≤ 40) (hh : h ≤ n2) : Dd 381 [vA 682, vI r, vI p, vI t, vI h] σ (rI (mT f g n1 n2 p h : Nat) σ) := by
  have l : ∀ (w j : Nat), h + j + w = n2 → p + j ≤ 80 → C381_3 r p t h j σ (rI ((j + mT f g n1 n2 (p + j) (h + j) : Nat) : Int) σ) := by
    intro w
    induction w with
    | zero =>
      intro j q q2
      refine b381_3 ⟨by omega, by omega, ?_⟩
      rw [mT_step, if_neg (show ¬ (p + j < n1 ∧ h + j < n2 ∧ f (p + j) = g (h + j)) by omega), show ((r : Int)).toNat = r by omega, show ((t : Int)).toNat = t by omega]
      by_cases z : (p : Int) + (j : Int) < σ 723 r
      · rw [if_pos z]
        refine ⟨by omega, by omega, ?_⟩
        rw [if_neg (by omega)]
        rfl
      · rw [if_neg z]
        rfl
    | succ w ih =>
      intro j q q2
      refine b381_3 ⟨by omega, by omega, ?_⟩
      rw [mT_step, show ((r : Int)).toNat = r by omega, show ((t : Int)).toNat = t by omega]
      by_cases z : (p : Int) + (j : Int) < σ 723 r
      · rw [if_pos z]
        refine ⟨by omega, by omega, ?_⟩
        rw [if_pos (by omega), show (40 * (r : Int) + (p : Int) + (j : Int)).toNat = 40 * r + (p + j) by omega, show (40 * (t : Int) + (h : Int) + (j : Int)).toNat = 40 * t + (h + j) by omega, hf _ (by omega), hg _ (by omega)]
        refine ⟨by omega, by omega, by omega, by omega, by omega, by omega, by omega, by omega, ?_⟩
        by_cases y : f (p + j) = g (h + j)
        · rw [if_pos y, if_pos ⟨by omega, by omega, y⟩]
          refine ⟨by omega, ?_⟩
          have e := ih (j + 1) (by omega) (by omega)
          rw [show j + 1 + mT f g n1 n2 (p + (j + 1)) (h + (j + 1)) = j + (1 + mT f g n1 n2 (p + j + 1) (h + j + 1)) by
            rw [show p + (j + 1) = p + j + 1 by omega, show h + (j + 1) = h + j + 1 by omega]
            omega] at e
          rw [show (j : Int) + 1 = ((j + 1 : Nat) : Int) by omega]
          exact e
        · rw [if_neg y, if_neg (fun e => y e.2.2)]
          rfl
      · rw [if_neg z, if_neg (by omega)]
        rfl
  have e := l (n2 - h) 0 (by omega) (by omega)
  rw [show 0 + mT f g n1 n2 (p + 0) (h + 0) = mT f g n1 n2 p h by rw [Nat.add_zero, Nat.add_zero, Nat.zero_add]] at e
  exact b381 e
/-- the model's search for the longest -/
theorem l382a {r t n1 n2 h : Nat} {σ : Sg} {f g : Nat → Int} (hr : r < 4) (ht : t < 4) (hA : σ 723 r = (n1 : Nat)) (hB : σ 723 t = (n2 : Nat)) (hn1 : n1 ≤ 40) (hn2 : n2 ≤ 40) (hf : ∀ k, k < n1 → σ 722 (40 * r + k) = f k) (hg : ∀ k, k < n2 → σ 722 (40 * t + k) = g k) (hh : h ≤ n2) {o : Rs} : ∀ (w p : Nat) (q : Nat × Nat) (d7 : Option AV), p + w = n1 → (∀ d7, C382_125 r t h ((bS f g n1 n2 h w p q).2 : Nat) ((bS f g n1 n2 h w p q).1 : Nat) 0 d7 σ o) → C382_62 r t h (q.2 : Nat) (q.1 : Nat) p d7 σ o := by
  intro w
  induction w with
  | zero =>
    intro p q d7 h1 H
    refine b382_62 ⟨by omega, ?_⟩
    rw [show ((r : Int)).toNat = r by omega, if_neg (by omega)]
    exact H _
  | succ w ih =>
    intro p q d7 h1 H
    refine b382_62 ⟨by omega, ?_⟩
    rw [show ((r : Int)).toNat = r by omega, if_pos (by omega)]
    refine ⟨_, _, d381 hr ht hA hB hn1 hn2 hf hg (by omega) hh, b382_98 (b382_114 ⟨by omega, ?_⟩)⟩
    have e := ih (p + 1) (if q.2 < mT f g n1 n2 p h then (p, mT f g n1 n2 p h) else q) (some (vI (mT f g n1 n2 p h : Nat))) (by omega) H
    rw [show (p : Int) + 1 = ((p + 1 : Nat) : Int) by omega]
    by_cases z : q.2 < mT f g n1 n2 p h
    · rw [if_pos z] at e
      rw [if_pos (by omega), if_pos (by omega)]
      exact e
    · rw [if_neg z] at e
      rw [if_neg (by omega), if_neg (by omega)]
      exact e
/-- the model notes a copy -/
theorem l382b {r t n2 h D M P : Nat} {o : Rs} (hM : 3 ≤ M) (hhM : h + M ≤ n2) (hn2 : n2 ≤ 40) (hP : P ≤ 40) (h10 : D < 10) : ∀ (w i : Nat) (σ : Sg) (d7 : Option AV), i + w = M → σ 682 58 = (D : Nat) → (∀ d5 d6 d7, C382_166 r t h M d5 d6 d7 (fun c k => if c = 725 ∧ 40 * D + h + i ≤ k ∧ k < 40 * D + h + M then ((P + (k - (40 * D + h)) : Nat) : Int) else σ c k) o) → C382_125 r t h M P i d7 σ o := by
  intro w
  induction w with
  | zero =>
    intro i σ d7 q1 q2 H
    refine b382_125 ?_
    rw [if_neg (by omega)]
    have e : (fun c k => if c = 725 ∧ 40 * D + h + i ≤ k ∧ k < 40 * D + h + M then ((P + (k - (40 * D + h)) : Nat) : Int) else σ c k) = σ := by
      funext c k
      rw [if_neg (by omega)]
    rw [e] at H
    exact H _ _ _
  | succ w ih =>
    intro i σ d7 q1 q2 H
    refine b382_125 ?_
    rw [if_pos (by omega), if_pos (by omega), q2]
    refine ⟨by omega, by omega, by omega, by omega, by omega, by omega, ?_⟩
    rw [show (40 * ((D : Nat) : Int) + (h : Int) + (i : Int)).toNat = 40 * D + h + i by omega, show ((P : Nat) : Int) + (i : Int) = ((P + i : Nat) : Int) by omega, show (i : Int) + 1 = ((i + 1 : Nat) : Int) by omega]
    refine ih (i + 1) _ d7 (by omega) (by rw [up_a (by decide)]; exact q2) ?_
    have e : (fun c k => if c = 725 ∧ 40 * D + h + (i + 1) ≤ k ∧ k < 40 * D + h + M then ((P + (k - (40 * D + h)) : Nat) : Int) else upS σ 725 (40 * D + h + i) ((P + i : Nat) : Int) c k) = (fun c k => if c = 725 ∧ 40 * D + h + i ≤ k ∧ k < 40 * D + h + M then ((P + (k - (40 * D + h)) : Nat) : Int) else σ c k) := by
      funext c k
      by_cases z : c = 725 ∧ k = 40 * D + h + i
      · rw [if_neg (by omega), if_pos (by omega), z.1, z.2, up_s]
        congr 2
        omega
      · have : upS σ 725 (40 * D + h + i) ((P + i : Nat) : Int) c k = σ c k := by
          unfold upS
          rw [if_neg z]
        rw [this]
        by_cases y : c = 725 ∧ 40 * D + h + (i + 1) ≤ k ∧ k < 40 * D + h + M
        · rw [if_pos y, if_pos (by omega)]
        · rw [if_neg y, if_neg (by omega)]
    rw [e]
    exact H
def enc (v : Int) : Int := if v < 500 then v else v + 500
theorem l382 {r t n1 n2 D : Nat} {f g : Nat → Int} (hr : r < 4) (ht : t < 4) (hn1 : n1 ≤ 40) (hn2 : n2 ≤ 40) (hg9 : ∀ k, k < n2 → 0 ≤ g k ∧ g k ≤ 255) (h10 : D < 10) : ∀ (w h : Nat) (σ : Sg), n2 - h ≤ w → h ≤ n2 → σ 723 r = (n1 : Nat) → σ 723 t = (n2 : Nat) → (∀ k, k < n1 → σ 722 (40 * r + k) = f k) → (∀ k, k < n2 → σ 722 (40 * t + k) = g k) → σ 682 58 = (D : Nat) → ∃ s, (∀ d4 d5 d6 d7, C382_43 r t h d4 d5 d6 d7 σ (rI D s)) ∧ (∀ i v, (cds f g n1 n2 w h)[i]? = some v → s 725 (40 * D + h + i) = enc v) ∧ (∀ i, i < 40 * D + h → s 725 i = σ 725 i) ∧ s 724 D = (n2 : Nat) ∧ s 682 58 = (D : Int) + 1 ∧ ∀ c j, ¬ c = 725 → ¬ (c = 724 ∧ j = D) → ¬ (c = 682 ∧ j = 58) → s c j = σ c j := by
  intro w
  have stop : ∀ (w h : Nat) (σ : Sg), h = n2 → σ 723 t = (n2 : Nat) → σ 682 58 = (D : Nat) → ∃ s, (∀ d4 d5 d6 d7, C382_43 r t h d4 d5 d6 d7 σ (rI D s)) ∧ (∀ i v, (cds f g n1 n2 w h)[i]? = some v → s 725 (40 * D + h + i) = enc v) ∧ (∀ i, i < 40 * D + h → s 725 i = σ 725 i) ∧ s 724 D = (n2 : Nat) ∧ s 682 58 = (D : Int) + 1 ∧ ∀ c j, ¬ c = 725 → ¬ (c = 724 ∧ j = D) → ¬ (c = 682 ∧ j = 58) → s c j = σ c j := by
    intro w h σ q1 q2 q3
    have hc : cds f g n1 n2 w h = [] := by
      cases w with
      | zero => rfl
      | succ w => unfold cds; rw [if_neg (by omega)]
    refine ⟨upS (upS σ 724 D (n2 : Nat)) 682 58 ((D : Int) + 1), fun d4 d5 d6 d7 => b382_43 ⟨by omega, ?_⟩, fun i v hv => by rw [hc] at hv; simp at hv, fun i _ => by rw [up_a (by decide), up_a (by decide)], by rw [up_a (by decide), up_s], up_s, fun c j h1 h2 h3 => ?_⟩
    · rw [show ((t : Int)).toNat = t by omega, q2, if_neg (by omega), q3, show ((D : Nat) : Int).toNat = D by omega, up_a (show ¬ 682 = 724 by decide), q3, up_s]
      refine ⟨by omega, by omega, by omega, by omega, ?_⟩
      rw [show ((D : Nat) : Int) + 1 - 1 = (D : Int) by omega]
    · unfold upS
      rw [if_neg (by omega), if_neg (by omega)]
  induction w with
  | zero =>
    intro h σ q0 q1 q2 q3 q4 q5 q6
    exact stop 0 h σ (by omega) q3 q6
  | succ w ih =>
    intro h σ q0 q1 q2 q3 q4 q5 q6
    by_cases hlt : h < n2
    · have hbl := bT_le (f := f) (g := g) (n1 := n1) (n2 := n2) (h := h)
      have key : ∀ {o : Rs} (d4 d5 d6 d7 : Option AV), (∀ d7, C382_125 r t h ((bT f g n1 n2 h).2 : Nat) ((bT f g n1 n2 h).1 : Nat) 0 d7 σ o) → C382_43 r t h d4 d5 d6 d7 σ o := by
        intro o d4 d5 d6 d7 hh
        refine b382_43 ⟨by omega, ?_⟩
        rw [show ((t : Int)).toNat = t by omega, if_pos (by omega)]
        exact l382a hr ht q2 q3 hn1 hn2 q4 q5 q1 n1 0 (0, 0) d7 (by omega) hh
      unfold cds
      rw [if_pos hlt]
      generalize hP : (bT f g n1 n2 h).1 = P at key hbl ⊢
      generalize hM : (bT f g n1 n2 h).2 = M at key hbl ⊢
      by_cases y : 3 ≤ M
      · rw [if_pos y]
        have hst : ∀ c k, ¬ c = 725 → (fun c k => if c = 725 ∧ 40 * D + h + 0 ≤ k ∧ k < 40 * D + h + M then ((P + (k - (40 * D + h)) : Nat) : Int) else σ c k : Sg) c k = σ c k := by
          intro c k hc
          show (if _ then _ else _) = _
          rw [if_neg (fun e => hc e.1)]
        have hin : ∀ k, k < M → (fun c k => if c = 725 ∧ 40 * D + h + 0 ≤ k ∧ k < 40 * D + h + M then ((P + (k - (40 * D + h)) : Nat) : Int) else σ c k : Sg) 725 (40 * D + h + k) = ((P + k : Nat) : Int) := by
          intro k hk
          show (if _ then _ else _) = _
          rw [if_pos ⟨rfl, by omega, by omega⟩]
          congr 2
          omega
        have hou : ∀ k, k < 40 * D + h → (fun c k => if c = 725 ∧ 40 * D + h + 0 ≤ k ∧ k < 40 * D + h + M then ((P + (k - (40 * D + h)) : Nat) : Int) else σ c k : Sg) 725 k = σ 725 k := by
          intro k hk
          show (if _ then _ else _) = _
          rw [if_neg (by omega)]
        have lb := fun (o : Rs) => l382b (r := r) (t := t) (n2 := n2) (h := h) (D := D) (M := M) (P := P) (o := o) y (by omega) hn2 (by omega) h10 M 0 σ
        generalize (fun c k => if c = 725 ∧ 40 * D + h + 0 ≤ k ∧ k < 40 * D + h + M then ((P + (k - (40 * D + h)) : Nat) : Int) else σ c k : Sg) = σ2 at hst hin hou lb
        obtain ⟨s, g1, g2, g3, g4, g5, g6⟩ := ih (h + M) σ2 (by omega) (by omega) (by rw [hst _ _ (by decide)]; exact q2) (by rw [hst _ _ (by decide)]; exact q3) (fun k hk => by rw [hst _ _ (by decide)]; exact q4 k hk) (fun k hk => by rw [hst _ _ (by decide)]; exact q5 k hk) (by rw [hst _ _ (by decide)]; exact q6)
        refine ⟨s, fun d4 d5 d6 d7 => key d4 d5 d6 d7 (fun d7 => lb _ d7 (by omega) q6 (fun d5 d6 d7 => b382_166 ?_)), fun i v hv => ?_, fun i hi => by rw [g3 i (by omega), hou i hi], g4, g5, fun c j h1 h2 h3 => by rw [g6 c j h1 h2 h3, hst c j h1]⟩
        · rw [if_neg (by omega)]
          refine b382_201 (b382_214 ?_)
          rw [if_neg (show ¬ ((M : Nat) : Int) < 3 by omega), show (h : Int) + ((M : Nat) : Int) = ((h + M : Nat) : Int) by omega]
          exact ⟨by omega, g1 _ _ _ _⟩
        · by_cases z : i < M
          · rw [List.getElem?_append_left (by rw [List.length_map, List.length_range']; exact z), List.getElem?_map, List.getElem?_range' z] at hv
            have hv : ((P + (0 + 1 * i) : Nat) : Int) = v := by simpa using hv
            rw [g3 _ (by omega), hin i z, ← hv]
            unfold enc
            rw [if_pos (by omega)]
            congr 1
            omega
          · rw [List.getElem?_append_right (by rw [List.length_map, List.length_range']; omega), List.length_map, List.length_range'] at hv
            have e := g2 _ v hv
            rw [show 40 * D + (h + M) + (i - M) = 40 * D + h + i by omega] at e
            exact e
      · rw [if_neg y]
        obtain ⟨s, g1, g2, g3, g4, g5, g6⟩ := ih (h + 1) (upS σ 725 (40 * D + h) (1000 + g h)) (by omega) (by omega) (by rw [up_a (by decide)]; exact q2) (by rw [up_a (by decide)]; exact q3) (fun k hk => by rw [up_a (by decide)]; exact q4 k hk) (fun k hk => by rw [up_a (by decide)]; exact q5 k hk) (by rw [up_a (by decide)]; exact q6)
        have hgh := hg9 h hlt
        refine ⟨s, fun d4 d5 d6 d7 => key d4 d5 d6 d7 (fun d7 => b382_125 ?_), fun i v hv => ?_, fun i hi => by rw [g3 i (by omega), up_k (by omega)], g4, g5, fun c j h1 h2 h3 => by rw [g6 c j h1 h2 h3, up_a h1]⟩
        · have go : ∀ d5 d6, C382_166 r t h (M : Nat) d5 d6 d7 σ (rI D s) := by
            intro d5 d6
            refine b382_166 ?_
            rw [if_pos (by omega), q6, show (40 * ((D : Nat) : Int) + (h : Int)).toNat = 40 * D + h by omega, show (40 * (t : Int) + (h : Int)).toNat = 40 * t + h by omega, q5 h hlt]
            refine ⟨by omega, by omega, by omega, by omega, by omega, by omega, by omega, b382_201 (b382_214 ?_)⟩
            rw [if_pos (show ((M : Nat) : Int) < 3 by omega), show (h : Int) + 1 = ((h + 1 : Nat) : Int) by omega]
            exact ⟨by omega, g1 _ _ _ _⟩
          by_cases z : (0 : Int) < ((M : Nat) : Int)
          · rw [if_pos z, if_neg (by omega)]
            exact go _ _
          · rw [if_neg z]
            exact go _ _
        · cases i with
          | zero =>
            have hv : 500 + g h = v := by simpa using hv
            rw [g3 _ (by omega), Nat.add_zero, up_s, ← hv]
            unfold enc
            rw [if_neg (by omega)]
            omega
          | succ i =>
            rw [List.getElem?_cons_succ] at hv
            have e := g2 _ v hv
            rw [show 40 * D + (h + 1) + i = 40 * D + h + (i + 1) by omega] at e
            exact e
    · exact stop (w + 1) h σ (by omega) q3 q6
theorem o50 {σ : Sg} {c a1 a2 : Int} (H : Rel c σ) : OpR 438 382 [vA 0, vI a1, vI a2, vA 726] [vA 682, vI a1, vI a2] σ (c + 1) := by
  by_cases g1 : a1 < 0
  · exact x50_0 H g1
  by_cases g2 : 4 ≤ a1
  · exact x50_1 H g2
  have k1 : 0 ≤ a1 ∧ a1 < 4 := by omega
  by_cases g3 : a2 < 0
  · exact x50_2 H k1 g3
  by_cases g4 : 4 ≤ a2
  · exact x50_3 H k1 g4
  have k2 : 0 ≤ a2 ∧ a2 < 4 := by omega
  have hn := (rel_n H).2.2.2.2
  obtain ⟨b1, b2, b3⟩ := rel_b H k1
  obtain ⟨d1, d2, d3⟩ := rel_b H k2
  obtain ⟨hb1, hb2⟩ := H.2.2.2.1 a1.toNat (by omega)
  obtain ⟨hd1, hd2⟩ := H.2.2.2.1 a2.toNat (by omega)
  have hr1 := (el_10 k1).2
  have hr2 := (el_10 k2).2
  have hc1 := cp_10 k1
  have hc2 := cp_10 k2
  obtain ⟨t1, ht1⟩ := Int.eq_ofNat_of_zero_le k1.1
  obtain ⟨t2, ht2⟩ := Int.eq_ofNat_of_zero_le k2.1
  have kk1 := d228_ok (σ := σ) k1
  have kk2 := d228_ok (σ := σ) k2
  rw [show a1.toNat = t1 by omega] at kk1 b1 b2 b3 hb1 hb2 hr1 hc1
  rw [show a2.toNat = t2 by omega] at kk2 d1 d2 d3 hd1 hd2 hr2 hc2
  obtain ⟨n1, hn1⟩ := Int.eq_ofNat_of_zero_le b2
  obtain ⟨n2, hn2⟩ := Int.eq_ofNat_of_zero_le d2
  have m0 : ∀ {σ' : Sg} {o : Rs}, C382_33 a1 a2 none none none none none (if (σ' 682 58) = 10 then 2 else 0) σ' o → Dd 382 [vA 682, vI a1, vI a2] σ' o := by
    intro σ' o hh
    refine b382 ⟨_, _, d377_ok k1, ?_⟩
    rw [if_neg (show ¬ (1 : Int) = 0 by decide)]
    refine ⟨_, _, d377_ok k2, ?_⟩
    rw [if_neg (show ¬ (1 : Int) = 0 by decide)]
    exact hh
  by_cases g6 : 10 ≤ σ 658 1
  · have hA : Dd 222 [vA 0, vI a1, vI a2] σ (rX 2 σ) := b222 (Or.inl ⟨_, _, kk1, hr1, Or.inl ⟨_, _, kk2, hr2, Or.inr ⟨_, _, b240 (by rw [if_pos g6]), rfl⟩⟩⟩)
    have hB : Dd 382 [vA 682, vI a1, vI a2] σ (rI 0 (upS σ 682 0 2)) := by
      refine m0 ?_
      rw [if_pos (by omega)]
      refine b382_33 ⟨_, _, d245, ?_⟩
      rw [if_neg (show ¬ (2 : Int) = 0 by decide), if_pos rfl]
    exact op_x H (by decide) (b438 (Or.inr (Or.inr ⟨_, hA, rfl⟩))) hB
  obtain ⟨D, hDD⟩ := Int.eq_ofNat_of_zero_le (show 0 ≤ σ 658 1 by omega)
  have hg9 : ∀ k, k < n2 → 0 ≤ σ (11 + 2 * t2 + 1) k ∧ σ (11 + 2 * t2 + 1) k ≤ 255 := fun k hk => hd2 k (by omega)
  have off0 : ∀ c k, ¬ c = 680 → upS σ 680 1 0 c k = σ c k := fun c k h => up_a h
  obtain ⟨s1, c1, c2, c3, c4, c5⟩ := l36 (f := σ (11 + 2 * t1 + 1)) (g := σ (11 + 2 * t2 + 1)) (n1 := n1) (n2 := n2) hr1 hr2 (by omega) (by omega) (by omega) hg9 (D := D) (by omega) n2 0 (upS σ 680 1 0) [] none none (by omega) (by omega) (by rw [off0 _ _ (by omega)]; exact hn1) (by rw [off0 _ _ (by omega)]; exact hn2) (fun k _ => off0 _ _ (by omega)) (fun k _ => off0 _ _ (by omega)) (by rw [off0 _ _ (by omega)]; exact hDD) Rw_nil rfl
  have hA : Dd 222 [vA 0, vI a1, vI a2] σ (rI D s1) := b222 (Or.inl ⟨_, _, kk1, hr1, Or.inl ⟨_, _, kk2, hr2, Or.inl ⟨_, b240 (by rw [if_neg g6]), _, _, b36 ⟨_, d152 cp680.1, c1⟩, rfl⟩⟩⟩)
  have hW := b438 (Or.inl ⟨_, _, hA, rfl⟩)
  have ff : ∀ c k, ¬ c = 660 + 2 * D → ¬ c = 660 + 2 * D + 1 → ¬ c = 658 → ¬ c = 680 → ¬ c = 681 → ¬ c = 726 → upS s1 726 0 (D : Nat) c k = σ c k := fun c k h1 h2 h3 h4 h5 h6 => by rw [up_a h6, c4 c k h1 h2 h3 h4 h5, off0 _ _ h4]
  have f2 : ∀ c k, ¬ c = 660 + 2 * D → ¬ c = 660 + 2 * D + 1 → ¬ c = 658 → ¬ c = 680 → ¬ c = 681 → ¬ c = 726 → ¬ (c = 682 ∧ k = 0) → upS (upS s1 726 0 (D : Nat)) 682 0 0 c k = σ c k := by
    intro c k h1 h2 h3 h4 h5 h6 h7
    have : upS (upS s1 726 0 (D : Nat)) 682 0 0 c k = upS s1 726 0 (D : Nat) c k := by
      unfold upS
      rw [if_neg (by omega)]
    rw [this, ff c k h1 h2 h3 h4 h5 h6]
  obtain ⟨s2, m1, m2, m3, m4, m5, m6⟩ := l382 (r := t1) (t := t2) (n1 := n1) (n2 := n2) (D := D) (f := σ (11 + 2 * t1 + 1)) (g := σ (11 + 2 * t2 + 1)) (by omega) (by omega) (by omega) (by omega) hg9 (by omega) n2 0 (upS (upS s1 726 0 (D : Nat)) 682 0 0) (by omega) (by omega) (by rw [f2 _ _ (by omega) (by omega) (by omega) (by omega) (by omega) (by omega) (by omega)]; omega) (by rw [f2 _ _ (by omega) (by omega) (by omega) (by omega) (by omega) (by omega) (by omega)]; omega) (fun k hk => by
    rw [f2 _ _ (by omega) (by omega) (by omega) (by omega) (by omega) (by omega) (by omega)]
    exact (hb1.2 k (by omega)).symm) (fun k hk => by
    rw [f2 _ _ (by omega) (by omega) (by omega) (by omega) (by omega) (by omega) (by omega)]
    exact (hd1.2 k (by omega)).symm) (by rw [f2 _ _ (by omega) (by omega) (by decide) (by decide) (by decide) (by decide) (by decide)]; omega)
  have hB : Dd 382 [vA 682, vI a1, vI a2] (upS s1 726 0 (D : Nat)) (rI D s2) := by
    refine m0 ?_
    rw [ff 682 _ (by omega) (by omega) (by omega) (by omega) (by omega) (by omega), if_neg (by omega)]
    refine b382_33 ⟨_, _, d245, ?_⟩
    rw [if_pos rfl, if_neg (show ¬ (1 : Int) = 0 by decide)]
    have e := m1 none none none none
    rw [← ht1, ← ht2] at e
    exact e
  have hoff : ∀ c k, ¬ (c = 726 ∨ (c = 682 ∧ (k = 0 ∨ k = 58)) ∨ c = 658 ∨ c = 660 + 2 * D ∨ c = 660 + 2 * D + 1 ∨ c = 680 ∨ c = 681 ∨ (c = 724 ∧ k = D) ∨ (c = 725 ∧ 40 * D ≤ k)) → s2 c k = σ c k := by
    intro c k hc
    by_cases z : c = 725
    · subst z
      rw [m3 k (by omega), f2 _ _ (by omega) (by omega) (by omega) (by omega) (by omega) (by omega) (by omega)]
    · rw [m6 c k z (by omega) (by omega), f2 _ _ (by omega) (by omega) (by omega) (by omega) (by omega) (by omega) (by omega)]
  have hcl : ∀ c k, c < 682 → s2 c k = s1 c k := by
    intro c k hc
    rw [m6 c k (by omega) (by omega) (by omega), up_a (by omega), up_a (by omega)]
  have hlen : ([] ++ cds (σ (11 + 2 * t1 + 1)) (σ (11 + 2 * t2 + 1)) n1 n2 n2 0).length = n2 := by
    rw [List.nil_append, cds_len _ _ (by omega)]
    omega
  refine op_fin hW hB ?_ (fun _ => ?_) (fun a k ha => by rw [up_a (by omega), c4 _ _ (by omega) (by omega) (by omega) (by omega) (by omega), off0 _ _ (by omega)]) (fun a k ha => hoff _ _ (by omega)) ?_
  · rw [m6 _ _ (by decide) (by omega) (by omega), up_s]
  · rw [m6 _ _ (by decide) (by omega) (by omega), up_a (by decide), up_s]
  · refine Rel_D (D := D) (by omega) hDD (by omega) hoff (by rw [hcl _ _ (by decide)]; exact c3) m5 (Rw_fr (hcl _ _ (by omega)) (fun k => hcl _ _ (by omega)) c2) (by rw [hlen]; omega) (by rw [hlen]; exact m4) (fun i v hv => ?_) (by rw [hcl _ _ (by decide)]; exact c5) H
    rw [List.nil_append] at hv
    have e := m2 i v hv
    rw [Nat.add_zero] at e
    rw [e]
    have hm := cds_ok (f := σ (11 + 2 * t1 + 1)) (g := σ (11 + 2 * t2 + 1)) (n1 := n1) (n2 := n2) (by omega) hg9 n2 0 v (List.mem_of_getElem? hv)
    unfold enc
    rcases hm with z | z
    · rw [if_pos (by omega)]; exact Or.inl ⟨z.1, z.2, rfl⟩
    · rw [if_neg (by omega)]; exact Or.inr ⟨z.1, z.2, rfl⟩
end
