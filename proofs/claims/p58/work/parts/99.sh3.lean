/-! Shifting hunks, the class's side. -/
noncomputable section
theorem pc_at2 {σ : Sg} {P : Nat} {l : List St} (hP : isPatch P = true) (w : wR σ (P + 9)) (C : PC σ P l) {h : Nat} {q : St} (hq : l[h]? = some q) : Dd 101 [vA P, vI h] σ (rI (q.2.1 : Nat) σ) ∧ Dd 104 [vA P, vI h] σ (rI (q.2.2.2 : Nat) σ) := by
  obtain ⟨c1, c2, c3⟩ := C
  obtain ⟨v0, v1, v2, v3⟩ := c2 h q hq
  have hl := (List.getElem?_eq_some_iff.mp hq).1
  have hc := cap_le w.1
  have w2 := w.2.2
  have at' : ∀ (i : Int) (n : Nat), i = ((4 * h + n : Nat) : Int) → n < 4 → atS σ (P + 9) i = σ (P + 10) (4 * h + n) := by
    intro i n hi hn
    unfold atS
    rw [if_pos (by omega), hi, tn]
  have e1 := d147 (i := 4 * (h : Int) + 1) w
  have e3 := d147 (i := 4 * (h : Int) + 3) w
  rw [at' _ 1 (by omega) (by omega), v1] at e1
  rw [at' _ 3 (by omega) (by omega), v3] at e3
  exact ⟨b101 hP ⟨by omega, by omega, _, _, e1, rfl⟩, b104 hP ⟨by omega, by omega, _, _, e3, rfl⟩⟩
theorem peo_l : ∀ (l : List St) (h i : Nat) (r : St), l[h]? = some r → peo l (h + 1) i = r.1 + r.2.1 := by
  intro l
  induction l with
  | nil => intro h i r hr; simp at hr
  | cons q t ih =>
    intro h i r hr
    cases h with
    | zero =>
      have e : q = r := by simpa using hr
      show peo t 0 (q.1 + q.2.1) = _
      rw [peo_0, e]
    | succ h =>
      rw [List.getElem?_cons_succ] at hr
      show peo t (h + 1) (q.1 + q.2.1) = _
      exact ih h _ r hr
/-- gapAhead, ahead of a hunk and behind it -/
theorem d106h {σ : Sg} {P h : Nat} {q : St} {l : List St} (hP : isPatch P = true) (w : wR σ (P + 9)) (C : PC σ P l) (hq : l[h]? = some q) (hp : peo l h 0 ≤ q.1) : Dd 106 [vA P, vI h] σ (rI ((q.1 - peo l h 0 : Nat) : Int) σ) := by
  have hl := (List.getElem?_eq_some_iff.mp hq).1
  have b := C.2.2 h q hq
  have hlen4 : 4 * l.length ≤ 5000 := by
    have := cap_le w.1
    have := w.2.2
    have := C.1
    omega
  refine b106 hP ⟨_, _, d98' hP C, ?_⟩
  rw [if_pos (by omega)]
  refine ⟨_, _, (pc_at hP w C hq).1, b106_23 hP ?_⟩
  cases h with
  | zero =>
    rw [if_neg (by omega), peo_0, Nat.sub_zero]
  | succ h =>
    obtain ⟨r, hr⟩ : ∃ r, l[h]? = some r := ⟨l[h], List.getElem?_eq_getElem (by omega)⟩
    have br := C.2.2 h r hr
    have e := (pc_at hP w C hr).2.1
    rw [peo_l l h 0 r hr] at hp ⊢
    rw [if_pos (by omega), show ((h + 1 : Nat) : Int) - 1 = ((h : Nat) : Int) by omega]
    refine ⟨by omega, _, _, e, by omega, ?_⟩
    rw [show ((q.1 - (r.1 + r.2.1) : Nat) : Int) = ((q.1 : Nat) : Int) - ((r.1 + r.2.1 : Nat) : Int) by omega]
theorem d106n {σ : Sg} {P h nb : Nat} {q : St} {l : List St} (hP : isPatch P = true) (w : wR σ (P + 9)) (C : PC σ P l) (h1 : σ (P + 1) 1 = (nb : Nat)) (h100 : nb ≤ 100) (hq : l[h]? = some q) (hp : q.1 + q.2.1 ≤ nso nb l h) : Dd 106 [vA P, vI ((h + 1 : Nat) : Int)] σ (rI ((nso nb l h - (q.1 + q.2.1) : Nat) : Int) σ) := by
  have hl := (List.getElem?_eq_some_iff.mp hq).1
  have b := C.2.2 h q hq
  have hlen4 : 4 * l.length ≤ 5000 := by
    have := cap_le w.1
    have := w.2.2
    have := C.1
    omega
  have e := (pc_at hP w C hq).2.1
  have go : ∀ y0 : Nat, y0 = nso nb l h → y0 ≤ 100 → C106_23 P ((h + 1 : Nat) : Int) none (y0 : Nat) σ (rI ((nso nb l h - (q.1 + q.2.1) : Nat) : Int) σ) := by
    intro y0 hy hy2
    refine b106_23 hP ?_
    rw [if_pos (by omega), show ((h + 1 : Nat) : Int) - 1 = ((h : Nat) : Int) by omega]
    refine ⟨by omega, _, _, e, by omega, ?_⟩
    rw [← hy, show ((y0 - (q.1 + q.2.1) : Nat) : Int) = ((y0 : Nat) : Int) - ((q.1 + q.2.1 : Nat) : Int) by omega]
  refine b106 hP ⟨_, _, d98' hP C, ?_⟩
  cases hr : l[h + 1]? with
  | some r =>
    have hl2 := (List.getElem?_eq_some_iff.mp hr).1
    have br := C.2.2 (h + 1) r hr
    have hn : r.1 = nso nb l h := by
      unfold nso
      rw [hr]
    rw [if_pos (by omega)]
    exact ⟨_, _, (pc_at hP w C hr).1, go r.1 hn (by omega)⟩
  | none =>
    have hl2 := List.getElem?_eq_none_iff.mp hr
    have hn : nb = nso nb l h := by
      unfold nso
      rw [hr]
    have e1 := d146 (σ := σ) (pat_1 hP)
    rw [h1] at e1
    rw [if_neg (by omega)]
    exact ⟨_, _, e1, go nb hn h100⟩
theorem row_x {σ : Sg} {R m : Nat} {X : Nat → Int} (w : wR σ R) (hm : σ R 1 = (m : Nat)) (hX : ∀ i, i < m → σ (R + 1) i = X i) {i : Nat} (hi : i < m) : Dd 147 [vA R, vI i] σ (rI (X i) σ) := by
  have e := d147 (σ := σ) (a := R) (i := (i : Int)) w
  rw [at_on (n := m) (f := X) hm hX hi] at e
  exact e
/-- reachBack -/
theorem d110 {σ : Sg} {P h R m s n : Nat} {q : St} {l : List St} {X : Nat → Int} (hP : isPatch P = true) (w : wR σ (P + 9)) (C : PC σ P l) (hq : l[h]? = some q) (hp : peo l h 0 ≤ q.1) (hp2 : ¬ h = 0 → peo l h 0 + 1 ≤ q.1) (wr : wR σ R) (hm : σ R 1 = (m : Nat)) (hX : ∀ i, i < m → σ (R + 1) i = X i) (h1 : mbk l h q ≤ s) (h2 : s + n ≤ m) (h100 : m ≤ 100) : Dd 110 [vA P, vI h, vA R, vI s, vI n] σ (rI (rbk X s n (mbk l h q) : Nat) σ) := by
  have b := C.2.2 h q hq
  have e106 := d106h hP w C hq hp
  obtain ⟨r1, r2, r3⟩ := rbk_b (X := X) (s := s) (n := n) (m := mbk l h q)
  have L : ∀ (d0 d1 : Option AV) (d k : Nat), k + d = rbk X s n (mbk l h q) → C110_24 d0 d1 R s n (mbk l h q : Nat) k σ (rI (rbk X s n (mbk l h q) : Nat) σ) := by
    intro d0 d1 d
    induction d with
    | zero =>
      intro k hk
      have e : k = rbk X s n (mbk l h q) := by omega
      subst e
      refine b110_24 wr.1 ?_
      by_cases y : rbk X s n (mbk l h q) < mbk l h q
      · rw [if_pos (by omega), show (s : Int) - ((rbk X s n (mbk l h q) : Nat) : Int) - 1 = ((s - rbk X s n (mbk l h q) - 1 : Nat) : Int) by omega, show ((s - rbk X s n (mbk l h q) - 1 : Nat) : Int) + (n : Int) = ((s - rbk X s n (mbk l h q) - 1 + n : Nat) : Int) by omega]
        refine ⟨by omega, by omega, _, _, row_x wr hm hX (by omega), by omega, by omega, by omega, _, _, row_x wr hm hX (by omega), ?_⟩
        rw [if_neg (r3 y)]
      · rw [if_neg (by omega)]
    | succ d ih =>
      intro k hk
      have z := ih (k + 1) (by omega)
      refine b110_24 wr.1 ?_
      rw [if_pos (by omega), show (s : Int) - (k : Int) - 1 = ((s - k - 1 : Nat) : Int) by omega, show ((s - k - 1 : Nat) : Int) + (n : Int) = ((s - k - 1 + n : Nat) : Int) by omega, show (k : Int) + 1 = ((k + 1 : Nat) : Int) by omega]
      refine ⟨by omega, by omega, _, _, row_x wr hm hX (by omega), by omega, by omega, by omega, _, _, row_x wr hm hX (by omega), ?_⟩
      rw [if_pos (r2 k (by omega))]
      exact ⟨by omega, z⟩
  have m1 : mbk l h q = q.1 - peo l h 0 - (if h = 0 then 0 else 1) := rfl
  refine b110 hP ?_
  by_cases y : h = 0
  · rw [if_neg (by omega)]
    rw [if_pos y, Nat.sub_zero] at m1
    refine ⟨_, _, e106, b110_19 ?_⟩
    rw [← m1]
    exact L _ _ _ 0 (Nat.zero_add _)
  · rw [if_pos (by omega)]
    rw [if_neg y] at m1
    have := hp2 y
    refine ⟨_, _, e106, by omega, b110_19 ?_⟩
    rw [show ((q.1 - peo l h 0 : Nat) : Int) - 1 = ((mbk l h q : Nat) : Int) by omega]
    exact L _ _ _ 0 (Nat.zero_add _)
/-- reachOn -/
theorem d111 {σ : Sg} {P h R m s n nb : Nat} {q : St} {l : List St} {X : Nat → Int} (hP : isPatch P = true) (w : wR σ (P + 9)) (C : PC σ P l) (hb1 : σ (P + 1) 1 = (nb : Nat)) (hb : nb ≤ 100) (hq : l[h]? = some q) (hp : q.1 + q.2.1 ≤ nso nb l h) (hp3 : nso nb l h ≤ nb) (hp2 : h + 1 < l.length → q.1 + q.2.1 + 1 ≤ nso nb l h) (wr : wR σ R) (hm : σ R 1 = (m : Nat)) (hX : ∀ i, i < m → σ (R + 1) i = X i) (h2 : s + n + mon nb l h q ≤ m) (h100 : m ≤ 100) : Dd 111 [vA P, vI h, vA R, vI s, vI n] σ (rI (ron X s n (mon nb l h q) : Nat) σ) := by
  have b := C.2.2 h q hq
  have hl := (List.getElem?_eq_some_iff.mp hq).1
  have hlen : l.length ≤ 1250 := by
    have := cap_le w.1
    have := w.2.2
    have := C.1
    omega
  have e106 := d106n hP w C hb1 hb hq hp
  obtain ⟨r1, r2, r3⟩ := ron_b (X := X) (s := s) (n := n) (m := mon nb l h q)
  have L : ∀ (d0 d1 d5 : Option AV) (d k : Nat), k + d = ron X s n (mon nb l h q) → C111_33 d0 d1 R s n d5 (mon nb l h q : Nat) k σ (rI (ron X s n (mon nb l h q) : Nat) σ) := by
    intro d0 d1 d5 d
    induction d with
    | zero =>
      intro k hk
      have e : k = ron X s n (mon nb l h q) := by omega
      subst e
      refine b111_33 wr.1 ?_
      by_cases y : ron X s n (mon nb l h q) < mon nb l h q
      · rw [if_pos (by omega), show (s : Int) + ((ron X s n (mon nb l h q) : Nat) : Int) = ((s + ron X s n (mon nb l h q) : Nat) : Int) by omega, show ((s + ron X s n (mon nb l h q) : Nat) : Int) + (n : Int) = ((s + ron X s n (mon nb l h q) + n : Nat) : Int) by omega]
        refine ⟨by omega, _, _, row_x wr hm hX (by omega), by omega, by omega, _, _, row_x wr hm hX (by omega), ?_⟩
        rw [if_neg (r3 y)]
      · rw [if_neg (by omega)]
    | succ d ih =>
      intro k hk
      have z := ih (k + 1) (by omega)
      refine b111_33 wr.1 ?_
      rw [if_pos (by omega), show (s : Int) + (k : Int) = ((s + k : Nat) : Int) by omega, show ((s + k : Nat) : Int) + (n : Int) = ((s + k + n : Nat) : Int) by omega, show (k : Int) + 1 = ((k + 1 : Nat) : Int) by omega]
      refine ⟨by omega, _, _, row_x wr hm hX (by omega), by omega, by omega, _, _, row_x wr hm hX (by omega), ?_⟩
      rw [if_pos (r2 k (by omega))]
      exact ⟨by omega, z⟩
  have m1 : mon nb l h q = nso nb l h - (q.1 + q.2.1) - (if h + 1 < l.length then 1 else 0) := rfl
  refine b111 hP ?_
  rw [show (h : Int) + 1 = ((h + 1 : Nat) : Int) by omega]
  refine ⟨by omega, _, _, e106, by omega, _, _, d98' hP C, fun _ => by omega, b111_28 ?_⟩
  by_cases y : h + 1 < l.length
  · rw [if_pos (by omega)]
    rw [if_pos y] at m1
    have := hp2 y
    rw [show ((nso nb l h - (q.1 + q.2.1) : Nat) : Int) - 1 = ((mon nb l h q : Nat) : Int) by omega]
    exact L _ _ _ _ 0 (Nat.zero_add _)
  · rw [if_neg (by omega)]
    rw [if_neg y, Nat.sub_zero] at m1
    rw [← m1]
    exact L _ _ _ _ 0 (Nat.zero_add _)
theorem ind_b {x : Int} (h : isLn x = true) : 0 ≤ x ∧ 0 ≤ ind x ∧ ind x ≤ 3 := by
  have h0 := isLn_le h
  unfold ind
  by_cases y : mkP x
  · rw [if_pos y]
    omega
  · rw [if_neg y]
    unfold isLn at h
    simp only [Bool.or_eq_true, Bool.and_eq_true, decide_eq_true_eq] at h
    rcases h with (h | h) | h
    · omega
    · exact absurd h y
    · omega
/-- awkwardness -/
theorem d112 {σ : Sg} {R m p : Nat} {X : Nat → Int} (wr : wR σ R) (hm : σ R 1 = (m : Nat)) (hX : ∀ i, i < m → σ (R + 1) i = X i) (hl : ∀ i, i < m → isLn (X i) = true) (hp : p < m) (h100 : m ≤ 100) : Dd 112 [vA R, vI p] σ (rI (aw X p) σ) := by
  have i1 := ind_b (hl p hp)
  have e1 := row_x wr hm hX hp
  have e69 : Dd 69 [vI (X p)] σ (rI (ind (X p)) σ) := d69 i1.1
  have fin : ∀ (d2 d3 : Option AV) (y0 : Int), (y0 = 0 → aw X p = ind (X p) + 10) → (¬ y0 = 0 → aw X p = ind (X p)) → C112_22 R p d2 d3 y0 σ (rI (aw X p) σ) := by
    intro d2 d3 y0 z1 z2
    refine b112_22 wr.1 ⟨_, _, e1, _, _, e69, fun _ => by omega, ?_⟩
    by_cases y : y0 = 0
    · rw [if_pos y, z1 y]
    · rw [if_neg y, z2 y]
  refine b112 wr.1 ?_
  by_cases y : p = 0
  · rw [if_pos (by omega)]
    refine b112_17 (fin _ _ 1 (fun h => absurd h (by decide)) (fun _ => ?_))
    unfold aw
    rw [if_pos (Or.inl y), Int.zero_add]
  · rw [if_neg (by omega), show (p : Int) - 1 = ((p - 1 : Nat) : Int) by omega]
    refine ⟨by omega, _, _, row_x wr hm hX (by omega), _, _, d67, ?_⟩
    by_cases y2 : X (p - 1) = 0
    · rw [if_pos y2, if_neg (show ¬ (1 : Int) = 0 by decide)]
      refine b112_17 (fin _ _ 1 (fun h => absurd h (by decide)) (fun _ => ?_))
      unfold aw
      rw [if_pos (Or.inr y2), Int.zero_add]
    · rw [if_neg y2, if_pos rfl]
      refine fin _ _ 0 (fun _ => ?_) (fun h => absurd rfl h)
      unfold aw
      rw [if_neg (by
        intro h
        rcases h with h | h
        · exact y h
        · exact y2 h), Int.add_comm]
/-- shiftHunk -/
theorem d109 {σ : Sg} {P h R m s n nb na o d nw a : Nat} {l : List St} {X F : Nat → Int} (hP : isPatch P = true) (w : wR σ (P + 9)) (C : PC σ P l) (hb1 : σ (P + 1) 1 = (nb : Nat)) (hb : nb ≤ 100) (H : DS F nb na l 0 0 0) (hq : l[h]? = some (o, d, nw, a)) (wr : wR σ R) (hRP : ¬ R = P + 9) (hm : σ R 1 = (m : Nat)) (hX : ∀ i, i < m → σ (R + 1) i = X i) (hl : ∀ i, i < m → isLn (X i) = true) (h1 : mbk l h (o, d, nw, a) ≤ s) (h1o : s ≤ o + s - mbk l h (o, d, nw, a)) (h1n : s ≤ nw + s - mbk l h (o, d, nw, a)) (h2 : s + n + mon nb l h (o, d, nw, a) ≤ m) (hn : 0 < n) (h100 : m ≤ 100) (ha : na ≤ 100) : ∃ s', Dd 109 [vA P, vI h, vA R, vI s, vI n] σ (rV s') ∧ PC s' P (l.set h (o + bpl X s n (mbk l h (o, d, nw, a)) (mon nb l h (o, d, nw, a)) - s, d, nw + bpl X s n (mbk l h (o, d, nw, a)) (mon nb l h (o, d, nw, a)) - s, a)) ∧ wR s' (P + 9) ∧ ∀ c k, ¬ c = P + 10 → s' c k = σ c k := by
  obtain ⟨-, i3, i4, i5, i6, i7, i8, i9, i10, i11, i12⟩ := DS_at _ _ _ _ _ _ H hq
  have i4 : o + d ≤ nso nb l h := i4
  have i8 : nw + a + (nso nb l h - (o + d)) ≤ na := i8
  have i12 : peo l h 0 ≤ o := i12
  have hlen := (List.getElem?_eq_some_iff.mp hq).1
  have hlen4 : 4 * l.length ≤ 5000 := by
    have := cap_le w.1
    have := w.2.2
    have := C.1
    omega
  have r1 := (rbk_b (X := X) (s := s) (n := n) (m := mbk l h (o, d, nw, a))).1
  have u1 := (ron_b (X := X) (s := s) (n := n) (m := mon nb l h (o, d, nw, a))).1
  have m1 : mbk l h (o, d, nw, a) ≤ o - peo l h 0 := Nat.sub_le _ _
  have m2 : mon nb l h (o, d, nw, a) ≤ nso nb l h - (o + d) := Nat.sub_le _ _
  have e110 := d110 (n := n) hP w C hq i12 i11 wr hm hX h1 (by omega) h100
  have e111 := d111 hP w C hb1 hb hq i4 i5 i9 wr hm hX h2 h100
  obtain ⟨mb, hmb⟩ : ∃ mb, mb = mbk l h (o, d, nw, a) := ⟨_, rfl⟩
  obtain ⟨mo, hmo⟩ : ∃ mo, mo = mon nb l h (o, d, nw, a) := ⟨_, rfl⟩
  rw [← hmb] at r1 h1 h1o h1n e110
  rw [← hmo] at u1 h2 e111
  rw [← hmb, ← hmo]
  have bb := bpl_b (X := X) (s := s) (n := n) (mb := mb) (mo := mo) (by omega)
  obtain ⟨B, hB⟩ : ∃ B, B = bpl X s n mb mo := ⟨_, rfl⟩
  obtain ⟨rb, hrb⟩ : ∃ rb, rb = rbk X s n mb := ⟨_, rfl⟩
  obtain ⟨ro, hro⟩ : ∃ ro, ro = ron X s n mo := ⟨_, rfl⟩
  rw [← hB, ← hrb, ← hro] at bb
  rw [← hrb] at r1 e110
  rw [← hro] at u1 e111
  rw [← hB]
  obtain ⟨c1, c2, c3⟩ := C
  obtain ⟨v0, v1, v2, v3⟩ := c2 h _ hq
  have C : PC σ P l := ⟨c1, c2, c3⟩
  have bq := c3 h _ hq
  have bq1 : o + d ≤ 100 := bq.1
  have bq2 : nw + a ≤ 100 := bq.2
  have q0 := (pc_at hP w C hq).1
  have sz : ∀ (z : Sg), (∀ c k, ¬ c = P + 10 → z c k = σ c k) → wR z (P + 9) := fun z hz => ⟨w.1, by rw [hz _ _ (by omega)]; exact w.2⟩
  have set' : ∀ (z : Sg) (i : Int) (k : Nat) (v : Int), (∀ c k, ¬ c = P + 10 → z c k = σ c k) → i = ((4 * h + k : Nat) : Int) → k < 4 → Dd 148 [vA (P + 9), vI i, vI v] z (rV (upS z (P + 10) (4 * h + k) v)) := by
    intro z i k v hz hi hk
    have e := d148 (i := i) (v := v) (sz z hz)
    unfold stS at e
    rw [hz _ _ (by omega), c1, if_pos (by omega), hi, tn] at e
    rw [hi]
    exact e
  obtain ⟨s1, hs1⟩ : ∃ s1, s1 = upS σ (P + 10) (4 * h + 0) ((o + B - s : Nat) : Int) := ⟨_, rfl⟩
  have f1 : ∀ c k, ¬ c = P + 10 → s1 c k = σ c k := fun c k y => by rw [hs1, up_a y]
  have q3 : Dd 103 [vA P, vI h] s1 (rI (nw : Nat) s1) := by
    refine b103 hP ⟨by omega, by omega, _, _, d147 (i := 4 * (h : Int) + 2) (sz s1 f1), ?_⟩
    unfold atS
    rw [f1 _ _ (by omega), c1, if_pos (by omega), show (4 * (h : Int) + 2).toNat = 4 * h + 2 by omega, hs1, up_k (by omega), v2]
  obtain ⟨s2, hs2⟩ : ∃ s2, s2 = upS s1 (P + 10) (4 * h + 2) ((nw + B - s : Nat) : Int) := ⟨_, rfl⟩
  have f2 : ∀ c k, ¬ c = P + 10 → s2 c k = σ c k := fun c k y => by rw [hs2, up_a y]; exact f1 c k y
  have L : ∀ (dd p b : Nat) (d4 d5 : Option AV), p + dd = s + ro + 1 → s - rb ≤ p → s - rb ≤ b → b ≤ s + ro → B = bsP X dd p b → C109_34 P h R s d4 d5 ((s + ro : Nat) : Int) b p σ (rV s2) := by
    intro dd
    induction dd with
    | zero =>
      intro p b d4 d5 hp _ _ _ hBb
      have hBb : B = b := hBb
      refine b109_34 hP ?_
      rw [if_neg (by omega)]
      have t0 := set' σ (4 * (h : Int) + 0) 0 ((o + B - s : Nat) : Int) (fun _ _ _ => rfl) (by omega) (by omega)
      rw [← hs1] at t0
      have t2 := set' s1 (4 * (h : Int) + 2) 2 ((nw + B - s : Nat) : Int) f1 (by omega) (by omega)
      rw [← hs2] at t2
      refine ⟨by omega, by omega, _, _, q0, by omega, by omega, s1, ?_, by omega, by omega, _, _, q3, by omega, by omega, s2, ?_, rfl⟩
      · rw [show ((o : Nat) : Int) + (b : Int) - (s : Int) = ((o + B - s : Nat) : Int) by omega]
        exact t0
      · rw [show ((nw : Nat) : Int) + (b : Int) - (s : Int) = ((nw + B - s : Nat) : Int) by omega]
        exact t2
    | succ dd ih =>
      intro p b d4 d5 hp h3 h4 h5 hBb
      have hBb : B = bsP X dd (p + 1) (if aw X p ≤ aw X b then p else b) := hBb
      refine b109_34 hP ?_
      rw [if_pos (by omega)]
      refine ⟨_, _, d112 wr hm hX hl (show p < m by omega) h100, _, _, d112 wr hm hX hl (show b < m by omega) h100, b109_60 ⟨by omega, ?_⟩⟩
      rw [show (p : Int) + 1 = ((p + 1 : Nat) : Int) by omega]
      by_cases y : aw X p ≤ aw X b
      · rw [if_pos y] at hBb ⊢
        exact ih (p + 1) p d4 d5 (by omega) (by omega) h3 (by omega) hBb
      · rw [if_neg y] at hBb ⊢
        exact ih (p + 1) b d4 d5 (by omega) (by omega) h4 h5 hBb
  refine ⟨s2, b109 hP ⟨_, _, e110, by omega, _, _, e111, by omega, ?_⟩, ⟨by rw [f2 _ _ (by omega), c1, List.length_set], fun h' r hr => ?_, fun h' r hr => ?_⟩, sz s2 f2, f2⟩
  · rw [show (s : Int) - ((rb : Nat) : Int) = ((s - rb : Nat) : Int) by omega, show (s : Int) + ((ro : Nat) : Int) = ((s + ro : Nat) : Int) by omega]
    exact L (rb + ro + 1) (s - rb) (s - rb) _ _ (by omega) (by omega) (by omega) (by omega) (by rw [hB, hrb, hro]; rfl)
  · by_cases y : h' = h
    · subst y
      rw [List.getElem?_set_self hlen] at hr
      have hr : (o + B - s, d, nw + B - s, a) = r := by simpa using hr
      rw [← hr, hs2]
      refine ⟨?_, ?_, ?_, ?_⟩
      · rw [up_k (by omega), hs1, ← Nat.add_zero (4 * h'), up_s]
      · rw [up_k (by omega), hs1, up_k (by omega)]
        exact v1
      · rw [up_s]
      · rw [up_k (by omega), hs1, up_k (by omega)]
        exact v3
    · rw [List.getElem?_set_ne (fun e => y e.symm)] at hr
      rw [hs2, up_k (by omega), up_k (by omega), up_k (by omega), up_k (by omega), hs1, up_k (by omega), up_k (by omega), up_k (by omega), up_k (by omega)]
      exact c2 h' r hr
  · by_cases y : h' = h
    · subst y
      rw [List.getElem?_set_self hlen] at hr
      have hr : (o + B - s, d, nw + B - s, a) = r := by simpa using hr
      rw [← hr]
      show o + B - s + d ≤ 100 ∧ nw + B - s + a ≤ 100
      omega
    · rw [List.getElem?_set_ne (fun e => y e.symm)] at hr
      exact c3 h' r hr
end
