-- DRAFT 99.sh3.lean
/-! Shifting hunks, the class's side. -/
noncomputable section
theorem pc_at2 {σ : Sg} {P : Nat} {l : List St} (hP : isPatch P = true) (w : wR σ (P + 9)) (C : PC σ P l) {h : Nat} {q : St} (hq : l[h]? = some q) : Dd 101 [vA P, vI h] σ (rI (q.2.1 : Nat) σ) ∧ Dd 104 [vA P, vI h] σ (rI (q.2.2.2 : Nat) σ) := by
  obtain ⟨c1, c2, c3⟩ := C
  obtain ⟨v0, v1, v2, v3⟩ := c2 h q hq
  have hl := (List.getElem?_eq_some_iff.mp hq).1
  have hc := cap_le w.1
  have w2 := w.2.2
  have at' : ∀ (i : Int) (n : Nat), i = ((4 * h + n : Nat) : Int) → n < 4 → atS σ (P + 9) i = σ (P + 10) (4 * h + n) := by
    intro i n hi hn
    unfold atS
    rw [if_pos (by omega), hi, tn]
  have e1 := d147 (i := 4 * (h : Int) + 1) w
  have e3 := d147 (i := 4 * (h : Int) + 3) w
  rw [at' _ 1 (by omega) (by omega), v1] at e1
  rw [at' _ 3 (by omega) (by omega), v3] at e3
  exact ⟨b101 hP ⟨by omega, by omega, _, _, e1, rfl⟩, b104 hP ⟨by omega, by omega, _, _, e3, rfl⟩⟩
theorem peo_l : ∀ (l : List St) (h i : Nat) (r : St), l[h]? = some r → peo l (h + 1) i = r.1 + r.2.1 := by
  intro l
  induction l with
  | nil => intro h i r hr; simp at hr
  | cons q t ih =>
    intro h i r hr
    cases h with
    | zero =>
      have e : q = r := by simpa using hr
      show peo t 0 (q.1 + q.2.1) = _
      rw [peo_0, e]
    | succ h =>
      rw [List.getElem?_cons_succ] at hr
      show peo t (h + 1) (q.1 + q.2.1) = _
      exact ih h _ r hr
/-- gapAhead, ahead of a hunk and behind it -/
theorem d106h {σ : Sg} {P h : Nat} {q : St} {l : List St} (hP : isPatch P = true) (w : wR σ (P + 9)) (C : PC σ P l) (hq : l[h]? = some q) (hp : peo l h 0 ≤ q.1) : Dd 106 [vA P, vI h] σ (rI ((q.1 - peo l h 0 : Nat) : Int) σ) := by
  have hl := (List.getElem?_eq_some_iff.mp hq).1
  have b := C.2.2 h q hq
  have hlen4 : 4 * l.length ≤ 5000 := by
    have := cap_le w.1
    have := w.2.2
    have := C.1
    omega
  refine b106 hP ⟨_, _, d98' hP C, ?_⟩
  rw [if_pos (by omega)]
  refine ⟨_, _, (pc_at hP w C hq).1, b106_23 hP ?_⟩
  cases h with
  | zero =>
    rw [if_neg (by omega), peo_0, Nat.sub_zero]
  | succ h =>
    obtain ⟨r, hr⟩ : ∃ r, l[h]? = some r := ⟨l[h], List.getElem?_eq_getElem (by omega)⟩
    have br := C.2.2 h r hr
    have e := (pc_at hP w C hr).2.1
    rw [peo_l l h 0 r hr] at hp ⊢
    rw [if_pos (by omega), show ((h + 1 : Nat) : Int) - 1 = ((h : Nat) : Int) by omega]
    refine ⟨by omega, _, _, e, by omega, ?_⟩
    rw [show ((q.1 - (r.1 + r.2.1) : Nat) : Int) = ((q.1 : Nat) : Int) - ((r.1 + r.2.1 : Nat) : Int) by omega]
theorem d106n {σ : Sg} {P h nb : Nat} {q : St} {l : List St} (hP : isPatch P = true) (w : wR σ (P + 9)) (C : PC σ P l) (h1 : σ (P + 1) 1 = (nb : Nat)) (h100 : nb ≤ 100) (hq : l[h]? = some q) (hp : q.1 + q.2.1 ≤ nso nb l h) : Dd 106 [vA P, vI ((h + 1 : Nat) : Int)] σ (rI ((nso nb l h - (q.1 + q.2.1) : Nat) : Int) σ) := by
  have hl := (List.getElem?_eq_some_iff.mp hq).1
  have b := C.2.2 h q hq
  have hlen4 : 4 * l.length ≤ 5000 := by
    have := cap_le w.1
    have := w.2.2
    have := C.1
    omega
  have e := (pc_at hP w C hq).2.1
  have go : ∀ y0 : Nat, y0 = nso nb l h → y0 ≤ 100 → C106_23 P ((h + 1 : Nat) : Int) none (y0 : Nat) σ (rI ((nso nb l h - (q.1 + q.2.1) : Nat) : Int) σ) := by
    intro y0 hy hy2
    refine b106_23 hP ?_
    rw [if_pos (by omega), show ((h + 1 : Nat) : Int) - 1 = ((h : Nat) : Int) by omega]
    refine ⟨by omega, _, _, e, by omega, ?_⟩
    rw [← hy, show ((y0 - (q.1 + q.2.1) : Nat) : Int) = ((y0 : Nat) : Int) - ((q.1 + q.2.1 : Nat) : Int) by omega]
  refine b106 hP ⟨_, _, d98' hP C, ?_⟩
  cases hr : l[h + 1]? with
  | some r =>
    have hl2 := (List.getElem?_eq_some_iff.mp hr).1
    have br := C.2.2 (h + 1) r hr
    have hn : r.1 = nso nb l h := by
      unfold nso
      rw [hr]
    rw [if_pos (by omega)]
    exact ⟨_, _, (pc_at hP w C hr).1, go r.1 hn (by omega)⟩
  | none =>
    have hl2 := List.getElem?_eq_none_iff.mp hr
    have hn : nb = nso nb l h := by
      unfold nso
      rw [hr]
    have e1 := d146 (σ := σ) (pat_1 hP)
    rw [h1] at e1
    rw [if_neg (by omega)]
    exact ⟨_, _, e1, go nb hn h100⟩
theorem row_x {σ : Sg} {R m : Nat} {X : Nat → Int} (w : wR σ R) (hm : σ R 1 = (m : Nat)) (hX : ∀ i, i < m → σ (R + 1) i = X i) {i : Nat} (hi : i < m) : Dd 147 [vA R, vI i] σ (rI (X i) σ) := by
  have e := d147 (σ := σ) (a := R) (i := (i : Int)) w
  rw [at_on (n := m) (f := X) hm hX hi] at e
  exact e
/-- reachBack -/
theorem d110 {σ : Sg} {P h R m s n : Nat} {q : St} {l : List St} {X : Nat → Int} (hP : isPatch P = true) (w : wR σ (P + 9)) (C : PC σ P l) (hq : l[h]? = some q) (hp : peo l h 0 ≤ q.1) (hp2 : ¬ h = 0 → peo l h 0 + 1 ≤ q.1) (wr : wR σ R) (hm : σ R 1 = (m : Nat)) (hX : ∀ i, i < m → σ (R + 1) i = X i) (h1 : mbk l h q ≤ s) (h2 : s + n ≤ m) (h100 : m ≤ 100) : Dd 110 [vA P, vI h, vA R, vI s, vI n] σ (rI (rbk X s n (mbk l h q) : Nat) σ) := by
  have b := C.2.2 h q hq
  have e106 := d106h hP w C hq hp
  obtain ⟨r1, r2, r3⟩ := rbk_b (X := X) (s := s) (n := n) (m := mbk l h q)
  have L : ∀ (d0 d1 : Option AV) (d k : Nat), k + d = rbk X s n (mbk l h q) → C110_24 d0 d1 R s n (mbk l h q : Nat) k σ (rI (rbk X s n (mbk l h q) : Nat) σ) := by
    intro d0 d1 d
    induction d with
    | zero =>
      intro k hk
      have e : k = rbk X s n (mbk l h q) := by omega
      subst e
      refine b110_24 wr.1 ?_
      by_cases y : rbk X s n (mbk l h q) < mbk l h q
      · rw [if_pos (by omega), show (s : Int) - ((rbk X s n (mbk l h q) : Nat) : Int) - 1 = ((s - rbk X s n (mbk l h q) - 1 : Nat) : Int) by omega, show ((s - rbk X s n (mbk l h q) - 1 : Nat) : Int) + (n : Int) = ((s - rbk X s n (mbk l h q) - 1 + n : Nat) : Int) by omega]
        refine ⟨by omega, by omega, _, _, row_x wr hm hX (by omega), by omega, by omega, by omega, _, _, row_x wr hm hX (by omega), ?_⟩
        rw [if_neg (r3 y)]
      · rw [if_neg (by omega)]
    | succ d ih =>
      intro k hk
      have z := ih (k + 1) (by omega)
      refine b110_24 wr.1 ?_
      rw [if_pos (by omega), show (s : Int) - (k : Int) - 1 = ((s - k - 1 : Nat) : Int) by omega, show ((s - k - 1 : Nat) : Int) + (n : Int) = ((s - k - 1 + n : Nat) : Int) by omega, show (k : Int) + 1 = ((k + 1 : Nat) : Int) by omega]
      refine ⟨by omega, by omega, _, _, row_x wr hm hX (by omega), by omega, by omega, by omega, _, _, row_x wr hm hX (by omega), ?_⟩
      rw [if_pos (r2 k (by omega))]
      exact ⟨by omega, z⟩
  have m1 : mbk l h q = q.1 - peo l h 0 - (if h = 0 then 0 else 1) := rfl
  refine b110 hP ?_
  by_cases y : h = 0
  · rw [if_neg (by omega)]
    rw [if_pos y, Nat.sub_zero] at m1
    refine ⟨_, _, e106, b110_19 ?_⟩
    rw [← m1]
    exact L _ _ _ 0 (Nat.zero_add _)
  · rw [if_pos (by omega)]
    rw [if_neg y] at m1
    have := hp2 y
    refine ⟨_, _, e106, by omega, b110_19 ?_⟩
    rw [show ((q.1 - peo l h 0 : Nat) : Int) - 1 = ((mbk l h q : Nat) : Int) by omega]
    exact L _ _ _ 0 (Nat.zero_add _)
/-- reachOn -/
theorem d111 {σ : Sg} {P h R m s n nb : Nat} {q : St} {l : List St} {X : Nat → Int} (hP : isPatch P = true) (w : wR σ (P + 9)) (C : PC σ P l) (hb1 : σ (P + 1) 1 = (nb : Nat)) (hb : nb ≤ 100) (hq : l[h]? = some q) (hp : q.1 + q.2.1 ≤ nso nb l h) (hp3 : nso nb l h ≤ nb) (hp2 : h + 1 < l.length → q.1 + q.2.1 + 1 ≤ nso nb l h) (wr : wR σ R) (hm : σ R 1 = (m : Nat)) (hX : ∀ i, i < m → σ (R + 1) i = X i) (h2 : s + n + mon nb l h q ≤ m) (h100 : m ≤ 100) : Dd 111 [vA P, vI h, vA R, vI s, vI n] σ (rI (ron X s n (mon nb l h q) : Nat) σ) := by
  have b := C.2.2 h q hq
  have hl := (List.getElem?_eq_some_iff.mp hq).1
  have hlen : l.length ≤ 1250 := by
    have := cap_le w.1
    have := w.2.2
    have := C.1
    omega
  have e106 := d106n hP w C hb1 hb hq hp
  obtain ⟨r1, r2, r3⟩ := ron_b (X := X) (s := s) (n := n) (m := mon nb l h q)
  have L : ∀ (d0 d1 d5 : Option AV) (d k : Nat), k + d = ron X s n (mon nb l h q) → C111_33 d0 d1 R s n d5 (mon nb l h q : Nat) k σ (rI (ron X s n (mon nb l h q) : Nat) σ) := by
    intro d0 d1 d5 d
    induction d with
    | zero =>
      intro k hk
      have e : k = ron X s n (mon nb l h q) := by omega
      subst e
      refine b111_33 wr.1 ?_
      by_cases y : ron X s n (mon nb l h q) < mon nb l h q
      · rw [if_pos (by omega), show (s : Int) + ((ron X s n (mon nb l h q) : Nat) : Int) = ((s + ron X s n (mon nb l h q) : Nat) : Int) by omega, show ((s + ron X s n (mon nb l h q) : Nat) : Int) + (n : Int) = ((s + ron X s n (mon nb l h q) + n : Nat) : Int) by omega]
        refine ⟨by omega, _, _, row_x wr hm hX (by omega), by omega, by omega, _, _, row_x wr hm hX (by omega), ?_⟩
        rw [if_neg (r3 y)]
      · rw [if_neg (by omega)]
    | succ d ih =>
      intro k hk
      have z := ih (k + 1) (by omega)
      refine b111_33 wr.1 ?_
      rw [if_pos (by omega), show (s : Int) + (k : Int) = ((s + k : Nat) : Int) by omega, show ((s + k : Nat) : Int) + (n : Int) = ((s + k + n : Nat) : Int) by omega, show (k : Int) + 1 = ((k + 1 : Nat) : Int) by omega]
      refine ⟨by omega, _, _, row_x wr hm hX (by omega), by omega, by omega, _, _, row_x wr hm hX (by omega), ?_⟩
      rw [if_pos (r2 k (by omega))]
      exact ⟨by omega, z⟩
  have m1 : mon nb l h q = nso nb l h - (q.1 + q.2.1) - (if h + 1 < l.length then 1 else 0) := rfl
  refine b111 hP ?_
  rw [show (h : Int) + 1 = ((h + 1 : Nat) : Int) by omega]
  refine ⟨by omega, _, _, e106, by omega, _, _, d98' hP C, fun _ => by omega, b111_28 ?_⟩
  by_cases y : h + 1 < l.length
  · rw [if_pos (by omega)]
    rw [if_pos y] at m1
    have := hp2 y
    rw [show ((nso nb l h - (q.1 + q.2.1) : Nat) : Int) - 1 = ((mon nb l h q : Nat) : Int) by omega]
    exact L _ _ _ _ 0 (Nat.zero_add _)
  · rw [if_neg (by omega)]
    rw [if_neg y, Nat.sub_zero] at m1
    rw [← m1]
    exact L _ _ _ _ 0 (Nat.zero_add _)
theorem ind_b {x : Int} (h : isLn x = true) : 0 ≤ x ∧ 0 ≤ ind x ∧ ind x ≤ 3 := by
  have h0 := isLn_le h
  unfold ind
  by_cases y : mkP x
  · rw [if_pos y]
    omega
  · rw [if_neg y]
    unfold isLn at h
    simp only [Bool.or_eq_true, Bool.and_eq_true, decide_eq_true_eq] at h
    rcases h with (h | h) | h
    · omega
    · exact absurd h y
    · omega
/-- awkwardness -/
theorem d112 {σ : Sg} {R m p : Nat} {X : Nat → Int} (wr : wR σ R) (hm : σ R 1 = (m : Nat)) (hX : ∀ i, i < m → σ (R + 1) i = X i) (hl : ∀ i, i < m → isLn (X i) = true) (hp : p < m) (h100 : m ≤ 100) : Dd 112 [vA R, vI p] σ (rI (aw X p) σ) := by
  have i1 := ind_b (hl p hp)
  have e1 := row_x wr hm hX hp
  have e69 : Dd 69 [vI (X p)] σ (rI (ind (X p)) σ) := d69 i1.1
  have fin : ∀ (d2 d3 : Option AV) (y0 : Int), (y0 = 0 → aw X p = ind (X p) + 10) → (¬ y0 = 0 → aw X p = ind (X p)) → C112_22 R p d2 d3 y0 σ (rI (aw X p) σ) := by
    intro d2 d3 y0 z1 z2
    refine b112_22 wr.1 ⟨_, _, e1, _, _, e69, fun _ => by omega, ?_⟩
    by_cases y : y0 = 0
    · rw [if_pos y, z1 y]
    · rw [if_neg y, z2 y]
  refine b112 wr.1 ?_
  by_cases y : p = 0
  · rw [if_pos (by omega)]
    refine b112_17 (fin _ _ 1 (fun h => absurd h (by decide)) (fun _ => ?_))
    unfold aw
    rw [if_pos (Or.inl y), Int.zero_add]
  · rw [if_neg (by omega), show (p : Int) - 1 = ((p - 1 : Nat) : Int) by omega]
    refine ⟨by omega, _, _, row_x wr hm hX (by omega), _, _, d67, ?_⟩
    by_cases y2 : X (p - 1) = 0
    · rw [if_pos y2, if_neg (show ¬ (1 : Int) = 0 by decide)]
      refine b112_17 (fin _ _ 1 (fun h => absurd h (by decide)) (fun _ => ?_))
      unfold aw
      rw [if_pos (Or.inr y2), Int.zero_add]
    · rw [if_neg y2, if_pos rfl]
      refine fin _ _ 0 (fun _ => ?_) (fun h => absurd rfl h)
      unfold aw
      rw [if_neg (by
        intro h
        rcases h with h | h
        · exact y h
        · exact y2 h), Int.add_comm]
/-- shiftHunk -/
theorem d109 {σ : Sg} {P h R m s n nb na o d nw a : Nat} {l : List St} {X F : Nat → Int} (hP : isPatch P = true) (w : wR σ (P + 9)) (C : PC σ P l) (hb1 : σ (P + 1) 1 = (nb : Nat)) (hb : nb ≤ 100) (H : DS F nb na l 0 0 0) (hq : l[h]? = some (o, d, nw, a)) (wr : wR σ R) (hRP : ¬ R = P + 9) (hm : σ R 1 = (m : Nat)) (hX : ∀ i, i < m → σ (R + 1) i = X i) (hl : ∀ i, i < m → isLn (X i) = true) (h1 : mbk l h (o, d, nw, a) ≤ s) (h1o : s ≤ o + s - mbk l h (o, d, nw, a)) (h1n : s ≤ nw + s - mbk l h (o, d, nw, a)) (h2 : s + n + mon nb l h (o, d, nw, a) ≤ m) (hn : 0 < n) (h100 : m ≤ 100) (ha : na ≤ 100) : ∃ s', Dd 109 [vA P, vI h, vA R, vI s, vI n] σ (rV s') ∧ PC s' P (l.set h (o + bpl X s n (mbk l h (o, d, nw, a)) (mon nb l h (o, d, nw, a)) - s, d, nw + bpl X s n (mbk l h (o, d, nw, a)) (mon nb l h (o, d, nw, a)) - s, a)) ∧ wR s' (P + 9) ∧ ∀ c k, ¬ c = P + 10 → s' c k = σ c k := by
  obtain ⟨-, i3, i4, i5, i6, i7, i8, i9, i10, i11, i12⟩ := DS_at _ _ _ _ _ _ H hq
  have i4 : o + d ≤ nso nb l h := i4
  have i8 : nw + a + (nso nb l h - (o + d)) ≤ na := i8
  have i12 : peo l h 0 ≤ o := i12
  have hlen := (List.getElem?_eq_some_iff.mp hq).1
  have hlen4 : 4 * l.length ≤ 5000 := by
    have := cap_le w.1
    have := w.2.2
    have := C.1
    omega
  have r1 := (rbk_b (X := X) (s := s) (n := n) (m := mbk l h (o, d, nw, a))).1
  have u1 := (ron_b (X := X) (s := s) (n := n) (m := mon nb l h (o, d, nw, a))).1
  have m1 : mbk l h (o, d, nw, a) ≤ o - peo l h 0 := Nat.sub_le _ _
  have m2 : mon nb l h (o, d, nw, a) ≤ nso nb l h - (o + d) := Nat.sub_le _ _
  have e110 := d110 (n := n) hP w C hq i12 i11 wr hm hX h1 (by omega) h100
  have e111 := d111 hP w C hb1 hb hq i4 i5 i9 wr hm hX h2 h100
  obtain ⟨mb, hmb⟩ : ∃ mb, mb = mbk l h (o, d, nw, a) := ⟨_, rfl⟩
  obtain ⟨mo, hmo⟩ : ∃ mo, mo = mon nb l h (o, d, nw, a) := ⟨_, rfl⟩
  rw [← hmb] at r1 h1 h1o h1n e110
  rw [← hmo] at u1 h2 e111
  rw [← hmb, ← hmo]
  have bb := bpl_b (X := X) (s := s) (n := n) (mb := mb) (mo := mo) (by omega)
  obtain ⟨B, hB⟩ : ∃ B, B = bpl X s n mb mo := ⟨_, rfl⟩
  obtain ⟨rb, hrb⟩ : ∃ rb, rb = rbk X s n mb := ⟨_, rfl⟩
  obtain ⟨ro, hro⟩ : ∃ ro, ro = ron X s n mo := ⟨_, rfl⟩
  rw [← hB, ← hrb, ← hro] at bb
  rw [← hrb] at r1 e110
  rw [← hro] at u1 e111
  rw [← hB]
  obtain ⟨c1, c2, c3⟩ := C
  obtain ⟨v0, v1, v2, v3⟩ := c2 h _ hq
  have C : PC σ P l := ⟨c1, c2, c3⟩
  have bq := c3 h _ hq
  have bq1 : o + d ≤ 100 := bq.1
  have bq2 : nw + a ≤ 100 := bq.2
  have q0 := (pc_at hP w C hq).1
  have sz : ∀ (z : Sg), (∀ c k, ¬ c = P + 10 → z c k = σ c k) → wR z (P + 9) := fun z hz => ⟨w.1, by rw [hz _ _ (by omega)]; exact w.2⟩
  have set' : ∀ (z : Sg) (i : Int) (k : Nat) (v : Int), (∀ c k, ¬ c = P + 10 → z c k = σ c k) → i = ((4 * h + k : Nat) : Int) → k < 4 → Dd 148 [vA (P + 9), vI i, vI v] z (rV (upS z (P + 10) (4 * h + k) v)) := by
    intro z i k v hz hi hk
    have e := d148 (i := i) (v := v) (sz z hz)
    unfold stS at e
    rw [hz _ _ (by omega), c1, if_pos (by omega), hi, tn] at e
    rw [hi]
    exact e
  obtain ⟨s1, hs1⟩ : ∃ s1, s1 = upS σ (P + 10) (4 * h + 0) ((o + B - s : Nat) : Int) := ⟨_, rfl⟩
  have f1 : ∀ c k, ¬ c = P + 10 → s1 c k = σ c k := fun c k y => by rw [hs1, up_a y]
  have q3 : Dd 103 [vA P, vI h] s1 (rI (nw : Nat) s1) := by
    refine b103 hP ⟨by omega, by omega, _, _, d147 (i := 4 * (h : Int) + 2) (sz s1 f1), ?_⟩
    unfold atS
    rw [f1 _ _ (by omega), c1, if_pos (by omega), show (4 * (h : Int) + 2).toNat = 4 * h + 2 by omega, hs1, up_k (by omega), v2]
  obtain ⟨s2, hs2⟩ : ∃ s2, s2 = upS s1 (P + 10) (4 * h + 2) ((nw + B - s : Nat) : Int) := ⟨_, rfl⟩
  have f2 : ∀ c k, ¬ c = P + 10 → s2 c k = σ c k := fun c k y => by rw [hs2, up_a y]; exact f1 c k y
  have L : ∀ (dd p b : Nat) (d4 d5 : Option AV), p + dd = s + ro + 1 → s - rb ≤ p → s - rb ≤ b → b ≤ s + ro → B = bsP X dd p b → C109_34 P h R s d4 d5 ((s + ro : Nat) : Int) b p σ (rV s2) := by
    intro dd
    induction dd with
    | zero =>
      intro p b d4 d5 hp _ _ _ hBb
      have hBb : B = b := hBb
      refine b109_34 hP ?_
      rw [if_neg (by omega)]
      have t0 := set' σ (4 * (h : Int) + 0) 0 ((o + B - s : Nat) : Int) (fun _ _ _ => rfl) (by omega) (by omega)
      rw [← hs1] at t0
      have t2 := set' s1 (4 * (h : Int) + 2) 2 ((nw + B - s : Nat) : Int) f1 (by omega) (by omega)
      rw [← hs2] at t2
      refine ⟨by omega, by omega, _, _, q0, by omega, by omega, s1, ?_, by omega, by omega, _, _, q3, by omega, by omega, s2, ?_, rfl⟩
      · rw [show ((o : Nat) : Int) + (b : Int) - (s : Int) = ((o + B - s : Nat) : Int) by omega]
        exact t0
      · rw [show ((nw : Nat) : Int) + (b : Int) - (s : Int) = ((nw + B - s : Nat) : Int) by omega]
        exact t2
    | succ dd ih =>
      intro p b d4 d5 hp h3 h4 h5 hBb
      have hBb : B = bsP X dd (p + 1) (if aw X p ≤ aw X b then p else b) := hBb
      refine b109_34 hP ?_
      rw [if_pos (by omega)]
      refine ⟨_, _, d112 wr hm hX hl (show p < m by omega) h100, _, _, d112 wr hm hX hl (show b < m by omega) h100, b109_60 ⟨by omega, ?_⟩⟩
      rw [show (p : Int) + 1 = ((p + 1 : Nat) : Int) by omega]
      by_cases y : aw X p ≤ aw X b
      · rw [if_pos y] at hBb ⊢
        exact ih (p + 1) p d4 d5 (by omega) (by omega) h3 (by omega) hBb
      · rw [if_neg y] at hBb ⊢
        exact ih (p + 1) b d4 d5 (by omega) (by omega) h4 h5 hBb
  refine ⟨s2, b109 hP ⟨_, _, e110, by omega, _, _, e111, by omega, ?_⟩, ⟨by rw [f2 _ _ (by omega), c1, List.length_set], fun h' r hr => ?_, fun h' r hr => ?_⟩, sz s2 f2, f2⟩
  · rw [show (s : Int) - ((rb : Nat) : Int) = ((s - rb : Nat) : Int) by omega, show (s : Int) + ((ro : Nat) : Int) = ((s + ro : Nat) : Int) by omega]
    exact L (rb + ro + 1) (s - rb) (s - rb) _ _ (by omega) (by omega) (by omega) (by omega) (by rw [hB, hrb, hro]; rfl)
  · by_cases y : h' = h
    · subst y
      rw [List.getElem?_set_self hlen] at hr
      have hr : (o + B - s, d, nw + B - s, a) = r := by simpa using hr
      rw [← hr, hs2]
      refine ⟨?_, ?_, ?_, ?_⟩
      · rw [up_k (by omega), hs1, ← Nat.add_zero (4 * h'), up_s]
      · rw [up_k (by omega), hs1, up_k (by omega)]
        exact v1
      · rw [up_s]
      · rw [up_k (by omega), hs1, up_k (by omega)]
        exact v3
    · rw [List.getElem?_set_ne (fun e => y e.symm)] at hr
      rw [hs2, up_k (by omega), up_k (by omega), up_k (by omega), up_k (by omega), hs1, up_k (by omega), up_k (by omega), up_k (by omega), up_k (by omega)]
      exact c2 h' r hr
  · by_cases y : h' = h
    · subst y
      rw [List.getElem?_set_self hlen] at hr
      have hr : (o + B - s, d, nw + B - s, a) = r := by simpa using hr
      rw [← hr]
      show o + B - s + d ≤ 100 ∧ nw + B - s + a ≤ 100
      omega
    · rw [List.getElem?_set_ne (fun e => y e.symm)] at hr
      exact c3 h' r hr
end
-- DRAFT 99.sh4.lean
/-! Shifting all hunks, and the pairs around them: the class's side. -/
noncomputable section
def shF (O N : Nat → Int) (nb : Nat) (F : Nat → Int) (l : List St) (h : Nat) : Nat → Int := match l[h]? with
  | none => F
  | some q => if q.2.1 = 0 then mvF F (peo l h 0) (nso nb l h) (q.1 + bpl N q.2.2.1 q.2.2.2 (mbk l h q) (mon nb l h q) - q.2.2.1) 0 (bpl N q.2.2.1 q.2.2.2 (mbk l h q) (mon nb l h q)) q.2.2.2
    else if q.2.2.2 = 0 then mvF F (peo l h 0) (nso nb l h) (bpl O q.1 q.2.1 (mbk l h q) (mon nb l h q)) q.2.1 (q.2.2.1 + bpl O q.1 q.2.1 (mbk l h q) (mon nb l h q) - q.1) 0
    else F
theorem sh1_a {O N : Nat → Int} {nb h o nw a : Nat} {l : List St} (hq : l[h]? = some (o, 0, nw, a)) : sh1 O N nb l h = l.set h (o + bpl N nw a (mbk l h (o, 0, nw, a)) (mon nb l h (o, 0, nw, a)) - nw, 0, bpl N nw a (mbk l h (o, 0, nw, a)) (mon nb l h (o, 0, nw, a)), a) := by
  unfold sh1
  rw [hq]
  dsimp only
  rw [if_pos rfl]
theorem sh1_d {O N : Nat → Int} {nb h o d nw : Nat} {l : List St} (hd : ¬ d = 0) (hq : l[h]? = some (o, d, nw, 0)) : sh1 O N nb l h = l.set h (bpl O o d (mbk l h (o, d, nw, 0)) (mon nb l h (o, d, nw, 0)), d, nw + bpl O o d (mbk l h (o, d, nw, 0)) (mon nb l h (o, d, nw, 0)) - o, 0) := by
  unfold sh1
  rw [hq]
  dsimp only
  rw [if_neg hd, if_pos rfl]
theorem sh1_n {O N : Nat → Int} {nb h o d nw a : Nat} {l : List St} (hd : ¬ d = 0) (ha : ¬ a = 0) (hq : l[h]? = some (o, d, nw, a)) : sh1 O N nb l h = l := by
  unfold sh1
  rw [hq]
  dsimp only
  rw [if_neg hd, if_neg ha]
theorem shF_a {O N F : Nat → Int} {nb h o nw a : Nat} {l : List St} (hq : l[h]? = some (o, 0, nw, a)) : shF O N nb F l h = mvF F (peo l h 0) (nso nb l h) (o + bpl N nw a (mbk l h (o, 0, nw, a)) (mon nb l h (o, 0, nw, a)) - nw) 0 (bpl N nw a (mbk l h (o, 0, nw, a)) (mon nb l h (o, 0, nw, a))) a := by
  unfold shF
  rw [hq]
  dsimp only
  rw [if_pos rfl]
theorem shF_d {O N F : Nat → Int} {nb h o d nw : Nat} {l : List St} (hd : ¬ d = 0) (hq : l[h]? = some (o, d, nw, 0)) : shF O N nb F l h = mvF F (peo l h 0) (nso nb l h) (bpl O o d (mbk l h (o, d, nw, 0)) (mon nb l h (o, d, nw, 0))) d (nw + bpl O o d (mbk l h (o, d, nw, 0)) (mon nb l h (o, d, nw, 0)) - o) 0 := by
  unfold shF
  rw [hq]
  dsimp only
  rw [if_neg hd, if_pos rfl]
theorem shF_n {O N F : Nat → Int} {nb h o d nw a : Nat} {l : List St} (hd : ¬ d = 0) (ha : ¬ a = 0) (hq : l[h]? = some (o, d, nw, a)) : shF O N nb F l h = F := by
  unfold shF
  rw [hq]
  dsimp only
  rw [if_neg hd, if_neg ha]
/-- what is known of a hunk and its room -/
theorem DS_rm {F : Nat → Int} {nb na h o d nw a : Nat} {l : List St} (H : DS F nb na l 0 0 0) (hq : l[h]? = some (o, d, nw, a)) : mbk l h (o, d, nw, a) ≤ o ∧ mbk l h (o, d, nw, a) ≤ nw ∧ nw + a + mon nb l h (o, d, nw, a) ≤ na ∧ o + d + mon nb l h (o, d, nw, a) ≤ nb ∧ 0 < d + a := by
  obtain ⟨⟨pj, i0, i1, i2⟩, i3, i4, i5, i6, i7, i8, i9, i10, i11, i12⟩ := DS_at _ _ _ _ _ _ H hq
  have i1 : nw = pj + (o - peo l h 0) := i1
  have i4 : o + d ≤ nso nb l h := i4
  have i8 : nw + a + (nso nb l h - (o + d)) ≤ na := i8
  have i12 : peo l h 0 ≤ o := i12
  have m1 : mbk l h (o, d, nw, a) ≤ o - peo l h 0 := Nat.sub_le _ _
  have m2 : mon nb l h (o, d, nw, a) ≤ nso nb l h - (o + d) := Nat.sub_le _ _
  exact ⟨by omega, by omega, by omega, by omega, i7⟩
theorem sh1_DS {O N F : Nat → Int} {nb na h : Nat} {l : List St} (H : DS F nb na l 0 0 0) (E : EQL O N F nb) : DS (shF O N nb F l h) nb na (sh1 O N nb l h) 0 0 0 ∧ EQL O N (shF O N nb F l h) nb := by
  cases hq : l[h]? with
  | none =>
    unfold shF sh1
    rw [hq]
    exact ⟨H, E⟩
  | some q =>
    obtain ⟨o, d, nw, a⟩ := q
    obtain ⟨r1, r2, r3, r4, r5⟩ := DS_rm H hq
    by_cases hd : d = 0
    · subst hd
      rw [sh1_a hq, shF_a hq]
      have bb := bpl_b (X := N) (s := nw) (n := a) (mb := mbk l h (o, 0, nw, a)) (mo := mon nb l h (o, 0, nw, a)) (by omega)
      have rb := (rbk_b (X := N) (s := nw) (n := a) (m := mbk l h (o, 0, nw, a))).1
      have ro := (ron_b (X := N) (s := nw) (n := a) (m := mon nb l h (o, 0, nw, a))).1
      exact ⟨DS_mvF H hq (by omega) (by omega) (by omega), EQ_add H E hq (by omega) bb.1 bb.2⟩
    · by_cases ha : a = 0
      · subst ha
        rw [sh1_d hd hq, shF_d hd hq]
        have bb := bpl_b (X := O) (s := o) (n := d) (mb := mbk l h (o, d, nw, 0)) (mo := mon nb l h (o, d, nw, 0)) (by omega)
        have rb := (rbk_b (X := O) (s := o) (n := d) (m := mbk l h (o, d, nw, 0))).1
        have ro := (ron_b (X := O) (s := o) (n := d) (m := mon nb l h (o, d, nw, 0))).1
        exact ⟨DS_mvF H hq (by omega) (by omega) (by omega), EQ_drop H E hq (by omega) bb.1 bb.2⟩
      · rw [sh1_n hd ha hq, shF_n hd ha hq]
        exact ⟨H, E⟩
def shsF (O N : Nat → Int) (nb : Nat) : Nat → Nat → (Nat → Int) → List St → (Nat → Int)
  | 0, _, F, _ => F
  | d + 1, h, F, l => shsF O N nb d (h + 1) (shF O N nb F l h) (sh1 O N nb l h)
theorem shs_DS {O N : Nat → Int} {nb na : Nat} : ∀ (d h : Nat) (F : Nat → Int) (l : List St), DS F nb na l 0 0 0 → EQL O N F nb → DS (shsF O N nb d h F l) nb na (shs O N nb d h l) 0 0 0 ∧ EQL O N (shsF O N nb d h F l) nb := by
  intro d
  induction d with
  | zero => intro h F l H E; exact ⟨H, E⟩
  | succ d ih =>
    intro h F l H E
    obtain ⟨H1, E1⟩ := sh1_DS (h := h) H E
    exact ih (h + 1) _ _ H1 E1
theorem l108 {P nb na : Nat} {O N : Nat → Int} {σ0 : Sg} (hP : isPatch P = true) (hb : nb ≤ 100) (ha : na ≤ 100) (w1 : wR σ0 (P + 1)) (w3 : wR σ0 (P + 3)) (z1 : σ0 (P + 1) 1 = (nb : Nat)) (z3 : σ0 (P + 3) 1 = (na : Nat)) (hO : ∀ i, i < nb → σ0 (P + 2) i = O i) (hN : ∀ i, i < na → σ0 (P + 4) i = N i) (lO : ∀ i, i < nb → isLn (O i) = true) (lN : ∀ i, i < na → isLn (N i) = true) : ∀ (d h : Nat) (l : List St) (F : Nat → Int) (σ : Sg), h + d = l.length → DS F nb na l 0 0 0 → EQL O N F nb → PC σ P l → wR σ (P + 9) → (∀ c k, ¬ c = P + 10 → σ c k = σ0 c k) → ∃ s, (∀ {o : Rs}, (∃ (s26 : Sg), Dd 113 [vA P] s (rV s26) ∧ o = rV s26) → C108_2 P h σ o) ∧ PC s P (shs O N nb d h l) ∧ wR s (P + 9) ∧ ∀ c k, ¬ c = P + 10 → s c k = σ0 c k := by
  intro d
  induction d with
  | zero =>
    intro h l F σ hh H E C w fr
    refine ⟨σ, fun {o} hx => b108_2 hP ⟨_, _, d98' hP C, ?_⟩, C, w, fr⟩
    rw [if_neg (by omega)]
    exact hx
  | succ d ih =>
    intro h l F σ hh H E C w fr
    obtain ⟨q, hq⟩ : ∃ q, l[h]? = some q := ⟨l[h], List.getElem?_eq_getElem (by omega)⟩
    have hlen4 : 4 * l.length ≤ 5000 := by
      have := cap_le w.1
      have := w.2.2
      have := C.1
      omega
    obtain ⟨o, dr, nw, a⟩ := q
    obtain ⟨r1, r2, r3, r4, r5⟩ := DS_rm H hq
    have v1 : wR σ (P + 1) := ⟨w1.1, by rw [fr _ _ (by omega)]; exact w1.2⟩
    have v3 : wR σ (P + 3) := ⟨w3.1, by rw [fr _ _ (by omega)]; exact w3.2⟩
    have y1 : σ (P + 1) 1 = (nb : Nat) := by rw [fr _ _ (by omega)]; exact z1
    have y3 : σ (P + 3) 1 = (na : Nat) := by rw [fr _ _ (by omega)]; exact z3
    have xO : ∀ i, i < nb → σ (P + 1 + 1) i = O i := fun i hi => by rw [fr _ _ (by omega)]; exact hO i hi
    have xN : ∀ i, i < na → σ (P + 3 + 1) i = N i := fun i hi => by rw [fr _ _ (by omega)]; exact hN i hi
    obtain ⟨e101, e104⟩ := pc_at2 hP w C hq
    obtain ⟨e100, -, e103, -⟩ := pc_at hP w C hq
    have e101 : Dd 101 [vA P, vI h] σ (rI (dr : Nat) σ) := e101
    have e104 : Dd 104 [vA P, vI h] σ (rI (a : Nat) σ) := e104
    have e100 : Dd 100 [vA P, vI h] σ (rI (o : Nat) σ) := e100
    have e103 : Dd 103 [vA P, vI h] σ (rI (nw : Nat) σ) := e103
    obtain ⟨H1, E1⟩ := sh1_DS (h := h) H E
    have go : ∀ (σ1 : Sg), PC σ1 P (sh1 O N nb l h) → wR σ1 (P + 9) → (∀ c k, ¬ c = P + 10 → σ1 c k = σ c k) → (∀ {o : Rs}, C108_67 P h σ1 o → C108_2 P h σ o) → ∃ s, (∀ {o : Rs}, (∃ (s26 : Sg), Dd 113 [vA P] s (rV s26) ∧ o = rV s26) → C108_2 P h σ o) ∧ PC s P (shs O N nb (d + 1) h l) ∧ wR s (P + 9) ∧ ∀ c k, ¬ c = P + 10 → s c k = σ0 c k := by
      intro σ1 C1 w1' f1 to
      obtain ⟨s, a1, a2, a3, a4⟩ := ih (h + 1) (sh1 O N nb l h) _ σ1 (by rw [sh1_len]; omega) H1 E1 C1 w1' (fun c k y => by rw [f1 c k y]; exact fr c k y)
      refine ⟨s, fun {o} hx => to (b108_67 ⟨by omega, ?_⟩), a2, a3, a4⟩
      rw [show (h : Int) + 1 = ((h + 1 : Nat) : Int) by omega]
      exact a1 hx
    by_cases hd : dr = 0
    · subst hd
      obtain ⟨s', b1, b2, b3, b4⟩ := d109 (R := P + 3) (m := na) (s := nw) (n := a) (X := N) hP w C y1 hb H hq v3 (by omega) y3 xN lN r2 (by omega) (by omega) (by omega) (by omega) ha ha
      rw [Nat.add_sub_cancel_left] at b2
      rw [← sh1_a (O := O) hq] at b2
      refine go s' b2 b3 b4 (fun {o'} hx => b108_2 hP ⟨_, _, d98' hP C, ?_⟩)
      rw [if_pos (by omega)]
      refine ⟨_, _, e101, ?_⟩
      rw [if_pos (by omega)]
      exact ⟨_, _, e103, _, _, e104, _, b1, hx⟩
    · by_cases hz : a = 0
      · subst hz
        obtain ⟨s', b1, b2, b3, b4⟩ := d109 (R := P + 1) (m := nb) (s := o) (n := dr) (X := O) hP w C y1 hb H hq v1 (by omega) y1 xO lO r1 (by omega) (by omega) (by omega) (by omega) hb ha
        rw [Nat.add_sub_cancel_left] at b2
        rw [← sh1_d (N := N) hd hq] at b2
        refine go s' b2 b3 b4 (fun {o'} hx => b108_2 hP ⟨_, _, d98' hP C, ?_⟩)
        rw [if_pos (by omega)]
        refine ⟨_, _, e101, ?_⟩
        rw [if_neg (show ¬ ((dr : Nat) : Int) = 0 by omega)]
        refine ⟨_, _, e104, ?_⟩
        rw [if_pos (show ((0 : Nat) : Int) = 0 from rfl)]
        exact ⟨_, _, e100, _, _, e101, _, b1, hx⟩
      · refine go σ (by rw [sh1_n hd hz hq]; exact C) w (fun _ _ _ => rfl) (fun {o'} hx => b108_2 hP ⟨_, _, d98' hP C, ?_⟩)
        rw [if_pos (by omega)]
        refine ⟨_, _, e101, ?_⟩
        rw [if_neg (by omega)]
        refine ⟨_, _, e104, ?_⟩
        rw [if_neg (by omega)]
        exact hx
/-- by how much a paired line ahead of a hunk lies further on -/
def dft (l : List St) (h : Nat) : Int := if h = 0 then 0 else match l[h - 1]? with
  | some r => ((r.2.2.1 + r.2.2.2 : Nat) : Int) - ((r.1 + r.2.1 : Nat) : Int)
  | none => 0
theorem d107 {σ : Sg} {P h : Nat} {l : List St} (hP : isPatch P = true) (w : wR σ (P + 9)) (C : PC σ P l) (hh : h ≤ l.length) : Dd 107 [vA P, vI h] σ (rI (dft l h) σ) ∧ -100 ≤ dft l h ∧ dft l h ≤ 100 := by
  cases h with
  | zero =>
    have e : dft l 0 = 0 := by
      unfold dft
      rw [if_pos rfl]
    rw [e]
    refine ⟨b107 hP ?_, by omega, by omega⟩
    rw [if_neg (by omega)]
  | succ h =>
    obtain ⟨r, hr⟩ : ∃ r, l[h]? = some r := ⟨l[h], List.getElem?_eq_getElem (by omega)⟩
    have b := C.2.2 h r hr
    obtain ⟨-, e102, -, e105⟩ := pc_at hP w C hr
    have hlen4 : 4 * l.length ≤ 5000 := by
      have := cap_le w.1
      have := w.2.2
      have := C.1
      omega
    have e : dft l (h + 1) = ((r.2.2.1 + r.2.2.2 : Nat) : Int) - ((r.1 + r.2.1 : Nat) : Int) := by
      unfold dft
      rw [if_neg (by omega), Nat.add_sub_cancel, hr]
    rw [e]
    refine ⟨b107 hP ?_, by omega, by omega⟩
    rw [if_pos (by omega), show ((h + 1 : Nat) : Int) - 1 = ((h : Nat) : Int) by omega]
    exact ⟨by omega, _, _, e105, by omega, _, _, e102, by omega, rfl⟩
def gnd (nb : Nat) (l : List St) (h : Nat) : Nat := match l[h]? with
  | some r => r.1
  | none => nb
/-- the paired lines ahead of a hunk, or behind the last one -/
theorem DS_gap {F : Nat → Int} {nb na : Nat} {l : List St} (H : DS F nb na l 0 0 0) {h : Nat} (hh : h ≤ l.length) : peo l h 0 ≤ gnd nb l h ∧ gnd nb l h ≤ nb ∧ ∀ x, peo l h 0 ≤ x → x < gnd nb l h → F x = (x : Int) + dft l h := by
  cases h with
  | zero =>
    have e : dft l 0 = 0 := by
      unfold dft
      rw [if_pos rfl]
    have b := DS_b _ _ _ _ H
    rw [e, peo_0]
    cases l with
    | nil =>
      obtain ⟨h1, h2, h3, h4⟩ := H
      refine ⟨Nat.zero_le _, Nat.le_refl nb, fun x _ y2 => ?_⟩
      have y2 : x < nb := y2
      rw [h4 x (Nat.zero_le x) y2]
      omega
    | cons q t =>
      have bq := b.2.2 q List.mem_cons_self
      obtain ⟨h1, h2, h3, h4, h5, h6⟩ := H
      refine ⟨Nat.zero_le _, by show q.1 ≤ nb; omega, fun x _ y2 => ?_⟩
      have y2 : x < q.1 := y2
      rw [h3 x (Nat.zero_le x) y2]
      omega
  | succ h =>
    obtain ⟨r, hr⟩ : ∃ r, l[h]? = some r := ⟨l[h], List.getElem?_eq_getElem (by omega)⟩
    obtain ⟨-, i3, i4, i5, i6, i7, i8, i9, i10, i11, i12⟩ := DS_at _ _ _ _ _ _ H hr
    have e : dft l (h + 1) = ((r.2.2.1 + r.2.2.2 : Nat) : Int) - ((r.1 + r.2.1 : Nat) : Int) := by
      unfold dft
      rw [if_neg (by omega), Nat.add_sub_cancel, hr]
    have eg : gnd nb l (h + 1) = nso nb l h := rfl
    rw [e, eg, peo_l l h 0 r hr]
    refine ⟨i4, i5, fun x y1 y2 => ?_⟩
    rw [i6 x y1 y2]
    omega
/-- the way back, up to an old line -/
def KI (F : Nat → Int) (i0 : Nat) (K : Nat → Int) (na : Nat) : Prop := (∀ y : Nat, y < na → K y = -1 ∨ ∃ x : Nat, K y = (x : Int) ∧ x < i0 ∧ F x = (y : Int)) ∧ ∀ x, x < i0 → ¬ F x = -1 → K (F x).toNat = (x : Int)
theorem l113b {P nb na h : Nat} {F : Nat → Int} {l : List St} {σ0 : Sg} {d1 : Option AV} (hP : isPatch P = true) (hb : nb ≤ 100) (ha : na ≤ 100) (H : DS F nb na l 0 0 0) (hh : h ≤ l.length) (C : PC σ0 P l) (w9 : wR σ0 (P + 9)) (w5 : wR σ0 (P + 5)) (w7 : wR σ0 (P + 7)) (z5 : σ0 (P + 5) 1 = (nb : Nat)) (z7 : σ0 (P + 7) 1 = (na : Nat)) : ∀ (d i : Nat) (σ : Sg), i + d = gnd nb l h → peo l h 0 ≤ i → (∀ c k, ¬ c = P + 6 → ¬ c = P + 8 → σ c k = σ0 c k) → (∀ x, x < i → σ (P + 6) x = F x) → (∀ x, i ≤ x → x < nb → σ (P + 6) x = -1) → KI F i (σ (P + 8)) na → ∃ s, (∀ {o : Rs}, C113_69 P d1 h (gnd nb l h : Nat) (gnd nb l h : Nat) s o → C113_69 P d1 h (gnd nb l h : Nat) i σ o) ∧ (∀ c k, ¬ c = P + 6 → ¬ c = P + 8 → s c k = σ0 c k) ∧ (∀ x, x < gnd nb l h → s (P + 6) x = F x) ∧ (∀ x, gnd nb l h ≤ x → x < nb → s (P + 6) x = -1) ∧ KI F (gnd nb l h) (s (P + 8)) na := by
  obtain ⟨g1, g2, g3⟩ := DS_gap H hh
  have V := DS_VF H
  intro d
  induction d with
  | zero =>
    intro i σ hi _ fr v1 v2 K
    have e : i = gnd nb l h := by omega
    rw [e] at v1 v2 K ⊢
    exact ⟨σ, fun {o} hx => hx, fr, v1, v2, K⟩
  | succ d ih =>
    intro i σ hi hpi fr v1 v2 K
    have fi := g3 i hpi (by omega)
    have vi := V.1 i (by omega)
    have Cσ : ∀ (s : Sg), (∀ c k, ¬ c = P + 6 → ¬ c = P + 8 → s c k = σ0 c k) → PC s P l ∧ wR s (P + 9) ∧ wR s (P + 5) ∧ wR s (P + 7) ∧ s (P + 5) 1 = (nb : Nat) ∧ s (P + 7) 1 = (na : Nat) := by
      intro s hs
      exact ⟨PC_fr (fun k => hs _ _ (by omega) (by omega)) (fun k => hs _ _ (by omega) (by omega)) C, ⟨w9.1, by rw [hs _ _ (by omega) (by omega)]; exact w9.2⟩, ⟨w5.1, by rw [hs _ _ (by omega) (by omega)]; exact w5.2⟩, ⟨w7.1, by rw [hs _ _ (by omega) (by omega)]; exact w7.2⟩, by rw [hs _ _ (by omega) (by omega)]; exact z5, by rw [hs _ _ (by omega) (by omega)]; exact z7⟩
    obtain ⟨C1, x9, x5, x7, y5, y7⟩ := Cσ σ fr
    obtain ⟨q1, bd1, bd2⟩ := d107 hP x9 C1 hh
    have hF0 : ¬ F i = -1 := by
      intro e
      rcases vi with z | z
      · have : (0 : Int) ≤ F i := by
          obtain ⟨k1, k2⟩ := DS_v _ _ _ _ H
          by_cases y : h = 0
          · subst y
            have : dft l 0 = 0 := by
              unfold dft
              rw [if_pos rfl]
            omega
          · obtain ⟨r, hr⟩ : ∃ r, l[h - 1]? = some r := ⟨l[h - 1], List.getElem?_eq_getElem (by omega)⟩
            have e' : dft l h = ((r.2.2.1 + r.2.2.2 : Nat) : Int) - ((r.1 + r.2.1 : Nat) : Int) := by
              unfold dft
              rw [if_neg y, hr]
            have hp := peo_l l (h - 1) 0 r hr
            rw [show h - 1 + 1 = h by omega] at hp
            omega
        omega
      · omega
    have hFi : 0 ≤ F i ∧ F i < (na : Int) := by
      rcases vi with z | z
      · exact absurd z hF0
      · exact z
    obtain ⟨j, hj⟩ := Int.eq_ofNat_of_zero_le hFi.1
    have q2 := d148 (i := (i : Int)) (v := (j : Int)) x5
    rw [st_in (n := nb) y5 (by omega)] at q2
    have f1 : ∀ c k, ¬ c = P + 6 → ¬ c = P + 8 → upS σ (P + 5 + 1) i (j : Int) c k = σ0 c k := fun c k a b => by rw [up_a (by omega)]; exact fr c k a b
    obtain ⟨C2, x9', x5', x7', y5', y7'⟩ := Cσ _ f1
    obtain ⟨q3, -, -⟩ := d107 hP x9' C2 hh
    have q4 := d148 (i := (j : Int)) (v := (i : Int)) x7'
    rw [st_in (n := na) y7' (by omega)] at q4
    have f2 : ∀ c k, ¬ c = P + 6 → ¬ c = P + 8 → upS (upS σ (P + 5 + 1) i (j : Int)) (P + 7 + 1) j (i : Int) c k = σ0 c k := fun c k a b => by rw [up_a (by omega)]; exact f1 c k a b
    obtain ⟨s, a1, a2, a3, a4, a5⟩ := ih (i + 1) (upS (upS σ (P + 5 + 1) i (j : Int)) (P + 7 + 1) j (i : Int)) (by omega) (by omega) f2 (fun x hx => by
      rw [up_a (by omega)]
      by_cases e : x = i
      · rw [e]
        show upS σ (P + 6) i (j : Int) (P + 6) i = F i
        rw [up_s, hj]
      · show upS σ (P + 6) i (j : Int) (P + 6) x = F x
        rw [up_k e]
        exact v1 x (by omega)) (fun x h1 h2 => by
      rw [up_a (by omega)]
      show upS σ (P + 6) i (j : Int) (P + 6) x = -1
      rw [up_k (by omega)]
      exact v2 x (by omega) h2) (by
      have eK : ∀ y, upS (upS σ (P + 5 + 1) i (j : Int)) (P + 7 + 1) j (i : Int) (P + 8) y = if y = j then (i : Int) else σ (P + 8) y := fun y => by
        show upS (upS σ (P + 6) i (j : Int)) (P + 8) j (i : Int) (P + 8) y = _
        by_cases e : y = j
        · rw [if_pos e, e, up_s]
        · rw [if_neg e, up_k e, up_a (by omega)]
      refine ⟨fun y hy => ?_, fun x hx hn => ?_⟩
      · rw [eK]
        by_cases e : y = j
        · rw [if_pos e]
          exact Or.inr ⟨i, rfl, by omega, by rw [e, hj]⟩
        · rw [if_neg e]
          rcases K.1 y hy with z | ⟨x, z1, z2, z3⟩
          · exact Or.inl z
          · exact Or.inr ⟨x, z1, by omega, z3⟩
      · rw [eK]
        by_cases e : x = i
        · rw [e, hj, tn, if_pos rfl]
        · have lt := V.2 x i (by omega) (by omega) hn hF0
          have z := V.1 x (by omega)
          rw [if_neg (by
            intro e2
            rcases z with z | z
            · exact hn z
            · omega)]
          exact K.2 x (by omega) hn)
    refine ⟨s, fun {o} hx => b113_69 hP ?_, a2, a3, a4, a5⟩
    rw [if_pos (by omega)]
    refine ⟨_, _, q1, by omega, ?_⟩
    rw [show (i : Int) + dft l h = (j : Int) by omega]
    refine ⟨_, q2, _, _, q3, by omega, ?_⟩
    rw [show (i : Int) + dft l h = (j : Int) by omega]
    refine ⟨_, q4, by omega, ?_⟩
    rw [show (i : Int) + 1 = ((i + 1 : Nat) : Int) by omega]
    exact a1 hx
theorem l113a {P nb na : Nat} {F : Nat → Int} {l : List St} {σ0 : Sg} (hP : isPatch P = true) (hb : nb ≤ 100) (ha : na ≤ 100) (H : DS F nb na l 0 0 0) (C : PC σ0 P l) (w9 : wR σ0 (P + 9)) (w5 : wR σ0 (P + 5)) (w7 : wR σ0 (P + 7)) (z1 : σ0 (P + 1) 1 = (nb : Nat)) (z5 : σ0 (P + 5) 1 = (nb : Nat)) (z7 : σ0 (P + 7) 1 = (na : Nat)) : ∀ (d h : Nat) (σ : Sg) (d3 d4 : Option AV), h + d = l.length → (∀ c k, ¬ c = P + 6 → ¬ c = P + 8 → σ c k = σ0 c k) → (∀ x, x < peo l h 0 → σ (P + 6) x = F x) → (∀ x, peo l h 0 ≤ x → x < nb → σ (P + 6) x = -1) → KI F (peo l h 0) (σ (P + 8)) na → ∃ s, C113_34 P (peo l h 0 : Nat) h d3 d4 σ (rV s) ∧ (∀ c k, ¬ c = P + 6 → ¬ c = P + 8 → s c k = σ0 c k) ∧ (∀ x, x < nb → s (P + 6) x = F x) ∧ KI F nb (s (P + 8)) na := by
  have hlen4 : 4 * l.length ≤ 5000 := by
    have := cap_le w9.1
    have := w9.2.2
    have := C.1
    omega
  have Cσ : ∀ (s : Sg), (∀ c k, ¬ c = P + 6 → ¬ c = P + 8 → s c k = σ0 c k) → PC s P l ∧ wR s (P + 9) := by
    intro s hs
    exact ⟨PC_fr (fun k => hs _ _ (by omega) (by omega)) (fun k => hs _ _ (by omega) (by omega)) C, ⟨w9.1, by rw [hs _ _ (by omega) (by omega)]; exact w9.2⟩⟩
  intro d
  induction d with
  | zero =>
    intro h σ d3 d4 hh fr v1 v2 K
    have hle : h = l.length := by omega
    obtain ⟨g1, g2, g3⟩ := DS_gap H (h := h) (by omega)
    have eg : gnd nb l h = nb := by
      unfold gnd
      rw [List.getElem?_eq_none (by omega)]
    obtain ⟨s, a1, a2, a3, a4, a5⟩ := l113b (d1 := some (vI (peo l h 0 : Nat))) hP hb ha H (by omega) C w9 w5 w7 z5 z7 (gnd nb l h - peo l h 0) (peo l h 0) σ (by omega) (Nat.le_refl _) fr v1 v2 K
    rw [eg] at a1 a3 a5
    obtain ⟨C1, x9⟩ := Cσ σ fr
    obtain ⟨C2, x9'⟩ := Cσ s a2
    have q146 := d146 (σ := σ) (pat_1 hP)
    rw [fr _ _ (by omega) (by omega), z1] at q146
    have stop : ∀ d3 d4, C113_34 P (nb : Nat) ((h + 1 : Nat) : Int) d3 d4 s (rV s) := fun d3 d4 => by
      refine b113_34 hP ⟨_, _, d98' hP C2, ?_⟩
      rw [if_neg (by omega)]
    refine ⟨s, b113_34 hP ⟨_, _, d98' hP C1, ?_⟩, a2, a3, a5⟩
    rw [if_pos (by omega)]
    refine ⟨_, _, d98' hP C1, ?_⟩
    rw [if_neg (by omega)]
    refine ⟨_, _, q146, b113_65 (a1 (b113_69 hP ?_))⟩
    rw [if_neg (by omega)]
    refine ⟨_, _, d98' hP C2, ?_⟩
    rw [if_neg (by omega)]
    refine b113_132 ⟨by omega, ?_⟩
    rw [show (h : Int) + 1 = ((h + 1 : Nat) : Int) by omega]
    exact stop _ _
  | succ d ih =>
    intro h σ d3 d4 hh fr v1 v2 K
    obtain ⟨q, hq⟩ : ∃ q, l[h]? = some q := ⟨l[h], List.getElem?_eq_getElem (by omega)⟩
    obtain ⟨g1, g2, g3⟩ := DS_gap H (h := h) (by omega)
    obtain ⟨-, i3, i4, i5, -⟩ := DS_at _ _ _ _ _ _ H hq
    have eg : gnd nb l h = q.1 := by
      unfold gnd
      rw [hq]
    obtain ⟨s, a1, a2, a3, a4, a5⟩ := l113b (d1 := some (vI (peo l h 0 : Nat))) hP hb ha H (by omega) C w9 w5 w7 z5 z7 (gnd nb l h - peo l h 0) (peo l h 0) σ (by omega) (Nat.le_refl _) fr v1 v2 K
    rw [eg] at a1 a3 a4 a5
    obtain ⟨C1, x9⟩ := Cσ σ fr
    obtain ⟨C2, x9'⟩ := Cσ s a2
    have ep := peo_l l h 0 q hq
    obtain ⟨s2, b1, b2, b3, b4⟩ := ih (h + 1) s (some (vI (q.1 : Nat))) (some (vI (q.1 : Nat))) (by omega) a2 (fun x hx => by
      rw [ep] at hx
      by_cases y : x < q.1
      · exact a3 x y
      · rw [a4 x (by omega) (by omega), i3 x (by omega) hx]) (fun x h1 h2 => by
      rw [ep] at h1
      exact a4 x (by omega) h2) (by
      rw [ep]
      refine ⟨fun y hy => ?_, fun x hx hn => ?_⟩
      · rcases a5.1 y hy with z | ⟨x, z1, z2, z3⟩
        · exact Or.inl z
        · exact Or.inr ⟨x, z1, by omega, z3⟩
      · by_cases y : x < q.1
        · exact a5.2 x y hn
        · exact absurd (i3 x (by omega) hx) hn)
    refine ⟨s2, b113_34 hP ⟨_, _, d98' hP C1, ?_⟩, b2, b3, b4⟩
    rw [if_pos (by omega)]
    refine ⟨_, _, d98' hP C1, ?_⟩
    rw [if_pos (by omega)]
    refine ⟨_, _, (pc_at hP x9 C1 hq).1, b113_65 (a1 (b113_69 hP ?_))⟩
    rw [if_neg (by omega)]
    refine ⟨_, _, d98' hP C2, ?_⟩
    rw [if_pos (by omega)]
    refine ⟨_, _, (pc_at hP x9' C2 hq).2.1, b113_132 ⟨by omega, ?_⟩⟩
    rw [show (h : Int) + 1 = ((h + 1 : Nat) : Int) by omega, ← ep]
    exact b1
/-- shiftHunks -/
theorem d108 {σ : Sg} {P nb na : Nat} {O N : Nat → Int} (hP : isPatch P = true) (w : WF σ) (hb : nb ≤ 100) (ha : na ≤ 100) (n : NP σ P nb na) (hO : ∀ i, i < nb → σ (P + 2) i = O i) (hN : ∀ i, i < na → σ (P + 4) i = N i) (lO : ∀ i, i < nb → isLn (O i) = true) (lN : ∀ i, i < na → isLn (N i) = true) (E : EQL O N (σ (P + 6)) nb) (c5 : nb ≤ cap (P + 5)) (c7 : na ≤ cap (P + 7)) : ∃ s, Dd 108 [vA P] σ (rV s) ∧ NP s P nb na ∧ EQL O N (s (P + 6)) nb ∧ (∀ x, x < nb → s (P + 6) x = shsF O N nb (hks (σ (P + 6)) nb na).length 0 (σ (P + 6)) (hks (σ (P + 6)) nb na) x) ∧ wR s (P + 9) ∧ ∀ c k, ¬ (P + 5 ≤ c ∧ c ≤ P + 10) → s c k = σ c k := by
  have C := PC_of n hb ha
  obtain ⟨n1, n3, n5, n7, V, K, C1, C2⟩ := n
  have H := DS_0 V
  obtain ⟨s1, a1, a2, a3, a4⟩ := l108 (O := O) (N := N) hP hb ha (WF_w w (pat_1 hP)) (WF_w w (pat_3 hP)) n1 n3 hO hN lO lN (hks (σ (P + 6)) nb na).length 0 (hks (σ (P + 6)) nb na) (σ (P + 6)) σ (by omega) H E C (WF_w w (pat_9 hP)) (fun _ _ _ => rfl)
  obtain ⟨H1, E1⟩ := shs_DS (O := O) (N := N) (hks (σ (P + 6)) nb na).length 0 (σ (P + 6)) (hks (σ (P + 6)) nb na) H E
  generalize shs O N nb (hks (σ (P + 6)) nb na).length 0 (hks (σ (P + 6)) nb na) = l1 at a2 H1
  generalize shsF O N nb (hks (σ (P + 6)) nb na).length 0 (σ (P + 6)) (hks (σ (P + 6)) nb na) = F1 at H1 E1 ⊢
  have V1 := DS_VF H1
  have q1 := d146 (σ := s1) (pat_1 hP)
  rw [a4 _ _ (by omega), n1] at q1
  have q2 := d153 (σ := s1) (a := P + 5) (n := (nb : Int)) (v := -1) (pat_5 hP)
  have u1 : flS s1 (P + 5) (nb : Int) (-1) (P + 5) 1 = (nb : Nat) := fl_sz (by omega) (by omega)
  have u2 : ∀ k : Nat, k < nb → flS s1 (P + 5) (nb : Int) (-1) (P + 5 + 1) k = -1 := fun k hk => fl_val (by omega) (by omega) (by omega)
  have u3 : ∀ c x, ¬ c = P + 5 → ¬ c = P + 6 → flS s1 (P + 5) (nb : Int) (-1) c x = s1 c x := fun c x y1 y2 => fl_off y1 y2
  generalize flS s1 (P + 5) (nb : Int) (-1) = s2 at q2 u1 u2 u3
  have q3 := d146 (σ := s2) (pat_3 hP)
  rw [u3 _ _ (by omega) (by omega), a4 _ _ (by omega), n3] at q3
  have q4 := d153 (σ := s2) (a := P + 7) (n := (na : Int)) (v := -1) (pat_7 hP)
  have t1 : flS s2 (P + 7) (na : Int) (-1) (P + 7) 1 = (na : Nat) := fl_sz (by omega) (by omega)
  have t2 : ∀ k : Nat, k < na → flS s2 (P + 7) (na : Int) (-1) (P + 7 + 1) k = -1 := fun k hk => fl_val (by omega) (by omega) (by omega)
  have t3 : ∀ c x, ¬ c = P + 7 → ¬ c = P + 8 → flS s2 (P + 7) (na : Int) (-1) c x = s2 c x := fun c x y1 y2 => fl_off y1 y2
  generalize flS s2 (P + 7) (na : Int) (-1) = s3 at q4 t1 t2 t3
  have f3 : ∀ c x, ¬ (P + 5 ≤ c ∧ c ≤ P + 8) → s3 c x = s1 c x := fun c x y => by rw [t3 c x (by omega) (by omega), u3 c x (by omega) (by omega)]
  have z5 : s3 (P + 5) 1 = (nb : Nat) := by rw [t3 _ _ (by omega) (by omega)]; exact u1
  have C3 : PC s3 P l1 := PC_fr (fun k => f3 _ _ (by omega)) (fun k => f3 _ _ (by omega)) a2
  have w9 : wR s3 (P + 9) := ⟨a3.1, by rw [f3 _ _ (by omega)]; exact a3.2⟩
  obtain ⟨s, e1, e2, e3, e4⟩ := l113a (F := F1) (l := l1) (σ0 := s3) hP hb ha H1 C3 w9 ⟨pat_5 hP, by rw [z5]; omega⟩ ⟨pat_7 hP, by rw [t1]; omega⟩ (by rw [f3 _ _ (by omega), a4 _ _ (by omega)]; exact n1) z5 t1 l1.length 0 s3 none none (by omega) (fun _ _ _ _ => rfl) (fun x hx => by rw [peo_0] at hx; omega) (fun x _ h2 => by rw [t3 _ _ (by omega) (by omega)]; exact u2 x h2) (by
    rw [peo_0]
    exact ⟨fun y hy => Or.inl (t2 y hy), fun x hx => by omega⟩)
  rw [peo_0] at e1
  refine ⟨s, b108 (a1 ⟨_, b113 hP ⟨_, _, q1, _, q2, _, _, q3, _, q4, e1⟩, rfl⟩), ⟨?_, ?_, ?_, ?_, VF_cg e3 V1, ?_, ?_, ?_⟩, fun x hx hn => ?_, e3, ⟨w9.1, by rw [e2 _ _ (by omega) (by omega)]; exact w9.2⟩, fun c k y => ?_⟩
  · rw [e2 _ _ (by omega) (by omega), f3 _ _ (by omega), a4 _ _ (by omega)]
    exact n1
  · rw [e2 _ _ (by omega) (by omega), f3 _ _ (by omega), a4 _ _ (by omega)]
    exact n3
  · rw [e2 _ _ (by omega) (by omega)]
    exact z5
  · rw [e2 _ _ (by omega) (by omega)]
    exact t1
  · refine ⟨fun j hj => ?_, fun i hi hn => ?_⟩
    · rcases e4.1 j hj with z | ⟨x, z1, z2, z3⟩
      · exact Or.inl z
      · rw [z1, tn, e3 x z2]
        exact Or.inr ⟨by omega, by omega, z3⟩
    · rw [e3 i hi] at hn ⊢
      exact e4.2 i hi hn
  · rw [hks_cg e3, DS_hks H1, e2 _ _ (by omega) (by omega)]
    exact C3.1
  · rw [hks_cg e3, DS_hks H1]
    intro h q hq
    rw [e2 _ _ (by omega) (by omega), e2 _ _ (by omega) (by omega), e2 _ _ (by omega) (by omega), e2 _ _ (by omega) (by omega)]
    exact C3.2.1 h q hq
  · rw [e3 x hx] at hn ⊢
    exact E1 x hx hn
  · rw [e2 c k (by omega) (by omega), f3 c k (by omega), a4 c k (by omega)]
end
-- DRAFT 99.sh5.lean
/-! Shifting hunks, the reference's side. -/
noncomputable section
theorem d251 {x : Int} {σ : Sg} (h : isLn x = true) : Dd 251 [vI x] σ (rI (ind x) σ) := by
  have hi := ind_b h
  have h0 := isLn_le h
  refine b251 ⟨_, _, d249, ?_⟩
  unfold ind
  by_cases y : mkP x
  · rw [if_pos y, if_pos y, if_neg (show ¬ (1 : Int) = 0 by decide)]
  · rw [if_neg y, if_neg y, if_pos rfl, td h0.1]
/-- a line of a text of a slot -/
def LX (σ : Sg) (s : Nat) (ad : Int) (X : Nat → Int) (m : Nat) : Prop := ∀ p, p < m → (if ad = 0 then σ 685 (100 * s + p) else σ 686 (100 * s + p)) = X p
theorem d286x {σ : Sg} {s m p : Nat} {ad : Int} {X : Nat → Int} (hs : s < 44) (hm : m ≤ 100) (L : LX σ s ad X m) (hp : p < m) : Dd 286 [vA 682, vI ad, vI ((100 * s + p : Nat) : Int)] σ (rI (X p) σ) := by
  refine b286 ⟨fun _ => by omega, fun _ => by omega, ?_⟩
  rw [tn, L p hp]
theorem mvF_0 {F : Nat → Int} {nb na h o d nw a : Nat} {l : List St} (H : DS F nb na l 0 0 0) (hq : l[h]? = some (o, d, nw, a)) : ∀ x, x < nb → mvF F (peo l h 0) (nso nb l h) o d nw a x = F x := by
  obtain ⟨⟨pj, i0, i1, i2⟩, i3, i4, i5, i6, i7, i8, i9, i10, i11, i12⟩ := DS_at _ _ _ _ _ _ H hq
  have i1 : nw = pj + (o - peo l h 0) := i1
  have i2 : ∀ x, peo l h 0 ≤ x → x < o → F x = ((pj + (x - peo l h 0) : Nat) : Int) := i2
  have i3 : ∀ x, o ≤ x → x < o + d → F x = -1 := i3
  have i6 : ∀ x, o + d ≤ x → x < nso nb l h → F x = ((nw + a + (x - (o + d)) : Nat) : Int) := i6
  have i12 : peo l h 0 ≤ o := i12
  intro x hx
  unfold mvF
  by_cases y1 : x < peo l h 0 ∨ nso nb l h ≤ x
  · rw [if_pos y1]
  · rw [if_neg y1]
    by_cases y2 : x < o
    · rw [if_pos y2, i2 x (by omega) y2]
      congr 1
      omega
    · rw [if_neg y2]
      by_cases y3 : x < o + d
      · rw [if_pos y3, i3 x (by omega) y3]
      · rw [if_neg y3, i6 x (by omega) (by omega)]
/-- shiftsBy, a hunk that only adds -/
theorem d284a {σ : Sg} {s i j n : Nat} {bk : Int} (hs : s < 44) (hi : i ≤ 99) (hj : j ≤ 100) (hn : n ≤ 100) (hn1 : 0 < n) (hb : ¬ bk = 0 → 0 < i) : Dd 284 [vA 682, vI s, vI 1, vI i, vI j, vI n, vI bk] σ (rV (upS σ 687 (100 * s + (if bk = 0 then i else i - 1)) ((if bk = 0 then j else j + n - 1 : Nat) : Int))) := by
  refine b284 ?_
  rw [if_neg (show ¬ (1 : Int) = 0 by decide)]
  refine ⟨by omega, fun _ => by omega, b284_24 ?_⟩
  by_cases y : bk = 0
  · rw [if_pos y, if_pos y, if_pos y, if_pos y]
    refine ⟨by omega, fun h => absurd y h, fun h => absurd y h, b284_42 ⟨by omega, ?_⟩⟩
    rw [show ((100 * (s : Int) + (i : Int))).toNat = 100 * s + i by omega]
  · have := hb y
    rw [if_neg y, if_neg y, if_neg y, if_neg y]
    refine ⟨by omega, fun _ => by omega, fun _ => by omega, b284_42 ⟨by omega, ?_⟩⟩
    rw [show ((100 * (s : Int) + ((i : Int) - 1))).toNat = 100 * s + (i - 1) by omega, show (j : Int) + (n : Int) - 1 = ((j + n - 1 : Nat) : Int) by omega]
/-- shiftsBy, a hunk that only drops -/
theorem d284d {σ : Sg} {s i j n : Nat} {bk : Int} (hs : s < 44) (hi : i + n ≤ 99) (hj : j ≤ 100) (hn1 : 0 < n) (hb : ¬ bk = 0 → 0 < i) : Dd 284 [vA 682, vI s, vI 0, vI i, vI j, vI n, vI bk] σ (rV (upS (upS σ 687 (100 * s + (if bk = 0 then i else i + n - 1)) (if bk = 0 then (j : Int) else (j : Int) - 1)) 687 (100 * s + (if bk = 0 then i + n else i - 1)) (-1))) := by
  refine b284 ?_
  rw [if_pos rfl]
  refine ⟨by omega, fun _ => by omega, fun _ => by omega, b284_69 ?_⟩
  by_cases y : bk = 0
  · rw [if_pos y, if_pos y, if_pos y, if_pos y]
    refine ⟨by omega, fun h => absurd y h, b284_84 ⟨by omega, by omega, fun _ => by omega, fun h => absurd y h, ?_⟩⟩
    rw [if_pos y]
    refine b284_108 ⟨by omega, by omega, ?_⟩
    rw [show ((100 * (s : Int) + (i : Int))).toNat = 100 * s + i by omega, show ((100 * (s : Int) + ((i : Int) + (n : Int)))).toNat = 100 * s + (i + n) by omega]
  · have := hb y
    rw [if_neg y, if_neg y, if_neg y, if_neg y]
    refine ⟨by omega, fun _ => by omega, b284_84 ⟨by omega, by omega, fun h => absurd h y, fun _ => by omega, ?_⟩⟩
    rw [if_neg y]
    refine b284_108 ⟨by omega, by omega, ?_⟩
    rw [show ((100 * (s : Int) + ((i : Int) + (n : Int) - 1))).toNat = 100 * s + (i + n - 1) by omega, show ((100 * (s : Int) + ((i : Int) - 1))).toNat = 100 * s + (i - 1) by omega]
/-- the pairs of a slot, step by step -/
theorem l285s {s nb na h o d nw a : Nat} {ad : Int} {l : List St} {F : Nat → Int} {σ0 : Sg} (hs : s < 44) (hb : nb ≤ 99) (ha : na ≤ 99) (H : DS F nb na l 0 0 0) (hq : l[h]? = some (o, d, nw, a)) (hone : (ad = 1 ∧ d = 0) ∨ (ad = 0 ∧ a = 0)) (c : Int) (hc1 : -(mbk l h (o, d, nw, a) : Int) ≤ c) (hc2 : c ≤ (mon nb l h (o, d, nw, a) : Int)) : ∀ (k : Nat) (by' : Int) (o' n' : Nat) (σ : Sg), (0 ≤ c → by' + (k : Int) = c ∧ 0 ≤ by') → (c < 0 → by' - (k : Int) = c ∧ by' ≤ 0) → (o' : Int) = (o : Int) + by' → (n' : Int) = (nw : Int) + by' → (∀ b x, ¬ (b = 687 ∧ 100 * s ≤ x ∧ x < 100 * s + 100) → σ b x = σ0 b x) → (∀ x, x < nb → σ 687 (100 * s + x) = mvF F (peo l h 0) (nso nb l h) o' d n' a x) → ∃ σ', (∀ (d2 d4 d6 d7 d8 d9 d11 : Option AV), C285_339 s d2 ad d4 ((a + d : Nat) : Int) d6 d7 d8 d9 c d11 o' n' by' σ (rV σ')) ∧ (∀ b x, ¬ (b = 687 ∧ 100 * s ≤ x ∧ x < 100 * s + 100) → σ' b x = σ0 b x) ∧ ∀ x, x < nb → σ' 687 (100 * s + x) = mvF F (peo l h 0) (nso nb l h) ((o : Int) + c).toNat d ((nw : Int) + c).toNat a x := by
  obtain ⟨⟨pj, i0, i1, i2⟩, i3, i4, i5, i6, i7, i8, i9, i10, i11, i12⟩ := DS_at _ _ _ _ _ _ H hq
  have i1 : nw = pj + (o - peo l h 0) := i1
  have i4 : o + d ≤ nso nb l h := i4
  have i7 : 0 < d + a := i7
  have i8 : nw + a + (nso nb l h - (o + d)) ≤ na := i8
  have i9 : h + 1 < l.length → o + d + 1 ≤ nso nb l h := i9
  have i12 : peo l h 0 ≤ o := i12
  have m1 : mbk l h (o, d, nw, a) ≤ o - peo l h 0 := Nat.sub_le _ _
  have m2 : mon nb l h (o, d, nw, a) ≤ nso nb l h - (o + d) := Nat.sub_le _ _
  obtain ⟨lo, hlo⟩ : ∃ lo, lo = peo l h 0 := ⟨_, rfl⟩
  obtain ⟨hi, hhi⟩ : ∃ hi, hi = nso nb l h := ⟨_, rfl⟩
  rw [← hlo] at i1 i12 m1
  rw [← hhi] at i4 i5 i8 m2
  rw [← hlo, ← hhi]
  intro k
  induction k with
  | zero =>
    intro by' o' n' σ h1 h2 ho hn fr hv
    have e : by' = c := by
      by_cases y : 0 ≤ c
      · have := h1 y
        omega
      · have := h2 (by omega)
        omega
    refine ⟨σ, fun d2 d4 d6 d7 d8 d9 d11 => b285_339 ?_, fr, ?_⟩
    · rw [if_pos e]
    · rw [show ((o : Int) + c).toNat = o' by omega, show ((nw : Int) + c).toNat = n' by omega]
      exact hv
  | succ k ih =>
    intro by' o' n' σ h1 h2 ho hn fr hv
    by_cases y : 0 ≤ c
    · have g1 := h1 y
      have ne : ¬ by' = c := by omega
      -- one on
      have stepv : ∃ σ1, Dd 284 [vA 682, vI s, vI ad, vI o', vI n', vI ((a + d : Nat) : Int), vI 0] σ (rV σ1) ∧ (∀ b x, ¬ (b = 687 ∧ 100 * s ≤ x ∧ x < 100 * s + 100) → σ1 b x = σ b x) ∧ ∀ x, x < nb → σ1 687 (100 * s + x) = mvF F lo hi (o' + 1) d (n' + 1) a x := by
        rcases hone with ⟨z1, z2⟩ | ⟨z1, z2⟩
        · subst z1 z2
          have e := d284a (σ := σ) (s := s) (i := o') (j := n') (n := a + 0) (bk := 0) hs (by omega) (by omega) (by omega) (by omega) (fun h => absurd rfl h)
          rw [if_pos rfl, if_pos rfl] at e
          refine ⟨_, e, fun b x hx => ?_, fun x hx => ?_⟩
          · unfold upS
            rw [if_neg (by omega)]
          · by_cases q : x = o'
            · rw [q, up_s]
              unfold mvF
              rw [if_neg (by omega), if_pos (by omega)]
              congr 1
              omega
            · rw [up_k (by omega), hv x hx]
              unfold mvF
              by_cases q1 : x < lo ∨ hi ≤ x
              · rw [if_pos q1, if_pos q1]
              · rw [if_neg q1, if_neg q1]
                by_cases q2 : x < o'
                · rw [if_pos q2, if_pos (by omega)]
                  congr 1
                  omega
                · rw [if_neg q2, if_neg (show ¬ x < o' + 0 by omega), if_neg (show ¬ x < o' + 1 by omega), if_neg (show ¬ x < o' + 1 + 0 by omega)]
                  congr 1
                  omega
        · subst z1 z2
          have e := d284d (σ := σ) (s := s) (i := o') (j := n') (n := 0 + d) (bk := 0) hs (by omega) (by omega) (by omega) (fun h => absurd rfl h)
          rw [if_pos rfl, if_pos rfl, if_pos rfl] at e
          refine ⟨_, e, fun b x hx => ?_, fun x hx => ?_⟩
          · unfold upS
            rw [if_neg (by omega), if_neg (by omega)]
          · by_cases q : x = o' + (0 + d)
            · rw [q, up_s]
              unfold mvF
              rw [if_neg (by omega), if_neg (by omega), if_pos (by omega)]
            · rw [up_k (by omega)]
              by_cases q0 : x = o'
              · rw [q0, up_s]
                unfold mvF
                rw [if_neg (by omega), if_pos (by omega)]
                congr 1
                omega
              · rw [up_k (by omega), hv x hx]
                unfold mvF
                by_cases q1 : x < lo ∨ hi ≤ x
                · rw [if_pos q1, if_pos q1]
                · rw [if_neg q1, if_neg q1]
                  by_cases q2 : x < o'
                  · rw [if_pos q2, if_pos (by omega)]
                    congr 1
                    omega
                  · rw [if_neg q2, if_neg (show ¬ x < o' + 1 by omega)]
                    by_cases q3 : x < o' + d
                    · rw [if_pos q3, if_pos (by omega)]
                    · rw [if_neg q3, if_neg (show ¬ x < o' + 1 + d by omega)]
                      congr 1
                      omega
      obtain ⟨σ1, e1, e2, e3⟩ := stepv
      obtain ⟨σ', a1, a2, a3⟩ := ih (by' + 1) (o' + 1) (n' + 1) σ1 (fun _ => by omega) (fun q => by omega) (by omega) (by omega) (fun b x hx => by rw [e2 b x hx]; exact fr b x hx) e3
      refine ⟨σ', fun d2 d4 d6 d7 d8 d9 d11 => b285_339 ?_, a2, a3⟩
      rw [if_neg ne, if_neg (show ¬ c < 0 by omega)]
      refine b285_365 ⟨_, e1, ?_⟩
      rw [if_neg (show ¬ c < 0 by omega)]
      refine b285_380 ⟨by omega, ?_⟩
      rw [if_neg (show ¬ c < 0 by omega)]
      refine b285_395 ⟨by omega, ?_⟩
      rw [if_neg (show ¬ c < 0 by omega)]
      refine b285_410 ⟨by omega, ?_⟩
      rw [show (o' : Int) + 1 = ((o' + 1 : Nat) : Int) by omega, show (n' : Int) + 1 = ((n' + 1 : Nat) : Int) by omega]
      exact a1 _ _ _ _ _ _ _
    · have g1 := h2 (by omega)
      have ne : ¬ by' = c := by omega
      have stepv : ∃ σ1, Dd 284 [vA 682, vI s, vI ad, vI o', vI n', vI ((a + d : Nat) : Int), vI 1] σ (rV σ1) ∧ (∀ b x, ¬ (b = 687 ∧ 100 * s ≤ x ∧ x < 100 * s + 100) → σ1 b x = σ b x) ∧ ∀ x, x < nb → σ1 687 (100 * s + x) = mvF F lo hi (o' - 1) d (n' - 1) a x := by
        rcases hone with ⟨z1, z2⟩ | ⟨z1, z2⟩
        · subst z1 z2
          have e := d284a (σ := σ) (s := s) (i := o') (j := n') (n := a + 0) (bk := 1) hs (by omega) (by omega) (by omega) (by omega) (fun _ => by omega)
          rw [if_neg (show ¬ (1 : Int) = 0 by decide), if_neg (show ¬ (1 : Int) = 0 by decide)] at e
          refine ⟨_, e, fun b x hx => ?_, fun x hx => ?_⟩
          · unfold upS
            rw [if_neg (by omega)]
          · by_cases q : x = o' - 1
            · rw [q, up_s]
              unfold mvF
              rw [if_neg (by omega), if_neg (by omega), if_neg (by omega)]
              congr 1
              omega
            · rw [up_k (by omega), hv x hx]
              unfold mvF
              by_cases q1 : x < lo ∨ hi ≤ x
              · rw [if_pos q1, if_pos q1]
              · rw [if_neg q1, if_neg q1]
                by_cases q2 : x < o'
                · rw [if_pos q2, if_pos (show x < o' - 1 by omega)]
                  congr 1
                  omega
                · rw [if_neg q2, if_neg (show ¬ x < o' + 0 by omega), if_neg (show ¬ x < o' - 1 by omega), if_neg (show ¬ x < o' - 1 + 0 by omega)]
                  congr 1
                  omega
        · subst z1 z2
          have e := d284d (σ := σ) (s := s) (i := o') (j := n') (n := 0 + d) (bk := 1) hs (by omega) (by omega) (by omega) (fun _ => by omega)
          rw [if_neg (show ¬ (1 : Int) = 0 by decide), if_neg (show ¬ (1 : Int) = 0 by decide), if_neg (show ¬ (1 : Int) = 0 by decide)] at e
          refine ⟨_, e, fun b x hx => ?_, fun x hx => ?_⟩
          · unfold upS
            rw [if_neg (by omega), if_neg (by omega)]
          · by_cases q : x = o' - 1
            · rw [q, up_s]
              unfold mvF
              rw [if_neg (by omega), if_neg (by omega), if_pos (by omega)]
            · rw [up_k (by omega)]
              by_cases q0 : x = o' + (0 + d) - 1
              · rw [q0, up_s]
                unfold mvF
                rw [if_neg (by omega), if_neg (by omega), if_neg (by omega)]
                omega
              · rw [up_k (by omega), hv x hx]
                unfold mvF
                by_cases q1 : x < lo ∨ hi ≤ x
                · rw [if_pos q1, if_pos q1]
                · rw [if_neg q1, if_neg q1]
                  by_cases q2 : x < o'
                  · rw [if_pos q2, if_pos (show x < o' - 1 by omega)]
                    congr 1
                    omega
                  · rw [if_neg q2, if_neg (show ¬ x < o' - 1 by omega)]
                    by_cases q3 : x < o' + d
                    · rw [if_pos q3, if_pos (by omega)]
                    · rw [if_neg q3, if_neg (show ¬ x < o' - 1 + d by omega)]
                      congr 1
                      omega
      obtain ⟨σ1, e1, e2, e3⟩ := stepv
      obtain ⟨σ', a1, a2, a3⟩ := ih (by' - 1) (o' - 1) (n' - 1) σ1 (fun q => by omega) (fun _ => by omega) (by omega) (by omega) (fun b x hx => by rw [e2 b x hx]; exact fr b x hx) e3
      refine ⟨σ', fun d2 d4 d6 d7 d8 d9 d11 => b285_339 ?_, a2, a3⟩
      rw [if_neg ne, if_pos (show c < 0 by omega)]
      refine b285_365 ⟨_, e1, ?_⟩
      rw [if_pos (show c < 0 by omega)]
      refine b285_380 ⟨by omega, ?_⟩
      rw [if_pos (show c < 0 by omega)]
      refine b285_395 ⟨by omega, ?_⟩
      rw [if_pos (show c < 0 by omega)]
      refine b285_410 ⟨by omega, ?_⟩
      rw [show (o' : Int) + (-1) = ((o' - 1 : Nat) : Int) by omega, show (n' : Int) + (-1) = ((n' - 1 : Nat) : Int) by omega, show by' + (-1) = by' - 1 by omega]
      exact a1 _ _ _ _ _ _ _
end
-- DRAFT 99.sh6.lean
/-! A hunk shifted by the reference. -/
noncomputable section
theorem HK_at {σ : Sg} {l : List St} {h : Nat} {q : St} (K : HK σ 0 0 l) (hq : l[h]? = some q) : σ 700 h = (q.1 : Nat) ∧ σ 701 h = (q.2.1 : Nat) ∧ σ 702 h = (q.2.2.1 : Nat) ∧ σ 703 h = (q.2.2.2 : Nat) := by
  have z := K h q hq
  rw [show 128 * 0 + (0 + h) = h by omega] at z
  exact z
theorem d282 {σ : Sg} {F : Nat → Int} {nb na h : Nat} {q : St} {l : List St} (K : HK σ 0 0 l) (hl : l.length ≤ 120) (H : DS F nb na l 0 0 0) (hb : nb ≤ 99) (hq : l[h]? = some q) : Dd 282 [vA 682, vI h] σ (rI ((q.1 - peo l h 0 : Nat) : Int) σ) := by
  obtain ⟨-, i3, i4, i5, i6, i7, i8, i9, i10, i11, i12⟩ := DS_at _ _ _ _ _ _ H hq
  have hlt := (List.getElem?_eq_some_iff.mp hq).1
  obtain ⟨v0, -⟩ := HK_at K hq
  refine b282 ⟨by omega, ?_⟩
  rw [tn, v0]
  cases h with
  | zero =>
    rw [if_pos (by omega), peo_0, Nat.sub_zero]
    refine b282_21 ⟨by omega, ?_⟩
    rw [Int.sub_zero]
  | succ h =>
    obtain ⟨r, hr⟩ : ∃ r, l[h]? = some r := ⟨l[h], List.getElem?_eq_getElem (by omega)⟩
    have br := (DS_b _ _ _ _ H).2.2 r (List.mem_of_getElem? hr)
    have e := d281 K hl hr (by omega)
    rw [peo_l l h 0 r hr] at i12 ⊢
    rw [if_neg (by omega), show ((h + 1 : Nat) : Int) - 1 = ((h : Nat) : Int) by omega]
    refine ⟨by omega, _, _, e, b282_21 ⟨by omega, ?_⟩⟩
    rw [show ((q.1 : Nat) : Int) - ((r.1 + r.2.1 : Nat) : Int) = ((q.1 - (r.1 + r.2.1) : Nat) : Int) by omega]
theorem d283 {σ : Sg} {F : Nat → Int} {nb na h s : Nat} {q : St} {l : List St} (K : HK σ 0 0 l) (hl : l.length ≤ 120) (H : DS F nb na l 0 0 0) (hb : nb ≤ 99) (hs : s < 44) (h704 : σ 704 0 = (l.length : Nat)) (hn : σ 688 s = (nb : Nat)) (hq : l[h]? = some q) : Dd 283 [vA 682, vI s, vI h] σ (rI ((nso nb l h - (q.1 + q.2.1) : Nat) : Int) σ) := by
  obtain ⟨-, i3, i4, i5, i6, i7, i8, i9, i10, i11, i12⟩ := DS_at _ _ _ _ _ _ H hq
  have hlt := (List.getElem?_eq_some_iff.mp hq).1
  have e := d281 K hl hq (by omega)
  have ev : (if ((h : Nat) : Int) = σ 704 ((0 : Int)).toNat - 1 then σ 688 ((s : Int)).toNat else σ 700 (((h : Nat) : Int) + 1).toNat) = ((nso nb l h : Nat) : Int) := by
    rw [show ((0 : Int)).toNat = 0 from rfl, h704, tn, hn]
    by_cases y : h + 1 < l.length
    · obtain ⟨r, hr⟩ : ∃ r, l[h + 1]? = some r := ⟨l[h + 1], List.getElem?_eq_getElem y⟩
      obtain ⟨v0, -⟩ := HK_at K hr
      rw [if_neg (by omega), show (((h : Nat) : Int) + 1).toNat = h + 1 by omega, v0]
      unfold nso
      rw [hr]
    · rw [if_pos (by omega), i10 y]
  refine b283 ⟨by rw [show ((0 : Int)).toNat = 0 from rfl, h704]; omega, fun _ => by omega, fun _ => by omega, fun _ => by omega, ?_⟩
  rw [ev]
  refine b283_29 ⟨_, _, e, by omega, ?_⟩
  rw [show ((nso nb l h : Nat) : Int) - ((q.1 + q.2.1 : Nat) : Int) = ((nso nb l h - (q.1 + q.2.1) : Nat) : Int) by omega]
/-- the loops ahead of the shifting -/
theorem l285 {σ : Sg} {s h ad m bp n mb mo : Nat} {X : Nat → Int} {i0 j0 : Int} (hs : s < 44) (hh : h < 200) (hm : m ≤ 100) (L : LX σ s ad X m) (hX : ∀ p, p < m → isLn (X p) = true) (h1 : mb ≤ bp) (h2 : bp + n + mo ≤ m) (hn : 0 < n) (v0 : σ 700 h = i0) (v2 : σ 702 h = j0) {d8 d9 d10 d11 d12 d13 d14 : Option AV} {o : Rs} (fin : ∀ (d4 d6 d7 d8 d9 d11 : Option AV), C285_339 s (some (vI h)) (ad : Nat) d4 (n : Nat) d6 d7 d8 d9 ((bpl X bp n mb mo : Nat) - (bp : Int)) d11 i0 j0 0 σ o) : C285_116 s h (ad : Nat) ((100 * s + bp : Nat) : Int) (n : Nat) (mb : Nat) (mo : Nat) 0 d9 d10 d11 d12 d13 d14 σ o := by
  obtain ⟨r1, r2, r3⟩ := rbk_b (X := X) (s := bp) (n := n) (m := mb)
  obtain ⟨u1, u2, u3⟩ := ron_b (X := X) (s := bp) (n := n) (m := mo)
  have bb := bpl_b (X := X) (s := bp) (n := n) (mb := mb) (mo := mo) (by omega)
  have hB : bpl X bp n mb mo = bsP X (rbk X bp n mb + ron X bp n mo + 1) (bp - rbk X bp n mb) (bp - rbk X bp n mb) := rfl
  obtain ⟨rb, hrb⟩ : ∃ rb, rb = rbk X bp n mb := ⟨_, rfl⟩
  obtain ⟨ro, hro⟩ : ∃ ro, ro = ron X bp n mo := ⟨_, rfl⟩
  obtain ⟨B, hBB⟩ : ∃ B, B = bpl X bp n mb mo := ⟨_, rfl⟩
  rw [← hrb] at r1 r2 r3 bb hB
  rw [← hro] at u1 u2 u3 bb hB
  rw [← hBB] at bb hB fin
  -- one place
  have step : ∀ (p : Nat) (ch mst : Int) (d6 d7 d8 d13 d14 : Option AV), p ≤ bp + ro → bp - rb ≤ p → -1 ≤ mst → mst ≤ 20 → -200 ≤ ch → ch ≤ 200 → (∀ d13 d14, C285_212 s h (ad : Nat) ((100 * s + bp : Nat) : Int) (n : Nat) d6 d7 d8 (ro : Nat) (if mst ≤ 13 - aw X p then (p : Int) - (bp : Int) else ch) (if mst ≤ 13 - aw X p then 13 - aw X p else mst) ((p + 1 : Nat) - (bp : Int)) d13 d14 σ o) → C285_212 s h (ad : Nat) ((100 * s + bp : Nat) : Int) (n : Nat) d6 d7 d8 (ro : Nat) ch mst ((p : Int) - (bp : Int)) d13 d14 σ o := by
    intro p ch mst d6 d7 d8 d13 d14 hp1 hp2 hm1 hm2 hc1 hc2 hx
    have ib := ind_b (hX p (by omega))
    have e0 := d286x (p := p) hs hm L (by omega)
    have e251 : Dd 251 [vI (X p)] σ (rI (ind (X p)) σ) := d251 (hX p (by omega))
    have t264 : ∀ (y0 : Int) (d13 d14 : Option AV), y0 + 3 - ind (X p) = 13 - aw X p → (y0 = 0 ∨ y0 = 10) → C285_264 s h (ad : Nat) ((100 * s + bp : Nat) : Int) (n : Nat) d6 d7 d8 (ro : Nat) ch mst ((p : Int) - (bp : Int)) d13 d14 y0 σ o := by
      intro y0 d13 d14 hy hy2
      refine b285_264 ⟨by omega, by omega, ?_⟩
      rw [show ((100 * s + bp : Nat) : Int) + ((p : Int) - (bp : Int)) = ((100 * s + p : Nat) : Int) by omega]
      refine ⟨_, _, e0, _, _, e251, by omega, ?_⟩
      rw [hy]
      refine b285_296 (b285_312 ⟨by omega, ?_⟩)
      rw [show (p : Int) - (bp : Int) + 1 = ((p + 1 : Nat) - (bp : Int)) by omega]
      exact hx _ _
    have t246 : ∀ (d13 d14 : Option AV), 10 + 3 - ind (X p) = 13 - aw X p → C285_246 s h (ad : Nat) ((100 * s + bp : Nat) : Int) (n : Nat) d6 d7 d8 (ro : Nat) ch mst ((p : Int) - (bp : Int)) d13 d14 σ o := by
      intro d13 d14 hy
      refine b285_246 (b285_251 ?_)
      rw [if_neg (show ¬ (1 : Int) = 0 by decide)]
      exact t264 10 _ _ hy (Or.inr rfl)
    refine b285_212 ?_
    rw [if_pos (by omega), show ((100 * s + bp : Nat) : Int) + ((p : Int) - (bp : Int)) = ((100 * s + p : Nat) : Int) by omega]
    refine ⟨by omega, by omega, ?_⟩
    by_cases y : p = 0
    · rw [if_pos (by omega)]
      refine t246 _ _ ?_
      unfold aw
      rw [if_pos (Or.inl y)]
      omega
    · have e1 := d286x (p := p - 1) hs hm L (by omega)
      rw [if_neg (by omega), show ((100 * s + p : Nat) : Int) - 1 = ((100 * s + (p - 1) : Nat) : Int) by omega]
      refine ⟨by omega, by omega, _, _, e1, ?_⟩
      by_cases y2 : X (p - 1) = 0
      · rw [if_pos y2]
        refine t246 _ _ ?_
        unfold aw
        rw [if_pos (Or.inr y2)]
        omega
      · rw [if_neg y2]
        refine b285_251 ?_
        rw [if_pos rfl]
        refine t264 0 _ _ ?_ (Or.inl rfl)
        unfold aw
        rw [if_neg (by
          intro z
          rcases z with z | z
          · exact y z
          · exact y2 z)]
        omega
  -- all places behind the first
  have L212 : ∀ (dd p b : Nat) (d6 d7 d8 d13 d14 : Option AV), p + dd = bp + ro + 1 → bp - rb ≤ p → bp - rb ≤ b → b ≤ bp + ro → B = bsP X dd p b → C285_212 s h (ad : Nat) ((100 * s + bp : Nat) : Int) (n : Nat) d6 d7 d8 (ro : Nat) ((b : Int) - (bp : Int)) (13 - aw X b) ((p : Int) - (bp : Int)) d13 d14 σ o := by
    intro dd
    induction dd with
    | zero =>
      intro p b d6 d7 d8 d13 d14 hp _ _ _ hb
      have hb : B = b := hb
      refine b285_212 ?_
      rw [if_neg (by omega), tn, v0, v2, ← hb]
      exact ⟨by omega, by omega, fin _ _ _ _ _ _⟩
    | succ dd ih =>
      intro p b d6 d7 d8 d13 d14 hp h3 h4 h5 hb
      have hb : B = bsP X dd (p + 1) (if aw X p ≤ aw X b then p else b) := hb
      have ab : 0 ≤ aw X b ∧ aw X b ≤ 13 := by
        have ib := ind_b (hX b (by omega))
        unfold aw
        split <;> omega
      refine step p _ _ d6 d7 d8 d13 d14 (by omega) h3 (by omega) (by omega) (by omega) (by omega) (fun d13 d14 => ?_)
      by_cases y : aw X p ≤ aw X b
      · rw [if_pos y] at hb
        rw [if_pos (by omega), if_pos (by omega)]
        exact ih (p + 1) p d6 d7 d8 d13 d14 (by omega) (by omega) h3 (by omega) hb
      · rw [if_neg y] at hb
        rw [if_neg (by omega), if_neg (by omega)]
        exact ih (p + 1) b d6 d7 d8 d13 d14 (by omega) (by omega) h4 h5 hb
  have ap : ∀ p, p < m → 0 ≤ aw X p ∧ aw X p ≤ 13 := fun p hp => by
    have ib := ind_b (hX p hp)
    unfold aw
    split <;> omega
  have t201 : ∀ (d6 d7 d10 d11 d12 d13 d14 : Option AV), C285_201 s h (ad : Nat) ((100 * s + bp : Nat) : Int) (n : Nat) d6 d7 (rb : Nat) (ro : Nat) d10 d11 d12 d13 d14 σ o := by
    intro d6 d7 d10 d11 d12 d13 d14
    refine b285_201 ⟨by omega, ?_⟩
    rw [show -((rb : Nat) : Int) = ((bp - rb : Nat) : Int) - (bp : Int) by omega]
    refine step (bp - rb) 0 (-1) d6 d7 _ d13 d14 (by omega) (Nat.le_refl _) (by omega) (by omega) (by omega) (by omega) (fun d13 d14 => ?_)
    have a1 := ap (bp - rb) (by omega)
    rw [if_pos (by omega), if_pos (by omega)]
    refine L212 (rb + ro) (bp - rb + 1) (bp - rb) d6 d7 _ d13 d14 (by omega) (by omega) (Nat.le_refl _) (by omega) ?_
    rw [hB]
    show bsP X (rb + ro) (bp - rb + 1) (if aw X (bp - rb) ≤ aw X (bp - rb) then bp - rb else bp - rb) = _
    rw [if_pos (Int.le_refl _)]
  have t162 : ∀ (dd k : Nat) (d6 d10 d11 d12 d13 d14 : Option AV), k + dd = ro → C285_162 s h (ad : Nat) ((100 * s + bp : Nat) : Int) (n : Nat) d6 (mo : Nat) (rb : Nat) k d10 d11 d12 d13 d14 σ o := by
    intro dd
    induction dd with
    | zero =>
      intro k d6 d10 d11 d12 d13 d14 hk
      have e : k = ro := by omega
      subst e
      refine b285_162 ?_
      by_cases y : k < mo
      · have e1 := d286x (p := bp + n + k) hs hm L (by omega)
        have e2 := d286x (p := bp + k) hs hm L (by omega)
        rw [if_pos (by omega), show ((100 * s + bp : Nat) : Int) + ((n : Nat) : Int) + ((k : Nat) : Int) = ((100 * s + (bp + n + k) : Nat) : Int) by omega, show ((100 * s + bp : Nat) : Int) + ((k : Nat) : Int) = ((100 * s + (bp + k) : Nat) : Int) by omega]
        refine ⟨by omega, by omega, _, _, e1, by omega, _, _, e2, ?_⟩
        rw [if_neg (fun z => u3 y (by rw [show bp + k + n = bp + n + k by omega]; exact z.symm))]
        exact t201 _ _ _ _ _ _ _
      · rw [if_neg (by omega)]
        exact t201 _ _ _ _ _ _ _
    | succ dd ih =>
      intro k d6 d10 d11 d12 d13 d14 hk
      have e1 := d286x (p := bp + n + k) hs hm L (by omega)
      have e2 := d286x (p := bp + k) hs hm L (by omega)
      have q := u2 k (by omega)
      refine b285_162 ?_
      rw [if_pos (by omega), show ((100 * s + bp : Nat) : Int) + ((n : Nat) : Int) + ((k : Nat) : Int) = ((100 * s + (bp + n + k) : Nat) : Int) by omega, show ((100 * s + bp : Nat) : Int) + ((k : Nat) : Int) = ((100 * s + (bp + k) : Nat) : Int) by omega, show (k : Int) + 1 = ((k + 1 : Nat) : Int) by omega]
      refine ⟨by omega, by omega, _, _, e1, by omega, _, _, e2, ?_⟩
      rw [if_pos (show X (bp + n + k) = X (bp + k) by rw [show bp + n + k = bp + k + n by omega]; exact q.symm)]
      exact ⟨by omega, ih (k + 1) _ _ _ _ _ _ (by omega)⟩
  have t116 : ∀ (dd k : Nat) (d9 d10 d11 d12 d13 d14 : Option AV), k + dd = rb → C285_116 s h (ad : Nat) ((100 * s + bp : Nat) : Int) (n : Nat) (mb : Nat) (mo : Nat) k d9 d10 d11 d12 d13 d14 σ o := by
    intro dd
    induction dd with
    | zero =>
      intro k d9 d10 d11 d12 d13 d14 hk
      have e : k = rb := by omega
      subst e
      refine b285_116 ?_
      by_cases y : k < mb
      · have e1 := d286x (p := bp - k - 1) hs hm L (by omega)
        have e2 := d286x (p := bp - k - 1 + n) hs hm L (by omega)
        rw [if_pos (by omega), show ((100 * s + bp : Nat) : Int) - ((k : Nat) : Int) - 1 = ((100 * s + (bp - k - 1) : Nat) : Int) by omega, show ((100 * s + bp : Nat) : Int) + ((n : Nat) : Int) - ((k : Nat) : Int) - 1 = ((100 * s + (bp - k - 1 + n) : Nat) : Int) by omega]
        refine ⟨by omega, by omega, _, _, e1, by omega, by omega, by omega, _, _, e2, ?_⟩
        rw [if_neg (r3 y)]
        exact b285_159 (t162 ro 0 _ _ _ _ _ _ (by omega))
      · rw [if_neg (by omega)]
        exact b285_159 (t162 ro 0 _ _ _ _ _ _ (by omega))
    | succ dd ih =>
      intro k d9 d10 d11 d12 d13 d14 hk
      have e1 := d286x (p := bp - k - 1) hs hm L (by omega)
      have e2 := d286x (p := bp - k - 1 + n) hs hm L (by omega)
      refine b285_116 ?_
      rw [if_pos (by omega), show ((100 * s + bp : Nat) : Int) - ((k : Nat) : Int) - 1 = ((100 * s + (bp - k - 1) : Nat) : Int) by omega, show ((100 * s + bp : Nat) : Int) + ((n : Nat) : Int) - ((k : Nat) : Int) - 1 = ((100 * s + (bp - k - 1 + n) : Nat) : Int) by omega, show (k : Int) + 1 = ((k + 1 : Nat) : Int) by omega]
      refine ⟨by omega, by omega, _, _, e1, by omega, by omega, by omega, _, _, e2, ?_⟩
      rw [if_pos (r2 k (by omega))]
      exact ⟨by omega, ih (k + 1) _ _ _ _ _ _ (by omega)⟩
  exact t116 rb 0 _ _ _ _ _ _ (by omega)
/-- shifts -/
theorem d285 {σ : Sg} {s h nb na : Nat} {l : List St} {O N F : Nat → Int} (hs : s < 44) (hb : nb ≤ 99) (ha : na ≤ 99) (hl : l.length ≤ 120) (hh : h < l.length) (H : DS F nb na l 0 0 0) (K : HK σ 0 0 l) (h704 : σ 704 0 = (l.length : Nat)) (S : Slot σ s nb na O N F) (lO : ∀ i, i < nb → isLn (O i) = true) (lN : ∀ i, i < na → isLn (N i) = true) : ∃ σ', Dd 285 [vA 682, vI s, vI h] σ (rV σ') ∧ (∀ b x, ¬ (b = 687 ∧ 100 * s ≤ x ∧ x < 100 * s + 100) → σ' b x = σ b x) ∧ ∀ x, x < nb → σ' 687 (100 * s + x) = shF O N nb F l h x := by
  obtain ⟨q, hq⟩ : ∃ q, l[h]? = some q := ⟨l[h], List.getElem?_eq_getElem hh⟩
  obtain ⟨o, d, nw, a⟩ := q
  obtain ⟨s1, s2, s3, s4, s5⟩ := S
  obtain ⟨r1, r2, r3, r4, r5⟩ := DS_rm H hq
  obtain ⟨v0, v1, v2, v3⟩ := HK_at K hq
  have v0 : σ 700 h = (o : Nat) := v0
  have v1 : σ 701 h = (d : Nat) := v1
  have v2 : σ 702 h = (nw : Nat) := v2
  have v3 : σ 703 h = (a : Nat) := v3
  obtain ⟨-, i3, i4, i5, i6, i7, i8, i9, i10, i11, i12⟩ := DS_at _ _ _ _ _ _ H hq
  have i9 : h + 1 < l.length → o + d + 1 ≤ nso nb l h := i9
  have i11 : ¬ h = 0 → peo l h 0 + 1 ≤ o := i11
  have i4 : o + d ≤ nso nb l h := i4
  have i12 : peo l h 0 ≤ o := i12
  have e282 := d282 K hl H hb hq
  have e283 := d283 K hl H hb hs h704 s1 hq
  have e282 : Dd 282 [vA 682, vI h] σ (rI ((o - peo l h 0 : Nat) : Int) σ) := e282
  have e283 : Dd 283 [vA 682, vI s, vI h] σ (rI ((nso nb l h - (o + d) : Nat) : Int) σ) := e283
  have m1 : mbk l h (o, d, nw, a) = o - peo l h 0 - (if h = 0 then 0 else 1) := rfl
  have m2 : mon nb l h (o, d, nw, a) = nso nb l h - (o + d) - (if h + 1 < l.length then 1 else 0) := rfl
  obtain ⟨mb, hmb⟩ : ∃ mb, mb = mbk l h (o, d, nw, a) := ⟨_, rfl⟩
  obtain ⟨mo, hmo⟩ : ∃ mo, mo = mon nb l h (o, d, nw, a) := ⟨_, rfl⟩
  -- up to the loops
  have to116 : ∀ (ad bp : Nat) {σ' : Sg}, (ad = 1 ∧ bp = nw ∨ ad = 0 ∧ bp = o) → (∀ (d8 d9 d10 d11 d12 d13 d14 : Option AV), C285_116 s h (ad : Nat) ((100 * s + bp : Nat) : Int) ((a + d : Nat) : Int) (mb : Nat) (mo : Nat) 0 d9 d10 d11 d12 d13 d14 σ (rV σ')) → ∀ (d4 d5 d6 d7 d8 d9 d10 d11 d12 d13 d14 : Option AV), C285_29 s h (ad : Nat) d4 d5 d6 d7 d8 d9 d10 d11 d12 d13 d14 σ (rV σ') := by
    intro ad bp σ' hab hx d4 d5 d6 d7 d8 d9 d10 d11 d12 d13 d14
    refine b285_29 ⟨by omega, fun _ => by omega, fun _ => by omega, ?_⟩
    have eb : (if ((ad : Nat) : Int) = 0 then σ 700 ((h : Int)).toNat else σ 702 ((h : Int)).toNat) = ((bp : Nat) : Int) := by
      rw [tn, v0, v2]
      rcases hab with ⟨z1, z2⟩ | ⟨z1, z2⟩
      · rw [if_neg (by omega), z2]
      · rw [if_pos (by omega), z2]
    rw [eb]
    refine b285_52 ?_
    rw [tn, v1, v3, show 100 * (s : Int) + (bp : Int) = ((100 * s + bp : Nat) : Int) by omega, show ((a : Nat) : Int) + ((d : Nat) : Int) = ((a + d : Nat) : Int) by omega]
    refine ⟨by omega, by omega, by omega, by omega, _, _, e282, b285_84 ?_⟩
    have em : ((o - peo l h 0 : Nat) : Int) - (if (h : Int) = 0 then 0 else 1) = ((mb : Nat) : Int) := by
      by_cases y : h = 0
      · rw [if_pos y] at m1
        rw [if_pos (by omega)]
        omega
      · rw [if_neg y] at m1
        have := i11 y
        rw [if_neg (by omega)]
        omega
    rw [em]
    refine ⟨by omega, _, _, e283, ?_⟩
    rw [show ((0 : Int)).toNat = 0 from rfl, h704]
    refine ⟨by omega, b285_110 ?_⟩
    have en : ((nso nb l h - (o + d) : Nat) : Int) - (if (h : Int) = ((l.length : Nat) : Int) - 1 then 0 else 1) = ((mo : Nat) : Int) := by
      by_cases y : h + 1 < l.length
      · rw [if_pos y] at m2
        have := i9 y
        rw [if_neg (by omega)]
        omega
      · rw [if_neg y] at m2
        rw [if_pos (by omega)]
        omega
    rw [en]
    exact ⟨by omega, hx none _ _ _ _ _ _⟩
  have zN : LX σ s ((1 : Nat) : Int) N na := fun p hp => by
    rw [if_neg (show ¬ ((1 : Nat) : Int) = 0 by decide)]
    exact s4 p hp
  have zO : LX σ s ((0 : Nat) : Int) O nb := fun p hp => by
    rw [if_pos (show ((0 : Nat) : Int) = 0 from rfl)]
    exact s3 p hp
  by_cases hd : d = 0
  · subst hd
    have bb := bpl_b (X := N) (s := nw) (n := a) (mb := mb) (mo := mo) (by omega)
    have rb := (rbk_b (X := N) (s := nw) (n := a) (m := mb)).1
    have ro := (ron_b (X := N) (s := nw) (n := a) (m := mo)).1
    obtain ⟨σ', a1, a2, a3⟩ := l285s (s := s) (ad := 1) (σ0 := σ) hs hb ha H hq (Or.inl ⟨rfl, rfl⟩) ((bpl N nw a mb mo : Nat) - (nw : Int)) (by omega) (by omega) ((bpl N nw a mb mo : Nat) - (nw : Int)).natAbs 0 o nw σ (fun _ => by omega) (fun _ => by omega) (by omega) (by omega) (fun _ _ _ => rfl) (fun x hx => by rw [s5 x hx, mvF_0 H hq x hx])
    refine ⟨σ', b285 ⟨by omega, ?_⟩, a2, fun x hx => ?_⟩
    · rw [tn, v1, if_pos (by omega)]
      refine b285_14 ?_
      rw [if_neg (show ¬ (1 : Int) = 0 by decide)]
      exact to116 1 nw (Or.inl ⟨rfl, rfl⟩) (fun d8 d9 d10 d11 d12 d13 d14 => l285 (d8 := d8) (ad := 1) (n := a) (mb := mb) (mo := mo) (m := na) hs (by omega) (by omega) zN lN (by omega) (by omega) (by omega) v0 v2 (fun d4 d6 d7 d8 d9 d11 => a1 _ d4 d6 d7 d8 d9 d11)) _ _ _ _ _ _ _ _ _ _ _
    · rw [a3 x hx, shF_a hq, ← hmb, ← hmo, show ((o : Int) + ((bpl N nw a mb mo : Nat) - (nw : Int))).toNat = o + bpl N nw a mb mo - nw by omega, show ((nw : Int) + ((bpl N nw a mb mo : Nat) - (nw : Int))).toNat = bpl N nw a mb mo by omega]
  · by_cases hz : a = 0
    · subst hz
      have bb := bpl_b (X := O) (s := o) (n := d) (mb := mb) (mo := mo) (by omega)
      have rb := (rbk_b (X := O) (s := o) (n := d) (m := mb)).1
      have ro := (ron_b (X := O) (s := o) (n := d) (m := mo)).1
      obtain ⟨σ', a1, a2, a3⟩ := l285s (s := s) (ad := 0) (σ0 := σ) hs hb ha H hq (Or.inr ⟨rfl, rfl⟩) ((bpl O o d mb mo : Nat) - (o : Int)) (by omega) (by omega) ((bpl O o d mb mo : Nat) - (o : Int)).natAbs 0 o nw σ (fun _ => by omega) (fun _ => by omega) (by omega) (by omega) (fun _ _ _ => rfl) (fun x hx => by rw [s5 x hx, mvF_0 H hq x hx])
      rw [Nat.zero_add d] at a1 to116
      refine ⟨σ', b285 ⟨by omega, ?_⟩, a2, fun x hx => ?_⟩
      · rw [tn, v1, if_neg (by omega)]
        refine b285_14 ?_
        rw [if_pos rfl, tn, v3, if_neg (by omega)]
        exact ⟨by omega, to116 0 o (Or.inr ⟨rfl, rfl⟩) (fun d8 d9 d10 d11 d12 d13 d14 => l285 (d8 := d8) (ad := 0) (n := d) (mb := mb) (mo := mo) (m := nb) hs (by omega) (by omega) zO lO (by omega) (by omega) (by omega) v0 v2 (fun d4 d6 d7 d8 d9 d11 => a1 _ d4 d6 d7 d8 d9 d11)) _ _ _ _ _ _ _ _ _ _ _⟩
      · rw [a3 x hx, shF_d hd hq, ← hmb, ← hmo, show ((o : Int) + ((bpl O o d mb mo : Nat) - (o : Int))).toNat = bpl O o d mb mo by omega, show ((nw : Int) + ((bpl O o d mb mo : Nat) - (o : Int))).toNat = nw + bpl O o d mb mo - o by omega]
    · refine ⟨σ, b285 ⟨by omega, ?_⟩, fun _ _ _ => rfl, fun x hx => ?_⟩
      · rw [tn, v1, if_neg (by omega)]
        refine b285_14 ?_
        rw [if_pos rfl, tn, v3, if_pos (by omega)]
        exact ⟨by omega, rfl⟩
      · rw [s5 x hx, shF_n hd hz hq]
end
-- DRAFT 99.sh7.lean
/-! makes, and make. -/
noncomputable section
theorem mvF_cg {F F' : Nat → Int} {nb lo hi o d n a : Nat} (h : ∀ x, x < nb → F x = F' x) : ∀ x, x < nb → mvF F lo hi o d n a x = mvF F' lo hi o d n a x := by
  intro x hx
  unfold mvF
  rw [h x hx]
theorem shF_cg {O N F F' : Nat → Int} {nb hh : Nat} {l : List St} (h : ∀ x, x < nb → F x = F' x) : ∀ x, x < nb → shF O N nb F l hh x = shF O N nb F' l hh x := by
  intro x hx
  unfold shF
  cases l[hh]? with
  | none => exact h x hx
  | some q =>
    dsimp only
    split
    · exact mvF_cg h x hx
    · split
      · exact mvF_cg h x hx
      · exact h x hx
theorem shsF_cg {O N : Nat → Int} {nb : Nat} : ∀ (d hh : Nat) (F F' : Nat → Int) (l : List St), (∀ x, x < nb → F x = F' x) → ∀ x, x < nb → shsF O N nb d hh F l x = shsF O N nb d hh F' l x := by
  intro d
  induction d with
  | zero => intro hh F F' l h; exact h
  | succ d ih => intro hh F F' l h; exact ih (hh + 1) _ _ _ (shF_cg h)
/-- the lines and the pairs of the first text -/
theorem l287a {p n1 : Nat} {f M : Nat → Int} {σ0 : Sg} {d2 d3 : Option AV} (hp : p < 44) (h1 : n1 ≤ 64) (z : σ0 682 12 = (n1 : Nat)) (hf : ∀ i, i < n1 → σ0 691 i = f i) (hM : ∀ i, i < n1 → σ0 693 i = M i) : ∀ (d x : Nat) (σ : Sg) (d5 : Option AV), x + d = n1 → (∀ c k, ¬ ((c = 685 ∨ c = 687) ∧ 100 * p ≤ k ∧ k < 100 * p + 100) → σ c k = σ0 c k) → (∀ k, k < x → σ 685 (100 * p + k) = f k ∧ σ 687 (100 * p + k) = M k) → ∃ s, (∀ {o : Rs}, C287_85 p d2 d3 0 d5 s o → C287_29 p d2 d3 x d5 σ o) ∧ (∀ k, k < n1 → s 685 (100 * p + k) = f k ∧ s 687 (100 * p + k) = M k) ∧ ∀ c k, ¬ ((c = 685 ∨ c = 687) ∧ 100 * p ≤ k ∧ k < 100 * p + 100) → s c k = σ0 c k := by
  intro d
  induction d with
  | zero =>
    intro x σ d5 hx fr hv
    refine ⟨σ, fun {o} hh => b287_29 ?_, fun k hk => hv k (by omega), fr⟩
    rw [fr 682 12 (by omega), z, if_neg (by omega)]
    exact hh
  | succ d ih =>
    intro x σ d5 hx fr hv
    obtain ⟨s, a1, a2, a3⟩ := ih (x + 1) (upS (upS σ 685 (100 * p + x) (f x)) 687 (100 * p + x) (M x)) d5 (by omega) (fun c k y => by
      unfold upS
      rw [if_neg (by omega), if_neg (by omega)]
      exact fr c k y) (fun k hk => by
      by_cases e : k = x
      · rw [e, up_s, up_a (show ¬ (685 : Nat) = 687 by decide), up_s]
        exact ⟨rfl, rfl⟩
      · rw [up_a (show ¬ (685 : Nat) = 687 by decide), up_k (show ¬ 100 * p + k = 100 * p + x by omega), up_k (show ¬ 100 * p + k = 100 * p + x by omega), up_a (show ¬ (687 : Nat) = 685 by decide)]
        exact hv k (by omega))
    refine ⟨s, fun {o} hh => b287_29 ?_, a2, a3⟩
    rw [fr 682 12 (by omega), z, if_pos (by omega), show (100 * (p : Int) + (x : Int)).toNat = 100 * p + x by omega, tn, up_a (show ¬ (693 : Nat) = 685 by decide), fr 691 x (by omega), fr 693 x (by omega), hf x (by omega), hM x (by omega), show (x : Int) + 1 = ((x + 1 : Nat) : Int) by omega]
    exact ⟨by omega, by omega, by omega, by omega, by omega, by omega, by omega, by omega, by omega, a1 hh⟩
/-- the lines of the second text -/
theorem l287b {p n2 : Nat} {g : Nat → Int} {σ0 : Sg} {d2 d3 : Option AV} {d5 : Option AV} (hp : p < 44) (h1 : n2 ≤ 64) (z : σ0 682 13 = (n2 : Nat)) (hf : ∀ i, i < n2 → σ0 692 i = g i) : ∀ (d x : Nat) (σ : Sg), x + d = n2 → (∀ c k, ¬ (c = 686 ∧ 100 * p ≤ k ∧ k < 100 * p + 100) → σ c k = σ0 c k) → (∀ k, k < x → σ 686 (100 * p + k) = g k) → ∃ s, (∀ {o : Rs}, (∃ v7 s6, Dd 280 [vA 682, vI p, vI 0] s (rI v7 s6) ∧ C287_130 p d2 d3 v7 0 s6 o) → C287_85 p d2 d3 x d5 σ o) ∧ (∀ k, k < n2 → s 686 (100 * p + k) = g k) ∧ ∀ c k, ¬ (c = 686 ∧ 100 * p ≤ k ∧ k < 100 * p + 100) → s c k = σ0 c k := by
  intro d
  induction d with
  | zero =>
    intro x σ hx fr hv
    refine ⟨σ, fun {o} hh => b287_85 ?_, fun k hk => hv k (by omega), fr⟩
    rw [fr 682 13 (by omega), z, if_neg (by omega)]
    exact hh
  | succ d ih =>
    intro x σ hx fr hv
    obtain ⟨s, a1, a2, a3⟩ := ih (x + 1) (upS σ 686 (100 * p + x) (g x)) (by omega) (fun c k y => by
      unfold upS
      rw [if_neg (by omega)]
      exact fr c k y) (fun k hk => by
      by_cases e : k = x
      · rw [e, up_s]
      · rw [up_k (show ¬ 100 * p + k = 100 * p + x by omega)]
        exact hv k (by omega))
    refine ⟨s, fun {o} hh => b287_85 ?_, a2, a3⟩
    rw [fr 682 13 (by omega), z, if_pos (by omega), show (100 * (p : Int) + (x : Int)).toNat = 100 * p + x by omega, tn, fr 692 x (by omega), hf x (by omega), show (x : Int) + 1 = ((x + 1 : Nat) : Int) by omega]
    exact ⟨by omega, by omega, by omega, by omega, by omega, a1 hh⟩
/-- the hunks shifted, one after another -/
theorem l287c {p n1 n2 : Nat} {f g : Nat → Int} {σ0 : Sg} {d2 d3 : Option AV} (hp : p < 44) (h1 : n1 ≤ 99) (h2 : n2 ≤ 99) (lf : ∀ i, i < n1 → isLn (f i) = true) (lg : ∀ i, i < n2 → isLn (g i) = true) : ∀ (d h : Nat) (l : List St) (F : Nat → Int) (σ : Sg), h + d = l.length → l.length ≤ 120 → DS F n1 n2 l 0 0 0 → EQL f g F n1 → Slot σ p n1 n2 f g F → HK σ 0 0 l → σ 704 0 = (l.length : Nat) → (∀ c k, ¬ (700 ≤ c ∧ c ≤ 704) → ¬ (c = 687 ∧ 100 * p ≤ k ∧ k < 100 * p + 100) → σ c k = σ0 c k) → ∃ s, C287_130 p d2 d3 (l.length : Nat) h σ (rV s) ∧ Slot s p n1 n2 f g (shsF f g n1 d h F l) ∧ HK s 0 0 (shs f g n1 d h l) ∧ s 704 0 = (l.length : Nat) ∧ ∀ c k, ¬ (700 ≤ c ∧ c ≤ 704) → ¬ (c = 687 ∧ 100 * p ≤ k ∧ k < 100 * p + 100) → s c k = σ0 c k := by
  intro d
  induction d with
  | zero =>
    intro h l F σ hh hl H E S K z fr
    refine ⟨σ, b287_130 ?_, S, K, z, fr⟩
    rw [if_neg (by omega)]
  | succ d ih =>
    intro h l F σ hh hl H E S K z fr
    obtain ⟨s1, a1, a2, a3⟩ := d285 (s := p) (h := h) hp h1 h2 hl (by omega) H K z S lf lg
    obtain ⟨H1, E1⟩ := sh1_DS (h := h) H E
    obtain ⟨t1, t2, t3, t4, t5⟩ := S
    have u1 : s1 688 p = (n1 : Nat) := by rw [a2 _ _ (by omega)]; exact t1
    have u2 : s1 689 p = (n2 : Nat) := by rw [a2 _ _ (by omega)]; exact t2
    obtain ⟨s2, e1, e2, e3, e4, e5⟩ := d280 (s := p) (wh := 0) (f := shF f g n1 F l h) hp (by decide) (by omega) (by omega) (DS_VF H1) u1 u2 a3
    rw [DS_hks H1] at e1 e2 e3 e4
    have S2 : Slot s2 p n1 n2 f g (shF f g n1 F l h) := ⟨by rw [e5 _ _ (by omega) (by omega)]; exact u1, by rw [e5 _ _ (by omega) (by omega)]; exact u2, fun i hi => by rw [e5 _ _ (by omega) (by omega), a2 _ _ (by omega)]; exact t3 i hi, fun i hi => by rw [e5 _ _ (by omega) (by omega), a2 _ _ (by omega)]; exact t4 i hi, fun i hi => by rw [e5 _ _ (by omega) (by omega)]; exact a3 i hi⟩
    obtain ⟨s, g1, g2, g3, g4, g5⟩ := ih (h + 1) (sh1 f g n1 l h) (shF f g n1 F l h) s2 (by rw [sh1_len]; omega) (by rw [sh1_len]; exact hl) H1 E1 S2 e2 e3 (fun c k y1 y2 => by rw [e5 c k (by omega) (by omega), a2 c k y2]; exact fr c k y1 y2)
    rw [sh1_len] at e1 g1 g4
    refine ⟨s, b287_130 ?_, g2, g3, g4, g5⟩
    rw [if_pos (by omega), show (h : Int) + 1 = ((h + 1 : Nat) : Int) by omega]
    exact ⟨s1, a1, _, s2, e1, by omega, g1⟩
/-- makes -/
theorem d287 {p n1 n2 : Nat} {f g : Nat → Int} {way : Int} {σ : Sg} (hp : p < 44) (R : MRw σ f g n1 n2) (m12 : σ 682 12 = (n1 : Nat)) (m13 : σ 682 13 = (n2 : Nat)) (lf : ∀ i, i < n1 → isLn (f i) = true) (lg : ∀ i, i < n2 → isLn (g i) = true) : ∃ s, Dd 287 [vA 682, vI p, vI way] σ (rV s) ∧ Slot s p n1 n2 f g (shsF f g n1 (hks (mtc way f g n1 n2) n1 n2).length 0 (mtc way f g n1 n2) (hks (mtc way f g n1 n2) n1 n2)) ∧ HK s 0 0 (shs f g n1 (hks (mtc way f g n1 n2) n1 n2).length 0 (hks (mtc way f g n1 n2) n1 n2)) ∧ s 704 0 = ((hks (mtc way f g n1 n2) n1 n2).length : Nat) ∧ ∀ c k, ¬ (693 ≤ c ∧ c ≤ 694) → ¬ (696 ≤ c ∧ c ≤ 704) → ¬ (c = 682 ∧ 17 ≤ k ∧ k ≤ 22) → ¬ (685 ≤ c ∧ c ≤ 687 ∧ 100 * p ≤ k ∧ k < 100 * p + 100) → ¬ ((c = 688 ∨ c = 689) ∧ k = p) → s c k = σ c k := by
  have G : GD f g n1 n2 (mtc way f g n1 n2) := mtc_GD
  obtain ⟨s1, a1, a2, a3⟩ := d274 (way := way) R m12 m13
  obtain ⟨M, hM⟩ : ∃ M, M = mtc way f g n1 n2 := ⟨_, rfl⟩
  rw [← hM] at G a1 a2
  rw [← hM]
  obtain ⟨r1, r2, r3, r4⟩ := R
  have x12 : s1 682 12 = (n1 : Nat) := by rw [a3 _ _ (by omega) (by omega) (by omega)]; exact m12
  have x13 : s1 682 13 = (n2 : Nat) := by rw [a3 _ _ (by omega) (by omega) (by omega)]; exact m13
  have fr1 : ∀ c k, ¬ ((c = 688 ∨ c = 689) ∧ k = p) → upS (upS s1 688 p (n1 : Nat)) 689 p (n2 : Nat) c k = s1 c k := fun c k h => by
    unfold upS
    rw [if_neg (by omega), if_neg (by omega)]
  obtain ⟨s2, b1, b2, b3⟩ := l287a (p := p) (n1 := n1) (f := f) (M := M) (σ0 := upS (upS s1 688 p (n1 : Nat)) 689 p (n2 : Nat)) (d2 := some (vI way)) (d3 := some (vI ((n1 : Int) - cnt M (-1) 0 n1))) hp (by omega) (by rw [fr1 _ _ (by omega)]; exact x12) (fun i hi => by rw [fr1 _ _ (by omega), a3 _ _ (by omega) (by omega) (by omega)]; exact r3 i hi) (fun i hi => by rw [fr1 _ _ (by omega)]; exact a2 i hi) n1 0 (upS (upS s1 688 p (n1 : Nat)) 689 p (n2 : Nat)) none (by omega) (fun _ _ _ => rfl) (fun k hk => by omega)
  obtain ⟨s3, e1, e2, e3⟩ := l287b (p := p) (n2 := n2) (g := g) (σ0 := s2) (d2 := some (vI way)) (d3 := some (vI ((n1 : Int) - cnt M (-1) 0 n1))) (d5 := none) hp (by omega) (by rw [b3 _ _ (by omega), fr1 _ _ (by omega)]; exact x13) (fun i hi => by rw [b3 _ _ (by omega), fr1 _ _ (by omega), a3 _ _ (by omega) (by omega) (by omega)]; exact r4 i hi) n2 0 s2 (by omega) (fun _ _ _ => rfl) (fun k hk => by omega)
  have z1 : s3 688 p = (n1 : Nat) := by rw [e3 _ _ (by omega), b3 _ _ (by omega), up_a (by decide), up_s]
  have z2 : s3 689 p = (n2 : Nat) := by rw [e3 _ _ (by omega), b3 _ _ (by omega), up_s]
  have z3 : ∀ i, i < n1 → s3 685 (100 * p + i) = f i := fun i hi => by rw [e3 _ _ (by omega)]; exact (b2 i hi).1
  have z5 : ∀ i, i < n1 → s3 687 (100 * p + i) = M i := fun i hi => by rw [e3 _ _ (by omega)]; exact (b2 i hi).2
  obtain ⟨s4, c1, c2, c3, c4, c5⟩ := d280 (s := p) (wh := 0) (f := M) hp (by decide) (by omega) (by omega) G.1 z1 z2 z5
  have S4 : Slot s4 p n1 n2 f g M := ⟨by rw [c5 _ _ (by omega) (by omega)]; exact z1, by rw [c5 _ _ (by omega) (by omega)]; exact z2, fun i hi => by rw [c5 _ _ (by omega) (by omega)]; exact z3 i hi, fun i hi => by rw [c5 _ _ (by omega) (by omega)]; exact e2 i hi, fun i hi => by rw [c5 _ _ (by omega) (by omega)]; exact z5 i hi⟩
  obtain ⟨s5, g1, g2, g3, g4, g5⟩ := l287c (p := p) (n1 := n1) (n2 := n2) (f := f) (g := g) (σ0 := s4) (d2 := some (vI way)) (d3 := some (vI ((n1 : Int) - cnt M (-1) 0 n1))) hp (by omega) (by omega) lf lg (hks M n1 n2).length 0 (hks M n1 n2) M s4 (by omega) (by omega) (DS_0 G.1) G.2 S4 c2 c3 (fun _ _ _ _ => rfl)
  refine ⟨s5, b287 ⟨_, s1, a1, by omega, by omega, ?_⟩, g2, g3, g4, fun c k y1 y2 y3 y4 y5 => ?_⟩
  · have e : upS (upS s1 688 ((p : Int)).toNat (s1 682 12)) 689 ((p : Int)).toNat (upS s1 688 ((p : Int)).toNat (s1 682 12) 682 13) = upS (upS s1 688 p (n1 : Nat)) 689 p (n2 : Nat) := by
      rw [tn, x12, up_a (show ¬ (682 : Nat) = 688 by decide), x13]
    rw [e]
    exact b1 (e1 ⟨_, s4, c1, g1⟩)
  · rw [g5 c k (by omega) (by omega), c5 c k (by omega) (by omega), e3 c k (by omega), b3 c k (by omega), fr1 c k y5, a3 c k y1 (by omega) y3]
theorem cpS379 : isPatch 379 = true ∧ cap 380 = 16 ∧ cap 382 = 16 ∧ cap 384 = 16 ∧ cap 386 = 16 ∧ cap 388 = 68 := by decide +kernel
/-- make -/
theorem o9 {σ : Sg} {c a1 a2 a3 : Int} (H : Rel c σ) : OpR 399 299 [vA 0, vI a1, vI a2, vI a3, vA 726] [vA 682, vI a1, vI a2, vI a3] σ (c + 1) := by
  by_cases g1 : a1 < 0
  · exact x9_0 H g1
  by_cases g2 : 4 ≤ a1
  · exact x9_1 H g2
  by_cases g3 : a2 < 0
  · exact x9_2 H (by omega) g3
  by_cases g4 : 4 ≤ a2
  · exact x9_3 H (by omega) g4
  by_cases g5 : a3 < 0
  · exact x9_4 H (by omega) (by omega) g5
  by_cases g6 : 2 < a3
  · exact x9_5 H (by omega) (by omega) g6
  obtain ⟨t, rfl⟩ := Int.eq_ofNat_of_zero_le (show 0 ≤ a1 by omega)
  obtain ⟨u, rfl⟩ := Int.eq_ofNat_of_zero_le (show 0 ≤ a2 by omega)
  have g7 : 0 ≤ a3 ∧ a3 < 3 := by omega
  obtain ⟨n1, b1, r1, z1, m1, v1, l1⟩ := rt_two H (t := t) (by omega)
  obtain ⟨n2, b2, r2, z2, m2, v2, l2⟩ := rt_two H (t := u) (by omega)
  have hn := (rel_n H).1
  have e227 := d227_ok (σ := σ) (t := (t : Int)) (by omega)
  have f227 := d227_ok (σ := σ) (t := (u : Int)) (by omega)
  rw [tn] at e227 f227
  have G : GD (σ (2 + 2 * t + 1)) (σ (2 + 2 * u + 1)) n1 n2 (mtc a3 (σ (2 + 2 * t + 1)) (σ (2 + 2 * u + 1)) n1 n2) := mtc_GD
  obtain ⟨s1, a1', W1, a4', a5', a6'⟩ := d15 (way := a3) H.1 r1 r2 z1 z2 (by omega) (by omega) (by omega) (by omega)
  obtain ⟨M, hM⟩ : ∃ M, M = mtc a3 (σ (2 + 2 * t + 1)) (σ (2 + 2 * u + 1)) n1 n2 := ⟨_, rfl⟩
  rw [← hM] at a5' G
  obtain ⟨p379, c380, c382, c384, c386, c388⟩ := cpS379
  have c380' : cap (379 + 1) = 16 := c380
  have c382' : cap (379 + 3) = 16 := c382
  have c384' : cap (379 + 5) = 16 := c384
  have c386' : cap (379 + 7) = 16 := c386
  have c388' : cap (379 + 9) = 68 := c388
  have w337 : wR s1 337 := WF_w W1 (by decide +kernel)
  have a5'' : ∀ i, i < n1 → s1 (337 + 1) i = M i := a5'
  obtain ⟨s2, e1, e2, e3, e4, e5, e6, e7⟩ := d95 (P := 379) (x1 := 2 + 2 * t) (x2 := 2 + 2 * u) (x3 := 337) (nb := n1) (na := n2) (σ := s1) p379 (WF_w W1 r1) (WF_w W1 r2) w337 (by rw [a6' _ _ (by omega) (by omega)]; exact z1) (by rw [a6' _ _ (by omega) (by omega)]; exact z2) a4' (VF_cg a5'' G.1) (by omega) (by omega) (by omega) (by omega) (by omega) (by omega) (by omega) (by omega)
  have W2 : WF s2 := WF_np W1 p379 e2 e3 (by omega) (by omega) (by omega) (by omega) e7
  have h6 : ∀ i, i < n1 → s2 (379 + 6) i = M i := fun i hi => by rw [e6 i hi]; exact a5'' i hi
  have E2 : EQL (σ (2 + 2 * t + 1)) (σ (2 + 2 * u + 1)) (s2 (379 + 6)) n1 := fun x hx hne => by
    rw [h6 x hx] at hne ⊢
    exact G.2 x hx hne
  obtain ⟨s3, k1, k2, k3, k4, k5, k6⟩ := d108 (P := 379) (nb := n1) (na := n2) (O := σ (2 + 2 * t + 1)) (N := σ (2 + 2 * u + 1)) p379 W2 (by omega) (by omega) e2 (fun i hi => by rw [e4 i hi, a6' _ _ (by omega) (by omega)]) (fun i hi => by rw [e5 i hi, a6' _ _ (by omega) (by omega)]) l1 l2 E2 (by omega) (by omega)
  have q2 : ∀ i, i < n1 → s3 (379 + 2) i = σ (2 + 2 * t + 1) i := fun i hi => by rw [k6 _ _ (by omega), e4 i hi, a6' _ _ (by omega) (by omega)]
  have q4 : ∀ i, i < n2 → s3 (379 + 4) i = σ (2 + 2 * u + 1) i := fun i hi => by rw [k6 _ _ (by omega), e5 i hi, a6' _ _ (by omega) (by omega)]
  have V3 : VF (s3 (379 + 6)) n1 n2 := k2.2.2.2.2.1
  have W3 : WF s3 := WF_np W2 p379 k2 k5 (by omega) (by omega) (by omega) (by omega) (fun c k h => k6 c k (by omega))
  have P3 : PO s3 379 16 := by
    refine PO_of k2 (by omega) (by omega) (fun i hi e => ?_) (fun i hi => ?_) (fun i hi => ?_)
    · have y := V3.1 i hi
      rw [q2 i hi, q4 _ (by omega)]
      exact k3 i hi e
    · rw [q2 i hi]; exact l1 i hi
    · rw [q4 i hi]; exact l2 i hi
  have F1 : ∀ a k, a < 682 → KP a k → s3 a k = σ a k := fun a k h1 h2 => by rw [k6 a k (by omega), e7 a k (by omega), a6' a k (by omega) (by omega)]
  have G1 : ∀ a k, 682 ≤ a → s3 a k = σ a k := fun a k h1 => by rw [k6 a k (by omega), e7 a k (by omega), a6' a k (by omega) (by omega)]
  have m299 : ∀ {s : Sg} {o : Rs}, C299_44 (t : Int) (u : Int) a3 (if s 682 3 = 24 then 3 else 0) s o → Dd 299 [vA 682, vI t, vI u, vI a3] s o := by
    intro s o hh
    refine b299 ⟨_, _, d247_ok (by omega), ?_⟩
    rw [if_neg (show ¬ (1 : Int) = 0 by decide)]
    refine ⟨_, _, d247_ok (by omega), ?_⟩
    rw [if_neg (show ¬ (1 : Int) = 0 by decide)]
    refine ⟨_, _, d275, ?_⟩
    rw [if_pos g7, if_neg (show ¬ (1 : Int) = 0 by decide)]
    exact hh
  by_cases g8 : σ 0 3 < 24
  · obtain ⟨p, hp⟩ := Int.eq_ofNat_of_zero_le hn.2.1
    refine op_st H hp (by omega) p379 (by decide) W3 F1 G1 P3 k2.1 k2.2.1 (fun s hs => b399 (Or.inl ⟨_, _, b181 (Or.inl ⟨_, _, e227, r1, Or.inl ⟨_, _, f227, r2, Or.inl ⟨_, d236_ok g7, _, _, a1', by decide +kernel, s2, e1, s3, k1, Or.inl ⟨_, _, hs, rfl⟩⟩⟩⟩), rfl⟩)) (fun s hs => ?_)
    have e3' := hs 682 3 (by decide) (by decide)
    have fr0 : ∀ a k, 682 ≤ a → ¬ a = 726 → ¬ (a = 682 ∧ k = 0) → upS s 682 0 0 a k = σ a k := fun a k h1 h2 h3 => by
      have : upS s 682 0 0 a k = s a k := by unfold upS; rw [if_neg h3]
      rw [this]
      exact hs a k h1 h2
    obtain ⟨s4, y1, y2, y3, y4, y5, y6⟩ := d276 (t := t) (u := u) (n1 := n1) (n2 := n2) (σ := upS s 682 0 0) (by omega) (by omega) (by rw [fr0 _ _ (by decide) (by decide) (by omega)]; exact m1) (by rw [fr0 _ _ (by decide) (by decide) (by omega)]; exact m2) b1 b2
    have RR : MRw s4 (σ (2 + 2 * t + 1)) (σ (2 + 2 * u + 1)) n1 n2 := ⟨by omega, by omega, fun i hi => by rw [y2 i hi, fr0 _ _ (by decide) (by decide) (by omega)]; exact v1 i hi, fun i hi => by rw [y3 i hi, fr0 _ _ (by decide) (by decide) (by omega)]; exact v2 i hi⟩
    obtain ⟨s5, x1, x2, x3, x4, x5⟩ := d287 (p := p) (way := a3) (by omega) RR y4 y5 l1 l2
    rw [← hM] at x2
    have p4 : s4 682 3 = (p : Nat) := by rw [y6 _ _ (by decide) (by decide) (by decide), up_k (by decide), e3', hn.1, hp]
    have p5 : s5 682 3 = (p : Nat) := by rw [x5 _ _ (by decide) (by decide) (by decide) (by omega) (by omega)]; exact p4
    refine ⟨upS s5 682 3 ((p : Int) + 1), m299 ?_, ?_, up_s, fun b k h => ?_, fun b k h1 h2 h3 h4 h5 h6 => ?_, ?_⟩
    · rw [if_neg (by omega)]
      refine b299_44 ⟨_, _, d245, ?_⟩
      rw [if_pos rfl, if_neg (show ¬ (1 : Int) = 0 by decide)]
      refine ⟨s4, y1, ?_⟩
      rw [p4]
      refine ⟨s5, x1, ?_⟩
      rw [p5, up_s, show ((p : Nat) : Int) + 1 - 1 = (p : Int) by omega]
      exact ⟨by omega, by omega, rfl⟩
    · rw [up_k (by decide), x5 _ _ (by decide) (by decide) (by decide) (by omega) (by omega), y6 _ _ (by decide) (by decide) (by decide), up_s]
    · rw [up_a (by omega), x5 _ _ (by omega) (by omega) (by omega) (by omega) (by omega), y6 _ _ (by omega) (by omega) (by omega), up_a (by omega)]
    · have : upS s5 682 3 ((p : Int) + 1) b k = s5 b k := by unfold upS; rw [if_neg h4]
      rw [this, x5 _ _ (by omega) (by omega) (by omega) h5 h6, y6 _ _ (by omega) (by omega) (by omega), fr0 _ _ h1 (by omega) (by omega)]
    · obtain ⟨t1, t2, t3, t4, t5⟩ := x2
      have hk : hks (s2 (379 + 6)) n1 n2 = hks M n1 n2 := hks_cg h6
      refine ⟨by rw [up_a (by decide)]; exact t1, by rw [up_a (by decide)]; exact t2, fun i hi => ?_, fun i hi => ?_, fun i hi => ?_⟩
      · rw [up_a (by decide), t3 i hi]; exact (q2 i hi).symm
      · rw [up_a (by decide), t4 i hi]; exact (q4 i hi).symm
      · rw [up_a (by decide), t5 i hi, k4 i hi, hk]
        exact shsF_cg _ _ _ _ _ (fun x hx => (h6 x hx).symm) i hi
  · have hfull : Dd 242 [vA 0, vA 379] s3 (rX 2 s3) := d242_full (by rw [F1 0 3 (by decide) (kq_P (by omega))]; exact g8)
    have e3' := G1 682 3 (by decide)
    refine op_full H (kx := 3) (by decide) W3 F1 G1 (b399 (Or.inr (Or.inr (Or.inr ⟨_, b181 (Or.inl ⟨_, _, e227, r1, Or.inl ⟨_, _, f227, r2, Or.inl ⟨_, d236_ok g7, _, _, a1', by decide +kernel, s2, e1, s3, k1, Or.inr ⟨_, _, hfull, rfl⟩⟩⟩⟩), rfl⟩)))) ⟨upS s3 682 0 3, 0, m299 ?_, up_s, fun b k h => by rw [up_a (by omega)], fun b k h1 h2 => ?_⟩
    · rw [if_pos (by omega)]
      refine b299_44 ⟨_, _, d245, ?_⟩
      rw [if_neg (show ¬ (3 : Int) = 0 by decide), if_pos rfl]
    · have : upS s3 682 0 3 b k = s3 b k := by unfold upS; rw [if_neg (by omega)]
      rw [this]
      exact G1 b k h1
end
-- DRAFT 99.sh8.lean
/-! refresh. -/
noncomputable section
theorem shs_len {O N : Nat → Int} {nb : Nat} : ∀ (d h : Nat) (l : List St), (shs O N nb d h l).length = l.length := by
  intro d
  induction d with
  | zero => intro h l; rfl
  | succ d ih =>
    intro h l
    show (shs O N nb d (h + 1) (sh1 O N nb l h)).length = _
    rw [ih, sh1_len]
/-- a patch made anew, its first text being its own -/
theorem d95s {P x1 x2 x3 nb na : Nat} {σ : Sg} (hP : isPatch P = true) (w1 : wR σ x1) (w2 : wR σ x2) (w3 : wR σ x3) (h1 : σ x1 1 = (nb : Nat)) (h2 : σ x2 1 = (na : Nat)) (h3 : σ x3 1 = (nb : Nat)) (V : VF (σ (x3 + 1)) nb na) (hc1 : nb ≤ cap (P + 1)) (hc3 : na ≤ cap (P + 3)) (hc5 : nb ≤ cap (P + 5)) (hc7 : na ≤ cap (P + 7)) (hc9 : 4 * (nb + 1) ≤ cap (P + 9)) (e1 : x1 = P + 1) (e2 : x2 < P ∨ P + 12 < x2) (e3 : x3 < P ∨ P + 12 < x3) : ∃ s, Dd 95 [vA P, vA x1, vA x2, vA x3] σ (rV s) ∧ NP s P nb na ∧ wR s (P + 9) ∧ (∀ i, i < nb → s (P + 2) i = σ (x1 + 1) i) ∧ (∀ i, i < na → s (P + 4) i = σ (x2 + 1) i) ∧ (∀ i, i < nb → s (P + 6) i = σ (x3 + 1) i) ∧ ∀ c k, ¬ (P + 1 ≤ c ∧ c ≤ P + 10) → s c k = σ c k := by
  have q1 := pat_1 hP
  have q3 := pat_3 hP
  have q5 := pat_5 hP
  have q7 := pat_7 hP
  have n1 : ¬ x1 + 1 = P := by omega
  have n2 : ¬ x2 + 1 = P := fun e => by
    have := row_nx w2.1 (show isRow (x2 + 1) = true by
      rw [e]
      exfalso
      have hq := hP
      unfold isPatch at hq
      simp only [Bool.and_eq_true, decide_eq_true_eq] at hq
      have hr := w2.1
      unfold isRow at hr
      simp only [Bool.and_eq_true, decide_eq_true_eq] at hr
      rw [e] at hr
      have e := hq.1.symm.trans hr.2
      simp at e)
    exact this rfl
  have n3 : ¬ x3 + 1 = P := fun e => by
    have := row_nx w3.1 (show isRow (x3 + 1) = true by
      rw [e]
      exfalso
      have hq := hP
      unfold isPatch at hq
      simp only [Bool.and_eq_true, decide_eq_true_eq] at hq
      have hr := w3.1
      unfold isRow at hr
      simp only [Bool.and_eq_true, decide_eq_true_eq] at hr
      rw [e] at hr
      have e := hq.1.symm.trans hr.2
      simp at e)
    exact this rfl
  obtain ⟨s1, es1⟩ : ∃ s1, s1 = bcS σ (P + 1) x1 := ⟨_, rfl⟩
  have f1 : ∀ c k, ¬ c = P + 1 → ¬ c = P + 2 → s1 c k = σ c k := fun c k a b => by rw [es1]; exact bc_off a b
  obtain ⟨s2, es2⟩ : ∃ s2, s2 = bcS s1 (P + 3) x2 := ⟨_, rfl⟩
  have f2 : ∀ c k, ¬ c = P + 3 → ¬ c = P + 4 → s2 c k = s1 c k := fun c k a b => by rw [es2]; exact bc_off a b
  obtain ⟨s3, es3⟩ : ∃ s3, s3 = bcS s2 (P + 5) x3 := ⟨_, rfl⟩
  have f3 : ∀ c k, ¬ c = P + 5 → ¬ c = P + 6 → s3 c k = s2 c k := fun c k a b => by rw [es3]; exact bc_off a b
  obtain ⟨s4, es4⟩ : ∃ s4, s4 = flS s3 (P + 7) na (-1) := ⟨_, rfl⟩
  have f4 : ∀ c k, ¬ c = P + 7 → ¬ c = P + 8 → s4 c k = s3 c k := fun c k a b => by rw [es4]; exact fl_off a b
  have g2 : ∀ k, s1 x2 k = σ x2 k := fun k => f1 _ _ (by omega) (by omega)
  have g3 : ∀ k, s2 x3 k = σ x3 k := fun k => by rw [f2 _ _ (by omega) (by omega), f1 _ _ (by omega) (by omega)]
  have v1 : s1 (P + 1) 1 = (nb : Nat) := by rw [es1, bc_sz (by omega)]; exact h1
  have v1' : ∀ i, i < nb → s1 (P + 2) i = σ (x1 + 1) i := fun i hi => by rw [es1]; exact bc_val (by omega) (by omega) (by omega)
  have v2 : s2 (P + 3) 1 = (na : Nat) := by rw [es2, bc_sz (by rw [g2]; omega), g2]; exact h2
  have v2' : ∀ i, i < na → s2 (P + 4) i = σ (x2 + 1) i := fun i hi => by
    rw [es2, bc_val (a := P + 3) (by rw [g2]; omega) (by omega) (by rw [g2]; omega), f1 _ _ (by omega) (by omega)]
  have v3 : s3 (P + 5) 1 = (nb : Nat) := by rw [es3, bc_sz (by rw [g3]; omega), g3]; exact h3
  have v3' : ∀ i, i < nb → s3 (P + 6) i = σ (x3 + 1) i := fun i hi => by
    rw [es3, bc_val (a := P + 5) (by rw [g3]; omega) (by omega) (by rw [g3]; omega), f2 _ _ (by omega) (by omega), f1 _ _ (by omega) (by omega)]
  have v4 : s4 (P + 7) 1 = (na : Nat) := by rw [es4]; exact fl_sz (by omega) (by omega)
  have v4' : ∀ i : Nat, i < na → s4 (P + 8) i = -1 := fun i hi => by rw [es4]; exact fl_val (a := P + 7) (by omega) (by omega) (by omega)
  have gx : ∀ c k, ¬ (P + 1 ≤ c ∧ c ≤ P + 8) → s4 c k = σ c k := fun c k h => by rw [f4 c k (by omega) (by omega), f3 c k (by omega) (by omega), f2 c k (by omega) (by omega), f1 c k (by omega) (by omega)]
  have r1 := d155 (σ := σ) (a := P + 1) q1 w1
  have r2 := d155 (σ := s1) (a := P + 3) (b := x2) q3 ⟨w2.1, by rw [g2]; exact w2.2⟩
  have r3 := d155 (σ := s2) (a := P + 5) (b := x3) q5 ⟨w3.1, by rw [g3]; exact w3.2⟩
  have r4 := d153 (σ := s3) (a := P + 7) (n := na) (v := -1) q7
  have r5 := d146 (σ := s3) w2.1
  rw [f3 _ _ (by omega) (by omega), f2 _ _ (by omega) (by omega), g2, h2] at r5
  rw [← es1] at r1
  rw [← es2] at r2
  rw [← es3] at r3
  rw [← es4] at r4
  have w33 := w3.2.2
  obtain ⟨s5, a1, a2, a3, a4⟩ := l95 (F := σ (x3 + 1)) (na := na) hP w3.1 (by omega) (by omega) V hc7 (d1 := some (vA x1)) (d2 := some (vA x2)) nb 0 s4 (by omega) (by rw [gx _ _ (by omega)]; exact h3) (fun k hk => gx _ _ (by omega)) v4 (fun j hj => Or.inl (v4' j hj)) (fun k hk => absurd hk (Nat.not_lt_zero k))
  have u6 : ∀ i, i < nb → s5 (P + 6) i = σ (x3 + 1) i := fun i hi => by rw [a4 _ _ (by omega), f4 _ _ (by omega) (by omega)]; exact v3' i hi
  have V5 : VF (s5 (P + 6)) nb na := ⟨fun i hi => by rw [u6 i hi]; exact V.1 i hi, fun i i' z1 z2 z3 z4 => by
    rw [u6 i (by omega)] at z3 ⊢
    rw [u6 i' z2] at z4 ⊢
    exact V.2 i i' z1 z2 z3 z4⟩
  have K5 : IV (s5 (P + 6)) (s5 (P + 8)) nb na := ⟨fun j hj => by
    rcases a2 j hj with z | z
    · exact Or.inl z
    · exact Or.inr ⟨z.1, z.2.1, by rw [u6 _ (by omega)]; exact z.2.2⟩, fun i hi e => by
    rw [u6 i hi] at e ⊢
    exact a3 i hi e⟩
  have t1 : s5 (P + 1) 1 = (nb : Nat) := by rw [a4 _ _ (by omega), f4 _ _ (by omega) (by omega), f3 _ _ (by omega) (by omega), f2 _ _ (by omega) (by omega)]; exact v1
  have t3 : s5 (P + 3) 1 = (na : Nat) := by rw [a4 _ _ (by omega), f4 _ _ (by omega) (by omega), f3 _ _ (by omega) (by omega)]; exact v2
  have t5 : s5 (P + 5) 1 = (nb : Nat) := by rw [a4 _ _ (by omega), f4 _ _ (by omega) (by omega)]; exact v3
  have t7 : s5 (P + 7) 1 = (na : Nat) := by rw [a4 _ _ (by omega)]; exact v4
  obtain ⟨s, c1, c2, c3, c4⟩ := d94 hP t1 t3 t5 t7 ⟨q5, by omega, by omega⟩ ⟨q7, by omega, by omega⟩ V5 K5 hc9
  have s6 : s (P + 6) = s5 (P + 6) := funext fun k => c4 _ _ (by omega) (by omega)
  have s8 : s (P + 8) = s5 (P + 8) := funext fun k => c4 _ _ (by omega) (by omega)
  refine ⟨s, b95 hP w2.1 ⟨_, r1, _, r2, _, r3, _, _, r5, _, r4, a1 ⟨_, c1, rfl⟩⟩, ⟨by rw [c4 _ _ (by omega) (by omega)]; exact t1, by rw [c4 _ _ (by omega) (by omega)]; exact t3, by rw [c4 _ _ (by omega) (by omega)]; exact t5, by rw [c4 _ _ (by omega) (by omega)]; exact t7, by rw [s6]; exact V5, by rw [s6, s8]; exact K5, c2⟩, c3, fun i hi => ?_, fun i hi => ?_, fun i hi => ?_, fun c k h => ?_⟩
  · rw [c4 _ _ (by omega) (by omega), a4 _ _ (by omega), f4 _ _ (by omega) (by omega), f3 _ _ (by omega) (by omega), f2 _ _ (by omega) (by omega)]; exact v1' i hi
  · rw [c4 _ _ (by omega) (by omega), a4 _ _ (by omega), f4 _ _ (by omega) (by omega), f3 _ _ (by omega) (by omega)]; exact v2' i hi
  · rw [c4 _ _ (by omega) (by omega)]; exact u6 i hi
  · rw [c4 c k (by omega) (by omega), a4 c k (by omega)]; exact gx c k (by omega)
/-- the topmost layer is another one -/
theorem RSt_top {σ s : Sg} {c : Int} {k : Nat} (H : RSt c σ) (hh : σ 402 3 = ((k + 1 : Nat) : Int)) (fr : ∀ a x, ((402 ≤ a ∧ a ≤ 472) ∨ (685 ≤ a ∧ a ≤ 689) ∨ a = 710 ∨ a = 711 ∨ (a = 682 ∧ 39 ≤ x ∧ x ≤ 41)) → ¬ (406 + 13 * k + 1 ≤ a ∧ a ≤ 406 + 13 * k + 10) → ¬ (685 ≤ a ∧ a ≤ 687 ∧ 100 * (24 + k) ≤ x ∧ x < 100 * (24 + k) + 100) → ¬ ((a = 688 ∨ a = 689) ∧ x = 24 + k) → s a x = σ a x) (p1 : PR s (406 + 13 * k) (24 + k)) (p2 : PO s (406 + 13 * k) 16) (z1 : s (406 + 13 * k + 1) 1 = σ (406 + 13 * k + 1) 1) (z2 : ∀ i : Nat, (i : Int) < σ (406 + 13 * k + 1) 1 → s (406 + 13 * k + 2) i = σ (406 + 13 * k + 2) i) : RSt (c + 1) s := by
  obtain ⟨h1, h2, h3, h4, h5, h6, h7, h8, h9, h10, h11⟩ := H
  have e0 := fr 402 3 (by omega) (by omega) (by omega) (by omega)
  have e1 := fr 402 4 (by omega) (by omega) (by omega) (by omega)
  have e2 := fr 682 39 (by omega) (by omega) (by omega) (by omega)
  have e3 := fr 682 40 (by omega) (by omega) (by omega) (by omega)
  have e4 := fr 682 41 (by omega) (by omega) (by omega) (by omega)
  have hk5 : k + 1 ≤ 5 := by omega
  have f403 : ∀ x, s 403 x = σ 403 x := fun x => fr 403 x (by omega) (by omega) (by omega) (by omega)
  have f404 : ∀ x, s 404 x = σ 404 x := fun x => fr 404 x (by omega) (by omega) (by omega) (by omega)
  have f471 : ∀ x, s 471 x = σ 471 x := fun x => fr 471 x (by omega) (by omega) (by omega) (by omega)
  have f472 : ∀ x, s 472 x = σ 472 x := fun x => fr 472 x (by omega) (by omega) (by omega) (by omega)
  have f710 : ∀ x, s 710 x = σ 710 x := fun x => fr 710 x (by omega) (by omega) (by omega) (by omega)
  have f711 : ∀ x, s 711 x = σ 711 x := fun x => fr 711 x (by omega) (by omega) (by omega) (by omega)
  refine ⟨by omega, by omega, by omega, by omega, by omega, by omega, rowEq_fr (f471 1) f472 f711 e0 h7, fun q hq => ?_, rowEq_fr (f403 1) f404 f710 e2 h9, fun i hi => ?_, fun j hj => ?_⟩
  · rw [e0] at hq
    rw [f472, e1]
    exact h8 q hq
  · rw [f403] at hi
    rw [f404]
    exact h10 i hi
  · rw [e0] at hj
    obtain ⟨g1, g2, g3⟩ := h11 j hj
    have b := PR_16 g1 g2
    have hbl : ∀ a x, a = blw j ∨ a = blw j + 1 → s a x = σ a x := by
      intro a x ha
      unfold blw at ha
      by_cases y : j = 0
      · rw [if_pos y] at ha
        exact fr a x (by omega) (by omega) (by omega) (by omega)
      · rw [if_neg y] at ha
        exact fr a x (by omega) (by omega) (by omega) (by omega)
    by_cases hjk : j < k
    · refine ⟨PR_fr2 (fun a x ha => fr a x (by omega) (by omega) (by omega) (by omega)) (fun a x ha hx => fr a _ (by omega) (by omega) (by omega) (by omega)) ⟨fr _ _ (by omega) (by omega) (by omega) (by omega), fr _ _ (by omega) (by omega) (by omega) (by omega)⟩ (by omega) g1, PO_fr (fun a x ha => fr a x (by omega) (by omega) (by omega) (by omega)) g2, smP_fr (funext fun x => fr _ x (by omega) (by omega) (by omega) (by omega)) (funext fun x => fr _ x (by omega) (by omega) (by omega) (by omega)) (funext fun x => hbl _ x (Or.inl rfl)) (funext fun x => hbl _ x (Or.inr rfl)) g3⟩
    · have e : j = k := by omega
      subst e
      refine ⟨p1, p2, by rw [z1, hbl _ 1 (Or.inl rfl)]; exact g3.1, fun i hi => ?_⟩
      rw [z1] at hi
      rw [hbl _ i (Or.inr rfl)]
      show s (406 + 13 * j + 2) i = _
      rw [z2 i hi]
      exact g3.2 i hi
theorem q685 : qA 685 0 4400 = true := by decide +kernel
/-- refresh -/
theorem o35 {σ : Sg} {c a1 a2 : Int} (H : Rel c σ) : OpR 424 352 [vA 0, vI a1, vI a2, vA 726] [vA 682, vI a1, vI a2] σ (c + 1) := by
  by_cases g1 : a1 < 0
  · exact x35_0 H g1
  by_cases g2 : 4 ≤ a1
  · exact x35_1 H g2
  by_cases g3 : a2 < 0
  · exact x35_2 H (by omega) g3
  by_cases g4 : 2 < a2
  · exact x35_3 H (by omega) g4
  obtain ⟨u, rfl⟩ := Int.eq_ofNat_of_zero_le (show 0 ≤ a1 by omega)
  have g7 : 0 ≤ a2 ∧ a2 < 3 := by omega
  obtain ⟨n2, b2, r2, z2, m2, v2, l2⟩ := rt_two H (t := u) (by omega)
  have hS : RSt c σ := H.2.2.2.2.2.1
  have e227 := d227_ok (σ := σ) (t := (u : Int)) (by omega)
  rw [tn] at e227
  obtain ⟨h1, h2, h3, h4, h5, h6, h7, h8, h9, h10, h11⟩ := hS
  have m352 : ∀ {s : Sg} {o : Rs}, C352_35 (u : Int) a2 none (if s 682 40 = 0 then 3 else 0) s o → Dd 352 [vA 682, vI u, vI a2] s o := by
    intro s o hh
    refine b352 ⟨_, _, d247_ok (by omega), ?_⟩
    rw [if_neg (show ¬ (1 : Int) = 0 by decide)]
    refine ⟨_, _, d275, ?_⟩
    rw [if_pos g7, if_neg (show ¬ (1 : Int) = 0 by decide)]
    exact hh
  by_cases g5 : σ 402 3 < 1
  · have e238 : Dd 238 [vA 0] σ (rX 2 σ) := b238 (by rw [if_pos g5])
    refine op_x H (kx := 3) (b := 0) (by decide) (b424 (Or.inr (Or.inr (Or.inr ⟨_, b207 (Or.inl ⟨_, _, e227, r2, Or.inl ⟨_, d236_ok g7, Or.inr ⟨_, _, e238, rfl⟩⟩⟩), rfl⟩)))) (m352 ?_)
    rw [if_pos (by omega)]
    refine b352_35 ⟨_, _, d245, ?_⟩
    rw [if_neg (show ¬ (3 : Int) = 0 by decide), if_pos rfl]
  obtain ⟨k, hk⟩ : ∃ k : Nat, σ 402 3 = ((k + 1 : Nat) : Int) := ⟨(σ 402 3).toNat - 1, by omega⟩
  have k5 : k < 5 := by omega
  have e238 : Dd 238 [vA 0] σ (rV σ) := b238 (by rw [if_neg g5])
  have e231 := d231_ok (σ := σ) (k := ((k : Nat) : Int)) (by omega) h2
  rw [tn] at e231
  obtain ⟨g8, g9, g10⟩ := h11 k (by omega)
  obtain ⟨c1, c3, c5, c7, c9, c11, hP, -⟩ := cpL k5
  have w1 := (WF_w H.1 (pat_1 hP)).2.1
  have w3 := (WF_w H.1 (pat_3 hP)).2.1
  obtain ⟨nb, na, bb, ba, NP0, S0⟩ := po_slot g8 g9 w1 w3
  obtain ⟨t1, t2, t3, t4, t5⟩ := S0
  have lO : ∀ i, i < nb → isLn (σ (406 + 13 * k + 2) i) = true := fun i hi => g9.2.2.2.2.2.2.2.1 i (by rw [NP0.1]; omega)
  have G : GD (σ (406 + 13 * k + 2)) (σ (2 + 2 * u + 1)) nb n2 (mtc a2 (σ (406 + 13 * k + 2)) (σ (2 + 2 * u + 1)) nb n2) := mtc_GD
  obtain ⟨s1, a1', W1, a4', a5', a6'⟩ := d15 (x1 := 406 + 13 * k + 1) (way := a2) H.1 (pat_1 hP) r2 NP0.1 z2 (by omega) (by omega) (by omega) (by omega)
  obtain ⟨M, hM⟩ : ∃ M, M = mtc a2 (σ (406 + 13 * k + 2)) (σ (2 + 2 * u + 1)) nb n2 := ⟨_, rfl⟩
  have a5'' : ∀ i, i < nb → s1 (337 + 1) i = M i := fun i hi => by rw [hM]; exact a5' i hi
  rw [← hM] at G
  have w337 : wR s1 337 := WF_w W1 (by decide +kernel)
  obtain ⟨s2, e1, e2, e3, e4, e5, e6, e7⟩ := d95s (P := 406 + 13 * k) (x1 := 406 + 13 * k + 1) (x2 := 2 + 2 * u) (x3 := 337) (nb := nb) (na := n2) (σ := s1) hP (WF_w W1 (pat_1 hP)) (WF_w W1 r2) w337 (by rw [a6' _ _ (by omega) (by omega)]; exact NP0.1) (by rw [a6' _ _ (by omega) (by omega)]; exact z2) a4' (VF_cg a5'' G.1) (by omega) (by omega) (by omega) (by omega) (by omega) rfl (by omega) (by omega)
  have W2 : WF s2 := WF_np W1 hP e2 e3 (by omega) (by omega) (by omega) (by omega) e7
  have i6 : ∀ i, i < nb → s2 (406 + 13 * k + 6) i = M i := fun i hi => by rw [e6 i hi]; exact a5'' i hi
  have i2 : ∀ i, i < nb → s2 (406 + 13 * k + 2) i = σ (406 + 13 * k + 2) i := fun i hi => by
    rw [e4 i hi]
    exact a6' _ _ (by omega) (by omega)
  have i4 : ∀ i, i < n2 → s2 (406 + 13 * k + 4) i = σ (2 + 2 * u + 1) i := fun i hi => by rw [e5 i hi, a6' _ _ (by omega) (by omega)]
  have E2 : EQL (σ (406 + 13 * k + 2)) (σ (2 + 2 * u + 1)) (s2 (406 + 13 * k + 6)) nb := fun x hx hne => by
    rw [i6 x hx] at hne ⊢
    exact G.2 x hx hne
  obtain ⟨s3, k1, k2, k3, k4, k6, k7⟩ := d108 (P := 406 + 13 * k) (nb := nb) (na := n2) (O := σ (406 + 13 * k + 2)) (N := σ (2 + 2 * u + 1)) hP W2 (by omega) (by omega) e2 i2 i4 lO l2 E2 (by omega) (by omega)
  have q2 : ∀ i, i < nb → s3 (406 + 13 * k + 2) i = σ (406 + 13 * k + 2) i := fun i hi => by rw [k7 _ _ (by omega)]; exact i2 i hi
  have q4 : ∀ i, i < n2 → s3 (406 + 13 * k + 4) i = σ (2 + 2 * u + 1) i := fun i hi => by rw [k7 _ _ (by omega)]; exact i4 i hi
  have hkk : hks (s2 (406 + 13 * k + 6)) nb n2 = hks M nb n2 := hks_cg i6
  have q6 : ∀ i, i < nb → s3 (406 + 13 * k + 6) i = shsF (σ (406 + 13 * k + 2)) (σ (2 + 2 * u + 1)) nb (hks M nb n2).length 0 M (hks M nb n2) i := fun i hi => by
    rw [k4 i hi, hkk]
    exact shsF_cg _ _ _ _ _ i6 i hi
  have V3 : VF (s3 (406 + 13 * k + 6)) nb n2 := k2.2.2.2.2.1
  have W3 : WF s3 := WF_np W2 hP k2 k6 (by omega) (by omega) (by omega) (by omega) (fun c k h => k7 c k (by omega))
  have P3 : PO s3 (406 + 13 * k) 16 := by
    refine PO_of k2 (by omega) (by omega) (fun i hi e => ?_) (fun i hi => ?_) (fun i hi => ?_)
    · have y := V3.1 i hi
      rw [q2 i hi, q4 _ (by omega)]
      exact k3 i hi e
    · rw [q2 i hi]; exact lO i hi
    · rw [q4 i hi]; exact l2 i hi
  have F1 : ∀ a x, ¬ (333 ≤ a ∧ a ≤ 344) → ¬ a = 349 → ¬ (406 + 13 * k + 1 ≤ a ∧ a ≤ 406 + 13 * k + 10) → s3 a x = σ a x := fun a x h1 h2 h3 => by rw [k7 a x (by omega), e7 a x (by omega), a6' a x (by omega) (by omega)]
  -- how many hunks
  have hln : (hks (s3 (406 + 13 * k + 6)) nb n2).length = (hks M nb n2).length := by
    have D := (shs_DS (O := σ (406 + 13 * k + 2)) (N := σ (2 + 2 * u + 1)) (hks M nb n2).length 0 M (hks M nb n2) (DS_0 G.1) G.2).1
    rw [hks_cg q6, DS_hks D, shs_len]
  have e98 : Dd 98 [vA (406 + 13 * k)] s3 (rI ((hks M nb n2).length : Nat) s3) := by
    have z := k2.2.2.2.2.2.2.1
    rw [hln] at z
    exact d98 hP z
  have e231' : Dd 231 [vA 0, vI (σ 402 3 - 1)] σ (rA (406 + 13 * k) σ) := by
    rw [hk, show ((k + 1 : Nat) : Int) - 1 = ((k : Nat) : Int) by omega]
    exact e231
  have hA := b424 (x1 := (u : Int)) (x2 := a2) (Or.inl ⟨_, _, b207 (Or.inl ⟨_, _, e227, r2, Or.inl ⟨_, d236_ok g7, Or.inl ⟨_, e238, by omega, Or.inl ⟨_, _, e231', hP, _, _, a1', by decide +kernel, s2, e1, s3, k1, _, _, e98, rfl⟩⟩⟩⟩), rfl⟩)
  have fr0 : ∀ a x, 682 ≤ a → ¬ a = 726 → ¬ (a = 682 ∧ x = 0) → upS (upS s3 726 ((0 : Int).toNat) (((hks M nb n2).length : Nat) : Int)) 682 0 0 a x = σ a x := by
    intro a x y1 y2 y3
    have : upS (upS s3 726 ((0 : Int).toNat) (((hks M nb n2).length : Nat) : Int)) 682 0 0 a x = upS s3 726 ((0 : Int).toNat) (((hks M nb n2).length : Nat) : Int) a x := by
      unfold upS
      rw [if_neg y3]
    rw [this, up_a y2]
    exact F1 a x (by omega) (by omega) (by omega)
  obtain ⟨s4, y1, y2, y3, y4⟩ := d263 (A := 685) (off := 100 * (24 + k)) (n := nb) (σ := upS (upS s3 726 ((0 : Int).toNat) (((hks M nb n2).length : Nat) : Int)) 682 0 0) q685 (by decide) (by decide) (by omega) (by omega) (by decide)
  obtain ⟨s5, x1, x2, x3, x4⟩ := d264 (A := 683) (off := 16 * u) (n := n2) (σ := s4) q683 (by decide) (by decide) (by omega) (by omega) (by decide)
  have RR : MRw s5 (σ (406 + 13 * k + 2)) (σ (2 + 2 * u + 1)) nb n2 := ⟨by omega, by omega, fun i hi => by
    rw [x4 _ _ (by decide) (by omega), y2 i hi, fr0 _ _ (by decide) (by decide) (by omega)]
    exact t3 i hi, fun i hi => by
    rw [x2 i hi, y4 _ _ (by decide) (by omega), fr0 _ _ (by decide) (by decide) (by omega)]
    exact v2 i hi⟩
  obtain ⟨s6, p1, p2, p3, p4, p5⟩ := d287 (p := 24 + k) (way := a2) (σ := s5) (by omega) RR (by rw [x4 _ _ (by decide) (by omega)]; exact y3) x3 lO l2
  rw [← hM] at p2 p3 p4
  have hoff : ∀ a x, 682 ≤ a → ¬ a = 726 → ¬ (a = 682 ∧ (x = 0 ∨ (12 ≤ x ∧ x ≤ 22))) → ¬ (691 ≤ a ∧ a ≤ 694) → ¬ (696 ≤ a ∧ a ≤ 704) → ¬ (685 ≤ a ∧ a ≤ 687 ∧ 100 * (24 + k) ≤ x ∧ x < 100 * (24 + k) + 100) → ¬ ((a = 688 ∨ a = 689) ∧ x = 24 + k) → s6 a x = σ a x := by
    intro a x z1 z2 z3 z4 z5 z6 z7
    rw [p5 a x (by omega) z5 (by omega) z6 z7, x4 a x (by omega) (by omega), y4 a x (by omega) (by omega)]
    exact fr0 a x z1 z2 (by omega)
  have hlo : ∀ a x, a < 682 → s6 a x = s3 a x := fun a x y => by
    rw [p5 a x (by omega) (by omega) (by omega) (by omega) (by omega), x4 a x (by omega) (by omega), y4 a x (by omega) (by omega), up_a (by omega), up_a (by omega)]
  have hB : Dd 352 [vA 682, vI u, vI a2] (upS s3 726 ((0 : Int).toNat) (((hks M nb n2).length : Nat) : Int)) (rI (((hks M nb n2).length : Nat) : Int) s6) := by
    have z40 : upS s3 726 ((0 : Int).toNat) (((hks M nb n2).length : Nat) : Int) 682 40 = ((k + 1 : Nat) : Int) := by
      rw [up_a (by decide), F1 _ _ (by decide) (by decide) (by omega), h3, hk]
    have z40' : upS (upS s3 726 ((0 : Int).toNat) (((hks M nb n2).length : Nat) : Int)) 682 0 0 682 40 = ((k + 1 : Nat) : Int) := by
      rw [up_k (by decide)]
      exact z40
    refine m352 ?_
    rw [z40, if_neg (by omega)]
    refine b352_35 ⟨_, _, d245, ?_⟩
    rw [if_pos rfl, if_neg (show ¬ (1 : Int) = 0 by decide), z40', show 24 + ((k + 1 : Nat) : Int) - 1 = ((24 + k : Nat) : Int) by omega, tn, show 100 * ((24 + k : Nat) : Int) = ((100 * (24 + k) : Nat) : Int) by omega, fr0 688 _ (by decide) (by decide) (by omega), t1]
    refine ⟨by omega, by omega, by omega, by omega, s4, y1, by omega, by omega, ?_⟩
    rw [tn, y4 684 u (by decide) (by omega), fr0 684 _ (by decide) (by decide) (by omega), m2, show 16 * (u : Int) = ((16 * u : Nat) : Int) by omega]
    refine ⟨s5, x1, s6, p1, ?_⟩
    rw [show ((0 : Int)).toNat = 0 from rfl, p4]
  have W6 : WF s6 := WF_fr (fun a x h => hlo a x h) W3
  obtain ⟨f1, f2, f3, f4, f5⟩ := p2
  have PR6 : PR s6 (406 + 13 * k) (24 + k) := by
    refine ⟨⟨by rw [hlo _ _ (by omega), k2.1, f1], fun i hi => ?_⟩, ⟨by rw [hlo _ _ (by omega), k2.2.1, f2], fun i hi => ?_⟩, ⟨by rw [hlo _ _ (by omega), k2.2.2.1, f1], fun i hi => ?_⟩⟩
    · rw [f1] at hi
      show s6 (406 + 13 * k + 2) i = _
      rw [hlo _ _ (by omega), q2 i (by omega), f3 i (by omega)]
    · rw [f2] at hi
      show s6 (406 + 13 * k + 4) i = _
      rw [hlo _ _ (by omega), q4 i (by omega), f4 i (by omega)]
    · rw [f1] at hi
      show s6 (406 + 13 * k + 6) i = _
      rw [hlo _ _ (by omega), q6 i (by omega), f5 i (by omega)]
  refine op_fin hA hB (by
    rw [p5 _ _ (by decide) (by decide) (by decide) (by omega) (by omega), x4 _ _ (by decide) (by omega), y4 _ _ (by decide) (by omega), up_s]) (fun _ => by
    rw [p5 _ _ (by decide) (by decide) (by decide) (by omega) (by omega), x4 _ _ (by decide) (by omega), y4 _ _ (by decide) (by omega), up_a (by decide)]
    exact up_s) (fun a x ha => by
    rw [up_a (by omega)]
    exact F1 a x (by omega) (by omega) (by omega)) (fun a x ha => hoff a x (by omega) (by omega) (by omega) (by omega) (by omega) (by omega) (by omega)) (Rel_S H W6 (RSt_top H.2.2.2.2.2.1 hk (fun a x h1 h2 h3 h4 => ?_) PR6 (PO_fr (fun a x ha => hlo a x (by omega)) P3) (by rw [hlo _ _ (by omega), k2.1, NP0.1]) (fun i hi => ?_)) (fun a x z1 z2 z3 z4 z5 z6 z7 => ?_))
  · by_cases y : a < 682
    · rw [hlo a x y]
      exact F1 a x (by omega) (by omega) h2
    · exact hoff a x (by omega) (by omega) (by omega) (by omega) (by omega) h3 h4
  · rw [NP0.1] at hi
    rw [hlo _ _ (by omega)]
    exact q2 i (by omega)
  · by_cases y : a < 682
    · rw [hlo a x y]
      exact F1 a x (by omega) (by omega) (by omega)
    · exact hoff a x (by omega) (by omega) (by omega) (by omega) (by omega) (by omega) (by omega)
end
-- DRAFT 99.t1mv.lean
/-! A patch past its predecessor: the walk, and the class's side. -/
noncomputable section
/-- a row's value, as a function -/
def RV (σ : Sg) (R n : Nat) (f : Nat → Int) : Prop := wR σ R ∧ σ R 1 = (n : Nat) ∧ ∀ i, i < n → σ (R + 1) i = f i
theorem RV_fr {σ s : Sg} {R n : Nat} {f : Nat → Int} (h : ∀ k, s R k = σ R k) (h2 : ∀ k, s (R + 1) k = σ (R + 1) k) (V : RV σ R n f) : RV s R n f :=
  ⟨⟨V.1.1, by rw [h 1]; exact V.1.2⟩, by rw [h 1]; exact V.2.1, fun i hi => by rw [h2 i]; exact V.2.2 i hi⟩
theorem RV_146 {σ : Sg} {R n : Nat} {f : Nat → Int} (V : RV σ R n f) : Dd 146 [vA R] σ (rI (n : Nat) σ) := by
  have e := d146 (σ := σ) V.1.1
  rw [V.2.1] at e
  exact e
theorem RV_147 {σ : Sg} {R n i : Nat} {f : Nat → Int} (V : RV σ R n f) (hi : i < n) : Dd 147 [vA R, vI i] σ (rI (f i) σ) := by
  have e := d147 (σ := σ) (a := R) (i := (i : Int)) V.1
  rw [at_on V.2.1 V.2.2 hi] at e
  exact e
theorem RV_9 {σ : Sg} {R n i : Nat} {f : Nat → Int} (V : RV σ R n f) : Dd 9 [vA R, vI i] σ (rI (if i < n ∧ f i = -1 then 1 else 0) σ) := by
  refine b9 V.1.1 ⟨_, _, RV_146 V, ?_⟩
  by_cases y : i < n
  · rw [if_pos (by omega)]
    refine ⟨_, _, RV_147 V y, ?_⟩
    by_cases y2 : f i = -1
    · rw [if_pos y2, if_pos ⟨y, y2⟩]
    · rw [if_neg y2, if_neg (fun e => y2 e.2)]
  · rw [if_neg (by omega), if_neg (fun e => y e.1)]
/-- the walk through three texts -/
def mvW (F K G L X Y Z : Nat → Int) (nb na nc : Nat) : Nat → Nat → Nat → Nat → List Int → List Int → List Int → List Int → List Int → List Int × List Int × List Int × List Int × List Int
  | 0, _, _, _, b, M, f, a, g => (b, M, f, a, g)
  | w + 1, i, j, k, b, M, f, a, g =>
    if i < nb ∧ F i = -1 then mvW F K G L X Y Z nb na nc w (i + 1) j k (b ++ [X i]) (M ++ [X i]) (f ++ [(M.length : Int)]) a (g ++ [-1])
    else if j < na ∧ K j = -1 then mvW F K G L X Y Z nb na nc w i (j + 1) (k + 1) b M f (a ++ [Y j]) g
    else if j < na ∧ G j = -1 then mvW F K G L X Y Z nb na nc w (i + 1) (j + 1) k (b ++ [Y j]) M (f ++ [-1]) a g
    else if k < nc ∧ L k = -1 then mvW F K G L X Y Z nb na nc w i j (k + 1) b (M ++ [Z k]) f (a ++ [Z k]) (g ++ [(a.length : Int)])
    else if j < na then mvW F K G L X Y Z nb na nc w (i + 1) (j + 1) (k + 1) (b ++ [Y j]) (M ++ [Y j]) (f ++ [(M.length : Int)]) (a ++ [Y j]) (g ++ [(a.length : Int)])
    else mvW F K G L X Y Z nb na nc w i j k b M f a g
theorem mvW_s {F K G L X Y Z : Nat → Int} {nb na nc w i j k : Nat} {b M f a g : List Int} : mvW F K G L X Y Z nb na nc (w + 1) i j k b M f a g = (if i < nb ∧ F i = -1 then mvW F K G L X Y Z nb na nc w (i + 1) j k (b ++ [X i]) (M ++ [X i]) (f ++ [(M.length : Int)]) a (g ++ [-1])
    else if j < na ∧ K j = -1 then mvW F K G L X Y Z nb na nc w i (j + 1) (k + 1) b M f (a ++ [Y j]) g
    else if j < na ∧ G j = -1 then mvW F K G L X Y Z nb na nc w (i + 1) (j + 1) k (b ++ [Y j]) M (f ++ [-1]) a g
    else if k < nc ∧ L k = -1 then mvW F K G L X Y Z nb na nc w i j (k + 1) b (M ++ [Z k]) f (a ++ [Z k]) (g ++ [(a.length : Int)])
    else if j < na then mvW F K G L X Y Z nb na nc w (i + 1) (j + 1) (k + 1) (b ++ [Y j]) (M ++ [Y j]) (f ++ [(M.length : Int)]) (a ++ [Y j]) (g ++ [(a.length : Int)])
    else mvW F K G L X Y Z nb na nc w i j k b M f a g) := rfl
/-- no list is too long for a row -/
def BD (r : List Int × List Int × List Int × List Int × List Int) : Prop := r.1.length ≤ 96 ∧ r.2.1.length ≤ 96 ∧ r.2.2.2.1.length ≤ 96
theorem mvW_bd {F K G L X Y Z : Nat → Int} {nb na nc : Nat} : ∀ (w i j k : Nat) (b M f a g : List Int), BD (mvW F K G L X Y Z nb na nc w i j k b M f a g) → b.length ≤ 96 ∧ M.length ≤ 96 ∧ a.length ≤ 96 := by
  intro w
  induction w with
  | zero => intro i j k b M f a g h; exact h
  | succ w ih =>
    intro i j k b M f a g h
    rw [mvW_s] at h
    split at h
    · have z := ih _ _ _ _ _ _ _ _ h
      simp only [List.length_append, List.length_singleton] at z
      omega
    · split at h
      · have z := ih _ _ _ _ _ _ _ _ h
        simp only [List.length_append, List.length_singleton] at z
        omega
      · split at h
        · have z := ih _ _ _ _ _ _ _ _ h
          simp only [List.length_append, List.length_singleton] at z
          omega
        · split at h
          · have z := ih _ _ _ _ _ _ _ _ h
            simp only [List.length_append, List.length_singleton] at z
            omega
          · split at h
            · have z := ih _ _ _ _ _ _ _ _ h
              simp only [List.length_append, List.length_singleton] at z
              omega
            · exact ih _ _ _ _ _ _ _ _ h
/-- what the two scratch patches hold in the end -/
def FIN8 (s : Sg) (r : List Int × List Int × List Int × List Int × List Int) : Prop :=
  (NP s 351 r.1.length r.2.1.length ∧ wR s (351 + 9) ∧ (∀ i v, r.1[i]? = some v → s (351 + 2) i = v) ∧ (∀ i v, r.2.1[i]? = some v → s (351 + 4) i = v) ∧ (∀ i v, r.2.2.1[i]? = some v → s (351 + 6) i = v) ∧ (∀ i, i < r.1.length → ¬ s (351 + 6) i = -1 → s (351 + 2) i = s (351 + 4) (s (351 + 6) i).toNat)) ∧
  (NP s 364 r.2.1.length r.2.2.2.1.length ∧ wR s (364 + 9) ∧ (∀ i v, r.2.1[i]? = some v → s (364 + 2) i = v) ∧ (∀ i v, r.2.2.2.1[i]? = some v → s (364 + 4) i = v) ∧ (∀ i v, r.2.2.2.2[i]? = some v → s (364 + 6) i = v) ∧ (∀ i, i < r.2.1.length → ¬ s (364 + 6) i = -1 → s (364 + 2) i = s (364 + 4) (s (364 + 6) i).toNat))
theorem NP_fr {σ s : Sg} {P nb na : Nat} (h : ∀ c k, P + 1 ≤ c ∧ c ≤ P + 10 → s c k = σ c k) (N : NP σ P nb na) : NP s P nb na := by
  obtain ⟨n1, n3, n5, n7, V, K, C⟩ := N
  have e6 : s (P + 6) = σ (P + 6) := funext fun k => h _ _ (by omega)
  have e8 : s (P + 8) = σ (P + 8) := funext fun k => h _ _ (by omega)
  refine ⟨by rw [h _ _ (by omega)]; exact n1, by rw [h _ _ (by omega)]; exact n3, by rw [h _ _ (by omega)]; exact n5, by rw [h _ _ (by omega)]; exact n7, by rw [e6]; exact V, by rw [e6, e8]; exact K, ?_⟩
  unfold PCS at C ⊢
  rw [e6, h (P + 9) 1 (by omega)]
  refine ⟨C.1, fun a q hq => ?_⟩
  rw [h (P + 10) _ (by omega), h (P + 10) _ (by omega), h (P + 10) _ (by omega), h (P + 10) _ (by omega)]
  exact C.2 a q hq
theorem l8 {P Q nb na nc T : Nat} {F K G L X Y Z : Nat → Int} {σ0 : Sg} (hP : isPatch P = true) (hQ : isPatch Q = true) (eP : P + 12 < 351 ∨ 376 < P) (eQ : Q + 12 < 351 ∨ 376 < Q) (hT : T ≤ 1000) (V1 : RV σ0 (P + 1) nb X) (V3 : RV σ0 (P + 3) na Y) (V5 : RV σ0 (P + 5) nb F) (V7 : RV σ0 (P + 7) na K) (U1 : RV σ0 (Q + 1) na Y) (U3 : RV σ0 (Q + 3) nc Z) (U5 : RV σ0 (Q + 5) na G) (U7 : RV σ0 (Q + 7) nc L) : ∀ (w t i j k : Nat) (b M f a g k1 k2 : List Int) (σ : Sg), t + w = T → i ≤ t → j ≤ t → k ≤ t → BI σ 351 b M f k1 → BI σ 364 M a g k2 → okW b M f k1 → okW M a g k2 → BD (mvW F K G L X Y Z nb na nc w i j k b M f a g) → (∀ c x, ¬ (352 ≤ c ∧ c ≤ 361) → ¬ (365 ≤ c ∧ c ≤ 374) → σ c x = σ0 c x) → ∃ s, C8_50 P Q T i j k t σ (rV s) ∧ FIN8 s (mvW F K G L X Y Z nb na nc w i j k b M f a g) ∧ ∀ c x, ¬ (352 ≤ c ∧ c ≤ 361) → ¬ (365 ≤ c ∧ c ≤ 374) → s c x = σ0 c x := by
  intro w
  induction w with
  | zero =>
    intro t i j k b M f a g k1 k2 σ ht hi hj hk B1 B2 O1 O2 hB fr
    have hB : BD (b, M, f, a, g) := hB
    obtain ⟨hb, hM, ha⟩ := hB
    obtain ⟨s1, a1, a2, a3, a4, a5, a6, a7, a8⟩ := d94_bi WDp351 B1 O1 hb hM
    obtain ⟨s2, c1, c2, c3, c4, c5, c6, c7, c8⟩ := d94_bi WDp364 (BI_fr (fun c x h => a8 c x (by omega) (by omega)) B2) O2 hM ha
    refine ⟨s2, b8_50 hP hQ ?_, ?_, fun c x h h' => by rw [c8 c x (by omega) (by omega), a8 c x (by omega) (by omega)]; exact fr c x h h'⟩
    · rw [if_neg (by omega)]
      exact ⟨s1, a1, s2, c1, rfl⟩
    · show FIN8 s2 (b, M, f, a, g)
      refine ⟨⟨NP_fr (fun c x h => c8 c x (by omega) (by omega)) a2, ⟨a3.1, by rw [c8 _ _ (by decide) (by decide)]; exact a3.2⟩, fun i v h => by rw [c8 _ _ (by decide) (by decide)]; exact a4 i v h, fun i v h => by rw [c8 _ _ (by decide) (by decide)]; exact a5 i v h, fun i v h => by rw [c8 _ _ (by decide) (by decide)]; exact a6 i v h, fun i h1 h2 => ?_⟩, c2, c3, c4, c5, c6, c7⟩
      rw [c8 (351 + 6) i (by decide) (by decide)] at h2 ⊢
      rw [c8 (351 + 2) _ (by decide) (by decide), c8 (351 + 4) _ (by decide) (by decide)]
      exact a7 i h1 h2
  | succ w ih =>
    intro t i j k b M f a g k1 k2 σ ht hi hj hk B1 B2 O1 O2 hB fr
    have l1 := O1.1
    have l2 := O1.2.1
    have l3 := O2.1
    have l4 := O2.2.1
    have gS : ∀ {s : Sg} {R n : Nat} {h : Nat → Int}, (∀ c x, ¬ (352 ≤ c ∧ c ≤ 361) → ¬ (365 ≤ c ∧ c ≤ 374) → s c x = σ0 c x) → RV σ0 R n h → (R < 351 ∨ 376 < R) → RV s R n h := fun {s R n h} fr V e => RV_fr (fun x => fr R x (by omega) (by omega)) (fun x => fr (R + 1) x (by omega) (by omega)) V
    have e1 := RV_9 (i := i) (gS fr V5 (by omega))
    have e2 := RV_9 (i := j) (gS fr V7 (by omega))
    have e3 := RV_9 (i := j) (gS fr U5 (by omega))
    have e4 := RV_9 (i := k) (gS fr U7 (by omega))
    have e5 := RV_146 (gS fr V3 (by omega))
    rw [mvW_s] at hB ⊢
    have nx : ∀ {s : Sg} {i' j' k' : Nat} {o : Rs}, C8_50 P Q T i' j' k' ((t + 1 : Nat) : Int) s o → C8_283 P Q T i' j' k' t s o := fun {s i' j' k' o} h => b8_283 ⟨by omega, by rw [show (t : Int) + 1 = ((t + 1 : Nat) : Int) by omega]; exact h⟩
    by_cases y1 : i < nb ∧ F i = -1
    · rw [if_pos y1] at hB e1 ⊢
      have z := mvW_bd _ _ _ _ _ _ _ _ _ hB
      simp only [List.length_append, List.length_singleton] at z
      obtain ⟨s1, a1, a2, a3⟩ := d91 (x := X i) WDp351 B1 (by omega) (by omega) (by omega) (by omega)
      have fr1 : ∀ c x, ¬ (352 ≤ c ∧ c ≤ 361) → ¬ (365 ≤ c ∧ c ≤ 374) → s1 c x = σ0 c x := fun c x h h' => by rw [a3 c x (by omega)]; exact fr c x h h'
      obtain ⟨s2, c1, c2, c3⟩ := d92 (x := X i) WDp364 (BI_fr (fun c x h => a3 c x (by omega)) B2) (by omega) (by omega)
      have fr2 : ∀ c x, ¬ (352 ≤ c ∧ c ≤ 361) → ¬ (365 ≤ c ∧ c ≤ 374) → s2 c x = σ0 c x := fun c x h h' => by rw [c3 c x (by omega)]; exact fr1 c x h h'
      obtain ⟨s, g1, g2, g3⟩ := ih (t + 1) (i + 1) j k _ _ _ _ _ _ _ s2 (by omega) (by omega) (by omega) (by omega) (BI_fr (fun c x h => c3 c x (by omega)) a2) c2 (okW_k (X i) O1) (okW_d (X i) O2) hB fr2
      refine ⟨s, b8_50 hP hQ ?_, g2, g3⟩
      rw [if_pos (by omega)]
      refine ⟨_, _, e1, ?_⟩
      rw [if_neg (show ¬ (1 : Int) = 0 by decide)]
      refine ⟨_, _, RV_147 (gS fr V1 (by omega)) y1.1, s1, a1, _, _, RV_147 (gS fr1 V1 (by omega)) y1.1, s2, c1, by omega, nx ?_⟩
      exact g1
    rw [if_neg y1] at hB e1 ⊢
    by_cases y2 : j < na ∧ K j = -1
    · rw [if_pos y2] at hB e2 ⊢
      have z := mvW_bd _ _ _ _ _ _ _ _ _ hB
      simp only [List.length_append, List.length_singleton] at z
      obtain ⟨s2, c1, c2, c3⟩ := d93 (x := Y j) WDp364 B2 (by omega) (by omega)
      have fr2 : ∀ c x, ¬ (352 ≤ c ∧ c ≤ 361) → ¬ (365 ≤ c ∧ c ≤ 374) → s2 c x = σ0 c x := fun c x h h' => by rw [c3 c x (by omega)]; exact fr c x h h'
      obtain ⟨s, g1, g2, g3⟩ := ih (t + 1) i (j + 1) (k + 1) _ _ _ _ _ _ _ s2 (by omega) (by omega) (by omega) (by omega) (BI_fr (fun c x h => c3 c x (by omega)) B1) c2 O1 (okW_g (Y j) O2) hB fr2
      refine ⟨s, b8_50 hP hQ ?_, g2, g3⟩
      rw [if_pos (by omega)]
      refine ⟨_, _, e1, ?_⟩
      rw [if_pos rfl]
      refine ⟨_, _, e2, ?_⟩
      rw [if_neg (show ¬ (1 : Int) = 0 by decide)]
      refine ⟨_, _, RV_147 (gS fr V3 (by omega)) y2.1, s2, c1, by omega, by omega, nx ?_⟩
      exact g1
    rw [if_neg y2] at hB e2 ⊢
    by_cases y3 : j < na ∧ G j = -1
    · rw [if_pos y3] at hB e3 ⊢
      have z := mvW_bd _ _ _ _ _ _ _ _ _ hB
      simp only [List.length_append, List.length_singleton] at z
      obtain ⟨s1, a1, a2, a3⟩ := d92 (x := Y j) WDp351 B1 (by omega) (by omega)
      have fr1 : ∀ c x, ¬ (352 ≤ c ∧ c ≤ 361) → ¬ (365 ≤ c ∧ c ≤ 374) → s1 c x = σ0 c x := fun c x h h' => by rw [a3 c x (by omega)]; exact fr c x h h'
      obtain ⟨s, g1, g2, g3⟩ := ih (t + 1) (i + 1) (j + 1) k _ _ _ _ _ _ _ s1 (by omega) (by omega) (by omega) (by omega) a2 (BI_fr (fun c x h => a3 c x (by omega)) B2) (okW_d (Y j) O1) O2 hB fr1
      refine ⟨s, b8_50 hP hQ ?_, g2, g3⟩
      rw [if_pos (by omega)]
      refine ⟨_, _, e1, ?_⟩
      rw [if_pos rfl]
      refine ⟨_, _, e2, ?_⟩
      rw [if_pos rfl]
      refine ⟨_, _, e3, ?_⟩
      rw [if_neg (show ¬ (1 : Int) = 0 by decide)]
      refine ⟨_, _, RV_147 (gS fr U1 (by omega)) y3.1, s1, a1, by omega, by omega, nx ?_⟩
      exact g1
    rw [if_neg y3] at hB e3 ⊢
    by_cases y4 : k < nc ∧ L k = -1
    · rw [if_pos y4] at hB e4 ⊢
      have z := mvW_bd _ _ _ _ _ _ _ _ _ hB
      simp only [List.length_append, List.length_singleton] at z
      obtain ⟨s1, a1, a2, a3⟩ := d93 (x := Z k) WDp351 B1 (by omega) (by omega)
      have fr1 : ∀ c x, ¬ (352 ≤ c ∧ c ≤ 361) → ¬ (365 ≤ c ∧ c ≤ 374) → s1 c x = σ0 c x := fun c x h h' => by rw [a3 c x (by omega)]; exact fr c x h h'
      obtain ⟨s2, c1, c2, c3⟩ := d91 (x := Z k) WDp364 (BI_fr (fun c x h => a3 c x (by omega)) B2) (by omega) (by omega) (by omega) (by omega)
      have fr2 : ∀ c x, ¬ (352 ≤ c ∧ c ≤ 361) → ¬ (365 ≤ c ∧ c ≤ 374) → s2 c x = σ0 c x := fun c x h h' => by rw [c3 c x (by omega)]; exact fr1 c x h h'
      obtain ⟨s, g1, g2, g3⟩ := ih (t + 1) i j (k + 1) _ _ _ _ _ _ _ s2 (by omega) (by omega) (by omega) (by omega) (BI_fr (fun c x h => c3 c x (by omega)) a2) c2 (okW_g (Z k) O1) (okW_k (Z k) O2) hB fr2
      refine ⟨s, b8_50 hP hQ ?_, g2, g3⟩
      rw [if_pos (by omega)]
      refine ⟨_, _, e1, ?_⟩
      rw [if_pos rfl]
      refine ⟨_, _, e2, ?_⟩
      rw [if_pos rfl]
      refine ⟨_, _, e3, ?_⟩
      rw [if_pos rfl]
      refine ⟨_, _, e4, ?_⟩
      rw [if_neg (show ¬ (1 : Int) = 0 by decide)]
      refine ⟨_, _, RV_147 (gS fr U3 (by omega)) y4.1, s1, a1, _, _, RV_147 (gS fr1 U3 (by omega)) y4.1, s2, c1, by omega, nx ?_⟩
      exact g1
    rw [if_neg y4] at hB e4 ⊢
    by_cases y5 : j < na
    · rw [if_pos y5] at hB ⊢
      have z := mvW_bd _ _ _ _ _ _ _ _ _ hB
      simp only [List.length_append, List.length_singleton] at z
      obtain ⟨s1, a1, a2, a3⟩ := d91 (x := Y j) WDp351 B1 (by omega) (by omega) (by omega) (by omega)
      have fr1 : ∀ c x, ¬ (352 ≤ c ∧ c ≤ 361) → ¬ (365 ≤ c ∧ c ≤ 374) → s1 c x = σ0 c x := fun c x h h' => by rw [a3 c x (by omega)]; exact fr c x h h'
      obtain ⟨s2, c1, c2, c3⟩ := d91 (x := Y j) WDp364 (BI_fr (fun c x h => a3 c x (by omega)) B2) (by omega) (by omega) (by omega) (by omega)
      have fr2 : ∀ c x, ¬ (352 ≤ c ∧ c ≤ 361) → ¬ (365 ≤ c ∧ c ≤ 374) → s2 c x = σ0 c x := fun c x h h' => by rw [c3 c x (by omega)]; exact fr1 c x h h'
      obtain ⟨s, g1, g2, g3⟩ := ih (t + 1) (i + 1) (j + 1) (k + 1) _ _ _ _ _ _ _ s2 (by omega) (by omega) (by omega) (by omega) (BI_fr (fun c x h => c3 c x (by omega)) a2) c2 (okW_k (Y j) O1) (okW_k (Y j) O2) hB fr2
      refine ⟨s, b8_50 hP hQ ?_, g2, g3⟩
      rw [if_pos (by omega)]
      refine ⟨_, _, e1, ?_⟩
      rw [if_pos rfl]
      refine ⟨_, _, e2, ?_⟩
      rw [if_pos rfl]
      refine ⟨_, _, e3, ?_⟩
      rw [if_pos rfl]
      refine ⟨_, _, e4, ?_⟩
      rw [if_pos rfl]
      refine ⟨_, _, e5, ?_⟩
      rw [if_pos (by omega)]
      refine ⟨_, _, RV_147 (gS fr V3 (by omega)) y5, s1, a1, _, _, RV_147 (gS fr1 V3 (by omega)) y5, s2, c1, by omega, by omega, by omega, nx ?_⟩
      exact g1
    · rw [if_neg y5] at hB ⊢
      obtain ⟨s, g1, g2, g3⟩ := ih (t + 1) i j k b M f a g k1 k2 σ (by omega) (by omega) (by omega) (by omega) B1 B2 O1 O2 hB fr
      refine ⟨s, b8_50 hP hQ ?_, g2, g3⟩
      rw [if_pos (by omega)]
      refine ⟨_, _, e1, ?_⟩
      rw [if_pos rfl]
      refine ⟨_, _, e2, ?_⟩
      rw [if_pos rfl]
      refine ⟨_, _, e3, ?_⟩
      rw [if_pos rfl]
      refine ⟨_, _, e4, ?_⟩
      rw [if_pos rfl]
      refine ⟨_, _, e5, ?_⟩
      rw [if_neg (by omega)]
      exact nx g1
/-- movePast -/
theorem d8 {P Q nb na nc : Nat} {F K G L X Y Z : Nat → Int} {σ : Sg} (hP : isPatch P = true) (hQ : isPatch Q = true) (eP : P + 12 < 350 ∨ 376 < P) (eQ : Q + 12 < 350 ∨ 376 < Q) (hn : nb ≤ 100 ∧ na ≤ 100 ∧ nc ≤ 100) (V1 : RV σ (P + 1) nb X) (V3 : RV σ (P + 3) na Y) (V5 : RV σ (P + 5) nb F) (V7 : RV σ (P + 7) na K) (U1 : RV σ (Q + 1) na Y) (U3 : RV σ (Q + 3) nc Z) (U5 : RV σ (Q + 5) na G) (U7 : RV σ (Q + 7) nc L) (hB : BD (mvW F K G L X Y Z nb na nc (nb + na + nc) 0 0 0 [] [] [] [] [])) : ∃ s, Dd 8 [vA 350, vA P, vA Q] σ (rV s) ∧ FIN8 s (mvW F K G L X Y Z nb na nc (nb + na + nc) 0 0 0 [] [] [] [] []) ∧ ∀ c x, ¬ (352 ≤ c ∧ c ≤ 361) → ¬ (365 ≤ c ∧ c ≤ 374) → s c x = σ c x := by
  obtain ⟨s1, a1, a2, a3⟩ := d90 (σ := σ) WDp351.1
  obtain ⟨s2, c1, c2, c3⟩ := d90 (σ := s1) WDp364.1
  have fr : ∀ c x, ¬ (352 ≤ c ∧ c ≤ 361) → ¬ (365 ≤ c ∧ c ≤ 374) → s2 c x = σ c x := fun c x h h' => by rw [c3 c x (by omega), a3 c x (by omega)]
  have gS : ∀ {R n : Nat} {h : Nat → Int}, RV σ R n h → (R < 351 ∨ 376 < R) → RV s2 R n h := fun {R n h} V e => RV_fr (fun x => fr R x (by omega) (by omega)) (fun x => fr (R + 1) x (by omega) (by omega)) V
  obtain ⟨s, g1, g2, g3⟩ := l8 (T := nb + na + nc) hP hQ (by omega) (by omega) (by omega) (gS V1 (by omega)) (gS V3 (by omega)) (gS V5 (by omega)) (gS V7 (by omega)) (gS U1 (by omega)) (gS U3 (by omega)) (gS U5 (by omega)) (gS U7 (by omega)) (nb + na + nc) 0 0 0 0 [] [] [] [] [] [] [] s2 (by omega) (Nat.le_refl 0) (Nat.le_refl 0) (Nat.le_refl 0) (BI_fr (fun c x h => c3 c x (by omega)) a2) c2 okW_0 okW_0 hB (fun _ _ _ _ => rfl)
  refine ⟨s, b8 hP hQ ⟨s1, a1, s2, c1, _, _, RV_146 (gS V1 (by omega)), _, _, RV_146 (gS V3 (by omega)), by omega, _, _, RV_146 (gS U3 (by omega)), by omega, ?_⟩, g2, fun c x h h' => by rw [g3 c x h h']; exact fr c x h h'⟩
  rw [show ((nb : Nat) : Int) + ((na : Nat) : Int) + ((nc : Nat) : Int) = ((nb + na + nc : Nat) : Int) by omega]
  exact g1
end
-- DRAFT 99.t2mv.lean
/-! A patch past its predecessor: stretches of the walk. -/
noncomputable section
def rl (h : Nat → Int) : Nat → Nat → List Int
  | _, 0 => []
  | p, d + 1 => h p :: rl h (p + 1) d
def idZ : Nat → Int := fun x => (x : Int)
def m1Z : Nat → Int := fun _ => -1
theorem rl_len {h : Nat → Int} : ∀ (d p : Nat), (rl h p d).length = d := by
  intro d
  induction d with
  | zero => intro p; rfl
  | succ d ih => intro p; show (rl h (p + 1) d).length + 1 = d + 1; rw [ih]
theorem rl_get {h : Nat → Int} : ∀ (d p x : Nat), x < d → (rl h p d)[x]? = some (h (p + x)) := by
  intro d
  induction d with
  | zero => intro p x hx; omega
  | succ d ih =>
    intro p x hx
    cases x with
    | zero => rfl
    | succ x =>
      show (rl h (p + 1) d)[x]? = _
      rw [ih (p + 1) x (by omega), show p + 1 + x = p + (x + 1) by omega]
theorem rl_c {h : Nat → Int} {M : List Int} {p d : Nat} : (M ++ [h p]) ++ rl h (p + 1) d = M ++ rl h p (d + 1) := by
  rw [List.append_assoc]
  rfl
theorem rl_0 {h : Nat → Int} {M : List Int} {p : Nat} : M ++ rl h p 0 = M := List.append_nil M
theorem rl_ext {h h' : Nat → Int} : ∀ (d p p' : Nat), (∀ x, x < d → h (p + x) = h' (p' + x)) → rl h p d = rl h' p' d := by
  intro d
  induction d with
  | zero => intro p p' _; rfl
  | succ d ih =>
    intro p p' hx
    have h0 := hx 0 (by omega)
    show h p :: rl h (p + 1) d = h' p' :: rl h' (p' + 1) d
    rw [ih (p + 1) (p' + 1) (fun x hh => by
      have z := hx (x + 1) (by omega)
      rw [show p + 1 + x = p + (x + 1) by omega, show p' + 1 + x = p' + (x + 1) by omega]
      exact z)]
    rw [show h p = h' p' from h0]
theorem ap_len {h : Nat → Int} {M : List Int} {p d : Nat} : (M ++ rl h p d).length = M.length + d := by
  rw [List.length_append, rl_len]
theorem ap_at {h : Nat → Int} {M : List Int} {p d x : Nat} {v : Int} (e : (M ++ rl h p d)[x]? = some v) : (x < M.length ∧ M[x]? = some v) ∨ (M.length ≤ x ∧ x < M.length + d ∧ v = h (p + (x - M.length))) := by
  by_cases y : x < M.length
  · rw [List.getElem?_append_left y] at e
    exact Or.inl ⟨y, e⟩
  · rw [List.getElem?_append_right (by omega)] at e
    have hl := (List.getElem?_eq_some_iff.mp e).1
    rw [rl_len] at hl
    rw [rl_get _ _ _ hl] at e
    cases e
    exact Or.inr ⟨by omega, by omega, rfl⟩
theorem ap_bv {h X : Nat → Int} {M : List Int} {p d : Nat} (hM : ∀ (x : Nat) (v : Int), M[x]? = some v → v = X x) (hd : ∀ x, x < d → h (p + x) = X (M.length + x)) : ∀ (x : Nat) (v : Int), (M ++ rl h p d)[x]? = some v → v = X x := by
  intro x v e
  rcases ap_at e with ⟨-, z⟩ | ⟨z1, z2, z3⟩
  · exact hM x v z
  · rw [z3, hd (x - M.length) (by omega), show M.length + (x - M.length) = x by omega]
theorem ap_ln {h : Nat → Int} {M : List Int} {p d : Nat} (hM : ∀ (x : Nat) (v : Int), M[x]? = some v → isLn v = true) (hd : ∀ x, x < d → isLn (h (p + x)) = true) : ∀ (x : Nat) (v : Int), (M ++ rl h p d)[x]? = some v → isLn v = true := by
  intro x v e
  rcases ap_at e with ⟨-, z⟩ | ⟨z1, z2, z3⟩
  · exact hM x v z
  · rw [z3]
    exact hd (x - M.length) (by omega)
theorem mvW_1 {F K G L X Y Z : Nat → Int} {nb na nc : Nat} : ∀ (d w i j k : Nat) (b M f a g : List Int), i + d ≤ nb → (∀ x, x < d → F (i + x) = -1) → mvW F K G L X Y Z nb na nc (w + d) i j k b M f a g = mvW F K G L X Y Z nb na nc w (i + d) j k (b ++ rl X i d) (M ++ rl X i d) (f ++ rl idZ M.length d) a (g ++ rl m1Z i d) := by
  intro d
  induction d with
  | zero => intro w i j k b M f a g _ _; simp only [rl_0, Nat.add_zero]
  | succ d ih =>
    intro w i j k b M f a g hi h
    have h0 : F i = -1 := h 0 (by omega)
    rw [show w + (d + 1) = (w + d) + 1 by omega, mvW_s, if_pos ⟨by omega, h0⟩, ih w (i + 1) j k _ _ _ _ _ (by omega) (fun x hx => by rw [show i + 1 + x = i + (x + 1) by omega]; exact h (x + 1) (by omega)), List.length_append, List.length_singleton, show ((M.length : Nat) : Int) = idZ M.length from rfl, show (-1 : Int) = m1Z i from rfl, rl_c, rl_c, rl_c, rl_c, show i + 1 + d = i + (d + 1) by omega]
theorem mvW_2 {F K G L X Y Z : Nat → Int} {nb na nc i : Nat} (c1 : ¬ (i < nb ∧ F i = -1)) : ∀ (d w j k : Nat) (b M f a g : List Int), j + d ≤ na → (∀ x, x < d → K (j + x) = -1) → mvW F K G L X Y Z nb na nc (w + d) i j k b M f a g = mvW F K G L X Y Z nb na nc w i (j + d) (k + d) b M f (a ++ rl Y j d) g := by
  intro d
  induction d with
  | zero => intro w j k b M f a g _ _; simp only [rl_0, Nat.add_zero]
  | succ d ih =>
    intro w j k b M f a g hj h
    have h0 : K j = -1 := h 0 (by omega)
    rw [show w + (d + 1) = (w + d) + 1 by omega, mvW_s, if_neg c1, if_pos ⟨by omega, h0⟩, ih w (j + 1) (k + 1) _ _ _ _ _ (by omega) (fun x hx => by rw [show j + 1 + x = j + (x + 1) by omega]; exact h (x + 1) (by omega)), rl_c, show j + 1 + d = j + (d + 1) by omega, show k + 1 + d = k + (d + 1) by omega]
theorem mvW_3 {F K G L X Y Z : Nat → Int} {nb na nc k : Nat} : ∀ (d w i j : Nat) (b M f a g : List Int), j + d ≤ na → (∀ x, x < d → ¬ F (i + x) = -1 ∧ ¬ K (j + x) = -1 ∧ G (j + x) = -1) → mvW F K G L X Y Z nb na nc (w + d) i j k b M f a g = mvW F K G L X Y Z nb na nc w (i + d) (j + d) k (b ++ rl Y j d) M (f ++ rl m1Z i d) a g := by
  intro d
  induction d with
  | zero => intro w i j b M f a g _ _; simp only [rl_0, Nat.add_zero]
  | succ d ih =>
    intro w i j b M f a g hj h
    obtain ⟨h1, h2, h3⟩ := h 0 (by omega)
    have h1 : ¬ F i = -1 := h1
    have h2 : ¬ K j = -1 := h2
    have h3 : G j = -1 := h3
    rw [show w + (d + 1) = (w + d) + 1 by omega, mvW_s, if_neg (fun e => h1 e.2), if_neg (fun e => h2 e.2), if_pos ⟨by omega, h3⟩, ih w (i + 1) (j + 1) _ _ _ _ _ (by omega) (fun x hx => by rw [show j + 1 + x = j + (x + 1) by omega, show i + 1 + x = i + (x + 1) by omega]; exact h (x + 1) (by omega)), show (-1 : Int) = m1Z i from rfl, rl_c, rl_c, show j + 1 + d = j + (d + 1) by omega, show i + 1 + d = i + (d + 1) by omega]
theorem mvW_4 {F K G L X Y Z : Nat → Int} {nb na nc i j : Nat} (c1 : ¬ (i < nb ∧ F i = -1)) (c2 : ¬ (j < na ∧ K j = -1)) (c3 : ¬ (j < na ∧ G j = -1)) : ∀ (d w k : Nat) (b M f a g : List Int), k + d ≤ nc → (∀ x, x < d → L (k + x) = -1) → mvW F K G L X Y Z nb na nc (w + d) i j k b M f a g = mvW F K G L X Y Z nb na nc w i j (k + d) b (M ++ rl Z k d) f (a ++ rl Z k d) (g ++ rl idZ a.length d) := by
  intro d
  induction d with
  | zero => intro w k b M f a g _ _; simp only [rl_0, Nat.add_zero]
  | succ d ih =>
    intro w k b M f a g hk h
    have h0 : L k = -1 := h 0 (by omega)
    rw [show w + (d + 1) = (w + d) + 1 by omega, mvW_s, if_neg c1, if_neg c2, if_neg c3, if_pos ⟨by omega, h0⟩, ih w (k + 1) _ _ _ _ _ (by omega) (fun x hx => by rw [show k + 1 + x = k + (x + 1) by omega]; exact h (x + 1) (by omega)), List.length_append, List.length_singleton, show ((a.length : Nat) : Int) = idZ a.length from rfl, rl_c, rl_c, rl_c, show k + 1 + d = k + (d + 1) by omega]
theorem mvW_5 {F K G L X Y Z : Nat → Int} {nb na nc : Nat} : ∀ (d w i j k : Nat) (b M f a g : List Int), j + d ≤ na → (∀ x, x < d → ¬ F (i + x) = -1 ∧ ¬ K (j + x) = -1 ∧ ¬ G (j + x) = -1 ∧ ¬ L (k + x) = -1) → mvW F K G L X Y Z nb na nc (w + d) i j k b M f a g = mvW F K G L X Y Z nb na nc w (i + d) (j + d) (k + d) (b ++ rl Y j d) (M ++ rl Y j d) (f ++ rl idZ M.length d) (a ++ rl Y j d) (g ++ rl idZ a.length d) := by
  intro d
  induction d with
  | zero => intro w i j k b M f a g _ _; simp only [rl_0, Nat.add_zero]
  | succ d ih =>
    intro w i j k b M f a g hj h
    obtain ⟨h1, h2, h3, h4⟩ := h 0 (by omega)
    have h1 : ¬ F i = -1 := h1
    have h2 : ¬ K j = -1 := h2
    have h3 : ¬ G j = -1 := h3
    have h4 : ¬ L k = -1 := h4
    rw [show w + (d + 1) = (w + d) + 1 by omega, mvW_s, if_neg (fun e => h1 e.2), if_neg (fun e => h2 e.2), if_neg (fun e => h3 e.2), if_neg (fun e => h4 e.2), if_pos (by omega), ih w (i + 1) (j + 1) (k + 1) _ _ _ _ _ (by omega) (fun x hx => by rw [show j + 1 + x = j + (x + 1) by omega, show i + 1 + x = i + (x + 1) by omega, show k + 1 + x = k + (x + 1) by omega]; exact h (x + 1) (by omega)), List.length_append, List.length_singleton, List.length_append, List.length_singleton, show ((M.length : Nat) : Int) = idZ M.length from rfl, show ((a.length : Nat) : Int) = idZ a.length from rfl, rl_c, rl_c, rl_c, rl_c, rl_c, show j + 1 + d = j + (d + 1) by omega, show i + 1 + d = i + (d + 1) by omega, show k + 1 + d = k + (d + 1) by omega]
theorem mvW_e {F K G L X Y Z : Nat → Int} {nb na nc i j k : Nat} {b M f a g : List Int} (hi : nb ≤ i) (hj : na ≤ j) (hk : nc ≤ k) : ∀ w, mvW F K G L X Y Z nb na nc w i j k b M f a g = (b, M, f, a, g) := by
  intro w
  induction w with
  | zero => rfl
  | succ w ih => rw [mvW_s, if_neg (by omega), if_neg (by omega), if_neg (by omega), if_neg (by omega), if_neg (by omega), ih]
/-- the hunks lie at or behind a place -/
theorem DS_e {F : Nat → Int} {nb na : Nat} {l : List St} {i j e : Nat} (h : DS F nb na l i j e) : ∀ q, q ∈ l → i + e ≤ q.1 ∧ j + e ≤ q.2.2.1 := by
  intro q hq
  cases l with
  | nil => cases hq
  | cons r t =>
    obtain ⟨h1, h2, h3, h4, h5, h6⟩ := h
    rcases List.mem_cons.mp hq with y | y
    · rw [y]; omega
    · have b := (DS_b _ _ _ _ h6).2.2 q y
      omega
/-- some way on, no hunk lying between -/
theorem DS_adv {F : Nat → Int} {nb na : Nat} {l : List St} {i j e j' e' : Nat} (h : DS F nb na l i j e) (h1 : j ≤ j') (h2 : j' ≤ na) (h3 : ∀ q, q ∈ l → j' + e' ≤ q.2.2.1) : DS F nb na l (i + (j' - j)) j' e' ∧ (∀ x, i ≤ x → x < i + (j' - j) → F x = ((j + (x - i) : Nat) : Int)) ∧ i + (j' - j) ≤ nb := by
  cases l with
  | nil =>
    obtain ⟨a1, a2, a3, a4⟩ := h
    refine ⟨⟨by omega, h2, by omega, fun x y1 y2 => ?_⟩, fun x y1 y2 => a4 x y1 (by omega), by omega⟩
    rw [a4 x (by omega) y2]
    congr 1
    omega
  | cons q t =>
    have bb := (DS_b _ _ _ _ h).2.2 q List.mem_cons_self
    obtain ⟨a1, a2, a3, a4, a5, a6⟩ := h
    have hq := h3 q List.mem_cons_self
    refine ⟨⟨by omega, by omega, fun x y1 y2 => ?_, a4, a5, a6⟩, fun x y1 y2 => a3 x y1 (by omega), by omega⟩
    rw [a3 x (by omega) y2]
    congr 1
    omega
/-- the same, by places of the first text -/
theorem DS_adv1 {F : Nat → Int} {nb na : Nat} {l : List St} {i j e i' e' : Nat} (h : DS F nb na l i j e) (h1 : i ≤ i') (h2 : i' ≤ nb) (h3 : ∀ q, q ∈ l → i' + e' ≤ q.1) : DS F nb na l i' (j + (i' - i)) e' ∧ (∀ x, i ≤ x → x < i' → F x = ((j + (x - i) : Nat) : Int)) ∧ j + (i' - i) ≤ na := by
  cases l with
  | nil =>
    obtain ⟨a1, a2, a3, a4⟩ := h
    refine ⟨⟨by omega, by omega, by omega, fun x y1 y2 => ?_⟩, fun x y1 y2 => a4 x y1 (by omega), by omega⟩
    rw [a4 x (by omega) y2]
    congr 1
    omega
  | cons q t =>
    have bb := (DS_b _ _ _ _ h).2.2 q List.mem_cons_self
    obtain ⟨a1, a2, a3, a4, a5, a6⟩ := h
    have hq := h3 q List.mem_cons_self
    refine ⟨⟨by omega, by omega, fun x y1 y2 => ?_, a4, a5, a6⟩, fun x y1 y2 => a3 x y1 (by omega), by omega⟩
    rw [a3 x (by omega) y2]
    congr 1
    omega
/-- a line of the second text that no hunk adds has its partner -/
theorem DS_on {F : Nat → Int} {nb na : Nat} : ∀ (l : List St) (i j e y : Nat), DS F nb na l i j e → j ≤ y → y < na → (∀ q, q ∈ l → y < q.2.2.1 ∨ q.2.2.1 + q.2.2.2 ≤ y) → ∃ x, i ≤ x ∧ x < nb ∧ F x = (y : Int) := by
  intro l
  induction l with
  | nil =>
    intro i j e y h h1 h2 _
    obtain ⟨a1, a2, a3, a4⟩ := h
    refine ⟨i + (y - j), by omega, by omega, ?_⟩
    rw [a4 _ (by omega) (by omega)]
    congr 1
    omega
  | cons q t ih =>
    intro i j e y h h1 h2 h3
    have bb := (DS_b _ _ _ _ h).2.2 q List.mem_cons_self
    obtain ⟨a1, a2, a3, a4, a5, a6⟩ := h
    rcases h3 q List.mem_cons_self with z | z
    · refine ⟨i + (y - j), by omega, by omega, ?_⟩
      rw [a3 _ (by omega) (by omega)]
      congr 1
      omega
    · obtain ⟨x, y1, y2, y3⟩ := ih _ _ _ y a6 z h2 (fun r hr => h3 r (List.mem_cons_of_mem _ hr))
      exact ⟨x, by omega, y2, y3⟩
/-- a line that a hunk adds has none -/
theorem DS_K {F K : Nat → Int} {nb na : Nat} {q : St} {t : List St} {i j e y : Nat} (h : DS F nb na (q :: t) i j e) (I : IV F K nb na) (P : ∀ x, x < i → F x = -1 ∨ F x < (j : Int)) (h1 : q.2.2.1 ≤ y) (h2 : y < q.2.2.1 + q.2.2.2) : K y = -1 := by
  have bb := (DS_b _ _ _ _ h).2.2 q List.mem_cons_self
  obtain ⟨a1, a2, a3, a4, a5, a6⟩ := h
  rcases I.1 y (by omega) with z | ⟨z1, z2, z3⟩
  · exact z
  · exfalso
    obtain ⟨x, hx⟩ := Int.eq_ofNat_of_zero_le z1
    rw [hx, tn] at z3
    by_cases y1 : x < i
    · rcases P x y1 with w | w <;> omega
    · by_cases y2 : x < q.1
      · have w := a3 x (by omega) y2
        omega
      · by_cases y3 : x < q.1 + q.2.1
        · have w := a4 x (by omega) y3
          omega
        · rcases (DS_v _ _ _ _ a6).1 x (by omega) (by omega) with w | w <;> omega
end
-- DRAFT 99.t3mv.lean
/-! A patch past its predecessor: the reference's steps. -/
noncomputable section
/-- what the reference has laid so far -/
def RS8 (σ : Sg) (M f g : List Int) : Prop := (∀ (x : Nat) (v : Int), M[x]? = some v → σ 686 (3900 + x) = v) ∧ (∀ (x : Nat) (v : Int), f[x]? = some v → σ 687 (3900 + x) = v) ∧ ∀ (x : Nat) (v : Int), g[x]? = some v → σ 687 (4000 + x) = v
theorem ls_at {M : List Int} {u : Int} {x : Nat} {v : Int} (e : (M ++ [u])[x]? = some v) : (x < M.length ∧ M[x]? = some v) ∨ (x = M.length ∧ v = u) := ga e
/-- only the scratch slots' middle text and pairs -/
def FR8 (σ σ0 : Sg) : Prop := ∀ c x, ¬ (c = 686 ∧ 3900 ≤ x ∧ x < 4000) → ¬ (c = 687 ∧ 3900 ≤ x ∧ x < 4100) → σ c x = σ0 c x
def psK (K : Nat → Int) (r : St) : Int := if r.1 = 0 then 0 else K (r.1 - 1) + 1
/-- the two patches, the hunks of the second and the inverse of the first -/
def CX8 (σ : Sg) (s t nb na nc : Nat) (F K G X Z : Nat → Int) (lB : List St) : Prop := s < 39 ∧ t < 39 ∧ nb ≤ 99 ∧ na ≤ 99 ∧ nc ≤ 99 ∧ lB.length ≤ 120 ∧ σ 688 s = (nb : Nat) ∧ σ 689 t = (nc : Nat) ∧ (∀ x, x < nb → σ 685 (100 * s + x) = X x) ∧ (∀ x, x < nb → σ 687 (100 * s + x) = F x) ∧ (∀ x, x < na → σ 687 (100 * t + x) = G x) ∧ (∀ x, x < nc → σ 686 (100 * t + x) = Z x) ∧ HK σ 1 0 lB ∧ (∀ x, x < na → σ 690 x = K x) ∧ (∀ x, x < nb → F x = -1 ∨ ∃ y : Nat, F x = (y : Int) ∧ y < na) ∧ (∀ y, y < na → -1 ≤ K y ∧ K y ≤ 100) ∧ ∀ h r, lB[h]? = some r → r.1 + r.2.1 ≤ na ∧ r.2.2.1 + r.2.2.2 ≤ nc
theorem d296 {σ σ0 : Sg} {s t nb na nc h : Nat} {F K G X Z : Nat → Int} {lB : List St} {r : St} (C : CX8 σ0 s t nb na nc F K G X Z lB) (fr : FR8 σ σ0) (hr : lB[h]? = some r) : Dd 296 [vA 682, vI ((128 + h : Nat) : Int)] σ (rI (psK K r) σ) := by
  obtain ⟨h1, h2, h3, h4, h5, h6, c1, c2, c3, c4, c5, c6, c7, c8, c9, c10, c11⟩ := C
  have hl := (List.getElem?_eq_some_iff.mp hr).1
  have v := (c7 h r hr).1
  rw [show 128 * 1 + (0 + h) = 128 + h by omega] at v
  have b := c11 h r hr
  refine b296 ?_
  rw [tn, fr 700 _ (by omega) (by omega), v]
  unfold psK
  by_cases y : r.1 = 0
  · rw [if_pos y, if_pos (by omega)]
    exact ⟨by omega, fun _ => by omega, fun _ => by omega, fun _ => by omega, fun e => absurd (by omega) e, rfl⟩
  · have k := c10 (r.1 - 1) (by omega)
    rw [if_neg y, if_neg (by omega), show ((r.1 : Nat) : Int) - 1 = ((r.1 - 1 : Nat) : Int) by omega, tn, fr 690 _ (by omega) (by omega), c8 _ (by omega)]
    exact ⟨by omega, fun _ => by omega, fun _ => by omega, fun _ => by omega, fun _ => by omega, rfl⟩
/-- one line of the first text kept -/
theorem l297k {σ0 : Sg} {s t nb na nc : Nat} {F K G X Z : Nat → Int} {lB : List St} (C : CX8 σ0 s t nb na nc F K G X Z lB) {h i : Nat} {M f g : List Int} {σ : Sg} (hi : i < nb) (hM : M.length < 99) (hf : f.length = i) (hg : g.length = M.length) (hh : h ≤ lB.length) (np : ∀ r, lB[h]? = some r → ¬ psK K r = (i : Int)) (R : RS8 σ M f g) (fr : FR8 σ σ0) : ∃ σ', (∀ {o : Rs}, (∀ d9 : Option AV, C297_24 s t 39 40 (lB.length : Nat) ((128 + h : Nat) : Int) ((M.length + 1 : Nat) : Int) ((i + 1 : Nat) : Int) d9 σ' o) → ∀ d9 : Option AV, C297_24 s t 39 40 (lB.length : Nat) ((128 + h : Nat) : Int) (M.length : Nat) i d9 σ o) ∧ RS8 σ' (M ++ [X i]) (f ++ [(M.length : Int)]) (g ++ [if F i = -1 then -1 else G (F i).toNat]) ∧ FR8 σ' σ0 := by
  have CC := C
  obtain ⟨h1, h2, h3, h4, h5, h6, c1, c2, c3, c4, c5, c6, c7, c8, c9, c10, c11⟩ := C
  obtain ⟨R1, R2, R3⟩ := R
  obtain ⟨u, hu⟩ : ∃ u, u = (if F i = -1 then -1 else G (F i).toNat) := ⟨_, rfl⟩
  rw [← hu]
  refine ⟨upS (upS (upS σ 686 (3900 + M.length) (X i)) 687 (3900 + i) (M.length : Int)) 687 (4000 + M.length) u, fun {o} hx d9 => ?_, ⟨fun x v e => ?_, fun x v e => ?_, fun x v e => ?_⟩, fun c x y1 y2 => ?_⟩
  · have t202 : ∀ d9 : Option AV, C297_202 s t 39 40 (lB.length : Nat) ((128 + h : Nat) : Int) (M.length : Nat) i d9 σ o := by
      intro d9
      have e685 : σ 685 ((100 * (s : Int) + (i : Int))).toNat = X i := by
        rw [show (100 * (s : Int) + (i : Int)).toNat = 100 * s + i by omega, fr 685 _ (by omega) (by omega)]
        exact c3 i hi
      have e687 : σ 687 ((100 * (s : Int) + (i : Int))).toNat = F i := by
        rw [show (100 * (s : Int) + (i : Int)).toNat = 100 * s + i by omega, fr 687 _ (by omega) (by omega)]
        exact c4 i hi
      have i1 : (100 * (39 : Int) + ((M.length : Nat) : Int)).toNat = 3900 + M.length := by omega
      have i2 : (100 * (39 : Int) + (i : Int)).toNat = 3900 + i := by omega
      refine b297_202 ?_
      rw [e685, e687, i1, i2]
      have z9 := c9 i hi
      have yb : ¬ F i = -1 → ∃ y : Nat, F i = (y : Int) ∧ y < na := fun e => by
        rcases z9 with z | z
        · exact absurd z e
        · exact z
      refine ⟨by omega, by omega, by omega, by omega, by omega, by omega, by omega, by omega, by omega, by omega, by omega, by omega, by omega, by omega, fun e => by omega, fun e => by
        obtain ⟨y, z1, z2⟩ := yb e
        omega, fun e => by
        obtain ⟨y, z1, z2⟩ := yb e
        omega, ?_⟩
      have eu : (if F i = -1 then (-1 : Int) else upS (upS σ 686 (3900 + M.length) (X i)) 687 (3900 + i) (M.length : Int) 687 (100 * (t : Int) + F i).toNat) = u := by
        rw [hu]
        by_cases e : F i = -1
        · rw [if_pos e, if_pos e]
        · obtain ⟨y, z1, z2⟩ := yb e
          rw [if_neg e, if_neg e, z1, tn, show (100 * (t : Int) + (y : Int)).toNat = 100 * t + y by omega, up_k (show ¬ 100 * t + y = 3900 + i by omega), up_a (show ¬ (687 : Nat) = 686 by decide), fr 687 _ (by omega) (by omega)]
          exact c5 y z2
      rw [eu]
      refine b297_288 ?_
      rw [show (100 * (40 : Int) + ((M.length : Nat) : Int)).toNat = 4000 + M.length by omega, show ((M.length : Nat) : Int) + 1 = ((M.length + 1 : Nat) : Int) by omega, show (i : Int) + 1 = ((i + 1 : Nat) : Int) by omega]
      exact ⟨by omega, by omega, by omega, hx _⟩
    refine b297_24 ⟨by omega, ?_⟩
    rw [tn, fr 688 s (by omega) (by omega), c1, if_neg (by omega)]
    refine b297_46 ⟨by omega, ?_⟩
    by_cases y : h < lB.length
    · obtain ⟨r, hr⟩ : ∃ r, lB[h]? = some r := ⟨lB[h], List.getElem?_eq_getElem y⟩
      rw [if_pos (by omega)]
      refine ⟨_, _, d296 CC fr hr, ?_⟩
      rw [if_neg (np r hr)]
      exact t202 _
    · rw [if_neg (by omega)]
      exact t202 _
  · rcases ls_at e with ⟨z1, z2⟩ | ⟨z1, z2⟩
    · rw [up_a (by decide), up_a (by decide), up_k (by omega)]
      exact R1 x v z2
    · rw [up_a (by decide), up_a (by decide), z1, up_s, z2]
  · rcases ls_at e with ⟨z1, z2⟩ | ⟨z1, z2⟩
    · rw [up_k (by omega), up_k (by omega), up_a (by decide)]
      exact R2 x v z2
    · rw [up_k (by omega), z1, hf, up_s, z2]
  · rcases ls_at e with ⟨z1, z2⟩ | ⟨z1, z2⟩
    · rw [up_k (by omega), up_k (by omega), up_a (by decide)]
      exact R3 x v z2
    · rw [z1, hg, up_s, z2]
  · unfold upS
    rw [if_neg (by omega), if_neg (by omega), if_neg (by omega)]
    exact fr c x y1 y2
def uZ (F G : Nat → Int) : Nat → Int := fun x => if F x = -1 then -1 else G (F x).toNat
/-- lines of the first text kept -/
theorem l297r {σ0 : Sg} {s t nb na nc : Nat} {F K G X Z : Nat → Int} {lB : List St} (C : CX8 σ0 s t nb na nc F K G X Z lB) {h : Nat} (hh : h ≤ lB.length) : ∀ (d i : Nat) (M f g : List Int) (σ : Sg), i + d ≤ nb → M.length + d ≤ 99 → f.length = i → g.length = M.length → (∀ x, x < d → ∀ r, lB[h]? = some r → ¬ psK K r = ((i + x : Nat) : Int)) → RS8 σ M f g → FR8 σ σ0 → ∃ σ', (∀ {o : Rs}, (∀ d9 : Option AV, C297_24 s t 39 40 (lB.length : Nat) ((128 + h : Nat) : Int) ((M.length + d : Nat) : Int) ((i + d : Nat) : Int) d9 σ' o) → ∀ d9 : Option AV, C297_24 s t 39 40 (lB.length : Nat) ((128 + h : Nat) : Int) (M.length : Nat) i d9 σ o) ∧ RS8 σ' (M ++ rl X i d) (f ++ rl idZ M.length d) (g ++ rl (uZ F G) i d) ∧ FR8 σ' σ0 := by
  intro d
  induction d with
  | zero =>
    intro i M f g σ _ _ _ _ _ R fr
    refine ⟨σ, fun {o} hx => hx, ?_, fr⟩
    rw [rl_0, rl_0, rl_0]
    exact R
  | succ d ih =>
    intro i M f g σ hi hM hf hg np R fr
    obtain ⟨σ1, a1, a2, a3⟩ := l297k C (h := h) (i := i) (M := M) (f := f) (g := g) (σ := σ) (by omega) (by omega) hf hg hh (fun r hr => np 0 (by omega) r hr) R fr
    have hl : (M ++ [X i]).length = M.length + 1 := by rw [List.length_append, List.length_singleton]
    obtain ⟨σ', c1, c2, c3⟩ := ih (i + 1) (M ++ [X i]) (f ++ [(M.length : Int)]) (g ++ [uZ F G i]) σ1 (by omega) (by rw [hl]; omega) (by rw [List.length_append, List.length_singleton, hf]) (by rw [List.length_append, List.length_singleton, hg, hl]) (fun x hx r hr => by
      rw [show i + 1 + x = i + (x + 1) by omega]
      exact np (x + 1) (by omega) r hr) a2 a3
    rw [hl, show ((M.length : Nat) : Int) = idZ M.length from rfl, rl_c, rl_c, rl_c] at c2
    refine ⟨σ', fun {o} hx => a1 (fun d9 => ?_), c2, c3⟩
    have z := c1 (o := o) (fun d9 => by
      rw [hl, show M.length + 1 + d = M.length + (d + 1) by omega, show i + 1 + d = i + (d + 1) by omega]
      exact hx d9) d9
    rw [hl] at z
    exact z
/-- the added lines of a hunk -/
theorem l297a {σ0 : Sg} {s t nb na nc : Nat} {F K G X Z : Nat → Int} {lB : List St} (C : CX8 σ0 s t nb na nc F K G X Z lB) {h i : Nat} {r : St} (hr : lB[h]? = some r) {f : List Int} (hi : i ≤ 99) (hf : f.length ≤ 99) : ∀ (d x : Nat) (M g : List Int) (σ : Sg), x + d = r.2.2.2 → M.length + d ≤ 99 → g.length = M.length → RS8 σ M f g → FR8 σ σ0 → ∃ σ', (∀ {o : Rs}, C297_150 s t 39 40 (lB.length : Nat) ((128 + h : Nat) : Int) ((M.length + d : Nat) : Int) i 0 σ' o → C297_71 s t 39 40 (lB.length : Nat) ((128 + h : Nat) : Int) (M.length : Nat) i x σ o) ∧ RS8 σ' (M ++ rl Z (r.2.2.1 + x) d) f (g ++ rl idZ (r.2.2.1 + x) d) ∧ FR8 σ' σ0 := by
  obtain ⟨h1, h2, h3, h4, h5, h6, c1, c2, c3, c4, c5, c6, c7, c8, c9, c10, c11⟩ := C
  have hl := (List.getElem?_eq_some_iff.mp hr).1
  obtain ⟨v0, v1, v2, v3⟩ := c7 h r hr
  rw [show 128 * 1 + (0 + h) = 128 + h by omega] at v0 v1 v2 v3
  have b := c11 h r hr
  intro d
  induction d with
  | zero =>
    intro x M g σ hx hM hg R fr
    refine ⟨σ, fun {o} hh => b297_71 ⟨by omega, ?_⟩, ?_, fr⟩
    · rw [tn, fr 703 _ (by omega) (by omega), v3, if_neg (by omega)]
      exact hh
    · rw [rl_0, rl_0]
      exact R
  | succ d ih =>
    intro x M g σ hx hM hg R fr
    obtain ⟨R1, R2, R3⟩ := R
    have hlen : (M ++ [Z (r.2.2.1 + x)]).length = M.length + 1 := by rw [List.length_append, List.length_singleton]
    have fr1 : FR8 (upS (upS σ 686 (3900 + M.length) (Z (r.2.2.1 + x))) 687 (4000 + M.length) ((r.2.2.1 + x : Nat) : Int)) σ0 := fun c y y1 y2 => by
      unfold upS
      rw [if_neg (by omega), if_neg (by omega)]
      exact fr c y y1 y2
    obtain ⟨σ', a1, a2, a3⟩ := ih (x + 1) (M ++ [Z (r.2.2.1 + x)]) (g ++ [((r.2.2.1 + x : Nat) : Int)]) (upS (upS σ 686 (3900 + M.length) (Z (r.2.2.1 + x))) 687 (4000 + M.length) ((r.2.2.1 + x : Nat) : Int)) (by omega) (by rw [hlen]; omega) (by rw [List.length_append, List.length_singleton, hg, hlen]) ⟨fun y v e => by
      rcases ls_at e with ⟨z1, z2⟩ | ⟨z1, z2⟩
      · rw [up_a (by decide), up_k (by omega)]
        exact R1 y v z2
      · rw [up_a (by decide), z1, up_s, z2], fun y v e => by
      have hy := (List.getElem?_eq_some_iff.mp e).1
      rw [up_k (by omega), up_a (by decide)]
      exact R2 y v e, fun y v e => by
      rcases ls_at e with ⟨z1, z2⟩ | ⟨z1, z2⟩
      · rw [up_k (by omega), up_a (by decide)]
        exact R3 y v z2
      · rw [z1, hg, up_s, z2]⟩ fr1
    rw [show ((r.2.2.1 + x : Nat) : Int) = idZ (r.2.2.1 + x) from rfl, show r.2.2.1 + (x + 1) = r.2.2.1 + x + 1 by omega, rl_c, rl_c] at a2
    refine ⟨σ', fun {o} hh => b297_71 ⟨by omega, ?_⟩, a2, a3⟩
    have z := a1 (o := o) (by
      rw [hlen, show M.length + 1 + d = M.length + (d + 1) by omega]
      exact hh)
    rw [hlen] at z
    have e702 : σ 702 (128 + h) = (r.2.2.1 : Nat) := by rw [fr 702 _ (by omega) (by omega)]; exact v2
    rw [tn, fr 703 _ (by omega) (by omega), v3, if_pos (by omega), e702, show (100 * (39 : Int) + ((M.length : Nat) : Int)).toNat = 3900 + M.length by omega, show (100 * (t : Int) + ((r.2.2.1 : Nat) : Int) + (x : Int)).toNat = 100 * t + (r.2.2.1 + x) by omega, fr 686 _ (by omega) (by omega), c6 _ (by omega), up_a (show ¬ (702 : Nat) = 686 by decide), e702, show (100 * (40 : Int) + ((M.length : Nat) : Int)).toNat = 4000 + M.length by omega, show ((r.2.2.1 : Nat) : Int) + (x : Int) = ((r.2.2.1 + x : Nat) : Int) by omega, show ((M.length : Nat) : Int) + 1 = ((M.length + 1 : Nat) : Int) by omega, show (x : Int) + 1 = ((x + 1 : Nat) : Int) by omega]
    exact ⟨by omega, by omega, by omega, by omega, by omega, by omega, by omega, by omega, by omega, by omega, by omega, by omega, by omega, by omega, by omega, z⟩
/-- the dropped lines of a hunk -/
theorem l297b {σ0 : Sg} {s t nb na nc : Nat} {F K G X Z : Nat → Int} {lB : List St} (C : CX8 σ0 s t nb na nc F K G X Z lB) {h i : Nat} {r : St} (hr : lB[h]? = some r) {M g : List Int} (hi : i + r.2.1 ≤ nb) (hM : M.length ≤ 99) : ∀ (d x : Nat) (f : List Int) (σ : Sg), x + d = r.2.1 → f.length = i + x → RS8 σ M f g → FR8 σ σ0 → ∃ σ', (∀ {o : Rs}, (∀ d9 : Option AV, C297_24 s t 39 40 (lB.length : Nat) ((128 + (h + 1) : Nat) : Int) (M.length : Nat) ((i + r.2.1 : Nat) : Int) d9 σ' o) → C297_150 s t 39 40 (lB.length : Nat) ((128 + h : Nat) : Int) (M.length : Nat) i x σ o) ∧ RS8 σ' M (f ++ rl m1Z (i + x) d) g ∧ FR8 σ' σ0 := by
  obtain ⟨h1, h2, h3, h4, h5, h6, c1, c2, c3, c4, c5, c6, c7, c8, c9, c10, c11⟩ := C
  have hl := (List.getElem?_eq_some_iff.mp hr).1
  obtain ⟨v0, v1, v2, v3⟩ := c7 h r hr
  rw [show 128 * 1 + (0 + h) = 128 + h by omega] at v0 v1 v2 v3
  intro d
  induction d with
  | zero =>
    intro x f σ hx hf R fr
    refine ⟨σ, fun {o} hh => b297_150 ⟨by omega, ?_⟩, ?_, fr⟩
    · rw [tn, fr 701 _ (by omega) (by omega), v1, if_neg (by omega), show ((128 + h : Nat) : Int) + 1 = ((128 + (h + 1) : Nat) : Int) by omega, show (i : Int) + ((r.2.1 : Nat) : Int) = ((i + r.2.1 : Nat) : Int) by omega]
      exact ⟨by omega, by omega, by omega, hh _⟩
    · rw [rl_0]
      exact R
  | succ d ih =>
    intro x f σ hx hf R fr
    obtain ⟨R1, R2, R3⟩ := R
    obtain ⟨σ', a1, a2, a3⟩ := ih (x + 1) (f ++ [-1]) (upS σ 687 (3900 + (i + x)) (-1)) (by omega) (by rw [List.length_append, List.length_singleton, hf]; omega) ⟨fun y v e => by rw [up_a (by decide)]; exact R1 y v e, fun y v e => by
      rcases ls_at e with ⟨z1, z2⟩ | ⟨z1, z2⟩
      · rw [up_k (by omega)]
        exact R2 y v z2
      · rw [z1, hf, up_s, z2], fun y v e => by
      rw [up_k (by omega)]
      exact R3 y v e⟩ (fun c y y1 y2 => by
      unfold upS
      rw [if_neg (by omega)]
      exact fr c y y1 y2)
    rw [show (-1 : Int) = m1Z (i + x) from rfl, show i + (x + 1) = i + x + 1 by omega, rl_c] at a2
    refine ⟨σ', fun {o} hh => b297_150 ⟨by omega, ?_⟩, a2, a3⟩
    rw [tn, fr 701 _ (by omega) (by omega), v1, if_pos (by omega), show (100 * (39 : Int) + (i : Int) + (x : Int)).toNat = 3900 + (i + x) by omega, show (x : Int) + 1 = ((x + 1 : Nat) : Int) by omega]
    exact ⟨by omega, by omega, by omega, by omega, by omega, a1 hh⟩
/-- a hunk of the second patch -/
theorem l297h {σ0 : Sg} {s t nb na nc : Nat} {F K G X Z : Nat → Int} {lB : List St} (C : CX8 σ0 s t nb na nc F K G X Z lB) {h i : Nat} {r : St} (hr : lB[h]? = some r) {M f g : List Int} {σ : Sg} (hi : i + r.2.1 ≤ nb) (hp : psK K r = (i : Int)) (hM : M.length + r.2.2.2 ≤ 99) (hf : f.length = i) (hg : g.length = M.length) (R : RS8 σ M f g) (fr : FR8 σ σ0) : ∃ σ', (∀ {o : Rs}, (∀ d9 : Option AV, C297_24 s t 39 40 (lB.length : Nat) ((128 + (h + 1) : Nat) : Int) ((M.length + r.2.2.2 : Nat) : Int) ((i + r.2.1 : Nat) : Int) d9 σ' o) → ∀ d9 : Option AV, C297_24 s t 39 40 (lB.length : Nat) ((128 + h : Nat) : Int) (M.length : Nat) i d9 σ o) ∧ RS8 σ' (M ++ rl Z r.2.2.1 r.2.2.2) (f ++ rl m1Z i r.2.1) (g ++ rl idZ r.2.2.1 r.2.2.2) ∧ FR8 σ' σ0 := by
  have CC := C
  obtain ⟨h1, h2, h3, h4, h5, h6, c1, c2, c3, c4, c5, c6, c7, c8, c9, c10, c11⟩ := C
  have hl := (List.getElem?_eq_some_iff.mp hr).1
  obtain ⟨σ1, a1, a2, a3⟩ := l297a CC hr (i := i) (f := f) (by omega) (by omega) r.2.2.2 0 M g σ (by omega) hM hg R fr
  rw [Nat.add_zero] at a2
  have hl2 : (M ++ rl Z r.2.2.1 r.2.2.2).length = M.length + r.2.2.2 := ap_len
  obtain ⟨σ2, e1, e2, e3⟩ := l297b CC hr (i := i) (M := M ++ rl Z r.2.2.1 r.2.2.2) (g := g ++ rl idZ r.2.2.1 r.2.2.2) hi (by rw [hl2]; exact hM) r.2.1 0 f σ1 (by omega) (by omega) a2 a3
  rw [Nat.add_zero] at e2
  rw [hl2] at e1
  refine ⟨σ2, fun {o} hx d9 => ?_, e2, e3⟩
  have t71 : C297_71 s t 39 40 (lB.length : Nat) ((128 + h : Nat) : Int) (M.length : Nat) i 0 σ o := a1 (e1 hx)
  have t46 : C297_46 s t 39 40 (lB.length : Nat) ((128 + h : Nat) : Int) (M.length : Nat) i d9 σ o := by
    refine b297_46 ⟨by omega, ?_⟩
    rw [if_pos (by omega)]
    refine ⟨_, _, d296 CC fr hr, ?_⟩
    rw [if_pos hp]
    exact t71
  refine b297_24 ⟨by omega, ?_⟩
  rw [tn, fr 688 s (by omega) (by omega), c1]
  by_cases y : ((nb : Nat) : Int) ≤ (i : Int)
  · rw [if_pos y]
    refine ⟨by omega, ?_⟩
    rw [if_pos (by omega)]
    exact t46
  · rw [if_neg y]
    exact t46
/-- a list's values -/
def gv (l : List Int) : Nat → Int := fun x => (l[x]?).getD 0
theorem gv_at {l : List Int} {x : Nat} (hx : x < l.length) : l[x]? = some (gv l x) := by
  unfold gv
  rw [List.getElem?_eq_getElem hx]
  rfl
theorem gv_v {l : List Int} {x : Nat} {v : Int} (h : l[x]? = some v) : gv l x = v := by
  unfold gv
  rw [h]
  rfl
/-- the end of it: the lines copied -/
theorem l297z {σ0 : Sg} {s t nb na nc : Nat} {F K G X Z : Nat → Int} {lB : List St} (C : CX8 σ0 s t nb na nc F K G X Z lB) {M f g : List Int} {σ : Sg} (hM : M.length ≤ 99) (hf : f.length = nb) (hg : g.length = M.length) (R : RS8 σ M f g) (fr : FR8 σ σ0) {d9 : Option AV} : ∃ s2, C297_24 s t 39 40 (lB.length : Nat) ((128 + lB.length : Nat) : Int) (M.length : Nat) nb d9 σ (rV s2) ∧ Slot s2 39 nb M.length X (gv M) (gv f) ∧ Slot s2 40 M.length nc (gv M) Z (gv g) ∧ ∀ c x, ¬ (685 ≤ c ∧ c ≤ 687 ∧ 3900 ≤ x ∧ x < 4100) → ¬ ((c = 688 ∨ c = 689) ∧ (x = 39 ∨ x = 40)) → s2 c x = σ0 c x := by
  obtain ⟨h1, h2, h3, h4, h5, h6, c1, c2, c3, c4, c5, c6, c7, c8, c9, c10, c11⟩ := C
  obtain ⟨R1, R2, R3⟩ := R
  -- the sizes
  obtain ⟨σ1, hσ1⟩ : ∃ σ1, σ1 = upS (upS (upS (upS σ 688 39 (nb : Nat)) 689 39 (M.length : Nat)) 688 40 (M.length : Nat)) 689 40 (nc : Nat) := ⟨_, rfl⟩
  have k1 : ∀ c x, ¬ ((c = 688 ∨ c = 689) ∧ (x = 39 ∨ x = 40)) → σ1 c x = σ c x := fun c x h => by
    rw [hσ1]
    unfold upS
    rw [if_neg (by omega), if_neg (by omega), if_neg (by omega), if_neg (by omega)]
  have z1 : σ1 688 39 = (nb : Nat) := by rw [hσ1, up_a (by decide), up_k (by decide), up_a (by decide), up_s]
  have z2 : σ1 689 39 = (M.length : Nat) := by rw [hσ1, up_k (by decide), up_a (by decide), up_s]
  have z3 : σ1 688 40 = (M.length : Nat) := by rw [hσ1, up_a (by decide), up_s]
  have z4 : σ1 689 40 = (nc : Nat) := by rw [hσ1, up_s]
  have L3 : ∀ (d x : Nat) (σ2 : Sg) (d1 d3 d5 d6 d7 d8 : Option AV), x + d = nc → (∀ y, y < x → σ2 686 (4000 + y) = Z y) → (∀ c y, ¬ (c = 685 ∧ 3900 ≤ y ∧ y < 4100) → ¬ (c = 686 ∧ 4000 ≤ y ∧ y < 4100) → σ2 c y = σ1 c y) → ∃ s2, C297_428 d1 t d3 40 d5 d6 d7 d8 x σ2 (rV s2) ∧ (∀ y, y < nc → s2 686 (4000 + y) = Z y) ∧ ∀ c y, ¬ (c = 686 ∧ 4000 ≤ y ∧ y < 4100) → s2 c y = σ2 c y := by
    intro d
    induction d with
    | zero =>
      intro x σ2 d1 d3 d5 d6 d7 d8 hx hv k2
      refine ⟨σ2, b297_428 ⟨by omega, ?_⟩, fun y hy => hv y (by omega), fun _ _ _ => rfl⟩
      rw [show ((40 : Int)).toNat = 40 from rfl, k2 689 40 (by omega) (by omega), z4, if_neg (by omega)]
    | succ d ih =>
      intro x σ2 d1 d3 d5 d6 d7 d8 hx hv k2
      have e : σ2 686 (100 * t + x) = Z x := by
        rw [k2 _ _ (by omega) (by omega), k1 _ _ (by omega), fr _ _ (by omega) (by omega)]
        exact c6 x (by omega)
      obtain ⟨s2, a1, a2, a3⟩ := ih (x + 1) (upS σ2 686 (4000 + x) (Z x)) d1 d3 d5 d6 d7 d8 (by omega) (fun y hy => by
        by_cases q : y = x
        · rw [q, up_s]
        · rw [up_k (by omega)]
          exact hv y (by omega)) (fun c y y1 y2 => by
        have : upS σ2 686 (4000 + x) (Z x) c y = σ2 c y := by
          unfold upS
          rw [if_neg (by omega)]
        rw [this]
        exact k2 c y y1 y2)
      refine ⟨s2, b297_428 ⟨by omega, ?_⟩, a2, fun c y y1 => by
        rw [a3 c y y1]
        unfold upS
        rw [if_neg (by omega)]⟩
      rw [show ((40 : Int)).toNat = 40 from rfl, k2 689 40 (by omega) (by omega), z4, if_pos (by omega), show (100 * (40 : Int) + (x : Int)).toNat = 4000 + x by omega, show (100 * (t : Int) + (x : Int)).toNat = 100 * t + x by omega, e, show (x : Int) + 1 = ((x + 1 : Nat) : Int) by omega]
      exact ⟨by omega, by omega, by omega, by omega, by omega, by omega, by omega, a1⟩
  have L2 : ∀ (d x : Nat) (σ2 : Sg) (d1 d5 d6 d8 : Option AV), x + d = M.length → (∀ y, y < x → σ2 685 (4000 + y) = gv M y) → (∀ c y, ¬ (c = 685 ∧ 3900 ≤ y ∧ y < 4100) → σ2 c y = σ1 c y) → ∃ s2, C297_387 d1 t 39 40 d5 d6 (M.length : Nat) d8 x σ2 (rV s2) ∧ (∀ y, y < nc → s2 686 (4000 + y) = Z y) ∧ (∀ y, y < M.length → s2 685 (4000 + y) = gv M y) ∧ ∀ c y, ¬ (c = 685 ∧ 4000 ≤ y ∧ y < 4100) → ¬ (c = 686 ∧ 4000 ≤ y ∧ y < 4100) → s2 c y = σ2 c y := by
    intro d
    induction d with
    | zero =>
      intro x σ2 d1 d5 d6 d8 hx hv k2
      obtain ⟨s2, a1, a2, a3⟩ := L3 nc 0 σ2 d1 (some (vI 39)) d5 d6 (some (vI ((M.length : Nat) : Int))) d8 (by omega) (fun y hy => absurd hy (Nat.not_lt_zero y)) (fun c y y1 y2 => k2 c y y1)
      refine ⟨s2, b297_387 ?_, a2, fun y hy => by rw [a3 _ _ (by omega)]; exact hv y (by omega), fun c y y1 y2 => a3 c y y2⟩
      rw [if_neg (by omega)]
      exact a1
    | succ d ih =>
      intro x σ2 d1 d5 d6 d8 hx hv k2
      have e : σ2 686 (3900 + x) = gv M x := by
        rw [k2 _ _ (by omega), k1 _ _ (by omega)]
        exact R1 x _ (gv_at (by omega))
      obtain ⟨s2, a1, a2, a3, a4⟩ := ih (x + 1) (upS σ2 685 (4000 + x) (gv M x)) d1 d5 d6 d8 (by omega) (fun y hy => by
        by_cases q : y = x
        · rw [q, up_s]
        · rw [up_k (by omega)]
          exact hv y (by omega)) (fun c y y1 => by
        have : upS σ2 685 (4000 + x) (gv M x) c y = σ2 c y := by
          unfold upS
          rw [if_neg (by omega)]
        rw [this]
        exact k2 c y y1)
      refine ⟨s2, b297_387 ?_, a2, a3, fun c y y1 y2 => by
        rw [a4 c y y1 y2]
        unfold upS
        rw [if_neg (by omega)]⟩
      rw [if_pos (by omega), show (100 * (40 : Int) + (x : Int)).toNat = 4000 + x by omega, show (100 * (39 : Int) + (x : Int)).toNat = 3900 + x by omega, e, show (x : Int) + 1 = ((x + 1 : Nat) : Int) by omega]
      exact ⟨by omega, by omega, by omega, by omega, by omega, by omega, by omega, a1⟩
  have L1 : ∀ (d x : Nat) (σ2 : Sg) (d5 d6 d8 : Option AV), x + d = nb → (∀ y, y < x → σ2 685 (3900 + y) = X y) → (∀ c y, ¬ (c = 685 ∧ 3900 ≤ y ∧ y < 4000) → σ2 c y = σ1 c y) → ∃ s2, C297_343 s t 39 40 d5 d6 (M.length : Nat) d8 x σ2 (rV s2) ∧ (∀ y, y < nc → s2 686 (4000 + y) = Z y) ∧ (∀ y, y < M.length → s2 685 (4000 + y) = gv M y) ∧ (∀ y, y < nb → s2 685 (3900 + y) = X y) ∧ ∀ c y, ¬ (c = 685 ∧ 3900 ≤ y ∧ y < 4100) → ¬ (c = 686 ∧ 4000 ≤ y ∧ y < 4100) → s2 c y = σ1 c y := by
    intro d
    induction d with
    | zero =>
      intro x σ2 d5 d6 d8 hx hv k2
      obtain ⟨s2, a1, a2, a3, a4⟩ := L2 M.length 0 σ2 (some (vI s)) d5 d6 d8 (by omega) (fun y hy => absurd hy (Nat.not_lt_zero y)) (fun c y y1 => k2 c y (by omega))
      refine ⟨s2, b297_343 ⟨by omega, ?_⟩, a2, a3, fun y hy => by rw [a4 _ _ (by omega) (by omega)]; exact hv y (by omega), fun c y y1 y2 => by rw [a4 c y (by omega) y2]; exact k2 c y (by omega)⟩
      rw [show ((39 : Int)).toNat = 39 from rfl, k2 688 39 (by omega), z1, if_neg (by omega)]
      exact a1
    | succ d ih =>
      intro x σ2 d5 d6 d8 hx hv k2
      have e : σ2 685 (100 * s + x) = X x := by
        rw [k2 _ _ (by omega), k1 _ _ (by omega), fr _ _ (by omega) (by omega)]
        exact c3 x (by omega)
      obtain ⟨s2, a1, a2, a3, a4, a5⟩ := ih (x + 1) (upS σ2 685 (3900 + x) (X x)) d5 d6 d8 (by omega) (fun y hy => by
        by_cases q : y = x
        · rw [q, up_s]
        · rw [up_k (by omega)]
          exact hv y (by omega)) (fun c y y1 => by
        have : upS σ2 685 (3900 + x) (X x) c y = σ2 c y := by
          unfold upS
          rw [if_neg (by omega)]
        rw [this]
        exact k2 c y y1)
      refine ⟨s2, b297_343 ⟨by omega, ?_⟩, a2, a3, a4, a5⟩
      rw [show ((39 : Int)).toNat = 39 from rfl, k2 688 39 (by omega), z1, if_pos (by omega), show (100 * (39 : Int) + (x : Int)).toNat = 3900 + x by omega, show (100 * (s : Int) + (x : Int)).toNat = 100 * s + x by omega, e, show (x : Int) + 1 = ((x + 1 : Nat) : Int) by omega]
      exact ⟨by omega, by omega, by omega, by omega, by omega, by omega, by omega, a1⟩
  obtain ⟨s2, a1, a2, a3, a4, a5⟩ := L1 nb 0 σ1 (some (vI ((lB.length : Nat) : Int))) (some (vI ((128 + lB.length : Nat) : Int))) (some (vI ((nb : Nat) : Int))) (by omega) (fun y hy => absurd hy (Nat.not_lt_zero y)) (fun _ _ _ => rfl)
  refine ⟨s2, b297_24 ⟨by omega, ?_⟩, ⟨by rw [a5 _ _ (by omega) (by omega)]; exact z1, by rw [a5 _ _ (by omega) (by omega)]; exact z2, a4, fun y hy => ?_, fun y hy => ?_⟩, ⟨by rw [a5 _ _ (by omega) (by omega)]; exact z3, by rw [a5 _ _ (by omega) (by omega)]; exact z4, a3, a2, fun y hy => ?_⟩, fun c y y1 y2 => by rw [a5 c y (by omega) (by omega), k1 c y y2]; exact fr c y (by omega) (by omega)⟩
  · rw [tn, fr 688 s (by omega) (by omega), c1, if_pos (by omega)]
    refine ⟨by omega, ?_⟩
    rw [if_neg (by omega)]
    refine ⟨by omega, by omega, by omega, by omega, by omega, by omega, ?_⟩
    have e : upS (upS (upS (upS σ 688 ((39 : Int)).toNat (nb : Nat)) 689 ((39 : Int)).toNat (M.length : Nat)) 688 ((40 : Int)).toNat (M.length : Nat)) 689 ((40 : Int)).toNat (upS (upS (upS σ 688 ((39 : Int)).toNat (nb : Nat)) 689 ((39 : Int)).toNat (M.length : Nat)) 688 ((40 : Int)).toNat (M.length : Nat) 689 ((t : Int)).toNat) = σ1 := by
      rw [hσ1, tn, up_a (show ¬ (689 : Nat) = 688 by decide), up_k (show ¬ t = ((39 : Int)).toNat from by rw [show ((39 : Int)).toNat = 39 from rfl]; omega), up_a (show ¬ (689 : Nat) = 688 by decide), fr 689 t (by omega) (by omega), c2]
      rfl
    rw [e]
    exact a1
  · show s2 686 (3900 + y) = gv M y
    rw [a5 _ _ (by omega) (by omega), k1 _ _ (by omega)]
    exact R1 y _ (gv_at hy)
  · show s2 687 (3900 + y) = gv f y
    rw [a5 _ _ (by omega) (by omega), k1 _ _ (by omega)]
    exact R2 y _ (gv_at (by omega))
  · show s2 687 (4000 + y) = gv g y
    rw [a5 _ _ (by omega) (by omega), k1 _ _ (by omega)]
    exact R3 y _ (gv_at (by omega))
end
