/-! Shifting all hunks, and the pairs around them: the class's side. -/
noncomputable section
def shF (O N : Nat → Int) (nb : Nat) (F : Nat → Int) (l : List St) (h : Nat) : Nat → Int := match l[h]? with
  | none => F
  | some q => if q.2.1 = 0 then mvF F (peo l h 0) (nso nb l h) (q.1 + bpl N q.2.2.1 q.2.2.2 (mbk l h q) (mon nb l h q) - q.2.2.1) 0 (bpl N q.2.2.1 q.2.2.2 (mbk l h q) (mon nb l h q)) q.2.2.2
    else if q.2.2.2 = 0 then mvF F (peo l h 0) (nso nb l h) (bpl O q.1 q.2.1 (mbk l h q) (mon nb l h q)) q.2.1 (q.2.2.1 + bpl O q.1 q.2.1 (mbk l h q) (mon nb l h q) - q.1) 0
    else F
theorem sh1_a {O N : Nat → Int} {nb h o nw a : Nat} {l : List St} (hq : l[h]? = some (o, 0, nw, a)) : sh1 O N nb l h = l.set h (o + bpl N nw a (mbk l h (o, 0, nw, a)) (mon nb l h (o, 0, nw, a)) - nw, 0, bpl N nw a (mbk l h (o, 0, nw, a)) (mon nb l h (o, 0, nw, a)), a) := by
  unfold sh1
  rw [hq]
  dsimp only
  rw [if_pos rfl]
theorem sh1_d {O N : Nat → Int} {nb h o d nw : Nat} {l : List St} (hd : ¬ d = 0) (hq : l[h]? = some (o, d, nw, 0)) : sh1 O N nb l h = l.set h (bpl O o d (mbk l h (o, d, nw, 0)) (mon nb l h (o, d, nw, 0)), d, nw + bpl O o d (mbk l h (o, d, nw, 0)) (mon nb l h (o, d, nw, 0)) - o, 0) := by
  unfold sh1
  rw [hq]
  dsimp only
  rw [if_neg hd, if_pos rfl]
theorem sh1_n {O N : Nat → Int} {nb h o d nw a : Nat} {l : List St} (hd : ¬ d = 0) (ha : ¬ a = 0) (hq : l[h]? = some (o, d, nw, a)) : sh1 O N nb l h = l := by
  unfold sh1
  rw [hq]
  dsimp only
  rw [if_neg hd, if_neg ha]
theorem shF_a {O N F : Nat → Int} {nb h o nw a : Nat} {l : List St} (hq : l[h]? = some (o, 0, nw, a)) : shF O N nb F l h = mvF F (peo l h 0) (nso nb l h) (o + bpl N nw a (mbk l h (o, 0, nw, a)) (mon nb l h (o, 0, nw, a)) - nw) 0 (bpl N nw a (mbk l h (o, 0, nw, a)) (mon nb l h (o, 0, nw, a))) a := by
  unfold shF
  rw [hq]
  dsimp only
  rw [if_pos rfl]
theorem shF_d {O N F : Nat → Int} {nb h o d nw : Nat} {l : List St} (hd : ¬ d = 0) (hq : l[h]? = some (o, d, nw, 0)) : shF O N nb F l h = mvF F (peo l h 0) (nso nb l h) (bpl O o d (mbk l h (o, d, nw, 0)) (mon nb l h (o, d, nw, 0))) d (nw + bpl O o d (mbk l h (o, d, nw, 0)) (mon nb l h (o, d, nw, 0)) - o) 0 := by
  unfold shF
  rw [hq]
  dsimp only
  rw [if_neg hd, if_pos rfl]
theorem shF_n {O N F : Nat → Int} {nb h o d nw a : Nat} {l : List St} (hd : ¬ d = 0) (ha : ¬ a = 0) (hq : l[h]? = some (o, d, nw, a)) : shF O N nb F l h = F := by
  unfold shF
  rw [hq]
  dsimp only
  rw [if_neg hd, if_neg ha]
/-- what is known of a hunk and its room -/
theorem DS_rm {F : Nat → Int} {nb na h o d nw a : Nat} {l : List St} (H : DS F nb na l 0 0 0) (hq : l[h]? = some (o, d, nw, a)) : mbk l h (o, d, nw, a) ≤ o ∧ mbk l h (o, d, nw, a) ≤ nw ∧ nw + a + mon nb l h (o, d, nw, a) ≤ na ∧ o + d + mon nb l h (o, d, nw, a) ≤ nb ∧ 0 < d + a := by
  obtain ⟨⟨pj, i0, i1, i2⟩, i3, i4, i5, i6, i7, i8, i9, i10, i11, i12⟩ := DS_at _ _ _ _ _ _ H hq
  have i1 : nw = pj + (o - peo l h 0) := i1
  have i4 : o + d ≤ nso nb l h := i4
  have i8 : nw + a + (nso nb l h - (o + d)) ≤ na := i8
  have i12 : peo l h 0 ≤ o := i12
  have m1 : mbk l h (o, d, nw, a) ≤ o - peo l h 0 := Nat.sub_le _ _
  have m2 : mon nb l h (o, d, nw, a) ≤ nso nb l h - (o + d) := Nat.sub_le _ _
  exact ⟨by omega, by omega, by omega, by omega, i7⟩
theorem sh1_DS {O N F : Nat → Int} {nb na h : Nat} {l : List St} (H : DS F nb na l 0 0 0) (E : EQL O N F nb) : DS (shF O N nb F l h) nb na (sh1 O N nb l h) 0 0 0 ∧ EQL O N (shF O N nb F l h) nb := by
  cases hq : l[h]? with
  | none =>
    unfold shF sh1
    rw [hq]
    exact ⟨H, E⟩
  | some q =>
    obtain ⟨o, d, nw, a⟩ := q
    obtain ⟨r1, r2, r3, r4, r5⟩ := DS_rm H hq
    by_cases hd : d = 0
    · subst hd
      rw [sh1_a hq, shF_a hq]
      have bb := bpl_b (X := N) (s := nw) (n := a) (mb := mbk l h (o, 0, nw, a)) (mo := mon nb l h (o, 0, nw, a)) (by omega)
      have rb := (rbk_b (X := N) (s := nw) (n := a) (m := mbk l h (o, 0, nw, a))).1
      have ro := (ron_b (X := N) (s := nw) (n := a) (m := mon nb l h (o, 0, nw, a))).1
      exact ⟨DS_mvF H hq (by omega) (by omega) (by omega), EQ_add H E hq (by omega) bb.1 bb.2⟩
    · by_cases ha : a = 0
      · subst ha
        rw [sh1_d hd hq, shF_d hd hq]
        have bb := bpl_b (X := O) (s := o) (n := d) (mb := mbk l h (o, d, nw, 0)) (mo := mon nb l h (o, d, nw, 0)) (by omega)
        have rb := (rbk_b (X := O) (s := o) (n := d) (m := mbk l h (o, d, nw, 0))).1
        have ro := (ron_b (X := O) (s := o) (n := d) (m := mon nb l h (o, d, nw, 0))).1
        exact ⟨DS_mvF H hq (by omega) (by omega) (by omega), EQ_drop H E hq (by omega) bb.1 bb.2⟩
      · rw [sh1_n hd ha hq, shF_n hd ha hq]
        exact ⟨H, E⟩
def shsF (O N : Nat → Int) (nb : Nat) : Nat → Nat → (Nat → Int) → List St → (Nat → Int)
  | 0, _, F, _ => F
  | d + 1, h, F, l => shsF O N nb d (h + 1) (shF O N nb F l h) (sh1 O N nb l h)
theorem shs_DS {O N : Nat → Int} {nb na : Nat} : ∀ (d h : Nat) (F : Nat → Int) (l : List St), DS F nb na l 0 0 0 → EQL O N F nb → DS (shsF O N nb d h F l) nb na (shs O N nb d h l) 0 0 0 ∧ EQL O N (shsF O N nb d h F l) nb := by
  intro d
  induction d with
  | zero => intro h F l H E; exact ⟨H, E⟩
  | succ d ih =>
    intro h F l H E
    obtain ⟨H1, E1⟩ := sh1_DS (h := h) H E
    exact ih (h + 1) _ _ H1 E1
theorem l108 {P nb na : Nat} {O N : Nat → Int} {σ0 : Sg} (hP : isPatch P = true) (hb : nb ≤ 100) (ha : na ≤ 100) (w1 : wR σ0 (P + 1)) (w3 : wR σ0 (P + 3)) (z1 : σ0 (P + 1) 1 = (nb : Nat)) (z3 : σ0 (P + 3) 1 = (na : Nat)) (hO : ∀ i, i < nb → σ0 (P + 2) i = O i) (hN : ∀ i, i < na → σ0 (P + 4) i = N i) (lO : ∀ i, i < nb → isLn (O i) = true) (lN : ∀ i, i < na → isLn (N i) = true) : ∀ (d h : Nat) (l : List St) (F : Nat → Int) (σ : Sg), h + d = l.length → DS F nb na l 0 0 0 → EQL O N F nb → PC σ P l → wR σ (P + 9) → (∀ c k, ¬ c = P + 10 → σ c k = σ0 c k) → ∃ s, (∀ {o : Rs}, (∃ (s26 : Sg), Dd 113 [vA P] s (rV s26) ∧ o = rV s26) → C108_2 P h σ o) ∧ PC s P (shs O N nb d h l) ∧ wR s (P + 9) ∧ ∀ c k, ¬ c = P + 10 → s c k = σ0 c k := by
  intro d
  induction d with
  | zero =>
    intro h l F σ hh H E C w fr
    refine ⟨σ, fun {o} hx => b108_2 hP ⟨_, _, d98' hP C, ?_⟩, C, w, fr⟩
    rw [if_neg (by omega)]
    exact hx
  | succ d ih =>
    intro h l F σ hh H E C w fr
    obtain ⟨q, hq⟩ : ∃ q, l[h]? = some q := ⟨l[h], List.getElem?_eq_getElem (by omega)⟩
    have hlen4 : 4 * l.length ≤ 5000 := by
      have := cap_le w.1
      have := w.2.2
      have := C.1
      omega
    obtain ⟨o, dr, nw, a⟩ := q
    obtain ⟨r1, r2, r3, r4, r5⟩ := DS_rm H hq
    have v1 : wR σ (P + 1) := ⟨w1.1, by rw [fr _ _ (by omega)]; exact w1.2⟩
    have v3 : wR σ (P + 3) := ⟨w3.1, by rw [fr _ _ (by omega)]; exact w3.2⟩
    have y1 : σ (P + 1) 1 = (nb : Nat) := by rw [fr _ _ (by omega)]; exact z1
    have y3 : σ (P + 3) 1 = (na : Nat) := by rw [fr _ _ (by omega)]; exact z3
    have xO : ∀ i, i < nb → σ (P + 1 + 1) i = O i := fun i hi => by rw [fr _ _ (by omega)]; exact hO i hi
    have xN : ∀ i, i < na → σ (P + 3 + 1) i = N i := fun i hi => by rw [fr _ _ (by omega)]; exact hN i hi
    obtain ⟨e101, e104⟩ := pc_at2 hP w C hq
    obtain ⟨e100, -, e103, -⟩ := pc_at hP w C hq
    have e101 : Dd 101 [vA P, vI h] σ (rI (dr : Nat) σ) := e101
    have e104 : Dd 104 [vA P, vI h] σ (rI (a : Nat) σ) := e104
    have e100 : Dd 100 [vA P, vI h] σ (rI (o : Nat) σ) := e100
    have e103 : Dd 103 [vA P, vI h] σ (rI (nw : Nat) σ) := e103
    obtain ⟨H1, E1⟩ := sh1_DS (h := h) H E
    have go : ∀ (σ1 : Sg), PC σ1 P (sh1 O N nb l h) → wR σ1 (P + 9) → (∀ c k, ¬ c = P + 10 → σ1 c k = σ c k) → (∀ {o : Rs}, C108_67 P h σ1 o → C108_2 P h σ o) → ∃ s, (∀ {o : Rs}, (∃ (s26 : Sg), Dd 113 [vA P] s (rV s26) ∧ o = rV s26) → C108_2 P h σ o) ∧ PC s P (shs O N nb (d + 1) h l) ∧ wR s (P + 9) ∧ ∀ c k, ¬ c = P + 10 → s c k = σ0 c k := by
      intro σ1 C1 w1' f1 to
      obtain ⟨s, a1, a2, a3, a4⟩ := ih (h + 1) (sh1 O N nb l h) _ σ1 (by rw [sh1_len]; omega) H1 E1 C1 w1' (fun c k y => by rw [f1 c k y]; exact fr c k y)
      refine ⟨s, fun {o} hx => to (b108_67 ⟨by omega, ?_⟩), a2, a3, a4⟩
      rw [show (h : Int) + 1 = ((h + 1 : Nat) : Int) by omega]
      exact a1 hx
    by_cases hd : dr = 0
    · subst hd
      obtain ⟨s', b1, b2, b3, b4⟩ := d109 (R := P + 3) (m := na) (s := nw) (n := a) (X := N) hP w C y1 hb H hq v3 (by omega) y3 xN lN r2 (by omega) (by omega) (by omega) (by omega) ha ha
      rw [Nat.add_sub_cancel_left] at b2
      rw [← sh1_a (O := O) hq] at b2
      refine go s' b2 b3 b4 (fun {o'} hx => b108_2 hP ⟨_, _, d98' hP C, ?_⟩)
      rw [if_pos (by omega)]
      refine ⟨_, _, e101, ?_⟩
      rw [if_pos (by omega)]
      exact ⟨_, _, e103, _, _, e104, _, b1, hx⟩
    · by_cases hz : a = 0
      · subst hz
        obtain ⟨s', b1, b2, b3, b4⟩ := d109 (R := P + 1) (m := nb) (s := o) (n := dr) (X := O) hP w C y1 hb H hq v1 (by omega) y1 xO lO r1 (by omega) (by omega) (by omega) (by omega) hb ha
        rw [Nat.add_sub_cancel_left] at b2
        rw [← sh1_d (N := N) hd hq] at b2
        refine go s' b2 b3 b4 (fun {o'} hx => b108_2 hP ⟨_, _, d98' hP C, ?_⟩)
        rw [if_pos (by omega)]
        refine ⟨_, _, e101, ?_⟩
        rw [if_neg (show ¬ ((dr : Nat) : Int) = 0 by omega)]
        refine ⟨_, _, e104, ?_⟩
        rw [if_pos (show ((0 : Nat) : Int) = 0 from rfl)]
        exact ⟨_, _, e100, _, _, e101, _, b1, hx⟩
      · refine go σ (by rw [sh1_n hd hz hq]; exact C) w (fun _ _ _ => rfl) (fun {o'} hx => b108_2 hP ⟨_, _, d98' hP C, ?_⟩)
        rw [if_pos (by omega)]
        refine ⟨_, _, e101, ?_⟩
        rw [if_neg (by omega)]
        refine ⟨_, _, e104, ?_⟩
        rw [if_neg (by omega)]
        exact hx
/-- by how much a paired line ahead of a hunk lies further on -/
def dft (l : List St) (h : Nat) : Int := if h = 0 then 0 else match l[h - 1]? with
  | some r => ((r.2.2.1 + r.2.2.2 : Nat) : Int) - ((r.1 + r.2.1 : Nat) : Int)
  | none => 0
theorem d107 {σ : Sg} {P h : Nat} {l : List St} (hP : isPatch P = true) (w : wR σ (P + 9)) (C : PC σ P l) (hh : h ≤ l.length) : Dd 107 [vA P, vI h] σ (rI (dft l h) σ) ∧ -100 ≤ dft l h ∧ dft l h ≤ 100 := by
  cases h with
  | zero =>
    have e : dft l 0 = 0 := by
      unfold dft
      rw [if_pos rfl]
    rw [e]
    refine ⟨b107 hP ?_, by omega, by omega⟩
    rw [if_neg (by omega)]
  | succ h =>
    obtain ⟨r, hr⟩ : ∃ r, l[h]? = some r := ⟨l[h], List.getElem?_eq_getElem (by omega)⟩
    have b := C.2.2 h r hr
    obtain ⟨-, e102, -, e105⟩ := pc_at hP w C hr
    have hlen4 : 4 * l.length ≤ 5000 := by
      have := cap_le w.1
      have := w.2.2
      have := C.1
      omega
    have e : dft l (h + 1) = ((r.2.2.1 + r.2.2.2 : Nat) : Int) - ((r.1 + r.2.1 : Nat) : Int) := by
      unfold dft
      rw [if_neg (by omega), Nat.add_sub_cancel, hr]
    rw [e]
    refine ⟨b107 hP ?_, by omega, by omega⟩
    rw [if_pos (by omega), show ((h + 1 : Nat) : Int) - 1 = ((h : Nat) : Int) by omega]
    exact ⟨by omega, _, _, e105, by omega, _, _, e102, by omega, rfl⟩
def gnd (nb : Nat) (l : List St) (h : Nat) : Nat := match l[h]? with
  | some r => r.1
  | none => nb
/-- the paired lines ahead of a hunk, or behind the last one -/
theorem DS_gap {F : Nat → Int} {nb na : Nat} {l : List St} (H : DS F nb na l 0 0 0) {h : Nat} (hh : h ≤ l.length) : peo l h 0 ≤ gnd nb l h ∧ gnd nb l h ≤ nb ∧ ∀ x, peo l h 0 ≤ x → x < gnd nb l h → F x = (x : Int) + dft l h := by
  cases h with
  | zero =>
    have e : dft l 0 = 0 := by
      unfold dft
      rw [if_pos rfl]
    have b := DS_b _ _ _ _ H
    rw [e, peo_0]
    cases l with
    | nil =>
      obtain ⟨h1, h2, h3, h4⟩ := H
      refine ⟨Nat.zero_le _, Nat.le_refl nb, fun x _ y2 => ?_⟩
      have y2 : x < nb := y2
      rw [h4 x (Nat.zero_le x) y2]
      omega
    | cons q t =>
      have bq := b.2.2 q List.mem_cons_self
      obtain ⟨h1, h2, h3, h4, h5, h6⟩ := H
      refine ⟨Nat.zero_le _, by show q.1 ≤ nb; omega, fun x _ y2 => ?_⟩
      have y2 : x < q.1 := y2
      rw [h3 x (Nat.zero_le x) y2]
      omega
  | succ h =>
    obtain ⟨r, hr⟩ : ∃ r, l[h]? = some r := ⟨l[h], List.getElem?_eq_getElem (by omega)⟩
    obtain ⟨-, i3, i4, i5, i6, i7, i8, i9, i10, i11, i12⟩ := DS_at _ _ _ _ _ _ H hr
    have e : dft l (h + 1) = ((r.2.2.1 + r.2.2.2 : Nat) : Int) - ((r.1 + r.2.1 : Nat) : Int) := by
      unfold dft
      rw [if_neg (by omega), Nat.add_sub_cancel, hr]
    have eg : gnd nb l (h + 1) = nso nb l h := rfl
    rw [e, eg, peo_l l h 0 r hr]
    refine ⟨i4, i5, fun x y1 y2 => ?_⟩
    rw [i6 x y1 y2]
    omega
/-- the way back, up to an old line -/
def KI (F : Nat → Int) (i0 : Nat) (K : Nat → Int) (na : Nat) : Prop := (∀ y : Nat, y < na → K y = -1 ∨ ∃ x : Nat, K y = (x : Int) ∧ x < i0 ∧ F x = (y : Int)) ∧ ∀ x, x < i0 → ¬ F x = -1 → K (F x).toNat = (x : Int)
theorem l113b {P nb na h : Nat} {F : Nat → Int} {l : List St} {σ0 : Sg} {d1 : Option AV} (hP : isPatch P = true) (hb : nb ≤ 100) (ha : na ≤ 100) (H : DS F nb na l 0 0 0) (hh : h ≤ l.length) (C : PC σ0 P l) (w9 : wR σ0 (P + 9)) (w5 : wR σ0 (P + 5)) (w7 : wR σ0 (P + 7)) (z5 : σ0 (P + 5) 1 = (nb : Nat)) (z7 : σ0 (P + 7) 1 = (na : Nat)) : ∀ (d i : Nat) (σ : Sg), i + d = gnd nb l h → peo l h 0 ≤ i → (∀ c k, ¬ c = P + 6 → ¬ c = P + 8 → σ c k = σ0 c k) → (∀ x, x < i → σ (P + 6) x = F x) → (∀ x, i ≤ x → x < nb → σ (P + 6) x = -1) → KI F i (σ (P + 8)) na → ∃ s, (∀ {o : Rs}, C113_69 P d1 h (gnd nb l h : Nat) (gnd nb l h : Nat) s o → C113_69 P d1 h (gnd nb l h : Nat) i σ o) ∧ (∀ c k, ¬ c = P + 6 → ¬ c = P + 8 → s c k = σ0 c k) ∧ (∀ x, x < gnd nb l h → s (P + 6) x = F x) ∧ (∀ x, gnd nb l h ≤ x → x < nb → s (P + 6) x = -1) ∧ KI F (gnd nb l h) (s (P + 8)) na := by
  obtain ⟨g1, g2, g3⟩ := DS_gap H hh
  have V := DS_VF H
  intro d
  induction d with
  | zero =>
    intro i σ hi _ fr v1 v2 K
    have e : i = gnd nb l h := by omega
    rw [e] at v1 v2 K ⊢
    exact ⟨σ, fun {o} hx => hx, fr, v1, v2, K⟩
  | succ d ih =>
    intro i σ hi hpi fr v1 v2 K
    have fi := g3 i hpi (by omega)
    have vi := V.1 i (by omega)
    have Cσ : ∀ (s : Sg), (∀ c k, ¬ c = P + 6 → ¬ c = P + 8 → s c k = σ0 c k) → PC s P l ∧ wR s (P + 9) ∧ wR s (P + 5) ∧ wR s (P + 7) ∧ s (P + 5) 1 = (nb : Nat) ∧ s (P + 7) 1 = (na : Nat) := by
      intro s hs
      exact ⟨PC_fr (fun k => hs _ _ (by omega) (by omega)) (fun k => hs _ _ (by omega) (by omega)) C, ⟨w9.1, by rw [hs _ _ (by omega) (by omega)]; exact w9.2⟩, ⟨w5.1, by rw [hs _ _ (by omega) (by omega)]; exact w5.2⟩, ⟨w7.1, by rw [hs _ _ (by omega) (by omega)]; exact w7.2⟩, by rw [hs _ _ (by omega) (by omega)]; exact z5, by rw [hs _ _ (by omega) (by omega)]; exact z7⟩
    obtain ⟨C1, x9, x5, x7, y5, y7⟩ := Cσ σ fr
    obtain ⟨q1, bd1, bd2⟩ := d107 hP x9 C1 hh
    have hF0 : ¬ F i = -1 := by
      intro e
      rcases vi with z | z
      · have : (0 : Int) ≤ F i := by
          obtain ⟨k1, k2⟩ := DS_v _ _ _ _ H
          by_cases y : h = 0
          · subst y
            have : dft l 0 = 0 := by
              unfold dft
              rw [if_pos rfl]
            omega
          · obtain ⟨r, hr⟩ : ∃ r, l[h - 1]? = some r := ⟨l[h - 1], List.getElem?_eq_getElem (by omega)⟩
            have e' : dft l h = ((r.2.2.1 + r.2.2.2 : Nat) : Int) - ((r.1 + r.2.1 : Nat) : Int) := by
              unfold dft
              rw [if_neg y, hr]
            have hp := peo_l l (h - 1) 0 r hr
            rw [show h - 1 + 1 = h by omega] at hp
            omega
        omega
      · omega
    have hFi : 0 ≤ F i ∧ F i < (na : Int) := by
      rcases vi with z | z
      · exact absurd z hF0
      · exact z
    obtain ⟨j, hj⟩ := Int.eq_ofNat_of_zero_le hFi.1
    have q2 := d148 (i := (i : Int)) (v := (j : Int)) x5
    rw [st_in (n := nb) y5 (by omega)] at q2
    have f1 : ∀ c k, ¬ c = P + 6 → ¬ c = P + 8 → upS σ (P + 5 + 1) i (j : Int) c k = σ0 c k := fun c k a b => by rw [up_a (by omega)]; exact fr c k a b
    obtain ⟨C2, x9', x5', x7', y5', y7'⟩ := Cσ _ f1
    obtain ⟨q3, -, -⟩ := d107 hP x9' C2 hh
    have q4 := d148 (i := (j : Int)) (v := (i : Int)) x7'
    rw [st_in (n := na) y7' (by omega)] at q4
    have f2 : ∀ c k, ¬ c = P + 6 → ¬ c = P + 8 → upS (upS σ (P + 5 + 1) i (j : Int)) (P + 7 + 1) j (i : Int) c k = σ0 c k := fun c k a b => by rw [up_a (by omega)]; exact f1 c k a b
    obtain ⟨s, a1, a2, a3, a4, a5⟩ := ih (i + 1) (upS (upS σ (P + 5 + 1) i (j : Int)) (P + 7 + 1) j (i : Int)) (by omega) (by omega) f2 (fun x hx => by
      rw [up_a (by omega)]
      by_cases e : x = i
      · rw [e]
        show upS σ (P + 6) i (j : Int) (P + 6) i = F i
        rw [up_s, hj]
      · show upS σ (P + 6) i (j : Int) (P + 6) x = F x
        rw [up_k e]
        exact v1 x (by omega)) (fun x h1 h2 => by
      rw [up_a (by omega)]
      show upS σ (P + 6) i (j : Int) (P + 6) x = -1
      rw [up_k (by omega)]
      exact v2 x (by omega) h2) (by
      have eK : ∀ y, upS (upS σ (P + 5 + 1) i (j : Int)) (P + 7 + 1) j (i : Int) (P + 8) y = if y = j then (i : Int) else σ (P + 8) y := fun y => by
        show upS (upS σ (P + 6) i (j : Int)) (P + 8) j (i : Int) (P + 8) y = _
        by_cases e : y = j
        · rw [if_pos e, e, up_s]
        · rw [if_neg e, up_k e, up_a (by omega)]
      refine ⟨fun y hy => ?_, fun x hx hn => ?_⟩
      · rw [eK]
        by_cases e : y = j
        · rw [if_pos e]
          exact Or.inr ⟨i, rfl, by omega, by rw [e, hj]⟩
        · rw [if_neg e]
          rcases K.1 y hy with z | ⟨x, z1, z2, z3⟩
          · exact Or.inl z
          · exact Or.inr ⟨x, z1, by omega, z3⟩
      · rw [eK]
        by_cases e : x = i
        · rw [e, hj, tn, if_pos rfl]
        · have lt := V.2 x i (by omega) (by omega) hn hF0
          have z := V.1 x (by omega)
          rw [if_neg (by
            intro e2
            rcases z with z | z
            · exact hn z
            · omega)]
          exact K.2 x (by omega) hn)
    refine ⟨s, fun {o} hx => b113_69 hP ?_, a2, a3, a4, a5⟩
    rw [if_pos (by omega)]
    refine ⟨_, _, q1, by omega, ?_⟩
    rw [show (i : Int) + dft l h = (j : Int) by omega]
    refine ⟨_, q2, _, _, q3, by omega, ?_⟩
    rw [show (i : Int) + dft l h = (j : Int) by omega]
    refine ⟨_, q4, by omega, ?_⟩
    rw [show (i : Int) + 1 = ((i + 1 : Nat) : Int) by omega]
    exact a1 hx
theorem l113a {P nb na : Nat} {F : Nat → Int} {l : List St} {σ0 : Sg} (hP : isPatch P = true) (hb : nb ≤ 100) (ha : na ≤ 100) (H : DS F nb na l 0 0 0) (C : PC σ0 P l) (w9 : wR σ0 (P + 9)) (w5 : wR σ0 (P + 5)) (w7 : wR σ0 (P + 7)) (z1 : σ0 (P + 1) 1 = (nb : Nat)) (z5 : σ0 (P + 5) 1 = (nb : Nat)) (z7 : σ0 (P + 7) 1 = (na : Nat)) : ∀ (d h : Nat) (σ : Sg) (d3 d4 : Option AV), h + d = l.length → (∀ c k, ¬ c = P + 6 → ¬ c = P + 8 → σ c k = σ0 c k) → (∀ x, x < peo l h 0 → σ (P + 6) x = F x) → (∀ x, peo l h 0 ≤ x → x < nb → σ (P + 6) x = -1) → KI F (peo l h 0) (σ (P + 8)) na → ∃ s, C113_34 P (peo l h 0 : Nat) h d3 d4 σ (rV s) ∧ (∀ c k, ¬ c = P + 6 → ¬ c = P + 8 → s c k = σ0 c k) ∧ (∀ x, x < nb → s (P + 6) x = F x) ∧ KI F nb (s (P + 8)) na := by
  have hlen4 : 4 * l.length ≤ 5000 := by
    have := cap_le w9.1
    have := w9.2.2
    have := C.1
    omega
  have Cσ : ∀ (s : Sg), (∀ c k, ¬ c = P + 6 → ¬ c = P + 8 → s c k = σ0 c k) → PC s P l ∧ wR s (P + 9) := by
    intro s hs
    exact ⟨PC_fr (fun k => hs _ _ (by omega) (by omega)) (fun k => hs _ _ (by omega) (by omega)) C, ⟨w9.1, by rw [hs _ _ (by omega) (by omega)]; exact w9.2⟩⟩
  intro d
  induction d with
  | zero =>
    intro h σ d3 d4 hh fr v1 v2 K
    have hle : h = l.length := by omega
    obtain ⟨g1, g2, g3⟩ := DS_gap H (h := h) (by omega)
    have eg : gnd nb l h = nb := by
      unfold gnd
      rw [List.getElem?_eq_none (by omega)]
    obtain ⟨s, a1, a2, a3, a4, a5⟩ := l113b (d1 := some (vI (peo l h 0 : Nat))) hP hb ha H (by omega) C w9 w5 w7 z5 z7 (gnd nb l h - peo l h 0) (peo l h 0) σ (by omega) (Nat.le_refl _) fr v1 v2 K
    rw [eg] at a1 a3 a5
    obtain ⟨C1, x9⟩ := Cσ σ fr
    obtain ⟨C2, x9'⟩ := Cσ s a2
    have q146 := d146 (σ := σ) (pat_1 hP)
    rw [fr _ _ (by omega) (by omega), z1] at q146
    have stop : ∀ d3 d4, C113_34 P (nb : Nat) ((h + 1 : Nat) : Int) d3 d4 s (rV s) := fun d3 d4 => by
      refine b113_34 hP ⟨_, _, d98' hP C2, ?_⟩
      rw [if_neg (by omega)]
    refine ⟨s, b113_34 hP ⟨_, _, d98' hP C1, ?_⟩, a2, a3, a5⟩
    rw [if_pos (by omega)]
    refine ⟨_, _, d98' hP C1, ?_⟩
    rw [if_neg (by omega)]
    refine ⟨_, _, q146, b113_65 (a1 (b113_69 hP ?_))⟩
    rw [if_neg (by omega)]
    refine ⟨_, _, d98' hP C2, ?_⟩
    rw [if_neg (by omega)]
    refine b113_132 ⟨by omega, ?_⟩
    rw [show (h : Int) + 1 = ((h + 1 : Nat) : Int) by omega]
    exact stop _ _
  | succ d ih =>
    intro h σ d3 d4 hh fr v1 v2 K
    obtain ⟨q, hq⟩ : ∃ q, l[h]? = some q := ⟨l[h], List.getElem?_eq_getElem (by omega)⟩
    obtain ⟨g1, g2, g3⟩ := DS_gap H (h := h) (by omega)
    obtain ⟨-, i3, i4, i5, -⟩ := DS_at _ _ _ _ _ _ H hq
    have eg : gnd nb l h = q.1 := by
      unfold gnd
      rw [hq]
    obtain ⟨s, a1, a2, a3, a4, a5⟩ := l113b (d1 := some (vI (peo l h 0 : Nat))) hP hb ha H (by omega) C w9 w5 w7 z5 z7 (gnd nb l h - peo l h 0) (peo l h 0) σ (by omega) (Nat.le_refl _) fr v1 v2 K
    rw [eg] at a1 a3 a4 a5
    obtain ⟨C1, x9⟩ := Cσ σ fr
    obtain ⟨C2, x9'⟩ := Cσ s a2
    have ep := peo_l l h 0 q hq
    obtain ⟨s2, b1, b2, b3, b4⟩ := ih (h + 1) s (some (vI (q.1 : Nat))) (some (vI (q.1 : Nat))) (by omega) a2 (fun x hx => by
      rw [ep] at hx
      by_cases y : x < q.1
      · exact a3 x y
      · rw [a4 x (by omega) (by omega), i3 x (by omega) hx]) (fun x h1 h2 => by
      rw [ep] at h1
      exact a4 x (by omega) h2) (by
      rw [ep]
      refine ⟨fun y hy => ?_, fun x hx hn => ?_⟩
      · rcases a5.1 y hy with z | ⟨x, z1, z2, z3⟩
        · exact Or.inl z
        · exact Or.inr ⟨x, z1, by omega, z3⟩
      · by_cases y : x < q.1
        · exact a5.2 x y hn
        · exact absurd (i3 x (by omega) hx) hn)
    refine ⟨s2, b113_34 hP ⟨_, _, d98' hP C1, ?_⟩, b2, b3, b4⟩
    rw [if_pos (by omega)]
    refine ⟨_, _, d98' hP C1, ?_⟩
    rw [if_pos (by omega)]
    refine ⟨_, _, (pc_at hP x9 C1 hq).1, b113_65 (a1 (b113_69 hP ?_))⟩
    rw [if_neg (by omega)]
    refine ⟨_, _, d98' hP C2, ?_⟩
    rw [if_pos (by omega)]
    refine ⟨_, _, (pc_at hP x9' C2 hq).2.1, b113_132 ⟨by omega, ?_⟩⟩
    rw [show (h : Int) + 1 = ((h + 1 : Nat) : Int) by omega, ← ep]
    exact b1
/-- shiftHunks -/
theorem d108 {σ : Sg} {P nb na : Nat} {O N : Nat → Int} (hP : isPatch P = true) (w : WF σ) (hb : nb ≤ 100) (ha : na ≤ 100) (n : NP σ P nb na) (hO : ∀ i, i < nb → σ (P + 2) i = O i) (hN : ∀ i, i < na → σ (P + 4) i = N i) (lO : ∀ i, i < nb → isLn (O i) = true) (lN : ∀ i, i < na → isLn (N i) = true) (E : EQL O N (σ (P + 6)) nb) (c5 : nb ≤ cap (P + 5)) (c7 : na ≤ cap (P + 7)) : ∃ s, Dd 108 [vA P] σ (rV s) ∧ NP s P nb na ∧ EQL O N (s (P + 6)) nb ∧ (∀ x, x < nb → s (P + 6) x = shsF O N nb (hks (σ (P + 6)) nb na).length 0 (σ (P + 6)) (hks (σ (P + 6)) nb na) x) ∧ wR s (P + 9) ∧ ∀ c k, ¬ (P + 5 ≤ c ∧ c ≤ P + 10) → s c k = σ c k := by
  have C := PC_of n hb ha
  obtain ⟨n1, n3, n5, n7, V, K, C1, C2⟩ := n
  have H := DS_0 V
  obtain ⟨s1, a1, a2, a3, a4⟩ := l108 (O := O) (N := N) hP hb ha (WF_w w (pat_1 hP)) (WF_w w (pat_3 hP)) n1 n3 hO hN lO lN (hks (σ (P + 6)) nb na).length 0 (hks (σ (P + 6)) nb na) (σ (P + 6)) σ (by omega) H E C (WF_w w (pat_9 hP)) (fun _ _ _ => rfl)
  obtain ⟨H1, E1⟩ := shs_DS (O := O) (N := N) (hks (σ (P + 6)) nb na).length 0 (σ (P + 6)) (hks (σ (P + 6)) nb na) H E
  generalize shs O N nb (hks (σ (P + 6)) nb na).length 0 (hks (σ (P + 6)) nb na) = l1 at a2 H1
  generalize shsF O N nb (hks (σ (P + 6)) nb na).length 0 (σ (P + 6)) (hks (σ (P + 6)) nb na) = F1 at H1 E1 ⊢
  have V1 := DS_VF H1
  have q1 := d146 (σ := s1) (pat_1 hP)
  rw [a4 _ _ (by omega), n1] at q1
  have q2 := d153 (σ := s1) (a := P + 5) (n := (nb : Int)) (v := -1) (pat_5 hP)
  have u1 : flS s1 (P + 5) (nb : Int) (-1) (P + 5) 1 = (nb : Nat) := fl_sz (by omega) (by omega)
  have u2 : ∀ k : Nat, k < nb → flS s1 (P + 5) (nb : Int) (-1) (P + 5 + 1) k = -1 := fun k hk => fl_val (by omega) (by omega) (by omega)
  have u3 : ∀ c x, ¬ c = P + 5 → ¬ c = P + 6 → flS s1 (P + 5) (nb : Int) (-1) c x = s1 c x := fun c x y1 y2 => fl_off y1 y2
  generalize flS s1 (P + 5) (nb : Int) (-1) = s2 at q2 u1 u2 u3
  have q3 := d146 (σ := s2) (pat_3 hP)
  rw [u3 _ _ (by omega) (by omega), a4 _ _ (by omega), n3] at q3
  have q4 := d153 (σ := s2) (a := P + 7) (n := (na : Int)) (v := -1) (pat_7 hP)
  have t1 : flS s2 (P + 7) (na : Int) (-1) (P + 7) 1 = (na : Nat) := fl_sz (by omega) (by omega)
  have t2 : ∀ k : Nat, k < na → flS s2 (P + 7) (na : Int) (-1) (P + 7 + 1) k = -1 := fun k hk => fl_val (by omega) (by omega) (by omega)
  have t3 : ∀ c x, ¬ c = P + 7 → ¬ c = P + 8 → flS s2 (P + 7) (na : Int) (-1) c x = s2 c x := fun c x y1 y2 => fl_off y1 y2
  generalize flS s2 (P + 7) (na : Int) (-1) = s3 at q4 t1 t2 t3
  have f3 : ∀ c x, ¬ (P + 5 ≤ c ∧ c ≤ P + 8) → s3 c x = s1 c x := fun c x y => by rw [t3 c x (by omega) (by omega), u3 c x (by omega) (by omega)]
  have z5 : s3 (P + 5) 1 = (nb : Nat) := by rw [t3 _ _ (by omega) (by omega)]; exact u1
  have C3 : PC s3 P l1 := PC_fr (fun k => f3 _ _ (by omega)) (fun k => f3 _ _ (by omega)) a2
  have w9 : wR s3 (P + 9) := ⟨a3.1, by rw [f3 _ _ (by omega)]; exact a3.2⟩
  obtain ⟨s, e1, e2, e3, e4⟩ := l113a (F := F1) (l := l1) (σ0 := s3) hP hb ha H1 C3 w9 ⟨pat_5 hP, by rw [z5]; omega⟩ ⟨pat_7 hP, by rw [t1]; omega⟩ (by rw [f3 _ _ (by omega), a4 _ _ (by omega)]; exact n1) z5 t1 l1.length 0 s3 none none (by omega) (fun _ _ _ _ => rfl) (fun x hx => by rw [peo_0] at hx; omega) (fun x _ h2 => by rw [t3 _ _ (by omega) (by omega)]; exact u2 x h2) (by
    rw [peo_0]
    exact ⟨fun y hy => Or.inl (t2 y hy), fun x hx => by omega⟩)
  rw [peo_0] at e1
  refine ⟨s, b108 (a1 ⟨_, b113 hP ⟨_, _, q1, _, q2, _, _, q3, _, q4, e1⟩, rfl⟩), ⟨?_, ?_, ?_, ?_, VF_cg e3 V1, ?_, ?_, ?_⟩, fun x hx hn => ?_, e3, ⟨w9.1, by rw [e2 _ _ (by omega) (by omega)]; exact w9.2⟩, fun c k y => ?_⟩
  · rw [e2 _ _ (by omega) (by omega), f3 _ _ (by omega), a4 _ _ (by omega)]
    exact n1
  · rw [e2 _ _ (by omega) (by omega), f3 _ _ (by omega), a4 _ _ (by omega)]
    exact n3
  · rw [e2 _ _ (by omega) (by omega)]
    exact z5
  · rw [e2 _ _ (by omega) (by omega)]
    exact t1
  · refine ⟨fun j hj => ?_, fun i hi hn => ?_⟩
    · rcases e4.1 j hj with z | ⟨x, z1, z2, z3⟩
      · exact Or.inl z
      · rw [z1, tn, e3 x z2]
        exact Or.inr ⟨by omega, by omega, z3⟩
    · rw [e3 i hi] at hn ⊢
      exact e4.2 i hi hn
  · rw [hks_cg e3, DS_hks H1, e2 _ _ (by omega) (by omega)]
    exact C3.1
  · rw [hks_cg e3, DS_hks H1]
    intro h q hq
    rw [e2 _ _ (by omega) (by omega), e2 _ _ (by omega) (by omega), e2 _ _ (by omega) (by omega), e2 _ _ (by omega) (by omega)]
    exact C3.2.1 h q hq
  · rw [e3 x hx] at hn ⊢
    exact E1 x hx hn
  · rw [e2 c k (by omega) (by omega), f3 c k (by omega), a4 c k (by omega)]
end
