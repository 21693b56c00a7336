/-! A hunk shifted by the reference. -/
noncomputable section
theorem HK_at {σ : Sg} {l : List St} {h : Nat} {q : St} (K : HK σ 0 0 l) (hq : l[h]? = some q) : σ 700 h = (q.1 : Nat) ∧ σ 701 h = (q.2.1 : Nat) ∧ σ 702 h = (q.2.2.1 : Nat) ∧ σ 703 h = (q.2.2.2 : Nat) := by
  have z := K h q hq
  rw [show 128 * 0 + (0 + h) = h by omega] at z
  exact z
theorem d282 {σ : Sg} {F : Nat → Int} {nb na h : Nat} {q : St} {l : List St} (K : HK σ 0 0 l) (hl : l.length ≤ 120) (H : DS F nb na l 0 0 0) (hb : nb ≤ 99) (hq : l[h]? = some q) : Dd 282 [vA 682, vI h] σ (rI ((q.1 - peo l h 0 : Nat) : Int) σ) := by
  obtain ⟨-, i3, i4, i5, i6, i7, i8, i9, i10, i11, i12⟩ := DS_at _ _ _ _ _ _ H hq
  have hlt := (List.getElem?_eq_some_iff.mp hq).1
  obtain ⟨v0, -⟩ := HK_at K hq
  refine b282 ⟨by omega, ?_⟩
  rw [tn, v0]
  cases h with
  | zero =>
    rw [if_pos (by omega), peo_0, Nat.sub_zero]
    refine b282_21 ⟨by omega, ?_⟩
    rw [Int.sub_zero]
  | succ h =>
    obtain ⟨r, hr⟩ : ∃ r, l[h]? = some r := ⟨l[h], List.getElem?_eq_getElem (by omega)⟩
    have br := (DS_b _ _ _ _ H).2.2 r (List.mem_of_getElem? hr)
    have e := d281 K hl hr (by omega)
    rw [peo_l l h 0 r hr] at i12 ⊢
    rw [if_neg (by omega), show ((h + 1 : Nat) : Int) - 1 = ((h : Nat) : Int) by omega]
    refine ⟨by omega, _, _, e, b282_21 ⟨by omega, ?_⟩⟩
    rw [show ((q.1 : Nat) : Int) - ((r.1 + r.2.1 : Nat) : Int) = ((q.1 - (r.1 + r.2.1) : Nat) : Int) by omega]
theorem d283 {σ : Sg} {F : Nat → Int} {nb na h s : Nat} {q : St} {l : List St} (K : HK σ 0 0 l) (hl : l.length ≤ 120) (H : DS F nb na l 0 0 0) (hb : nb ≤ 99) (hs : s < 44) (h704 : σ 704 0 = (l.length : Nat)) (hn : σ 688 s = (nb : Nat)) (hq : l[h]? = some q) : Dd 283 [vA 682, vI s, vI h] σ (rI ((nso nb l h - (q.1 + q.2.1) : Nat) : Int) σ) := by
  obtain ⟨-, i3, i4, i5, i6, i7, i8, i9, i10, i11, i12⟩ := DS_at _ _ _ _ _ _ H hq
  have hlt := (List.getElem?_eq_some_iff.mp hq).1
  have e := d281 K hl hq (by omega)
  have ev : (if ((h : Nat) : Int) = σ 704 ((0 : Int)).toNat - 1 then σ 688 ((s : Int)).toNat else σ 700 (((h : Nat) : Int) + 1).toNat) = ((nso nb l h : Nat) : Int) := by
    rw [show ((0 : Int)).toNat = 0 from rfl, h704, tn, hn]
    by_cases y : h + 1 < l.length
    · obtain ⟨r, hr⟩ : ∃ r, l[h + 1]? = some r := ⟨l[h + 1], List.getElem?_eq_getElem y⟩
      obtain ⟨v0, -⟩ := HK_at K hr
      rw [if_neg (by omega), show (((h : Nat) : Int) + 1).toNat = h + 1 by omega, v0]
      unfold nso
      rw [hr]
    · rw [if_pos (by omega), i10 y]
  refine b283 ⟨by rw [show ((0 : Int)).toNat = 0 from rfl, h704]; omega, fun _ => by omega, fun _ => by omega, fun _ => by omega, ?_⟩
  rw [ev]
  refine b283_29 ⟨_, _, e, by omega, ?_⟩
  rw [show ((nso nb l h : Nat) : Int) - ((q.1 + q.2.1 : Nat) : Int) = ((nso nb l h - (q.1 + q.2.1) : Nat) : Int) by omega]
/-- the loops ahead of the shifting -/
theorem l285 {σ : Sg} {s h ad m bp n mb mo : Nat} {X : Nat → Int} {i0 j0 : Int} (hs : s < 44) (hh : h < 200) (hm : m ≤ 100) (L : LX σ s ad X m) (hX : ∀ p, p < m → isLn (X p) = true) (h1 : mb ≤ bp) (h2 : bp + n + mo ≤ m) (hn : 0 < n) (v0 : σ 700 h = i0) (v2 : σ 702 h = j0) {d8 d9 d10 d11 d12 d13 d14 : Option AV} {o : Rs} (fin : ∀ (d4 d6 d7 d8 d9 d11 : Option AV), C285_339 s (some (vI h)) (ad : Nat) d4 (n : Nat) d6 d7 d8 d9 ((bpl X bp n mb mo : Nat) - (bp : Int)) d11 i0 j0 0 σ o) : C285_116 s h (ad : Nat) ((100 * s + bp : Nat) : Int) (n : Nat) (mb : Nat) (mo : Nat) 0 d9 d10 d11 d12 d13 d14 σ o := by
  obtain ⟨r1, r2, r3⟩ := rbk_b (X := X) (s := bp) (n := n) (m := mb)
  obtain ⟨u1, u2, u3⟩ := ron_b (X := X) (s := bp) (n := n) (m := mo)
  have bb := bpl_b (X := X) (s := bp) (n := n) (mb := mb) (mo := mo) (by omega)
  have hB : bpl X bp n mb mo = bsP X (rbk X bp n mb + ron X bp n mo + 1) (bp - rbk X bp n mb) (bp - rbk X bp n mb) := rfl
  obtain ⟨rb, hrb⟩ : ∃ rb, rb = rbk X bp n mb := ⟨_, rfl⟩
  obtain ⟨ro, hro⟩ : ∃ ro, ro = ron X bp n mo := ⟨_, rfl⟩
  obtain ⟨B, hBB⟩ : ∃ B, B = bpl X bp n mb mo := ⟨_, rfl⟩
  rw [← hrb] at r1 r2 r3 bb hB
  rw [← hro] at u1 u2 u3 bb hB
  rw [← hBB] at bb hB fin
  -- one place
  have step : ∀ (p : Nat) (ch mst : Int) (d6 d7 d8 d13 d14 : Option AV), p ≤ bp + ro → bp - rb ≤ p → -1 ≤ mst → mst ≤ 20 → -200 ≤ ch → ch ≤ 200 → (∀ d13 d14, C285_212 s h (ad : Nat) ((100 * s + bp : Nat) : Int) (n : Nat) d6 d7 d8 (ro : Nat) (if mst ≤ 13 - aw X p then (p : Int) - (bp : Int) else ch) (if mst ≤ 13 - aw X p then 13 - aw X p else mst) ((p + 1 : Nat) - (bp : Int)) d13 d14 σ o) → C285_212 s h (ad : Nat) ((100 * s + bp : Nat) : Int) (n : Nat) d6 d7 d8 (ro : Nat) ch mst ((p : Int) - (bp : Int)) d13 d14 σ o := by
    intro p ch mst d6 d7 d8 d13 d14 hp1 hp2 hm1 hm2 hc1 hc2 hx
    have ib := ind_b (hX p (by omega))
    have e0 := d286x (p := p) hs hm L (by omega)
    have e251 : Dd 251 [vI (X p)] σ (rI (ind (X p)) σ) := d251 (hX p (by omega))
    have t264 : ∀ (y0 : Int) (d13 d14 : Option AV), y0 + 3 - ind (X p) = 13 - aw X p → (y0 = 0 ∨ y0 = 10) → C285_264 s h (ad : Nat) ((100 * s + bp : Nat) : Int) (n : Nat) d6 d7 d8 (ro : Nat) ch mst ((p : Int) - (bp : Int)) d13 d14 y0 σ o := by
      intro y0 d13 d14 hy hy2
      refine b285_264 ⟨by omega, by omega, ?_⟩
      rw [show ((100 * s + bp : Nat) : Int) + ((p : Int) - (bp : Int)) = ((100 * s + p : Nat) : Int) by omega]
      refine ⟨_, _, e0, _, _, e251, by omega, ?_⟩
      rw [hy]
      refine b285_296 (b285_312 ⟨by omega, ?_⟩)
      rw [show (p : Int) - (bp : Int) + 1 = ((p + 1 : Nat) - (bp : Int)) by omega]
      exact hx _ _
    have t246 : ∀ (d13 d14 : Option AV), 10 + 3 - ind (X p) = 13 - aw X p → C285_246 s h (ad : Nat) ((100 * s + bp : Nat) : Int) (n : Nat) d6 d7 d8 (ro : Nat) ch mst ((p : Int) - (bp : Int)) d13 d14 σ o := by
      intro d13 d14 hy
      refine b285_246 (b285_251 ?_)
      rw [if_neg (show ¬ (1 : Int) = 0 by decide)]
      exact t264 10 _ _ hy (Or.inr rfl)
    refine b285_212 ?_
    rw [if_pos (by omega), show ((100 * s + bp : Nat) : Int) + ((p : Int) - (bp : Int)) = ((100 * s + p : Nat) : Int) by omega]
    refine ⟨by omega, by omega, ?_⟩
    by_cases y : p = 0
    · rw [if_pos (by omega)]
      refine t246 _ _ ?_
      unfold aw
      rw [if_pos (Or.inl y)]
      omega
    · have e1 := d286x (p := p - 1) hs hm L (by omega)
      rw [if_neg (by omega), show ((100 * s + p : Nat) : Int) - 1 = ((100 * s + (p - 1) : Nat) : Int) by omega]
      refine ⟨by omega, by omega, _, _, e1, ?_⟩
      by_cases y2 : X (p - 1) = 0
      · rw [if_pos y2]
        refine t246 _ _ ?_
        unfold aw
        rw [if_pos (Or.inr y2)]
        omega
      · rw [if_neg y2]
        refine b285_251 ?_
        rw [if_pos rfl]
        refine t264 0 _ _ ?_ (Or.inl rfl)
        unfold aw
        rw [if_neg (by
          intro z
          rcases z with z | z
          · exact y z
          · exact y2 z)]
        omega
  -- all places behind the first
  have L212 : ∀ (dd p b : Nat) (d6 d7 d8 d13 d14 : Option AV), p + dd = bp + ro + 1 → bp - rb ≤ p → bp - rb ≤ b → b ≤ bp + ro → B = bsP X dd p b → C285_212 s h (ad : Nat) ((100 * s + bp : Nat) : Int) (n : Nat) d6 d7 d8 (ro : Nat) ((b : Int) - (bp : Int)) (13 - aw X b) ((p : Int) - (bp : Int)) d13 d14 σ o := by
    intro dd
    induction dd with
    | zero =>
      intro p b d6 d7 d8 d13 d14 hp _ _ _ hb
      have hb : B = b := hb
      refine b285_212 ?_
      rw [if_neg (by omega), tn, v0, v2, ← hb]
      exact ⟨by omega, by omega, fin _ _ _ _ _ _⟩
    | succ dd ih =>
      intro p b d6 d7 d8 d13 d14 hp h3 h4 h5 hb
      have hb : B = bsP X dd (p + 1) (if aw X p ≤ aw X b then p else b) := hb
      have ab : 0 ≤ aw X b ∧ aw X b ≤ 13 := by
        have ib := ind_b (hX b (by omega))
        unfold aw
        split <;> omega
      refine step p _ _ d6 d7 d8 d13 d14 (by omega) h3 (by omega) (by omega) (by omega) (by omega) (fun d13 d14 => ?_)
      by_cases y : aw X p ≤ aw X b
      · rw [if_pos y] at hb
        rw [if_pos (by omega), if_pos (by omega)]
        exact ih (p + 1) p d6 d7 d8 d13 d14 (by omega) (by omega) h3 (by omega) hb
      · rw [if_neg y] at hb
        rw [if_neg (by omega), if_neg (by omega)]
        exact ih (p + 1) b d6 d7 d8 d13 d14 (by omega) (by omega) h4 h5 hb
  have ap : ∀ p, p < m → 0 ≤ aw X p ∧ aw X p ≤ 13 := fun p hp => by
    have ib := ind_b (hX p hp)
    unfold aw
    split <;> omega
  have t201 : ∀ (d6 d7 d10 d11 d12 d13 d14 : Option AV), C285_201 s h (ad : Nat) ((100 * s + bp : Nat) : Int) (n : Nat) d6 d7 (rb : Nat) (ro : Nat) d10 d11 d12 d13 d14 σ o := by
    intro d6 d7 d10 d11 d12 d13 d14
    refine b285_201 ⟨by omega, ?_⟩
    rw [show -((rb : Nat) : Int) = ((bp - rb : Nat) : Int) - (bp : Int) by omega]
    refine step (bp - rb) 0 (-1) d6 d7 _ d13 d14 (by omega) (Nat.le_refl _) (by omega) (by omega) (by omega) (by omega) (fun d13 d14 => ?_)
    have a1 := ap (bp - rb) (by omega)
    rw [if_pos (by omega), if_pos (by omega)]
    refine L212 (rb + ro) (bp - rb + 1) (bp - rb) d6 d7 _ d13 d14 (by omega) (by omega) (Nat.le_refl _) (by omega) ?_
    rw [hB]
    show bsP X (rb + ro) (bp - rb + 1) (if aw X (bp - rb) ≤ aw X (bp - rb) then bp - rb else bp - rb) = _
    rw [if_pos (Int.le_refl _)]
  have t162 : ∀ (dd k : Nat) (d6 d10 d11 d12 d13 d14 : Option AV), k + dd = ro → C285_162 s h (ad : Nat) ((100 * s + bp : Nat) : Int) (n : Nat) d6 (mo : Nat) (rb : Nat) k d10 d11 d12 d13 d14 σ o := by
    intro dd
    induction dd with
    | zero =>
      intro k d6 d10 d11 d12 d13 d14 hk
      have e : k = ro := by omega
      subst e
      refine b285_162 ?_
      by_cases y : k < mo
      · have e1 := d286x (p := bp + n + k) hs hm L (by omega)
        have e2 := d286x (p := bp + k) hs hm L (by omega)
        rw [if_pos (by omega), show ((100 * s + bp : Nat) : Int) + ((n : Nat) : Int) + ((k : Nat) : Int) = ((100 * s + (bp + n + k) : Nat) : Int) by omega, show ((100 * s + bp : Nat) : Int) + ((k : Nat) : Int) = ((100 * s + (bp + k) : Nat) : Int) by omega]
        refine ⟨by omega, by omega, _, _, e1, by omega, _, _, e2, ?_⟩
        rw [if_neg (fun z => u3 y (by rw [show bp + k + n = bp + n + k by omega]; exact z.symm))]
        exact t201 _ _ _ _ _ _ _
      · rw [if_neg (by omega)]
        exact t201 _ _ _ _ _ _ _
    | succ dd ih =>
      intro k d6 d10 d11 d12 d13 d14 hk
      have e1 := d286x (p := bp + n + k) hs hm L (by omega)
      have e2 := d286x (p := bp + k) hs hm L (by omega)
      have q := u2 k (by omega)
      refine b285_162 ?_
      rw [if_pos (by omega), show ((100 * s + bp : Nat) : Int) + ((n : Nat) : Int) + ((k : Nat) : Int) = ((100 * s + (bp + n + k) : Nat) : Int) by omega, show ((100 * s + bp : Nat) : Int) + ((k : Nat) : Int) = ((100 * s + (bp + k) : Nat) : Int) by omega, show (k : Int) + 1 = ((k + 1 : Nat) : Int) by omega]
      refine ⟨by omega, by omega, _, _, e1, by omega, _, _, e2, ?_⟩
      rw [if_pos (show X (bp + n + k) = X (bp + k) by rw [show bp + n + k = bp + k + n by omega]; exact q.symm)]
      exact ⟨by omega, ih (k + 1) _ _ _ _ _ _ (by omega)⟩
  have t116 : ∀ (dd k : Nat) (d9 d10 d11 d12 d13 d14 : Option AV), k + dd = rb → C285_116 s h (ad : Nat) ((100 * s + bp : Nat) : Int) (n : Nat) (mb : Nat) (mo : Nat) k d9 d10 d11 d12 d13 d14 σ o := by
    intro dd
    induction dd with
    | zero =>
      intro k d9 d10 d11 d12 d13 d14 hk
      have e : k = rb := by omega
      subst e
      refine b285_116 ?_
      by_cases y : k < mb
      · have e1 := d286x (p := bp - k - 1) hs hm L (by omega)
        have e2 := d286x (p := bp - k - 1 + n) hs hm L (by omega)
        rw [if_pos (by omega), show ((100 * s + bp : Nat) : Int) - ((k : Nat) : Int) - 1 = ((100 * s + (bp - k - 1) : Nat) : Int) by omega, show ((100 * s + bp : Nat) : Int) + ((n : Nat) : Int) - ((k : Nat) : Int) - 1 = ((100 * s + (bp - k - 1 + n) : Nat) : Int) by omega]
        refine ⟨by omega, by omega, _, _, e1, by omega, by omega, by omega, _, _, e2, ?_⟩
        rw [if_neg (r3 y)]
        exact b285_159 (t162 ro 0 _ _ _ _ _ _ (by omega))
      · rw [if_neg (by omega)]
        exact b285_159 (t162 ro 0 _ _ _ _ _ _ (by omega))
    | succ dd ih =>
      intro k d9 d10 d11 d12 d13 d14 hk
      have e1 := d286x (p := bp - k - 1) hs hm L (by omega)
      have e2 := d286x (p := bp - k - 1 + n) hs hm L (by omega)
      refine b285_116 ?_
      rw [if_pos (by omega), show ((100 * s + bp : Nat) : Int) - ((k : Nat) : Int) - 1 = ((100 * s + (bp - k - 1) : Nat) : Int) by omega, show ((100 * s + bp : Nat) : Int) + ((n : Nat) : Int) - ((k : Nat) : Int) - 1 = ((100 * s + (bp - k - 1 + n) : Nat) : Int) by omega, show (k : Int) + 1 = ((k + 1 : Nat) : Int) by omega]
      refine ⟨by omega, by omega, _, _, e1, by omega, by omega, by omega, _, _, e2, ?_⟩
      rw [if_pos (r2 k (by omega))]
      exact ⟨by omega, ih (k + 1) _ _ _ _ _ _ (by omega)⟩
  exact t116 rb 0 _ _ _ _ _ _ (by omega)
/-- shifts -/
theorem d285 {σ : Sg} {s h nb na : Nat} {l : List St} {O N F : Nat → Int} (hs : s < 44) (hb : nb ≤ 99) (ha : na ≤ 99) (hl : l.length ≤ 120) (hh : h < l.length) (H : DS F nb na l 0 0 0) (K : HK σ 0 0 l) (h704 : σ 704 0 = (l.length : Nat)) (S : Slot σ s nb na O N F) (lO : ∀ i, i < nb → isLn (O i) = true) (lN : ∀ i, i < na → isLn (N i) = true) : ∃ σ', Dd 285 [vA 682, vI s, vI h] σ (rV σ') ∧ (∀ b x, ¬ (b = 687 ∧ 100 * s ≤ x ∧ x < 100 * s + 100) → σ' b x = σ b x) ∧ ∀ x, x < nb → σ' 687 (100 * s + x) = shF O N nb F l h x := by
  obtain ⟨q, hq⟩ : ∃ q, l[h]? = some q := ⟨l[h], List.getElem?_eq_getElem hh⟩
  obtain ⟨o, d, nw, a⟩ := q
  obtain ⟨s1, s2, s3, s4, s5⟩ := S
  obtain ⟨r1, r2, r3, r4, r5⟩ := DS_rm H hq
  obtain ⟨v0, v1, v2, v3⟩ := HK_at K hq
  have v0 : σ 700 h = (o : Nat) := v0
  have v1 : σ 701 h = (d : Nat) := v1
  have v2 : σ 702 h = (nw : Nat) := v2
  have v3 : σ 703 h = (a : Nat) := v3
  obtain ⟨-, i3, i4, i5, i6, i7, i8, i9, i10, i11, i12⟩ := DS_at _ _ _ _ _ _ H hq
  have i9 : h + 1 < l.length → o + d + 1 ≤ nso nb l h := i9
  have i11 : ¬ h = 0 → peo l h 0 + 1 ≤ o := i11
  have i4 : o + d ≤ nso nb l h := i4
  have i12 : peo l h 0 ≤ o := i12
  have e282 := d282 K hl H hb hq
  have e283 := d283 K hl H hb hs h704 s1 hq
  have e282 : Dd 282 [vA 682, vI h] σ (rI ((o - peo l h 0 : Nat) : Int) σ) := e282
  have e283 : Dd 283 [vA 682, vI s, vI h] σ (rI ((nso nb l h - (o + d) : Nat) : Int) σ) := e283
  have m1 : mbk l h (o, d, nw, a) = o - peo l h 0 - (if h = 0 then 0 else 1) := rfl
  have m2 : mon nb l h (o, d, nw, a) = nso nb l h - (o + d) - (if h + 1 < l.length then 1 else 0) := rfl
  obtain ⟨mb, hmb⟩ : ∃ mb, mb = mbk l h (o, d, nw, a) := ⟨_, rfl⟩
  obtain ⟨mo, hmo⟩ : ∃ mo, mo = mon nb l h (o, d, nw, a) := ⟨_, rfl⟩
  -- up to the loops
  have to116 : ∀ (ad bp : Nat) {σ' : Sg}, (ad = 1 ∧ bp = nw ∨ ad = 0 ∧ bp = o) → (∀ (d8 d9 d10 d11 d12 d13 d14 : Option AV), C285_116 s h (ad : Nat) ((100 * s + bp : Nat) : Int) ((a + d : Nat) : Int) (mb : Nat) (mo : Nat) 0 d9 d10 d11 d12 d13 d14 σ (rV σ')) → ∀ (d4 d5 d6 d7 d8 d9 d10 d11 d12 d13 d14 : Option AV), C285_29 s h (ad : Nat) d4 d5 d6 d7 d8 d9 d10 d11 d12 d13 d14 σ (rV σ') := by
    intro ad bp σ' hab hx d4 d5 d6 d7 d8 d9 d10 d11 d12 d13 d14
    refine b285_29 ⟨by omega, fun _ => by omega, fun _ => by omega, ?_⟩
    have eb : (if ((ad : Nat) : Int) = 0 then σ 700 ((h : Int)).toNat else σ 702 ((h : Int)).toNat) = ((bp : Nat) : Int) := by
      rw [tn, v0, v2]
      rcases hab with ⟨z1, z2⟩ | ⟨z1, z2⟩
      · rw [if_neg (by omega), z2]
      · rw [if_pos (by omega), z2]
    rw [eb]
    refine b285_52 ?_
    rw [tn, v1, v3, show 100 * (s : Int) + (bp : Int) = ((100 * s + bp : Nat) : Int) by omega, show ((a : Nat) : Int) + ((d : Nat) : Int) = ((a + d : Nat) : Int) by omega]
    refine ⟨by omega, by omega, by omega, by omega, _, _, e282, b285_84 ?_⟩
    have em : ((o - peo l h 0 : Nat) : Int) - (if (h : Int) = 0 then 0 else 1) = ((mb : Nat) : Int) := by
      by_cases y : h = 0
      · rw [if_pos y] at m1
        rw [if_pos (by omega)]
        omega
      · rw [if_neg y] at m1
        have := i11 y
        rw [if_neg (by omega)]
        omega
    rw [em]
    refine ⟨by omega, _, _, e283, ?_⟩
    rw [show ((0 : Int)).toNat = 0 from rfl, h704]
    refine ⟨by omega, b285_110 ?_⟩
    have en : ((nso nb l h - (o + d) : Nat) : Int) - (if (h : Int) = ((l.length : Nat) : Int) - 1 then 0 else 1) = ((mo : Nat) : Int) := by
      by_cases y : h + 1 < l.length
      · rw [if_pos y] at m2
        have := i9 y
        rw [if_neg (by omega)]
        omega
      · rw [if_neg y] at m2
        rw [if_pos (by omega)]
        omega
    rw [en]
    exact ⟨by omega, hx none _ _ _ _ _ _⟩
  have zN : LX σ s ((1 : Nat) : Int) N na := fun p hp => by
    rw [if_neg (show ¬ ((1 : Nat) : Int) = 0 by decide)]
    exact s4 p hp
  have zO : LX σ s ((0 : Nat) : Int) O nb := fun p hp => by
    rw [if_pos (show ((0 : Nat) : Int) = 0 from rfl)]
    exact s3 p hp
  by_cases hd : d = 0
  · subst hd
    have bb := bpl_b (X := N) (s := nw) (n := a) (mb := mb) (mo := mo) (by omega)
    have rb := (rbk_b (X := N) (s := nw) (n := a) (m := mb)).1
    have ro := (ron_b (X := N) (s := nw) (n := a) (m := mo)).1
    obtain ⟨σ', a1, a2, a3⟩ := l285s (s := s) (ad := 1) (σ0 := σ) hs hb ha H hq (Or.inl ⟨rfl, rfl⟩) ((bpl N nw a mb mo : Nat) - (nw : Int)) (by omega) (by omega) ((bpl N nw a mb mo : Nat) - (nw : Int)).natAbs 0 o nw σ (fun _ => by omega) (fun _ => by omega) (by omega) (by omega) (fun _ _ _ => rfl) (fun x hx => by rw [s5 x hx, mvF_0 H hq x hx])
    refine ⟨σ', b285 ⟨by omega, ?_⟩, a2, fun x hx => ?_⟩
    · rw [tn, v1, if_pos (by omega)]
      refine b285_14 ?_
      rw [if_neg (show ¬ (1 : Int) = 0 by decide)]
      exact to116 1 nw (Or.inl ⟨rfl, rfl⟩) (fun d8 d9 d10 d11 d12 d13 d14 => l285 (d8 := d8) (ad := 1) (n := a) (mb := mb) (mo := mo) (m := na) hs (by omega) (by omega) zN lN (by omega) (by omega) (by omega) v0 v2 (fun d4 d6 d7 d8 d9 d11 => a1 _ d4 d6 d7 d8 d9 d11)) _ _ _ _ _ _ _ _ _ _ _
    · rw [a3 x hx, shF_a hq, ← hmb, ← hmo, show ((o : Int) + ((bpl N nw a mb mo : Nat) - (nw : Int))).toNat = o + bpl N nw a mb mo - nw by omega, show ((nw : Int) + ((bpl N nw a mb mo : Nat) - (nw : Int))).toNat = bpl N nw a mb mo by omega]
  · by_cases hz : a = 0
    · subst hz
      have bb := bpl_b (X := O) (s := o) (n := d) (mb := mb) (mo := mo) (by omega)
      have rb := (rbk_b (X := O) (s := o) (n := d) (m := mb)).1
      have ro := (ron_b (X := O) (s := o) (n := d) (m := mo)).1
      obtain ⟨σ', a1, a2, a3⟩ := l285s (s := s) (ad := 0) (σ0 := σ) hs hb ha H hq (Or.inr ⟨rfl, rfl⟩) ((bpl O o d mb mo : Nat) - (o : Int)) (by omega) (by omega) ((bpl O o d mb mo : Nat) - (o : Int)).natAbs 0 o nw σ (fun _ => by omega) (fun _ => by omega) (by omega) (by omega) (fun _ _ _ => rfl) (fun x hx => by rw [s5 x hx, mvF_0 H hq x hx])
      rw [Nat.zero_add d] at a1 to116
      refine ⟨σ', b285 ⟨by omega, ?_⟩, a2, fun x hx => ?_⟩
      · rw [tn, v1, if_neg (by omega)]
        refine b285_14 ?_
        rw [if_pos rfl, tn, v3, if_neg (by omega)]
        exact ⟨by omega, to116 0 o (Or.inr ⟨rfl, rfl⟩) (fun d8 d9 d10 d11 d12 d13 d14 => l285 (d8 := d8) (ad := 0) (n := d) (mb := mb) (mo := mo) (m := nb) hs (by omega) (by omega) zO lO (by omega) (by omega) (by omega) v0 v2 (fun d4 d6 d7 d8 d9 d11 => a1 _ d4 d6 d7 d8 d9 d11)) _ _ _ _ _ _ _ _ _ _ _⟩
      · rw [a3 x hx, shF_d hd hq, ← hmb, ← hmo, show ((o : Int) + ((bpl O o d mb mo : Nat) - (o : Int))).toNat = bpl O o d mb mo by omega, show ((nw : Int) + ((bpl O o d mb mo : Nat) - (o : Int))).toNat = nw + bpl O o d mb mo - o by omega]
    · refine ⟨σ, b285 ⟨by omega, ?_⟩, fun _ _ _ => rfl, fun x hx => ?_⟩
      · rw [tn, v1, if_neg (by omega)]
        refine b285_14 ?_
        rw [if_pos rfl, tn, v3, if_pos (by omega)]
        exact ⟨by omega, rfl⟩
      · rw [s5 x hx, shF_n hd hz hq]
end
