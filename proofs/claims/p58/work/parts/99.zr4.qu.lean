/-! The class's questions that change nothing: what they answer, by the class's own numbers. -/
noncomputable section
theorem atS_in {σ : Sg} {a k : Nat} (h : (k : Int) < σ a 1) : atS σ a k = σ (a + 1) k := by
  unfold atS
  rw [if_pos ⟨by omega, h⟩, Int.toNat_natCast]
theorem atS_out {σ : Sg} {a k : Nat} (h : σ a 1 ≤ (k : Int)) : atS σ a k = -1 := by
  unfold atS
  rw [if_neg (by omega)]
theorem txt_ok {σ : Sg} {t : Nat} (ht : t < 4) : Dd 227 [vA 0, vI t] σ (rA (2 + 2 * t) σ) ∧ isRow (2 + 2 * t) = true := by
  have k : 0 ≤ (t : Int) ∧ (t : Int) < 4 := by omega
  have e := d227_ok (σ := σ) k
  have r := (el_1 k).2
  rw [Int.toNat_natCast] at e r
  exact ⟨e, r⟩
theorem byt_ok {σ : Sg} {t : Nat} (ht : t < 4) : Dd 228 [vA 0, vI t] σ (rA (11 + 2 * t) σ) ∧ isRow (11 + 2 * t) = true := by
  have k : 0 ≤ (t : Int) ∧ (t : Int) < 4 := by omega
  have e := d228_ok (σ := σ) k
  have r := (el_10 k).2
  rw [Int.toNat_natCast] at e r
  exact ⟨e, r⟩
theorem pat_ok {σ : Sg} {c : Int} {p : Nat} (H : Rel c σ) (hp : (p : Int) < σ 0 3) : Dd 230 [vA 0, vI p] σ (rA (20 + 13 * p) σ) ∧ isPatch (20 + 13 * p) = true ∧ PO σ (20 + 13 * p) 16 ∧ 0 ≤ σ (20 + 13 * p + 1) 1 ∧ 0 ≤ σ (20 + 13 * p + 3) 1 := by
  have hn := (rel_n H).1
  have e := d230_ok (σ := σ) (k := (p : Int)) (by omega) hn.2.2
  rw [Int.toNat_natCast] at e
  obtain ⟨h1, h2, h3, h4, h5⟩ := po_pat H hp
  exact ⟨e, h1, h3, h4, h5⟩
theorem q175 {σ : Sg} {t : Nat} (ht : t < 4) : Dd 175 [vA 0, vI t] σ (rI (σ (2 + 2 * t) 1) σ) := by
  obtain ⟨e, r⟩ := txt_ok (σ := σ) ht
  exact b175 (Or.inl ⟨_, _, e, r, _, _, d146 r, rfl⟩)
theorem q176 {σ : Sg} {c : Int} {t k : Nat} (H : Rel c σ) (ht : t < 4) (hk : (k : Int) < σ (2 + 2 * t) 1) : Dd 176 [vA 0, vI t, vI k] σ (rI (σ (2 + 2 * t + 1) k) σ) := by
  obtain ⟨e, r⟩ := txt_ok (σ := σ) ht
  have d := d147 (i := (k : Int)) (WF_w H.1 r)
  rw [atS_in hk] at d
  exact b176 (Or.inl ⟨_, _, e, r, _, _, d146 r, Or.inl ⟨_, d232_ok ⟨by omega, hk⟩, _, _, d, rfl⟩⟩)
theorem q177 {σ : Sg} {x y : Int} (hx : isLn x = true) (hy : isLn y = true) (hx0 : 0 ≤ x) (hy0 : 0 ≤ y) : Dd 177 [vA 0, vI x, vI y] σ (rI (lik x y) σ) :=
  b177 (Or.inl ⟨_, d235_t hx, Or.inl ⟨_, d235_t hy, _, _, d71 hx0 hy0, rfl⟩⟩)
theorem q188 {σ : Sg} {c : Int} {p k : Nat} {b : Int} (H : Rel c σ) (hp : (p : Int) < σ 0 3) : Dd 188 [vA 0, vI p, vI b, vI k] σ (rI (atS σ (20 + 13 * p + if b = 0 then 1 else 3) k) σ) := by
  obtain ⟨e, hP, -, -, -⟩ := pat_ok H hp
  refine b188 (Or.inl ⟨_, _, e, hP, Or.inl ⟨_, b233 (by rw [if_neg (by omega)]), ?_⟩⟩)
  by_cases hb : b = 0
  · rw [if_pos hb, if_pos hb]
    exact ⟨_, _, d147 (WF_w H.1 (pat_1 hP)), rfl⟩
  · rw [if_neg hb, if_neg hb]
    exact ⟨_, _, d147 (WF_w H.1 (pat_3 hP)), rfl⟩
theorem q189 {σ : Sg} {c : Int} {p k : Nat} (H : Rel c σ) (hp : (p : Int) < σ 0 3) (hk : (k : Int) < σ (20 + 13 * p + 1) 1) : Dd 189 [vA 0, vI p, vI k] σ (rI (σ (20 + 13 * p + 6) k) σ) := by
  obtain ⟨e, hP, hO, -, -⟩ := pat_ok H hp
  have d := d147 (i := (k : Int)) (WF_w H.1 (pat_5 hP))
  rw [atS_in (by rw [hO.2.2.1]; exact hk)] at d
  exact b189 (Or.inl ⟨_, _, e, hP, _, _, d146 (pat_1 hP), Or.inl ⟨_, d232_ok ⟨by omega, hk⟩, _, _, d, rfl⟩⟩)
/-- the hunks of a patch of the class -/
def hkP (σ : Sg) (P : Nat) : List (Nat × Nat × Nat × Nat) := hks (σ (P + 6)) (σ (P + 1) 1).toNat (σ (P + 3) 1).toNat
theorem q190 {σ : Sg} {c : Int} {p : Nat} (H : Rel c σ) (hp : (p : Int) < σ 0 3) : Dd 190 [vA 0, vI p] σ (rI ((hkP σ (20 + 13 * p)).length : Nat) σ) := by
  obtain ⟨e, hP, hO, -, -⟩ := pat_ok H hp
  exact b190 (Or.inl ⟨_, _, e, hP, _, _, d98 hP hO.2.2.2.2.2.2.2.2.2.1, rfl⟩)
def hkN (q : Nat × Nat × Nat × Nat) (w : Nat) : Int := if w = 0 then q.1 else if w = 1 then q.2.1 else if w = 2 then q.2.2.1 else q.2.2.2
theorem q191 {σ : Sg} {c : Int} {p h w : Nat} {q : Nat × Nat × Nat × Nat} (H : Rel c σ) (hp : (p : Int) < σ 0 3) (hq : (hkP σ (20 + 13 * p))[h]? = some q) (hw : w ≤ 3) : Dd 191 [vA 0, vI p, vI h, vI w] σ (rI (hkN q w) σ) := by
  obtain ⟨e, hP, hO, -, -⟩ := pat_ok H hp
  obtain ⟨hpc, hpv⟩ := hO.2.2.2.2.2.2.2.2.2
  have hl := (List.getElem?_eq_some_iff.mp hq).1
  have d := d147 (i := 4 * (h : Int) + (w : Int)) (WF_w H.1 (pat_9 hP))
  have hlen : ((hkP σ (20 + 13 * p)).length : Int) ≤ 97 := by
    have := (WF_w H.1 (pat_9 hP)).2.2
    have hc : cap (20 + 13 * p + 9) ≤ 388 := by
      have hn := (rel_n H).1
      have : ∀ p, p < 24 → cap (20 + 13 * p + 9) ≤ 388 := by decide +kernel
      exact this p (by omega)
    unfold hkP
    omega
  obtain ⟨y0, y1, y2, y3⟩ := hpv h q hq
  have ev : atS σ (20 + 13 * p + 9) (4 * (h : Int) + (w : Int)) = hkN q w := by
    unfold atS
    rw [if_pos ⟨by omega, by rw [hpc]; unfold hkP at hl; omega⟩, show (4 * (h : Int) + (w : Int)).toNat = 4 * h + w by omega]
    unfold hkN
    by_cases h0 : w = 0
    · rw [if_pos h0, h0]; exact y0
    · by_cases h1 : w = 1
      · rw [if_neg h0, if_pos h1, h1]; exact y1
      · by_cases h2 : w = 2
        · rw [if_neg h0, if_neg h1, if_pos h2, h2]; exact y2
        · rw [if_neg h0, if_neg h1, if_neg h2, show w = 3 by omega]; exact y3
  rw [ev] at d
  exact b191 (Or.inl ⟨_, _, e, hP, _, _, d98 hP hpc, Or.inl ⟨_, d232_ok ⟨by omega, by unfold hkP at hl; omega⟩, Or.inl ⟨_, d234_ok ⟨by omega, by omega⟩, _, _, b99 hP ⟨by omega, by omega, _, _, d, rfl⟩, rfl⟩⟩⟩)
theorem q193 {σ : Sg} {c : Int} {p q : Nat} (H : Rel c σ) (hp : (p : Int) < σ 0 3) (hq : (q : Int) < σ 0 3) : (PEQ σ (20 + 13 * p) (20 + 13 * q) → Dd 193 [vA 0, vI p, vI q] σ (rI 1 σ)) ∧ (¬ PEQ σ (20 + 13 * p) (20 + 13 * q) → Dd 193 [vA 0, vI p, vI q] σ (rI 0 σ)) := by
  obtain ⟨e, hP, -, -, -⟩ := pat_ok H hp
  obtain ⟨e', hQ, -, -, -⟩ := pat_ok H hq
  obtain ⟨d1, d2⟩ := d97 H.1 hP hQ
  exact ⟨fun h => b193 (Or.inl ⟨_, _, e, hP, Or.inl ⟨_, _, e', hQ, _, _, d1 h, Or.inr rfl, rfl⟩⟩), fun h => b193 (Or.inl ⟨_, _, e, hP, Or.inl ⟨_, _, e', hQ, _, _, d2 h, Or.inl rfl, rfl⟩⟩)⟩
theorem q196 {σ : Sg} {c : Int} {h : Nat} (H : Rel c σ) (hh : (h : Int) < σ 393 1) : Dd 196 [vA 0, vI h] σ (rI (σ 394 h) σ) := by
  have d := d147 (i := (h : Int)) (WF_w H.1 (show isRow 393 = true by decide +kernel))
  rw [atS_in hh] at d
  exact b196 ⟨_, _, d146 (by decide +kernel), Or.inl ⟨_, d232_ok ⟨by omega, hh⟩, _, _, d, rfl⟩⟩
theorem q209 {σ : Sg} {c : Int} {k : Nat} (H : Rel c σ) (hk : (k : Int) < σ 402 3) : Dd 209 [vA 0, vI k] σ (rI (σ 472 k) σ) := by
  have d := d147 (i := (k : Int)) (WF_w H.1 (show isRow 471 = true by decide +kernel))
  rw [atS_in (by rw [H.2.2.2.2.2.1.2.2.2.2.2.2.1.1]; exact hk)] at d
  exact b209 (Or.inl ⟨_, d232_ok ⟨by omega, hk⟩, _, _, d, rfl⟩)
/-- the row that holds the text of the stack -/
def tpR (σ : Sg) : Nat := blw (σ 402 3).toNat
theorem q210 {σ : Sg} {c : Int} {k : Nat} (H : Rel c σ) : Dd 210 [vA 0, vI k] σ (rI (atS σ (tpR σ) k) σ) :=
  b210 (Or.inl ⟨_, b233 (by rw [if_neg (by omega)]), _, _, d127 H, blw_row H, _, _, d147 (WF_w H.1 (blw_row H)), rfl⟩)
theorem q221 {σ : Sg} {c : Int} {t k : Nat} (H : Rel c σ) (ht : t < 4) : Dd 221 [vA 0, vI t, vI k] σ (rI (atS σ (11 + 2 * t) k) σ) := by
  obtain ⟨e, r⟩ := byt_ok (σ := σ) ht
  exact b221 (Or.inl ⟨_, _, e, r, Or.inl ⟨_, b233 (by rw [if_neg (by omega)]), _, _, d147 (WF_w H.1 r), rfl⟩⟩)
theorem q198 {σ : Sg} {c : Int} {t : Nat} (H : Rel c σ) (ht : t < 4) : Dd 198 [vA 0, vI t] σ (rI (cnF (σ (2 + 2 * t + 1)) (σ (2 + 2 * t) 1).toNat (σ (2 + 2 * t) 1).toNat 0 : Nat) σ) := by
  obtain ⟨e, r⟩ := txt_ok (σ := σ) ht
  have w := WF_w H.1 r
  exact b198 (Or.inl ⟨_, _, e, r, _, _, d82 w (n := (σ (2 + 2 * t) 1).toNat) (by have := w.2.1; omega) (fun i _ => rfl), rfl⟩)
theorem Dc_of {j : Nat} {as : List AV} {σ s : Sg} {v : Option AV ⊕ Nat} (h : Dd j as σ (v, s)) : Dc j as σ v s := ⟨s, h, fun _ _ => rfl⟩
/-- out of the contract and a run of the class of one's own: the relation behind it -/
theorem fc_join {j m : Nat} {as am : List AV} {q : Nat → Option Int} {σ s : Sg} {c v : Int} (F : FcR j m as am q σ c) (hD : Dd j as σ (rI v s)) : ∃ s2, Dc j as σ (.inl (some (.inl v))) s2 ∧ Rel c s2 ∧ ∀ a, a < 682 → s2 a = s a := by
  obtain ⟨s1, -, ⟨v', s2, ⟨s', h1, h2⟩, -, h4, -⟩ | ⟨E, b, s2, ⟨s', h1, h2⟩, -⟩⟩ := F
  · have e := Gd_det h1 hD
    cases e
    exact ⟨s2, ⟨s, hD, h2⟩, h4, fun a ha => (h2 a ha).symm⟩
  · have e := Gd_det h1 hD
    cases e
theorem fc_joinB {j m : Nat} {as am : List AV} {q : Nat → Option Int} {σ s : Sg} {c v : Int} (F : FcB j m as am q σ c) (hD : Dd j as σ (rI v s)) : ∃ s2, Dc j as σ (.inl (some (.inl v))) s2 ∧ Rel c s2 ∧ ∀ a, a < 682 → s2 a = s a := by
  obtain ⟨s1, -, ⟨v', b, s2, ⟨s', h1, h2⟩, -, -, h4, -⟩ | ⟨E, b, s2, ⟨s', h1, h2⟩, -⟩⟩ := F
  · have e := Gd_det h1 hD
    cases e
    exact ⟨s2, ⟨s, hD, h2⟩, h4, fun a ha => (h2 a ha).symm⟩
  · have e := Gd_det h1 hD
    cases e
end
