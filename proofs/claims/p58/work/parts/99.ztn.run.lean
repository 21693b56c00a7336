/-! The law's whole run. -/
noncomputable section
def lnQ (q i : Nat) : Int := if q = 8 then 0 else 10000 * (if i = 2 then 1 else 0) + lnW q
theorem lnF_Q (a : Nat) : lnF a = lnQ (a % 9) (a / 9 % 3) := rfl
theorem lik_sy : ∀ q, q < 9 → ∀ i, i < 3 → ∀ q', q' < 9 → ∀ i', i' < 3 → lik (lnQ q i) (lnQ q' i') = lik (lnQ q' i') (lnQ q i) := by decide +kernel
theorem lik_se : ∀ q, q < 9 → ∀ i, i < 3 → lik (lnQ q i) (lnQ q i) = 100 := by decide +kernel
theorem lnF_sy (a b : Nat) : lik (lnF a) (lnF b) = lik (lnF b) (lnF a) := lik_sy _ (Nat.mod_lt _ (by decide)) _ (Nat.mod_lt _ (by decide)) _ (Nat.mod_lt _ (by decide)) _ (Nat.mod_lt _ (by decide))
theorem lnF_se (a : Nat) : lik (lnF a) (lnF a) = 100 := lik_se _ (Nat.mod_lt _ (by decide)) _ (Nat.mod_lt _ (by decide))
theorem Dc177 {σ : Sg} (a b : Nat) : Dc 177 [vA 0, vI (lnF a), vI (lnF b)] σ (.inl (some (.inl (lik (lnF a) (lnF b))))) σ := Dc_of (q177 (lnF_ok a).1 (lnF_ok b).1 (lnF_ok a).2 (lnF_ok b).2)
/-- orders of an empty stack -/
theorem q212z {σ : Sg} {c : Int} (H : Rel c σ) (g : σ 402 3 = 0) : ∃ s : Sg, Dc 212 [vA 0] σ (.inl (some (.inl 1))) s ∧ Rel c s ∧ Pe σ s := by
  have nn : ∀ {x : Nat} {a : Pt} {P : Prop}, ([] : List Pt)[x]? = some a → P := fun {x a P} e => by rw [List.getElem?_nil] at e; cases e
  have hst : okL 0 ([] : List Pt) [] := ⟨rfl, fun x a e => nn e, fun x a b e _ => nn e, fun a e => nn e, fun a b e _ => nn e⟩
  have K : SK σ 0 [] := ⟨g, fun y q e => nn e⟩
  obtain ⟨s, a1, a2, a3⟩ := d165 (Nat.zero_le 4) hst H.1 K
  have D := ouF_DI (Nat.zero_le 4) 24 0 _ (DI_0 (Nat.zero_le 4) hst)
  obtain ⟨e, he, -⟩ := D.2.2.1
  have l2 := (List.getElem?_eq_some_iff.mp he).1
  have l1 : (ouF 0 24 0 [(List.range 0, ([] : List Pt), 0, 0)]).length = 1 := by
    rcases Nat.lt_or_ge 1 (ouF 0 24 0 [(List.range 0, ([] : List Pt), 0, 0)]).length with y | y
    · have := (D.2.2.2 1 _ (by decide) (List.getElem?_eq_getElem y)).2.1
      omega
    · omega
  rw [l1] at a1
  refine ⟨s, Dc_of (b212 (by rw [if_neg (by omega)]; exact ⟨_, _, a1, rfl⟩)), Rel_sc (Int.le_refl c) a2 (fun x i h => a3 x i (by unfold KP at h; omega) (by unfold KP at h; omega)) H, fun x i h1 h2 h3 => a3 x i (by unfold KP at h2; omega) (by unfold KP at h2; omega)⟩
/-- the end of the law -/
theorem lend {k r : Nat} {w : WS} {d0 d4 d5 d6 : Option AV} (L : LI k w) : K0_203 d0 1 d4 d5 d6 w r (rO 1 w) := by
  refine bK0_203 ?_
  rw [if_neg (by decide)]
  refine ⟨Nat.zero_le _, w.2.2 0 3, w.2.2, Dc_of (b187 rfl), L.1, ⟨by decide, by decide⟩, ?_⟩
  rw [wSs, if_pos (show w.2.2 0 3 = w.2.1 682 ((0 : Int)).toNat from L.2.2.1.symm)]
  refine ⟨Nat.zero_le _, w.2.2 402 3, w.2.2, Dc_of (b208 rfl), L.1, ⟨by decide, by decide⟩, ?_⟩
  rw [wSs, if_pos (show w.2.2 402 3 = w.2.1 682 ((3 : Int)).toNat from L.2.2.2.2.2.1.symm)]
  exact bK0_232 ⟨Or.inr rfl, rfl⟩
theorem lloop {N : Nat} (hN : N ≤ 70) : ∀ (d k r : Nat) (w : WS) (d6 : Option AV), LI k w → k + d = N → 3106 * d + 10 ≤ r → ∃ w', K0_84 1 (N : Int) (k : Int) d6 w r (rO 1 w') := by
  intro d
  induction d with
  | zero =>
    intro k r w d6 L hk hr
    refine ⟨w, bK0_84 ?_⟩
    rw [if_neg (by omega)]
    exact lend L
  | succ d ih =>
    intro k r w d6 L hk hr
    obtain ⟨v1, -, e1⟩ := m243 (w := w) (k := 3 * k + 1) (by omega)
    obtain ⟨v2, -, e2⟩ := m243 (w := w) (k := 3 * k) (by omega)
    obtain ⟨v3, -, e3⟩ := m243 (w := w) (k := 3 * k + 2) (by omega)
    rw [show ((3 * k + 1 : Nat) : Int) = 3 * (k : Int) + 1 by omega] at e1
    rw [show ((3 * k : Nat) : Int) = 3 * (k : Int) by omega] at e2
    rw [show ((3 * k + 2 : Nat) : Int) = 3 * (k : Int) + 2 by omega] at e3
    obtain ⟨w', L', -, e4⟩ := m245 (x := v2) (a := v1) (b := v3) L (by omega)
    obtain ⟨w'', H⟩ := ih (k + 1) (r - 3100 - 2 - 2 - 2) w' (some (vI v1)) L' (by omega) (by omega)
    rw [show ((k + 1 : Nat) : Int) = (k : Int) + 1 by omega] at H
    have et : Int.tdiv (v1 : Int) 27 = ((v1 / 27 : Nat) : Int) := rfl
    refine ⟨w'', bK0_84 ?_⟩
    rw [if_pos (by omega), if_neg (by decide)]
    refine ⟨by omega, by omega, Nat.zero_le _, v1, w, e1, bK0_107 ⟨by omega, Nat.zero_le _, v2, w, e2, by omega, by omega, Nat.zero_le _, v3, w, e3, by omega, 1, w', e4, ?_⟩⟩
    rw [if_neg (by decide)]
    refine bK0_135 ⟨Nat.zero_le _, lnF v1, w', m244, Nat.zero_le _, lnF (v1 / 27), w', by rw [et]; exact m244, by omega, _, w'.2.2, Dc177 v1 (v1 / 27), ?_⟩
    rw [wSs]
    refine bK0_152 ⟨Nat.zero_le _, lnF (v1 / 27), w', by rw [et]; exact m244, Nat.zero_le _, lnF v1, w', m244, by omega, _, w'.2.2, Dc177 (v1 / 27) v1, ?_⟩
    rw [wSs, if_pos (lnF_sy _ _)]
    refine bK0_172 ⟨Nat.zero_le _, lnF v1, w', m244, Nat.zero_le _, lnF v1, w', m244, by omega, _, w'.2.2, Dc177 v1 v1, ?_⟩
    rw [wSs, if_pos (lnF_se _)]
    exact bK0_196 ⟨by omega, H⟩
theorem lall {w : WS} {r Ls : Nat} (L : LI 0 w) (hl : w.2.1 (SCR + 1) 0 = (Ls : Nat)) (h1 : w.2.2 0 3 = 0) (h2 : w.2.2 402 3 = 0) (h3 : w.2.2 403 1 = 0) (hr : 230000 ≤ r) : ∃ w', Lg 0 13 [some (vA SCR), some (vA 0), some (vA 682), none, none, none, none] [] w r (rO 1 w') := by
  obtain ⟨s, e5, R, P⟩ := q212z L.2.1 h2
  have L1 : LI 0 (wS w s) := LI_W L (Wi_s (Wi_r L.2.1) R P)
  obtain ⟨N, hN⟩ : ∃ N, N = if 70 < Ls / 3 then 70 else Ls / 3 := ⟨_, rfl⟩
  have hN7 : N ≤ 70 := by rw [hN]; split <;> omega
  have eN : (if 70 < Int.tdiv ((Ls : Nat) : Int) 3 then (70 : Int) else Int.tdiv ((Ls : Nat) : Int) 3) = (N : Int) := by
    rw [show Int.tdiv ((Ls : Nat) : Int) 3 = ((Ls / 3 : Nat) : Int) from rfl, hN]
    split <;> split <;> omega
  obtain ⟨w', H⟩ := lloop hN7 N 0 (r - 1 - 2 - 1) (wS w s) none L1 (by omega) (by omega)
  refine ⟨w', lb0 ⟨Nat.zero_le _, w.2.2 0 3, w.2.2, Dc_of (b187 rfl), ?_⟩⟩
  rw [if_pos h1, wSs]
  refine ⟨Nat.zero_le _, w.2.2 402 3, w.2.2, Dc_of (b208 rfl), ?_⟩
  rw [if_pos h2, wSs]
  have e3 : Dc 210 [vA 0, vI ((0 : Nat) : Int)] w.2.2 (.inl (some (.inl (-1)))) w.2.2 := q210o L.2.1 (by
    have : tpR w.2.2 = 403 := by unfold tpR; rw [h2]; rfl
    rw [this, h3]; omega)
  refine ⟨by omega, -1, w.2.2, e3, ?_⟩
  rw [if_pos rfl, wSs]
  refine ⟨by omega, 100, w.2.2, Dc177 8 8, ?_⟩
  rw [if_pos rfl, wSs]
  refine ⟨by omega, 1, s, e5, ?_⟩
  rw [if_pos rfl]
  refine bK0_60 ?_
  rw [show (wS w s).2.1 (SCR + 1) 0 = (Ls : Nat) from hl, eN]
  exact bK0_79 H
end
