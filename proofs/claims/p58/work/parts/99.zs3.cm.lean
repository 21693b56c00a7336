/-! The law: texts compared. -/
noncomputable section
theorem q178 {σ : Sg} {c a3 : Int} {t u p n1 n2 : Nat} (H : Rel c σ) (ht : t < 4) (hu : u < 4) (g7 : 0 ≤ a3 ∧ a3 < 3) (z1 : σ (2 + 2 * t) 1 = (n1 : Nat)) (z2 : σ (2 + 2 * u) 1 = (n2 : Nat)) (hp : p < n1) : ∃ s, Dc 178 [vA 0, vI t, vI u, vI a3, vI p] σ (.inl (some (.inl (mtc a3 (σ (2 + 2 * t + 1)) (σ (2 + 2 * u + 1)) n1 n2 p)))) s ∧ Rel c s ∧ Pe σ s := by
  obtain ⟨e227, r1⟩ := txt_ok (σ := σ) ht
  obtain ⟨f227, r2⟩ := txt_ok (σ := σ) hu
  have b1 := (txl_ok H ht).2.1
  have b2 := (txl_ok H hu).2.1
  have e146 := d146 (σ := σ) r1
  rw [z1] at e146
  have e232 := d232_ok (σ := σ) (i := (p : Int)) (n := (n1 : Int)) (by omega)
  obtain ⟨s1, a1', W1, a4', a5', a6'⟩ := d15 (way := a3) H.1 r1 r2 z1 z2 (by omega) (by omega) (by omega) (by omega)
  have q147 := d147 (σ := s1) (a := 337) (i := (p : Int)) (WF_w W1 (by decide +kernel))
  rw [atS_in (by rw [a4']; omega), a5' p hp] at q147
  exact ⟨s1, Dc_of (b178 (Or.inl ⟨_, _, e227, r1, Or.inl ⟨_, _, f227, r2, _, _, e146, Or.inl ⟨_, e232, Or.inl ⟨_, d236_ok g7, _, _, a1', by decide +kernel, _, _, q147, rfl⟩⟩⟩⟩)), Rel_sc (Int.le_refl c) W1 (fun x k h => a6' x k (by unfold KP at h; omega) (by unfold KP at h; omega)) H, fun x k h1 h2 h3 => a6' x k (by unfold KP at h2; omega) (by unfold KP at h2; omega)⟩
theorem q179 {σ : Sg} {c a3 : Int} {t u n1 n2 : Nat} (H : Rel c σ) (ht : t < 4) (hu : u < 4) (g7 : 0 ≤ a3 ∧ a3 < 3) (z1 : σ (2 + 2 * t) 1 = (n1 : Nat)) (z2 : σ (2 + 2 * u) 1 = (n2 : Nat)) : ∃ s, Dc 179 [vA 0, vI t, vI u, vI a3] σ (.inl (some (.inl ((n1 : Int) - cnt (mtc a3 (σ (2 + 2 * t + 1)) (σ (2 + 2 * u + 1)) n1 n2) (-1) 0 n1)))) s ∧ Rel c s ∧ Pe σ s := by
  obtain ⟨e227, r1⟩ := txt_ok (σ := σ) ht
  obtain ⟨f227, r2⟩ := txt_ok (σ := σ) hu
  have b1 := (txl_ok H ht).2.1
  have b2 := (txl_ok H hu).2.1
  obtain ⟨s1, a1', W1, a4', a5', a6'⟩ := d15 (way := a3) H.1 r1 r2 z1 z2 (by omega) (by omega) (by omega) (by omega)
  obtain ⟨M, hM⟩ : ∃ M, M = mtc a3 (σ (2 + 2 * t + 1)) (σ (2 + 2 * u + 1)) n1 n2 := ⟨_, rfl⟩
  rw [← hM] at a5' ⊢
  have w337 := WF_w W1 (a := 337) (by decide +kernel)
  have q146 := d146 (σ := s1) w337.1
  rw [a4'] at q146
  have q157 := d157 (σ := s1) (R := 337) (n := n1) (a := 0) (e := n1) (f := M) (x := -1) w337 a4' a5' (Nat.zero_le _) (Nat.le_refl _)
  have q157 : Dd 157 [vA 337, vI (-1), vI 0, vI (n1 : Nat)] s1 (rI (cnt M (-1) 0 n1) s1) := q157
  have bc := cnt_b (f := M) (x := -1) n1 0
  exact ⟨s1, Dc_of (b179 (Or.inl ⟨_, _, e227, r1, Or.inl ⟨_, _, f227, r2, Or.inl ⟨_, d236_ok g7, _, _, a1', w337.1, _, _, q146, _, _, q146, _, _, q157, by omega, rfl⟩⟩⟩)), Rel_sc (Int.le_refl c) W1 (fun x k h => a6' x k (by unfold KP at h; omega) (by unfold KP at h; omega)) H, fun x k h1 h2 h3 => a6' x k (by unfold KP at h2; omega) (by unfold KP at h2; omega)⟩
theorem q180 {σ : Sg} {c : Int} {t u n1 n2 : Nat} (H : Rel c σ) (ht : t < 4) (hu : u < 4) (z1 : σ (2 + 2 * t) 1 = (n1 : Nat)) (z2 : σ (2 + 2 * u) 1 = (n2 : Nat)) : ∃ s, Dc 180 [vA 0, vI t, vI u] σ (.inl (some (.inl (lp (σ (2 + 2 * t + 1)) (σ (2 + 2 * u + 1)) n1 n2)))) s ∧ Rel c s ∧ Pe σ s := by
  obtain ⟨e227, r1⟩ := txt_ok (σ := σ) ht
  obtain ⟨f227, r2⟩ := txt_ok (σ := σ) hu
  have b1 := (txl_ok H ht).2.1
  have b2 := (txl_ok H hu).2.1
  obtain ⟨s1, a1', W1, a3⟩ := d16 H.1 r1 r2 z1 z2 (by omega) (by omega) (by omega) (by omega)
  rw [← lt_lp]
  exact ⟨s1, Dc_of (b180 (Or.inl ⟨_, _, e227, r1, Or.inl ⟨_, _, f227, r2, _, _, a1', rfl⟩⟩)), Rel_sc (Int.le_refl c) W1 (fun x k h => a3 x k (by unfold KP at h; omega) (by unfold KP at h; omega) (by unfold KP at h; omega)) H, fun x k h1 h2 h3 => a3 x k (by unfold KP at h2; omega) (by unfold KP at h2; omega) (by unfold KP at h2; omega)⟩
/-- the law's own table row: how many lines can be paired at the most -/
def lrow (f g : Nat → Int) (i : Nat) (w : WS) (a m : Nat) : Prop := ∀ j, j ≤ m → w.2.1 a j = lp f g i j
section
variable {w0 : WS} {c : Int} {t u n m : Nat}
/-- one row's inner loop: cells 1..j are of row i + 1, the rest of row i; slant is row i's cell j -/
def irow (f g : Nat → Int) (i j : Nat) (w : WS) (a m : Nat) : Prop := (∀ x, x ≤ j → w.2.1 a x = lp f g (i + 1) x) ∧ ∀ x, j < x → x ≤ m → w.2.1 a x = lp f g i x
/-- the state while the table is filled -/
def Mst (w0 w : WS) (a : Nat) : Prop := w.1 = w0.1 ∧ w.2.2 = w0.2.2 ∧ ∀ b k, ¬ b = a → w.2.1 b k = w0.2.1 b k
theorem lp_b {f g : Nat → Int} : ∀ i j : Nat, lp f g i j ≤ (i : Int) := by
  intro i
  induction i with
  | zero => intro j; unfold lp; omega
  | succ i ih =>
    intro j
    cases j with
    | zero => rw [lp_0]; omega
    | succ j =>
      rw [lp_s]
      by_cases h : f i = g j
      · rw [if_pos h]; have := ih j; omega
      · rw [if_neg h]
        have h1 := ih (j + 1)
        have key : ∀ j, lp f g (i + 1) j ≤ ((i + 1 : Nat) : Int) := by
          intro j
          induction j with
          | zero => rw [lp_0]; omega
          | succ j ihj =>
            rw [lp_s]
            by_cases h : f i = g j
            · rw [if_pos h]; have := ih j; omega
            · rw [if_neg h]
              have h1 := ih (j + 1)
              rcases mxI_or (lp f g i (j + 1)) (lp f g (i + 1) j) with e | e <;> rw [e]
              · omega
              · exact ihj
        have h2 := key j
        rcases mxI_or (lp f g i (j + 1)) (lp f g (i + 1) j) with e | e <;> rw [e]
        · omega
        · exact h2
theorem ll248i {w0 : WS} {c : Int} {t u n m a i R : Nat} (H : Rel c w0.2.2) (ht : t < 4) (hu : u < 4) (hn : w0.2.2 (2 + 2 * t) 1 = (n : Nat)) (hm : w0.2.2 (2 + 2 * u) 1 = (m : Nat)) (hm16 : m ≤ 16) (hn16 : n ≤ 16) (ha : 682 ≤ a ∧ ¬ a = SCR) (hS : w0.1[a - 682]? = some (0, 18, [])) (hi : i < n) {P : Ro → Prop} : ∀ (d j r : Nat) (w : WS) (d7 d8 : Option AV), j + d = m → Mst w0 w a → irow (w0.2.2 (2 + 2 * t + 1)) (w0.2.2 (2 + 2 * u + 1)) i j w a m → R + 5 * d + 1 ≤ r →
    (∀ (w' : WS) (r' : Nat) (d5 d6 d7 d8 : Option AV), Mst w0 w' a → lrow (w0.2.2 (2 + 2 * t + 1)) (w0.2.2 (2 + 2 * u + 1)) (i + 1) w' a m → R ≤ r' → ∃ o, P o ∧ K248_8 t u a (i + 1 : Nat) d5 d6 d7 d8 w' r' o) →
    ∃ o, P o ∧ K248_24 t u a i (lp (w0.2.2 (2 + 2 * t + 1)) (w0.2.2 (2 + 2 * u + 1)) i j) j d7 d8 w r o := by
  intro d
  induction d with
  | zero =>
    intro j r w d7 d8 hj M I hr K
    obtain ⟨M1, M2, M3⟩ := M
    obtain ⟨o, k1, k2⟩ := K w (r - 1) _ (some (.inl (j : Int))) d7 d8 ⟨M1, M2, M3⟩ (fun x hx => I.1 x (by omega)) (by omega)
    refine ⟨o, k1, bK248_24 ⟨by omega, _, _, Dc_of (q175 hu), ?_⟩⟩
    rw [if_neg (by rw [M2, hm]; omega)]
    exact ⟨by omega, k2⟩
  | succ d ih =>
    intro j r w d7 d8 hj M I hr K
    obtain ⟨M1, M2, M3⟩ := M
    obtain ⟨I1, I2⟩ := I
    have hb0 := lp_nn (f := w0.2.2 (2 + 2 * t + 1)) (g := w0.2.2 (2 + 2 * u + 1)) i j
    have hb1 := lp_b (f := w0.2.2 (2 + 2 * t + 1)) (g := w0.2.2 (2 + 2 * u + 1)) i j
    have e1 : w.2.1 a ((j : Int)).toNat = lp (w0.2.2 (2 + 2 * t + 1)) (w0.2.2 (2 + 2 * u + 1)) (i + 1) j := by rw [Int.toNat_natCast]; exact I1 j (Nat.le_refl _)
    have e2 : w.2.1 a (((j : Int) + 1)).toNat = lp (w0.2.2 (2 + 2 * t + 1)) (w0.2.2 (2 + 2 * u + 1)) i (j + 1) := by rw [show ((j : Int) + 1).toNat = j + 1 by omega]; exact I2 (j + 1) (by omega) (by omega)
    have hS' : w.1[a - 682]? = some (0, 18, []) := by rw [M1]; exact hS
    have Hw : Rel c w.2.2 := by rw [M2]; exact H
    have dX := q176 (k := i) Hw ht (by rw [M2, hn]; omega)
    have dY := q176 (k := j) Hw hu (by rw [M2, hm]; omega)
    rw [M2] at dX dY
    -- the cell's new value
    obtain ⟨v, hv⟩ : ∃ v, v = lp (w0.2.2 (2 + 2 * t + 1)) (w0.2.2 (2 + 2 * u + 1)) (i + 1) (j + 1) := ⟨_, rfl⟩
    have hvx : (if w0.2.2 (2 + 2 * t + 1) i = w0.2.2 (2 + 2 * u + 1) j then lp (w0.2.2 (2 + 2 * t + 1)) (w0.2.2 (2 + 2 * u + 1)) i j + 1 else (if lp (w0.2.2 (2 + 2 * t + 1)) (w0.2.2 (2 + 2 * u + 1)) (i + 1) j < lp (w0.2.2 (2 + 2 * t + 1)) (w0.2.2 (2 + 2 * u + 1)) i (j + 1) then lp (w0.2.2 (2 + 2 * t + 1)) (w0.2.2 (2 + 2 * u + 1)) i (j + 1) else lp (w0.2.2 (2 + 2 * t + 1)) (w0.2.2 (2 + 2 * u + 1)) (i + 1) j)) = v := by
      rw [hv, lp_s]
      by_cases h : w0.2.2 (2 + 2 * t + 1) i = w0.2.2 (2 + 2 * u + 1) j
      · rw [if_pos h, if_pos h]
      · rw [if_neg h, if_neg h]
        unfold mxI
        split <;> split <;> omega
    have M' : Mst w0 (wU w a (j + 1) v) a := ⟨M1, M2, fun b k hb => (up_a (by omega)).trans (M3 b k hb)⟩
    have I' : irow (w0.2.2 (2 + 2 * t + 1)) (w0.2.2 (2 + 2 * u + 1)) i (j + 1) (wU w a (j + 1) v) a m := by
      refine ⟨fun x hx => ?_, fun x h1 h2 => ?_⟩
      · show upS w.2.1 a (j + 1) v a x = _
        by_cases y : x = j + 1
        · subst y; rw [up_s]; exact hv
        · rw [up_k y]; exact I1 x (by omega)
      · show upS w.2.1 a (j + 1) v a x = _
        rw [up_k (by omega)]
        exact I2 x (by omega) h2
    obtain ⟨o, k1, k2⟩ := ih (j + 1) (r - 1 - 2 - 2) (wU w a (j + 1) v) (some (.inl (lp (w0.2.2 (2 + 2 * t + 1)) (w0.2.2 (2 + 2 * u + 1)) i (j + 1)))) (some (.inl (if lp (w0.2.2 (2 + 2 * t + 1)) (w0.2.2 (2 + 2 * u + 1)) (i + 1) j < lp (w0.2.2 (2 + 2 * t + 1)) (w0.2.2 (2 + 2 * u + 1)) i (j + 1) then lp (w0.2.2 (2 + 2 * t + 1)) (w0.2.2 (2 + 2 * u + 1)) i (j + 1) else lp (w0.2.2 (2 + 2 * t + 1)) (w0.2.2 (2 + 2 * u + 1)) (i + 1) j))) (by omega) M' I' (by omega) K
    refine ⟨o, k1, bK248_24 ⟨by omega, _, _, Dc_of (q175 hu), ?_⟩⟩
    rw [if_pos (by rw [M2, hm]; omega)]
    refine ⟨by omega, ha, hS', by omega, ha, hS', by omega, fun _ => ha, fun _ => hS', fun _ => by omega, ?_⟩
    show K248_60 t u a i _ j (w.2.1 a ((j : Int) + 1).toNat) d8 (if w.2.1 a ((j : Int)).toNat < w.2.1 a ((j : Int) + 1).toNat then w.2.1 a ((j : Int) + 1).toNat else w.2.1 a ((j : Int)).toNat) w (r - 1) o
    rw [e1, e2]
    have dX' : Dc 176 [vA 0, vI t, vI i] w.2.2 (.inl (some (.inl (w0.2.2 (2 + 2 * t + 1) i)))) w.2.2 := by rw [M2]; exact Dc_of dX
    have dY' : Dc 176 [vA 0, vI u, vI j] w.2.2 (.inl (some (.inl (w0.2.2 (2 + 2 * u + 1) j)))) w.2.2 := by rw [M2]; exact Dc_of dY
    refine bK248_60 ⟨by omega, by omega, _, _, dX', by omega, _, _, dY', fun _ => by omega, ?_⟩
    rw [hvx]
    refine bK248_93 ⟨ha.1, by show w.1[a - 682]? = _; exact hS', by omega, by omega, ?_⟩
    have hw : wU w a (((j : Int) + 1)).toNat v = wU w a (j + 1) v := by rw [show ((j : Int) + 1).toNat = j + 1 by omega]
    simp only [wSs]
    rw [hw]
    exact k2
theorem ll248 {w0 : WS} {c : Int} {t u n m a : Nat} (H : Rel c w0.2.2) (ht : t < 4) (hu : u < 4) (hn : w0.2.2 (2 + 2 * t) 1 = (n : Nat)) (hm : w0.2.2 (2 + 2 * u) 1 = (m : Nat)) (hm16 : m ≤ 16) (hn16 : n ≤ 16) (ha : 682 ≤ a ∧ ¬ a = SCR) (hS : w0.1[a - 682]? = some (0, 18, [])) : ∀ (d i r : Nat) (w : WS) (d5 d6 d7 d8 : Option AV), i + d = n → Mst w0 w a → lrow (w0.2.2 (2 + 2 * t + 1)) (w0.2.2 (2 + 2 * u + 1)) i w a m → (5 * m + 2) * d + 2 ≤ r → ∃ o, (∃ w', Mst w0 w' a ∧ o = rO (lp (w0.2.2 (2 + 2 * t + 1)) (w0.2.2 (2 + 2 * u + 1)) n m) w') ∧ K248_8 t u a i d5 d6 d7 d8 w r o := by
  intro d
  induction d with
  | zero =>
    intro i r w d5 d6 d7 d8 hi M I hr
    obtain ⟨M1, M2, M3⟩ := M
    refine ⟨_, ⟨w, ⟨M1, M2, M3⟩, rfl⟩, bK248_8 ⟨by omega, _, _, Dc_of (q175 ht), ?_⟩⟩
    rw [if_neg (by rw [M2, hn]; omega)]
    refine ⟨by omega, _, _, Dc_of (q175 hu), ha, by show w.1[a - 682]? = _; rw [M1]; exact hS, ?_, ?_⟩
    · show 0 ≤ w.2.2 (2 + 2 * u) 1 ∧ w.2.2 (2 + 2 * u) 1 < 18
      rw [M2, hm]; omega
    · show rO _ w = rO (w.2.1 a (w.2.2 (2 + 2 * u) 1).toNat) w
      rw [M2, hm, Int.toNat_natCast, I m (Nat.le_refl _), show n = i by omega]
  | succ d ih =>
    intro i r w d5 d6 d7 d8 hi M I hr
    have e : (5 * m + 2) * (d + 1) = (5 * m + 2) * d + (5 * m + 2) := Nat.mul_succ _ _
    obtain ⟨M1, M2, M3⟩ := M
    have I0 : irow (w0.2.2 (2 + 2 * t + 1)) (w0.2.2 (2 + 2 * u + 1)) i 0 w a m := ⟨fun x hx => by rw [show x = 0 by omega, I 0 (Nat.zero_le _), lp_0, lp_0], fun x h1 h2 => I x h2⟩
    have k := ll248i (R := (5 * m + 2) * d + 2) H ht hu hn hm hm16 hn16 ha hS (show i < n by omega) (P := fun o => ∃ w', Mst w0 w' a ∧ o = rO (lp (w0.2.2 (2 + 2 * t + 1)) (w0.2.2 (2 + 2 * u + 1)) n m) w') m 0 (r - 1) w d7 d8 (by omega) ⟨M1, M2, M3⟩ I0 (by omega) (fun w' r' d5 d6 d7 d8 M' I' hR => ih (i + 1) r' w' d5 d6 d7 d8 (by omega) M' I' hR)
    obtain ⟨o, k1, k2⟩ := k
    rw [lp_0] at k2
    refine ⟨o, k1, bK248_8 ⟨by omega, _, _, Dc_of (q175 ht), ?_⟩⟩
    rw [if_pos (by rw [M2, hn]; omega)]
    exact k2
end
/-- a new row of the law's own -/
theorem LI_arr {n : Nat} {w w' : WS} {x} (L : LI n w) (h1 : w'.1 = w.1 ++ [x]) (h2 : w'.2.2 = w.2.2) (h3 : ∀ b k, ¬ b = 682 + w.1.length → w'.2.1 b k = w.2.1 b k) : LI (n + 1) w' := by
  obtain ⟨a1, a2, a3, a4, a5, a6, a7, a8, a9, b1, b2, b3⟩ := L
  have hl : 0 < w.1.length := by
    cases hw : w.1 with
    | nil => rw [hw] at a1; cases a1
    | cons _ _ => simp
  have u : ∀ k, w'.2.1 682 k = w.2.1 682 k := fun k => h3 682 k (by omega)
  refine ⟨?_, by rw [h2]; exact a2, by rw [h2, u]; exact a3, by rw [h2, u]; exact a4, by rw [h2, u]; exact a5, by rw [h2, u]; exact a6, by rw [h2, u]; exact a7, fun k hk => ?_, ?_, fun a g1 g2 k => ?_, ?_, by rw [u]; omega⟩
  · rw [h1, List.getElem?_append_left hl]; exact a1
  · rw [h2] at hk ⊢
    rw [u]; exact a8 k hk
  · rw [h2, u]; exact a9
  · rw [h1, List.length_append] at g1
    have : [x].length = 1 := rfl
    rw [h3 a k (by omega)]
    exact b1 a (by omega) g2 k
  · rw [h1, List.length_append]
    have : [x].length = 1 := rfl
    omega
theorem m248 {n : Nat} {w : WS} {t u n1 n2 : Nat} (L : LI n w) (hn : n ≤ 100) (ht : t < 4) (hu : u < 4) (z1 : w.2.2 (2 + 2 * t) 1 = (n1 : Nat)) (z2 : w.2.2 (2 + 2 * u) 1 = (n2 : Nat)) : ∃ w', LI (n + 1) w' ∧ Sc w w' ∧ w'.2.2 = w.2.2 ∧ Lx 248 [vA 0, vI t, vI u] w (rO (lp (w.2.2 (2 + 2 * t + 1)) (w.2.2 (2 + 2 * u + 1)) n1 n2) w') := by
  have g1 := (txl_ok L.2.1 ht).2.1
  have g2 := (txl_ok L.2.1 hu).2.1
  have hs : SCR = 1000000000 := rfl
  have hl : w.1.length ≤ n + 1 := L.2.2.2.2.2.2.2.2.2.2.1
  have fr := L.2.2.2.2.2.2.2.2.2.1
  have hSx : (wN w 18).1[682 + w.1.length - 682]? = some (0, 18, []) := by
    show (w.1 ++ [(0, 18, [])])[682 + w.1.length - 682]? = _
    rw [show 682 + w.1.length - 682 = w.1.length by omega, List.getElem?_append_right (Nat.le_refl _), Nat.sub_self]
    rfl
  obtain ⟨o, ⟨w', ⟨M1, M2, M3⟩, ho⟩, K⟩ := ll248 (w0 := wN w 18) (c := 1000) (t := t) (u := u) (n := n1) (m := n2) (a := 682 + w.1.length) L.2.1 ht hu z1 z2 (by omega) (by omega) (by omega) hSx n1 0 1599 (wN w 18) none none none none (by omega) ⟨rfl, rfl, fun _ _ _ => rfl⟩ (fun j hj => by
    show w.2.1 (682 + w.1.length) j = _
    rw [fr _ (Nat.le_refl _) (by omega)]
    cases j <;> rfl) (by
      have q1 : n1 ≤ 16 := by omega
      have q2 : n2 ≤ 16 := by omega
      have : (5 * n2 + 2) * n1 ≤ 82 * 16 := Nat.mul_le_mul (by omega) q1
      omega)
  subst ho
  refine ⟨w', LI_arr (x := (0, 18, [])) L M1 M2 (fun b k hb => M3 b k hb), fun k => ⟨M3 _ k (by omega), M3 _ k (by omega)⟩, M2, lb248 ⟨by omega, by decide, K⟩⟩
theorem lp_sw {f g : Nat → Int} {n m : Nat} : lp g f m n = lp f g n m := by rw [← lt_lp, lt_swap, lt_lp]
theorem ll249 {w1 : WS} {c a3 mx : Int} {t u n m : Nat} {F : Nat → Int} (ht : t < 4) (hu : u < 4) (g7 : 0 ≤ a3 ∧ a3 < 3) (hn : w1.2.2 (2 + 2 * t) 1 = (n : Nat)) (hm : w1.2.2 (2 + 2 * u) 1 = (m : Nat)) (hm16 : m ≤ 16) (hn16 : n ≤ 16) (hF : F = mtc a3 (w1.2.2 (2 + 2 * t + 1)) (w1.2.2 (2 + 2 * u + 1)) n m) (hmx : mx = lp (w1.2.2 (2 + 2 * t + 1)) (w1.2.2 (2 + 2 * u + 1)) n m) : ∀ (d i r : Nat) (w : WS) (x4 x5 : Int) (d9 : Option AV), i + d = n → Wi c w1 w → x4 + ((d : Int) - cnt F (-1) i d) = (n : Int) - cnt F (-1) 0 n → 0 ≤ x4 ∧ x4 ≤ i → (∀ k, i ≤ k → k < n → ¬ F k = -1 → x5 < F k) → 10 * d + 10 ≤ r → ∃ w', Wi c w1 w' ∧ K249_20 t u a3 x4 x5 mx 1 i d9 w r (rO 1 w') := by
  have G : GD (w1.2.2 (2 + 2 * t + 1)) (w1.2.2 (2 + 2 * u + 1)) n m F := by rw [hF]; exact mtc_GD
  have bt : ∀ {w : WS}, Wi c w1 w → w.2.2 (2 + 2 * t) = w1.2.2 (2 + 2 * t) ∧ w.2.2 (2 + 2 * t + 1) = w1.2.2 (2 + 2 * t + 1) ∧ w.2.2 (2 + 2 * u) = w1.2.2 (2 + 2 * u) ∧ w.2.2 (2 + 2 * u + 1) = w1.2.2 (2 + 2 * u + 1) := fun W => ⟨Wi_tx W (by omega), Wi_tx W (by omega), Wi_tx W (by omega), Wi_tx W (by omega)⟩
  intro d
  induction d with
  | zero =>
    intro i r w x4 x5 d9 hi W hc hx hl hr
    have hin : i = n := by omega
    have c0 : x4 = (n : Int) - cnt F (-1) 0 n := by
      rw [← hc]
      unfold cnt
      omega
    obtain ⟨b1, b2, b3, b4⟩ := bt W
    have d1 : Dc 175 [vA 0, vI t] w.2.2 (.inl (some (.inl (n : Int)))) w.2.2 := by
      have := Dc_of (q175 (σ := w.2.2) ht)
      rw [b1, hn] at this
      exact this
    obtain ⟨s1, e1, R1, P1⟩ := q179 (σ := w.2.2) (t := t) (u := u) (n1 := n) (n2 := m) W.1 ht hu g7 (by rw [b1]; exact hn) (by rw [b3]; exact hm)
    rw [b2, b4, ← hF] at e1
    have W1 := Wi_s W R1 P1
    obtain ⟨f1, f2, f3, f4⟩ := bt W1
    obtain ⟨s2, e2, R2, P2⟩ := q180 (σ := s1) (t := t) (u := u) (n1 := n) (n2 := m) R1 ht hu ((congrFun f1 1).trans hn) ((congrFun f3 1).trans hm)
    have f2' : s1 (2 + 2 * t + 1) = w1.2.2 (2 + 2 * t + 1) := f2
    have f4' : s1 (2 + 2 * u + 1) = w1.2.2 (2 + 2 * u + 1) := f4
    rw [f2', f4', ← hmx] at e2
    have W2 := Wi_s W1 R2 P2
    obtain ⟨g1, g2, g3, g4⟩ := bt W2
    obtain ⟨s3, e3, R3, P3⟩ := q180 (σ := s2) (t := u) (u := t) (n1 := m) (n2 := n) R2 hu ht ((congrFun g3 1).trans hm) ((congrFun g1 1).trans hn)
    have g2' : s2 (2 + 2 * t + 1) = w1.2.2 (2 + 2 * t + 1) := g2
    have g4' : s2 (2 + 2 * u + 1) = w1.2.2 (2 + 2 * u + 1) := g4
    rw [g2', g4', lp_sw, ← hmx] at e3
    have W3 := Wi_s W2 R3 P3
    have hle : x4 ≤ mx := by rw [c0, hmx]; exact way_n G
    have heq : a3 ≤ 0 → x4 = mx := fun h => by
      rw [c0, hmx, hF, show a3 = 0 by omega]
      exact least_n
    refine ⟨_, W3, bK249_20 ⟨by omega, _, _, d1, ?_⟩⟩
    rw [if_neg (by omega)]
    refine bK249_130 ?_
    rw [if_neg (by decide)]
    refine ⟨by omega, _, _, e1, ?_⟩
    rw [if_pos c0.symm, if_pos hle]
    have k1 : K249_165 t u a3 x4 (some (.inl x5)) mx (some (.inl 1)) (some (.inl (i : Int))) d9 (wS w s1) (r - 1 - 3) (rO 1 (wS (wS (wS w s1) s2) s3)) := by
      refine bK249_165 ⟨by omega, _, _, e2, ?_⟩
      rw [if_pos rfl]
      refine ⟨by omega, _, _, e3, ?_⟩
      rw [if_pos rfl]
      have k2 := bK249_201 (d0 := some (vA 0)) (d1 := some (vI t)) (d2 := some (vI u)) (d3 := some (vI a3)) (d4 := some (vI x4)) (d5 := some (.inl x5)) (d6 := some (vI mx)) (d7 := some (.inl 1)) (d8 := some (.inl (i : Int))) (d9 := d9) (w := wS (wS (wS w s1) s2) s3) (r := r - 1 - 3 - 2 - 2) (o := rO 1 (wS (wS (wS w s1) s2) s3)) (bK249_206 ⟨Or.inr rfl, rfl⟩)
      by_cases h4 : x4 ≤ 0
      · rw [if_pos h4]
        by_cases h3 : a3 ≤ 0
        · rw [if_pos h3, if_pos (by have := heq h3; omega)]; exact k2
        · rw [if_neg h3]; exact k2
      · rw [if_neg h4]; exact k2
    by_cases h3 : a3 ≤ 0
    · rw [if_pos h3, if_pos (heq h3)]; exact k1
    · rw [if_neg h3]; exact k1
  | succ d ih =>
    intro i r w x4 x5 d9 hi W hc hx hl hr
    obtain ⟨b1, b2, b3, b4⟩ := bt W
    have d1 : Dc 175 [vA 0, vI t] w.2.2 (.inl (some (.inl (n : Int)))) w.2.2 := by
      have := Dc_of (q175 (σ := w.2.2) ht)
      rw [b1, hn] at this
      exact this
    obtain ⟨s1, e1, R1, P1⟩ := q178 (σ := w.2.2) (t := t) (u := u) (n1 := n) (n2 := m) (p := i) W.1 ht hu g7 (by rw [b1]; exact hn) (by rw [b3]; exact hm) (by omega)
    rw [b2, b4, ← hF] at e1
    have W1 := Wi_s W R1 P1
    obtain ⟨f1, f2, f3, f4⟩ := bt W1
    have cs : cnt F (-1) i (d + 1) = (if F i = -1 then 1 else 0) + cnt F (-1) (i + 1) d := rfl
    by_cases hf : F i = -1
    · rw [if_pos hf] at cs
      obtain ⟨w', W', K'⟩ := ih (i + 1) (r - 1 - 4) (wS w s1) (x4 + 0) x5 (some (.inl (F i))) (by omega) W1 (by rw [cs] at hc; rw [← hc]; push_cast; omega) (by omega) (fun k h1 h2 h3 => hl k (by omega) h2 h3) (by omega)
      refine ⟨w', W', bK249_20 ⟨by omega, _, _, d1, ?_⟩⟩
      rw [if_pos (by omega), if_neg (by decide)]
      refine ⟨by omega, _, _, e1, ?_⟩
      rw [if_pos hf]
      refine bK249_86 (bK249_91 (bK249_106 ?_))
      rw [if_pos hf]
      refine ⟨by omega, ?_⟩
      rw [if_pos hf]
      exact bK249_122 ⟨by omega, K'⟩
    · rw [if_neg hf] at cs
      obtain ⟨V, Eq⟩ := G
      have hr0 := (V.1 i (by omega)).resolve_left hf
      obtain ⟨y, hy⟩ := Int.eq_ofNat_of_zero_le hr0.1
      have d2 : Dc 175 [vA 0, vI u] s1 (.inl (some (.inl (m : Int)))) s1 := by
        have := Dc_of (q175 (σ := s1) hu)
        rw [show s1 (2 + 2 * u) = w1.2.2 (2 + 2 * u) from f3, hm] at this
        exact this
      have d3 : Dc 176 [vA 0, vI t, vI i] s1 (.inl (some (.inl (w1.2.2 (2 + 2 * t + 1) i)))) s1 := by
        have := Dc_of (q176 (σ := s1) (k := i) R1 ht (by rw [show s1 (2 + 2 * t) = w1.2.2 (2 + 2 * t) from f1, hn]; omega))
        rw [show s1 (2 + 2 * t + 1) = w1.2.2 (2 + 2 * t + 1) from f2] at this
        exact this
      have d4 : Dc 176 [vA 0, vI u, vI (F i)] s1 (.inl (some (.inl (w1.2.2 (2 + 2 * u + 1) y)))) s1 := by
        have := Dc_of (q176 (σ := s1) (k := y) R1 hu (by rw [show s1 (2 + 2 * u) = w1.2.2 (2 + 2 * u) from f3, hm]; omega))
        rw [show s1 (2 + 2 * u + 1) = w1.2.2 (2 + 2 * u + 1) from f4] at this
        rw [hy]
        exact this
      have e0 := Eq i (by omega) hf
      rw [hy, Int.toNat_natCast] at e0
      obtain ⟨w', W', K'⟩ := ih (i + 1) (r - 1 - 4 - 1 - 2 - 2) (wS w s1) (x4 + 1) (F i) (some (.inl (F i))) (by omega) W1 (by rw [cs] at hc; rw [← hc]; push_cast; omega) (by omega) (fun k h1 h2 h3 => V.2 i k (by omega) h2 hf h3) (by omega)
      refine ⟨w', W', bK249_20 ⟨by omega, _, _, d1, ?_⟩⟩
      rw [if_pos (by omega), if_neg (by decide)]
      refine ⟨by omega, _, _, e1, ?_⟩
      rw [if_neg hf, if_pos (hl i (Nat.le_refl _) (by omega) hf)]
      refine ⟨by omega, _, _, d2, ?_⟩
      rw [if_pos hr0.2]
      refine ⟨by omega, _, _, d3, by omega, _, _, d4, ?_⟩
      rw [if_pos e0]
      refine bK249_86 (bK249_91 (bK249_106 ?_))
      rw [if_neg hf]
      refine ⟨by omega, ?_⟩
      rw [if_neg hf]
      exact bK249_122 ⟨by omega, K'⟩
/-- isCompared -/
theorem m249 {n : Nat} {w : WS} {t u : Nat} {a3 : Int} (L : LI n w) (hn : n ≤ 100) (ht : t < 4) (hu : u < 4) (g7 : 0 ≤ a3 ∧ a3 < 3) : ∃ w', LI (n + 1) w' ∧ Sc w w' ∧ w'.2.2 0 3 = w.2.2 0 3 ∧ Lx 249 [vA 0, vI t, vI u, vI a3] w (rO 1 w') := by
  have g1 := txl_ok L.2.1 ht
  have g2 := txl_ok L.2.1 hu
  obtain ⟨n1, z1⟩ := Int.eq_ofNat_of_zero_le g1.1
  obtain ⟨n2, z2⟩ := Int.eq_ofNat_of_zero_le g2.1
  obtain ⟨w1, L1, S1, E1, K1⟩ := m248 L hn ht hu z1 z2
  have b : 0 ≤ lp (w.2.2 (2 + 2 * t + 1)) (w.2.2 (2 + 2 * u + 1)) n1 n2 := lp_nn _ _
  have G : GD (w1.2.2 (2 + 2 * t + 1)) (w1.2.2 (2 + 2 * u + 1)) n1 n2 (mtc a3 (w1.2.2 (2 + 2 * t + 1)) (w1.2.2 (2 + 2 * u + 1)) n1 n2) := mtc_GD
  obtain ⟨w', W', K'⟩ := ll249 (w1 := w1) (c := 1000) (t := t) (u := u) (n := n1) (m := n2) ht hu g7 (by rw [E1]; exact z1) (by rw [E1]; exact z2) (by omega) (by omega) rfl rfl n1 0 200 w1 0 (-1) none (by omega) (Wi_r L1.2.1) (by omega) (by omega) (fun k _ h2 h3 => by
    have := (G.1.1 k h2).resolve_left h3
    omega) (by omega)
  rw [E1] at K'
  refine ⟨w', LI_W L1 W', Sc_t S1 (Sc_e W'.2.2.1), (Wi_c W').trans (by rw [E1]), lb249 ⟨by decide, _, _, K1, K'⟩⟩
end
