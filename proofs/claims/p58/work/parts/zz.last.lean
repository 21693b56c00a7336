-- DRAFT c6by.lean
/-! Rows of bytes and deltas, of the law. -/
noncomputable section
theorem and3 (x : Int) : 0 ≤ iAnd x 3 ∧ iAnd x 3 ≤ 3 := by
  obtain ⟨X, Y, hX, hY⟩ : ∃ X Y : BitVec 32, iAnd x 3 = (X &&& Y).toInt ∧ Y.toNat = 3 := ⟨BitVec.ofInt 32 x, BitVec.ofInt 32 3, rfl, by decide⟩
  have h : (X &&& Y).toNat ≤ 3 := by
    rw [BitVec.toNat_and, ← hY]
    exact Nat.and_le_right
  rw [hX, BitVec.toInt_eq_toNat_of_lt (by omega)]
  omega
/-- a code of a delta -/
theorem dF_b {σ : Sg} {c : Int} {d n s : Nat} (H : Rel c σ) (hd : (d : Int) < σ 658 1) (hn : σ (660 + 2 * d) 1 = (n : Nat)) (hs : s < n) : 0 ≤ dF σ d s ∧ dF σ d s < 1000 ∧ n ≤ 40 := by
  have h := (dl_ok H hd hn).1
  have n40 := h.2.2.2.1
  have cs := h.2.2.2.2.2.2 s hs
  unfold dF
  rcases cs with ⟨z1, z2, z3⟩ | ⟨z1, z2, z3⟩ <;> omega
theorem stpd {s e : Nat} {c : Int} (h : s < e) (h0 : 0 ≤ c) (h1 : c < 1000) : Int.tdiv (1000 * ((e : Int) - s) + c) 1000 = (e : Int) - s := by
  rw [td (by omega)]; omega
theorem stpm {s e : Nat} {c : Int} (h : s < e) (h0 : 0 ≤ c) (h1 : c < 1000) : Int.tmod (1000 * ((e : Int) - s) + c) 1000 = c := by
  rw [tm (by omega)]; omega
/-- only the rows of bytes and the deltas -/
theorem LI_by {n : Nat} {w : WS} {s : Sg} {c : Int} (L : LI n w) (hn : n ≤ 1000) (hR : Rel c s) (h : ∀ x k, x < 682 → KP x k → ¬ (11 ≤ x ∧ x ≤ 18) → ¬ (658 ≤ x ∧ x ≤ 679) → s x k = w.2.2 x k) (h8 : s 658 1 = w.2.2 658 1) : LI n (wS w s) :=
  LI_td (w' := wS w s) L (Nat.le_refl n) rfl hR (fun x k h1 h2 _ h4 h5 => h x k h1 h2 h4 h5) (fun _ _ _ _ _ => rfl) (by show s 653 1 = 6 * w.2.1 682 1; rw [h 653 1 (by decide) (by unfold KP; omega) (by decide) (by decide)]; exact L.2.2.2.1) (by show w.2.1 682 2 = s 658 1; rw [h8]; exact L.2.2.2.2.1) hn
/-- bytes are added, one by one -/
theorem ll275a {n b t : Nat} (hn : n ≤ 1000) (ht : t < 4) : ∀ (d k m : Nat) (w : WS), k + d = 1 + b % 8 → LI n w → w.2.2 (11 + 2 * t) 1 = (m : Nat) → m + d ≤ 40 → ∃ w', LI n w' ∧ w'.2.1 = w.2.1 ∧ ∀ (r : Nat), 95 * d ≤ r → ∀ (d1 d2 d5 d6 d9 d10 d11 d12 d13 : Option AV), K275_55 d1 d2 b t d5 d6 1 k d9 d10 d11 d12 d13 w r (rO 1 w') := by
  have em : Int.tmod (b : Int) 8 = ((b % 8 : Nat) : Int) := rfl
  have b8 : b % 8 < 8 := Nat.mod_lt _ (by decide)
  intro d
  induction d with
  | zero =>
    intro k m w hk L hm _
    refine ⟨w, L, rfl, fun r hr d1 d2 d5 d6 d9 d10 d11 d12 d13 => bK275_55 ?_⟩
    rw [em, if_neg (by omega)]
    exact ⟨by omega, bK275_134 ⟨Or.inr rfl, rfl⟩⟩
  | succ d ih =>
    intro k m w hk L hm h40
    obtain ⟨v, hv⟩ : ∃ v, v = iAnd (iShr (Int.tdiv (b : Int) 8) (k : Int)) 3 := ⟨_, rfl⟩
    have bv := and3 (iShr (Int.tdiv (b : Int) 8) (k : Int))
    rw [← hv] at bv
    obtain ⟨s2, d2, R, O, e8, e1, e2⟩ := c219 (v := v) L.2.1 ht (by omega) hm (by omega)
    have L1 : LI n (wS w s2) := LI_by L hn R (fun x k h1 h2 h3 h4 => O x k h1 h2 h3 h4) e8
    obtain ⟨w', L', x', K'⟩ := ih (k + 1) (m + 1) (wS w s2) (by omega) L1 (by show s2 (11 + 2 * t) 1 = _; rw [e1]; omega) (by omega)
    refine ⟨w', L', x', fun r hr d1 d2' d5 d6 d9 d10 d11 d12 d13 => bK275_55 ?_⟩
    have m274 := m274 L.2.1 ht
    rw [hm] at m274
    rw [em, if_pos (by omega), if_neg (show ¬ (1 : Int) = 0 by decide), ← hv]
    refine ⟨by omega, by omega, _, w, m274, by omega, _, s2, d2, by omega, ?_⟩
    rw [if_pos rfl]
    have d221 := q221 (σ := s2) (t := t) (k := m) R ht
    rw [atS_in (by rw [e1]; omega), e2] at d221
    refine ⟨by omega, _, s2, Dc_of d221, ?_⟩
    rw [if_pos rfl, wSS]
    exact bK275_126 ⟨by omega, K' _ (by omega) _ _ _ _ _ _ _ _ _⟩
/-- runs of copies are of three or more, and lie in the first row -/
def SND (f g1 g2 : Nat → Int) (n1 n : Nat) : Prop := ∀ i, i < n → (0 ≤ f i ∧ f i < n1 ∧ g1 (f i).toNat = g2 i ∧ ((0 < i ∧ f (i - 1) = f i - 1) ∨ (i + 2 < n ∧ f (i + 1) = f i + 1 ∧ f (i + 2) = f i + 2))) ∨ (500 ≤ f i ∧ f i = 500 + g2 i)
theorem run_c {f g1 g2 : Nat → Int} {n1 n s e : Nat} (hn1 : n1 ≤ 40) (S : SND f g1 g2 n1 n) (hs : s < n) (h0 : s = n ∨ gT f s = false) (r : rnD f n s e) (hf : f s < 500) : 3 ≤ e - s ∧ f s + ((e : Int) - s) ≤ n1 := by
  obtain ⟨r1, r2, r3, r4⟩ := r
  have g0 : gT f s = false := h0.resolve_left (by omega)
  have ng : ∀ i, gT f i = true → f (i - 1) < 500 → f i = f (i - 1) + 1 := fun i h h5 => by
    unfold gT at h
    have h := (Bool.and_eq_true_iff.mp h).2
    unfold tog at h
    rw [if_pos h5] at h
    exact of_decide_eq_true h
  have yg : ∀ i, 0 < i → f (i - 1) < 500 → f i = f (i - 1) + 1 → gT f i = true := fun i h1 h2 h3 => by
    unfold gT tog
    rw [if_pos h2]
    exact Bool.and_eq_true_iff.mpr ⟨decide_eq_true h1, decide_eq_true h3⟩
  have lo : ∀ i, i < n → f i < 500 → f i < n1 := fun i hi h5 => by
    rcases S i hi with ⟨a1, a2, -⟩ | ⟨a1, a2⟩
    · exact a2
    · omega
  rcases S s hs with ⟨a1, a2, a4, a5⟩ | ⟨a1, a2⟩
  · rcases a5 with ⟨a5, a6⟩ | ⟨a5, a6, a7⟩
    · have := yg s a5 (by omega) (by omega)
      rw [g0] at this
      cases this
    · have t1 := yg (s + 1) (by omega) (by rw [Nat.add_sub_cancel]; exact hf) (by rw [Nat.add_sub_cancel]; exact a6)
      have t2 := yg (s + 2) (by omega) (by show f (s + 1) < 500; omega) (by show f (s + 2) = f (s + 1) + 1; omega)
      have e1 : ¬ e = s + 1 := fun h => by
        subst h
        rcases r4 with r4 | r4
        · omega
        · rw [t1] at r4; cases r4
      have e2 : ¬ e = s + 2 := fun h => by
        subst h
        rcases r4 with r4 | r4
        · omega
        · rw [t2] at r4; cases r4
      refine ⟨by omega, ?_⟩
      have cons : ∀ j, s + j < e → f (s + j) = f s + j ∧ f (s + j) < 500 := by
        intro j
        induction j with
        | zero => intro _; exact ⟨by rw [Nat.add_zero]; omega, hf⟩
        | succ j ih =>
          intro hj
          obtain ⟨i1, i2⟩ := ih (by omega)
          have i3 := lo (s + j) (by omega) i2
          have this := ng (s + (j + 1)) (r3 _ (by omega) hj) i2
          have this : f (s + (j + 1)) = f (s + j) + 1 := this
          omega
      obtain ⟨c1, c2⟩ := cons (e - s - 1) (by omega)
      have c3 := lo (s + (e - s - 1)) (by omega) c2
      omega
  · omega
theorem sW_b {f : Nat → Int} : ∀ (d k : Nat), 0 ≤ sW f d k ∧ sW f d k ≤ 4 * d := by
  intro d
  induction d with
  | zero => intro k; exact ⟨Int.le_refl _, Int.le_refl _⟩
  | succ d ih =>
    intro k
    have := ih (k + 1)
    rw [sW_s]
    unfold mW
    split <;> split <;> (try split) <;> omega
/-- the steps of a new delta, in the law -/
theorem ll275b {w : WS} {c : Int} {b t1 t2 n1 D n : Nat} {g1 g2 : Nat → Int} {d2 : Option AV} {o : Ro} (H : Rel c w.2.2) (hd : (D : Int) < w.2.2 658 1) (hn : w.2.2 (660 + 2 * D) 1 = (n : Nat)) (n40 : n ≤ 40) (hn1 : n1 ≤ 40) (S : SND (dF w.2.2 D) g1 g2 n1 n) : ∀ (d s k r : Nat) (x10 : Int), n - s ≤ d → Rn (dF w.2.2 D) n k s → x10 + sW (dF w.2.2 D) (n - s) s = sW (dF w.2.2 D) n 0 → 0 ≤ x10 → (∀ (rr : Nat) (d6 d9 d10 d11 d12 d13 : Option AV), r ≤ rr + 4 * d + 3 → K275_374 d2 b t1 t2 d6 D n d9 d10 d11 d12 d13 1 w rr o) → 4 * d + 3 ≤ r → ∀ d13 : Option AV, K275_218 d2 b t1 t2 n1 D n s x10 1 k d13 w r o := by
  have h := (dl_ok H hd hn).1
  have wb := (sW_b (f := dF w.2.2 D) n 0).2
  have stop : ∀ (k r : Nat) (x10 : Int) (d : Nat), Rn (dF w.2.2 D) n k n → x10 + sW (dF w.2.2 D) (n - n) n = sW (dF w.2.2 D) n 0 → (∀ (rr : Nat) (d6 d9 d10 d11 d12 d13 : Option AV), r ≤ rr + 4 * d + 3 → K275_374 d2 b t1 t2 d6 D n d9 d10 d11 d12 d13 1 w rr o) → 4 * d + 3 ≤ r → ∀ d13 : Option AV, K275_218 d2 b t1 t2 n1 D n n x10 1 k d13 w r o := by
    intro k r x10 d R hx K hr d13
    have e0 : sW (dF w.2.2 D) (n - n) n = 0 := by rw [Nat.sub_self]; rfl
    refine bK275_218 ⟨by omega, _, _, q225o H hd hn R, ?_⟩
    rw [if_pos rfl, if_neg (show ¬ (1 : Int) = 0 by decide), if_pos rfl, wSs]
    refine ⟨by omega, _, _, q224 H hd hn, ?_⟩
    rw [if_pos (by omega), wSs]
    exact K _ _ _ _ _ _ _ (by omega)
  intro d
  induction d with
  | zero =>
    intro s k r x10 hs R hx h0 K hr d13
    have hb := Rn_b k s R
    have es : s = n := by omega
    subst es
    exact stop k r x10 0 R hx K hr d13
  | succ d ih =>
    intro s k r x10 hs R hx h0 K hr d13
    have hb := Rn_b k s R
    by_cases hsn : s < n
    · obtain ⟨e, re, R'⟩ := Rn_nx h hsn R
      have re' : rnD (dF w.2.2 D) n s e := re
      obtain ⟨c0, c1, -⟩ := dF_b H hd hn hsn
      have q := q225 H hd hn R hsn re'
      have e1 := re.1
      have e2 := re.2.1
      have g0 : gT (w.2.2 (660 + 2 * D + 1)) s = false := hb.2.2.resolve_left (by omega)
      have ws : sW (dF w.2.2 D) (n - s) s = (if dF w.2.2 D s < 500 then 3 else 1 + ((e : Int) - s)) + sW (dF w.2.2 D) (n - e) e := sW_step h re.1 re.2.1 g0 re.2.2.1
      have wb2 := sW_b (f := dF w.2.2 D) (n - e) e
      have kk := hb.1
      refine bK275_218 ⟨by omega, _, _, q, ?_⟩
      rw [if_neg (by omega), wSs]
      refine ⟨by omega, _, _, q, ?_⟩
      rw [stpd e1 c0 c1, stpm e1 c0 c1, wSs, show (s : Int) + ((e : Int) - s) = (e : Int) by omega]
      have go : ∀ (r' : Nat) (y : Int) (dd : Option AV), y = x10 + (if dF w.2.2 D s < 500 then 3 else 1 + ((e : Int) - s)) → r ≤ r' + 4 → K275_333 d2 b t1 t2 n1 D n e y (some (.inl 1)) k dd w r' o := fun r' y dd hy hr' => by
        refine bK275_333 (bK275_338 ⟨by omega, ?_⟩)
        refine ih e (k + 1) r' y (by omega) R' (by omega) ?_ (fun rr d6 d9 d10 d11 d12 d13 hrr => K rr d6 d9 d10 d11 d12 d13 (by omega)) (by omega) _
        rw [hy]
        split <;> omega
      have big : (1000 : Int) ≤ 1000 * ((e : Int) - s) + dF w.2.2 D s := by omega
      refine ⟨by omega, fun _ => by omega, bK275_277 ?_⟩
      by_cases hf : dF w.2.2 D s < 500
      · obtain ⟨a1, a2⟩ := run_c hn1 S hsn hb.2.2 re' hf
        rw [if_pos hf] at ws
        rw [if_pos hf, if_neg (show ¬ (1 : Int) = 0 by decide), if_pos big, stpd e1 c0 c1, stpm e1 c0 c1, if_pos hf, if_pos (show (3 : Int) ≤ (e : Int) - s by omega)]
        refine ⟨by omega, by omega, ?_⟩
        rw [if_pos (by omega)]
        exact go _ _ _ (by rw [if_pos hf]) (by omega)
      · rw [if_neg hf] at ws
        rw [if_neg hf, if_neg (show ¬ (1 : Int) = 0 by decide), if_pos big, stpm e1 c0 c1, if_neg hf]
        exact ⟨by omega, go _ _ _ (by rw [if_neg hf]) (by omega)⟩
    · have es : s = n := by omega
      subst es
      exact stop k r x10 (d + 1) R hx K hr d13
/-- two rows are compared -/
theorem ll275c {w : WS} {c : Int} {b t2 to D n : Nat} {d2 d4 d6 d9 d10 : Option AV} {o : Ro} (H : Rel c w.2.2) (h2 : t2 < 4) (h3 : to < 4) (z2 : w.2.2 (11 + 2 * t2) 1 = (n : Nat)) (z3 : w.2.2 (11 + 2 * to) 1 = (n : Nat)) (he : ∀ i, i < n → w.2.2 (11 + 2 * to + 1) i = w.2.2 (11 + 2 * t2 + 1) i) (n40 : n ≤ 40) : ∀ (d k r : Nat), k + d = n + 1 → (∀ (rr : Nat) (d5 d8 d12 d13 : Option AV), r ≤ rr + 4 * d → K275_464 d2 b d4 d5 d6 D d8 d9 d10 1 d12 d13 w rr o) → 4 * d ≤ r → K275_420 d2 b d4 t2 d6 D n d9 d10 1 to k w r o := by
  have ev : ∀ k, atS w.2.2 (11 + 2 * to) ((k : Nat) : Int) = atS w.2.2 (11 + 2 * t2) ((k : Nat) : Int) := fun k => by
    by_cases hk : k < n
    · rw [atS_in (by omega), atS_in (by omega), he k hk]
    · rw [atS_out (by omega), atS_out (by omega)]
  intro d
  induction d with
  | zero =>
    intro k r hk K hr
    refine bK275_420 ?_
    rw [if_neg (by omega)]
    exact K _ _ _ _ _ (by omega)
  | succ d ih =>
    intro k r hk K hr
    refine bK275_420 ?_
    rw [if_pos (by omega), if_neg (show ¬ (1 : Int) = 0 by decide)]
    refine ⟨by omega, _, _, Dc_of (q221 (σ := w.2.2) (t := to) (k := k) H h3), by omega, _, _, Dc_of (q221 (σ := w.2.2) (t := t2) (k := k) H h2), ?_⟩
    rw [if_pos (ev k), wSs, wSs]
    exact bK275_456 ⟨by omega, ih (k + 1) _ (by omega) (fun rr d5 d8 d12 d13 hrr => K rr d5 d8 d12 d13 (by omega)) (by omega)⟩
/-- chains: the steps of both -/
theorem ll276a {w : WS} {c : Int} {two m : Nat} {x2 x4 x5 : Int} {d1 d8 d9 : Option AV} {o : Ro} (H : Rel c w.2.2) (hd : (two : Int) < w.2.2 658 1) (hm : w.2.2 (660 + 2 * two) 1 = (m : Nat)) (m40 : m ≤ 40) : ∀ (d s k r : Nat), m - s ≤ d → Rn (dF w.2.2 two) m k s → (∀ rr, r ≤ rr + 4 * d + 2 → K276_83 d1 x2 two x4 x5 m 0 d8 d9 w rr o) → 4 * d + 2 ≤ r → K276_47 d1 x2 two x4 x5 s k d8 d9 w r o := by
  have h := (dl_ok H hd hm).1
  have stop : ∀ (k r d : Nat), Rn (dF w.2.2 two) m k m → (∀ rr, r ≤ rr + 4 * d + 2 → K276_83 d1 x2 two x4 x5 m 0 d8 d9 w rr o) → 4 * d + 2 ≤ r → K276_47 d1 x2 two x4 x5 m k d8 d9 w r o := fun k r d R K hr => by
    refine bK276_47 ⟨by omega, _, _, q225o H hd hm R, ?_⟩
    rw [if_pos rfl, wSs]
    exact K _ (by omega)
  intro d
  induction d with
  | zero =>
    intro s k r hs R K hr
    have hb := Rn_b k s R
    have es : s = m := by omega
    subst es
    exact stop k r 0 R K hr
  | succ d ih =>
    intro s k r hs R K hr
    have hb := Rn_b k s R
    by_cases hsn : s < m
    · obtain ⟨e, re, R'⟩ := Rn_nx h hsn R
      obtain ⟨c0, c1, -⟩ := dF_b H hd hm hsn
      have q := q225 H hd hm R hsn re
      have e1 := re.1
      have e2 := re.2.1
      have kk := hb.1
      refine bK276_47 ⟨by omega, _, _, q, ?_⟩
      rw [if_neg (by omega), wSs]
      refine ⟨by omega, _, _, q, ?_⟩
      rw [stpd e1 c0 c1, wSs, show (s : Int) + ((e : Int) - s) = (e : Int) by omega]
      exact ⟨by omega, by omega, ih e (k + 1) _ (by omega) R' (fun rr hrr => K rr (by omega)) (by omega)⟩
    · have es : s = m := by omega
      subst es
      exact stop k r (d + 1) R K hr
theorem ll276b {w : WS} {c : Int} {D m : Nat} {x2 x3 x5 : Int} {d1 d8 d9 : Option AV} {o : Ro} (H : Rel c w.2.2) (hd : (D : Int) < w.2.2 658 1) (hm : w.2.2 (660 + 2 * D) 1 = (m : Nat)) (m40 : m ≤ 40) : ∀ (d s k r : Nat) (x6 : Int), m - s ≤ d → Rn (dF w.2.2 D) m k s → x6 = (m : Int) - s → (∀ k rr : Nat, Rn (dF w.2.2 D) m k m → r ≤ rr + 4 * d → K276_83 d1 x2 x3 D x5 0 k d8 d9 w rr o) → 4 * d ≤ r → K276_83 d1 x2 x3 D x5 x6 k d8 d9 w r o := by
  have h := (dl_ok H hd hm).1
  have stop : ∀ (s k r d : Nat) (x6 : Int), s = m → Rn (dF w.2.2 D) m k s → x6 = (m : Int) - s → (∀ k rr : Nat, Rn (dF w.2.2 D) m k m → r ≤ rr + 4 * d → K276_83 d1 x2 x3 D x5 0 k d8 d9 w rr o) → K276_83 d1 x2 x3 D x5 x6 k d8 d9 w r o := fun s k r d x6 es R hx K => by
    subst es
    rw [hx, Int.sub_self]
    exact K k r R (by omega)
  intro d
  induction d with
  | zero =>
    intro s k r x6 hs R hx K hr
    have hb := Rn_b k s R
    exact stop s k r 0 x6 (by omega) R hx K
  | succ d ih =>
    intro s k r x6 hs R hx K hr
    have hb := Rn_b k s R
    by_cases hsn : s < m
    · obtain ⟨e, re, R'⟩ := Rn_nx h hsn R
      obtain ⟨c0, c1, -⟩ := dF_b H hd hm hsn
      have q := q225 H hd hm R hsn re
      have e1 := re.1
      have e2 := re.2.1
      have kk := hb.1
      refine bK276_83 ⟨by omega, _, _, q, ?_⟩
      rw [if_neg (by omega), wSs]
      refine ⟨by omega, _, _, q, ?_⟩
      rw [stpd e1 c0 c1, wSs]
      exact ⟨by omega, by omega, ih e (k + 1) _ _ (by omega) R' (by omega) (fun k rr R hrr => K k rr R (by omega)) (by omega)⟩
    · exact stop s k r (d + 1) x6 (by omega) R hx K
theorem ll276c {w : WS} {c : Int} {n : Nat} {d1 d2 d3 d4 d8 : Option AV} {o : Ro} (H : Rel c w.2.2) (z2 : w.2.2 15 1 = (n : Nat)) (z3 : w.2.2 17 1 = (n : Nat)) (he : ∀ i, i < n → w.2.2 16 i = w.2.2 18 i) : ∀ (d k r : Nat), k + d = n + 1 → n ≤ 40 → (∀ (rr : Nat) (d7 d9 : Option AV), r ≤ rr + 4 * d → K276_234 (some (vA 0)) d1 d2 d3 d4 1 0 d7 d8 d9 w rr o) → 4 * d ≤ r → K276_192 d1 d2 d3 d4 1 0 n d8 k w r o := by
  have ev : ∀ k, atS w.2.2 15 ((k : Nat) : Int) = atS w.2.2 17 ((k : Nat) : Int) := fun k => by
    by_cases hk : k < n
    · rw [atS_in (by omega), atS_in (by omega)]
      exact he k hk
    · rw [atS_out (by omega), atS_out (by omega)]
  intro d
  induction d with
  | zero =>
    intro k r hk _ K hr
    refine bK276_192 ?_
    rw [if_neg (by omega)]
    exact K _ _ _ (by omega)
  | succ d ih =>
    intro k r hk h40 K hr
    have q2 : Dc 221 [vA 0, .inl (2 : Int), vI k] w.2.2 (.inl (some (.inl (atS w.2.2 15 ((k : Nat) : Int))))) w.2.2 := Dc_of (q221 (σ := w.2.2) (t := 2) (k := k) H (by decide))
    have q3 : Dc 221 [vA 0, .inl (3 : Int), vI k] w.2.2 (.inl (some (.inl (atS w.2.2 17 ((k : Nat) : Int))))) w.2.2 := Dc_of (q221 (σ := w.2.2) (t := 3) (k := k) H (by decide))
    refine bK276_192 ?_
    rw [if_pos (by omega), if_neg (show ¬ (1 : Int) = 0 by decide)]
    refine ⟨by omega, _, _, q2, by omega, _, _, q3, ?_⟩
    rw [if_pos (ev k), wSs, wSs]
    exact bK276_226 ⟨by omega, ih (k + 1) _ (by omega) h40 (fun rr d7 d9 hrr => K rr d7 d9 (by omega)) (by omega)⟩
theorem m276 {n one two : Nat} {w : WS} (L : LI n w) (hn : n ≤ 1000) (h1 : (one : Int) < w.2.1 682 2) (h2 : (two : Int) < w.2.1 682 2) : ∃ w', LI n w' ∧ Sc w w' ∧ Lx 276 [vA 0, vA 682, vI one, vI two] w (rO 1 w') := by
  have e8 : w.2.1 682 2 = w.2.2 658 1 := L.2.2.2.2.1
  have hs : SCR = 1000000000 := rfl
  obtain ⟨D, hD⟩ := Int.eq_ofNat_of_zero_le (show 0 ≤ w.2.2 658 1 by omega)
  have h1' : (one : Int) < w.2.2 658 1 := by omega
  have h2' : (two : Int) < w.2.2 658 1 := by omega
  have szD : ∀ {σ : Sg} {c : Int} {d : Nat}, Rel c σ → (d : Int) < σ 658 1 → ∃ n : Nat, σ (660 + 2 * d) 1 = (n : Nat) ∧ n ≤ 40 := fun {σ c d} H h => by
    have z := rel_d H (d := (d : Int)) (by omega)
    rw [tn] at z
    exact ⟨_, z.2.2.1, z.2.2.2.1⟩
  obtain ⟨n1, hn1, n140⟩ := szD L.2.1 h1'
  obtain ⟨m, hm, m40⟩ := szD L.2.1 h2'
  rcases c223 L.2.1 h1' h2' hn1 hm hD with X | ⟨rs2, s1, d1, R1, f1, g8, z1, D10, v1⟩
  · refine ⟨w, L, Sc_r _, lb276 ⟨by decide, -2, w, lb261 ⟨by decide, Or.inr ⟨_, X, rfl⟩⟩, ?_⟩⟩
    rw [if_pos rfl]
  have k2 : (wS w s1).2.1 682 ((2 : Int)).toNat = (D : Int) := e8.trans hD
  obtain ⟨wB, hwB⟩ : ∃ wB, wB = wU (wS w s1) 682 ((2 : Int)).toNat ((D : Int) + 1) := ⟨_, rfl⟩
  have x1 : wB.1 = w.1 := by rw [hwB]; rfl
  have x2 : wB.2.2 = s1 := by rw [hwB]; rfl
  have x3 : ∀ a k, ¬ (a = 682 ∧ k = 2) → wB.2.1 a k = w.2.1 a k := fun a k h => by
    rw [hwB]
    show upS w.2.1 682 2 ((D : Int) + 1) a k = _
    unfold upS
    rw [if_neg h]
  have x4 : wB.2.1 682 ((2 : Int)).toNat = (D : Int) + 1 := by rw [hwB]; exact wU_s
  have LB : LI n wB := LI_td (w' := wB) L (Nat.le_refl n) x1 (by rw [x2]; exact R1) (fun x k y1 y2 _ _ y5 => by rw [x2]; exact f1 x k y1 y2 (by omega) (by omega) (by omega)) (fun a k _ _ h => x3 a k (by omega)) (by rw [x2, f1 653 1 (by decide) (by unfold KP; omega) (by decide) (by omega) (by omega), x3 682 1 (by decide)]; exact L.2.2.2.1) (by rw [x2, g8]; exact x4) hn
  have SB : Sc w wB := fun k => ⟨x3 _ k (by omega), x3 _ k (by omega)⟩
  have RB : Rel 1000 wB.2.2 := LB.2.1
  have fB : ∀ d : Nat, d < D → ∀ j, j ≤ 1 → wB.2.2 (660 + 2 * d + j) = w.2.2 (660 + 2 * d + j) := fun d hd j hj => funext fun k => by
    rw [x2]
    exact f1 _ k (by omega) (by unfold KP; omega) (by omega) (by omega) (by omega)
  have B8 : wB.2.2 658 1 = (D : Int) + 1 := by rw [x2]; exact g8
  have Bn1 : wB.2.2 (660 + 2 * one) 1 = (n1 : Nat) := by
    have := fB one (by omega) 0 (by decide)
    rw [Nat.add_zero] at this
    rw [this]; exact hn1
  have Bm : wB.2.2 (660 + 2 * two) 1 = (m : Nat) := by
    have := fB two (by omega) 0 (by decide)
    rw [Nat.add_zero] at this
    rw [this]; exact hm
  have Bz : wB.2.2 (660 + 2 * D) 1 = (m : Nat) := by rw [x2]; exact z1
  have Fone : dF wB.2.2 one = dF w.2.2 one := fB one (by omega) 1 (by decide)
  have Ftwo : dF wB.2.2 two = dF w.2.2 two := fB two (by omega) 1 (by decide)
  have FD : ∀ i, i < m → dF wB.2.2 D i = thr (dF wB.2.2 one) (dF wB.2.2 two) i := fun i hi => by
    rw [Fone, Ftwo, x2]; exact v1 i hi
  rw [← Ftwo] at rs2
  have top : ∀ {o : Ro}, (∀ (k rr : Nat), Rn (dF wB.2.2 D) m k m → 260 ≤ rr → K276_83 (some (vA 682)) one two D 1 0 k none none wB rr o) → Lx 276 [vA 0, vA 682, vI one, vI two] w o := fun {o} K => by
    refine lb276 ⟨by decide, (D : Int), wS w s1, lb261 ⟨by decide, Or.inl ⟨_, _, d1, rfl⟩⟩, ?_⟩
    rw [if_neg (by omega), k2, ← hwB, x4]
    refine ⟨L.1, ⟨by decide, by decide⟩, by omega, L.1, ⟨by decide, by decide⟩, LB.1, ⟨by decide, by decide⟩, by omega, ?_⟩
    rw [if_pos (by omega)]
    refine bK276_39 (ll276a (c := 1000) RB (by omega) Bm m40 m 0 0 596 (by omega) rfl (fun rr hrr => ?_) (by omega))
    exact ll276b (c := 1000) RB (by omega) Bz m40 m 0 0 rr m (by omega) rfl (by omega) (fun k rr' R hrr' => K k rr' R (by omega)) (by omega)
  obtain ⟨m0, hm0⟩ := Int.eq_ofNat_of_zero_le (bl_ok RB (t := 0) (by decide)).1
  have hm0' : wB.2.2 11 1 = (m0 : Nat) := hm0
  -- one on the first row
  by_cases cA : rS (dF wB.2.2 one) n1 0 0 ≤ (m0 : Int)
  · have hone := rS_ge (f := dF wB.2.2 one) n1 0 0
    have htwo := rS_ge (f := dF wB.2.2 two) m 0 0
    have rD : rS (dF wB.2.2 D) m 0 0 ≤ (m0 : Int) := rS_le m 0 0 (by omega) (fun i _ hi h5 => by
      have hi : i < m := by omega
      rw [FD i hi] at h5 ⊢
      unfold thr at h5 ⊢
      have b2 := dF_b (s := i) RB (d := two) (by omega) Bm hi
      by_cases y : dF wB.2.2 two i < 500
      · rw [if_pos y] at h5 ⊢
        have y2 := htwo.2 i (Nat.zero_le _) (by omega) y
        have y3 := hone.2 (dF wB.2.2 two i).toNat (Nat.zero_le _) (by omega) h5
        omega
      · rw [if_neg y] at h5
        exact absurd h5 y)
    obtain ⟨-, s2, d2, R2, f2, z2, v2⟩ := (c226 (t1 := D) (t2 := 0) (t3 := 3) RB (by omega) (by decide) (by decide) Bz hm0).resolve_left (fun e => by omega)
    have z2' : s2 17 1 = (m : Nat) := z2
    have q8 : s2 658 1 = (D : Int) + 1 := by rw [f2 658 1 (by decide) (by unfold KP; omega) (by decide) (by decide)]; exact B8
    have F2one : dF s2 one = dF wB.2.2 one := funext fun i => f2 _ i (by omega) (by unfold KP; omega) (by omega) (by omega)
    obtain ⟨-, s3, d3, R3, f3, z3, v3⟩ := (c226 (t1 := one) (t2 := 0) (t3 := 2) (n := n1) (m := m0) R2 (by omega) (by decide) (by decide) (by rw [f2 _ 1 (by omega) (by unfold KP; omega) (by omega) (by omega)]; exact Bn1) (by show s2 11 1 = _; rw [f2 11 1 (by decide) (by unfold KP; omega) (by decide) (by decide)]; exact hm0')).resolve_left (fun e => by rw [F2one] at e; omega)
    have z3' : s3 15 1 = (n1 : Nat) := z3
    have p8 : s3 658 1 = (D : Int) + 1 := by rw [f3 658 1 (by decide) (by unfold KP; omega) (by decide) (by decide)]; exact q8
    have F3two : dF s3 two = dF wB.2.2 two := funext fun i => (f3 _ i (by omega) (by unfold KP; omega) (by omega) (by omega)).trans (f2 _ i (by omega) (by unfold KP; omega) (by omega) (by omega))
    obtain ⟨-, s4, d4, R4, f4, z4, v4⟩ := (c226 (t1 := two) (t2 := 2) (t3 := 2) (n := m) (m := n1) R3 (by omega) (by decide) (by decide) (by rw [f3 _ 1 (by omega) (by unfold KP; omega) (by omega) (by omega), f2 _ 1 (by omega) (by unfold KP; omega) (by omega) (by omega)]; exact Bm) z3').resolve_left (fun e => by rw [F3two] at e; omega)
    have z4' : s4 15 1 = (m : Nat) := z4
    have fr : ∀ x k, x < 682 → KP x k → ¬ (11 ≤ x ∧ x ≤ 18) → s4 x k = wB.2.2 x k := fun x k y1 y2 y3 => by
      rw [f4 x k y1 y2 (by omega) (by omega), f3 x k y1 y2 (by omega) (by omega), f2 x k y1 y2 (by omega) (by omega)]
    have L4 : LI n (wS wB s4) := LI_by LB hn R4 (fun x k y1 y2 y3 _ => fr x k y1 y2 y3) (fr 658 1 (by decide) (by unfold KP; omega) (by decide))
    have e17 : s4 17 1 = (m : Nat) := by rw [f4 17 1 (by decide) (by unfold KP; omega) (by decide) (by decide), f3 17 1 (by decide) (by unfold KP; omega) (by decide) (by decide)]; exact z2'
    have same : ∀ i, i < m → s4 16 i = s4 18 i := fun i hi => by
      have b2 := dF_b (s := i) RB (d := two) (by omega) Bm hi
      have a4 : s4 16 i = ptb (dF s3 two) (s3 16) i := v4 i hi
      have a2 : s4 18 i = ptb (dF wB.2.2 D) (wB.2.2 12) i := by
        rw [f4 18 i (by decide) (by unfold KP; omega) (by decide) (by decide), f3 18 i (by decide) (by unfold KP; omega) (by decide) (by decide)]
        exact v2 i hi
      rw [a4, a2, F3two]
      unfold ptb
      rw [FD i hi]
      unfold thr
      by_cases y : dF wB.2.2 two i < 500
      · rw [if_pos y, if_pos y]
        have y2 := htwo.2 i (Nat.zero_le _) (by omega) y
        have a3 : s3 16 (dF wB.2.2 two i).toNat = ptb (dF s2 one) (s2 12) (dF wB.2.2 two i).toNat := v3 _ (by omega)
        rw [a3, F2one]
        unfold ptb
        have e12 : s2 12 = wB.2.2 12 := funext fun i => f2 12 i (by decide) (by unfold KP; omega) (by decide) (by decide)
        rw [e12]
      · rw [if_neg y, if_neg y, if_neg y]
    refine ⟨wS wB s4, L4, Sc_t SB (Sc_e rfl), top (fun k rr R hrr => bK276_83 ⟨by omega, _, _, q225o RB (by omega) Bz R, ?_⟩)⟩
    rw [if_pos rfl, wSs]
    refine ⟨by omega, (m : Int), wS wB s2, lb262 ⟨by decide, Or.inl ⟨_, _, d2, rfl⟩⟩, by omega, (n1 : Int), wS wB s3, lb262 ⟨by decide, Or.inl ⟨_, _, d3, rfl⟩⟩, ?_⟩
    rw [if_neg (by omega), if_neg (show ¬ (1 : Int) = 0 by decide), if_pos (by omega)]
    refine ⟨by omega, _, s4, d4, ?_⟩
    rw [if_pos rfl, wSS]
    refine bK276_187 (ll276c (w := wS wB s4) (c := 1000) L4.2.1 z4' e17 same (m + 1) 0 _ (by omega) m40 (fun rr' d7 d9 hrr' => bK276_234 ?_) (by omega))
    rw [if_neg (show ¬ (1 : Int) = 0 by decide), if_pos rfl]
    exact bK276_249 ⟨Or.inr rfl, rfl⟩
  · -- one does not fit on the first row
    have fin : ∀ (w2 : WS) (v6 : Int), w2.2.1 = wB.2.1 → LI n w2 → Lx 262 [vA 0, vI D, .inl 0, .inl 3] wB (.inl (some (.inl v6)), w2) → Dc 226 [vA 0, vI one, .inl 0, .inl 2] w2.2.2 (.inr 2) w2.2.2 → ∃ w', LI n w' ∧ Sc w w' ∧ Lx 276 [vA 0, vA 682, vI one, vI two] w (rO 1 w') := fun w2 v6 hw2 L2 l6 X => by
      refine ⟨w2, L2, Sc_t SB (Sc_e hw2), top (fun k rr R hrr => bK276_83 ⟨by omega, _, _, q225o RB (by omega) Bz R, ?_⟩)⟩
      rw [if_pos rfl, wSs]
      refine ⟨by omega, v6, w2, l6, by omega, -2, w2, lb262 ⟨by decide, Or.inr ⟨_, X, rfl⟩⟩, ?_⟩
      rw [if_pos rfl, if_neg (show ¬ (1 : Int) = 0 by decide), if_pos rfl]
      exact bK276_159 ⟨Or.inr rfl, rfl⟩
    rcases c226 (t1 := D) (t2 := 0) (t3 := 3) RB (by omega) (by decide) (by decide) Bz hm0 with ⟨y1, X⟩ | ⟨y1, s2, d2, R2, f2, z2, v2⟩
    · have X1 := ((c226 (t1 := one) (t2 := 0) (t3 := 2) RB (by omega) (by decide) (by decide) Bn1 hm0).resolve_right (fun e => cA e.1)).2
      exact fin wB (-2) rfl LB (lb262 ⟨by decide, Or.inr ⟨_, X, rfl⟩⟩) X1
    · have F2one : dF s2 one = dF wB.2.2 one := funext fun i => f2 _ i (by omega) (by unfold KP; omega) (by omega) (by omega)
      have q8 : s2 658 1 = (D : Int) + 1 := by rw [f2 658 1 (by decide) (by unfold KP; omega) (by decide) (by decide)]; exact B8
      have X1 := ((c226 (t1 := one) (t2 := 0) (t3 := 2) (n := n1) (m := m0) R2 (by omega) (by decide) (by decide) (by rw [f2 _ 1 (by omega) (by unfold KP; omega) (by omega) (by omega)]; exact Bn1) (by show s2 11 1 = _; rw [f2 11 1 (by decide) (by unfold KP; omega) (by decide) (by decide)]; exact hm0')).resolve_right (fun e => by rw [F2one] at e; exact cA e.1)).2
      have L2 : LI n (wS wB s2) := LI_by LB hn R2 (fun x k y1 y2 y3 _ => f2 x k y1 y2 (by omega) (by omega)) (f2 658 1 (by decide) (by unfold KP; omega) (by decide) (by decide))
      exact fin (wS wB s2) m rfl L2 (lb262 ⟨by decide, Or.inl ⟨_, _, d2, rfl⟩⟩) X1
theorem m275 {n a b : Nat} {w : WS} (L : LI n w) (hn : n ≤ 1000) : ∃ w', LI n w' ∧ Sc w w' ∧ Lx 275 [vA 0, vA 682, vI a, vI b] w (rO 1 w') := by
  have h1 : a % 4 < 4 := Nat.mod_lt _ (by decide)
  have h2 : b % 4 < 4 := Nat.mod_lt _ (by decide)
  have hs : SCR = 1000000000 := rfl
  have em : Int.tmod (a : Int) 4 = ((a % 4 : Nat) : Int) := rfl
  have em2 : Int.tmod (b : Int) 4 = ((b % 4 : Nat) : Int) := rfl
  have em3 : Int.tmod (Int.tdiv (a : Int) 4) 5 = ((a / 4 % 5 : Nat) : Int) := rfl
  have l274 := m274 (t := a % 4) L.2.1 h1
  obtain ⟨n1, hn1⟩ := Int.eq_ofNat_of_zero_le (bl_ok L.2.1 (t := a % 4) h1).1
  have n140 : n1 ≤ 40 := by have := (bl_ok L.2.1 (t := a % 4) h1).2.1; omega
  rw [hn1] at l274
  have e8 : w.2.1 682 2 = w.2.2 658 1 := L.2.2.2.2.1
  have hRD := (rel_n L.2.1).2.2.2.2
  by_cases c1 : a / 4 % 5 < 3
  · have b8 : b % 8 < 8 := Nat.mod_lt _ (by decide)
    by_cases c2 : 30 ≤ n1
    · obtain ⟨s2, d2, R2, O2, g8, z2⟩ := c220 (t := a % 4) L.2.1 h1
      have L2 : LI n (wS w s2) := LI_by L hn R2 (fun x k y1 y2 y3 y4 => O2 x k y1 y2 y3 y4) g8
      obtain ⟨w', L', x', K'⟩ := ll275a (b := b) hn h1 (1 + b % 8) 0 0 (wS w s2) (by omega) L2 z2 (by omega)
      refine ⟨w', L', Sc_e x', lb275 ⟨by decide, _, w, by rw [em]; exact l274, ?_⟩⟩
      rw [em3, if_pos (by omega), if_pos (by omega), em]
      refine ⟨by decide, _, s2, d2, ?_⟩
      rw [if_pos hn1]
      exact bK275_45 (bK275_50 (K' _ (by omega) _ _ _ _ _ _ _ _ _))
    · obtain ⟨w', L', x', K'⟩ := ll275a (b := b) hn h1 (1 + b % 8) 0 n1 w (by omega) L hn1 (by omega)
      refine ⟨w', L', Sc_e x', lb275 ⟨by decide, _, w, by rw [em]; exact l274, ?_⟩⟩
      rw [em3, if_pos (by omega), if_neg (by omega), em]
      exact bK275_45 (bK275_50 (K' _ (by omega) _ _ _ _ _ _ _ _ _))
  obtain ⟨D, hD⟩ := Int.eq_ofNat_of_zero_le (show 0 ≤ w.2.2 658 1 by omega)
  have k2 : w.2.1 682 ((2 : Int)).toNat = (D : Int) := e8.trans hD
  by_cases c2 : 8 < D
  · have em5 : Int.tmod (a : Int) (D : Int) = ((a % D : Nat) : Int) := rfl
    have aD : a % D < D := Nat.mod_lt _ (by omega)
    have z := rel_d L.2.1 (d := ((a % D : Nat) : Int)) (by omega)
    rw [tn] at z
    have fin : ∀ (w2 : WS) (v : Int), -2 ≤ v → w2.2.1 = w.2.1 → LI n w2 → Lx 262 [vA 0, vI (a % D : Nat), vI (a % 4 : Nat), vI (b % 4 : Nat)] w (.inl (some (.inl v)), w2) → ∃ w', LI n w' ∧ Sc w w' ∧ Lx 275 [vA 0, vA 682, vI a, vI b] w (rO 1 w') := fun w2 v hv hw2 L2 l => by
      refine ⟨w2, L2, Sc_e hw2, lb275 ⟨by decide, _, w, by rw [em]; exact l274, ?_⟩⟩
      rw [em3, if_neg (by omega), k2, if_pos (by omega), em, em2, em5]
      refine ⟨L.1, ⟨by decide, by decide⟩, L.1, ⟨by decide, by decide⟩, by omega, by decide, v, w2, l, ?_⟩
      rw [if_pos hv]
      exact bK275_168 ⟨Or.inr rfl, rfl⟩
    rcases c226 (t1 := a % D) (t2 := a % 4) (t3 := b % 4) L.2.1 (by omega) h1 h2 z.2.2.1 hn1 with ⟨-, X⟩ | ⟨-, s2, d2, R2, f2, z2, -⟩
    · exact fin w (-2) (by decide) rfl L (lb262 ⟨by decide, Or.inr ⟨_, X, rfl⟩⟩)
    · exact fin (wS w s2) _ (by omega) rfl (LI_by L hn R2 (fun x k y1 y2 y3 _ => f2 x k y1 y2 (by omega) (by omega)) (f2 658 1 (by decide) (by unfold KP; omega) (by omega) (by omega))) (lb262 ⟨by decide, Or.inl ⟨_, _, d2, rfl⟩⟩)
  -- a new delta
  obtain ⟨t1, ht1⟩ : ∃ t1, t1 = a % 4 := ⟨_, rfl⟩
  obtain ⟨t2, ht2⟩ : ∃ t2, t2 = b % 4 := ⟨_, rfl⟩
  rw [← ht1] at em h1 l274 hn1
  rw [← ht2] at em2 h2
  have l274b := m274 (t := t2) L.2.1 h2
  obtain ⟨n2, hn2⟩ := Int.eq_ofNat_of_zero_le (bl_ok L.2.1 (t := t2) h2).1
  have n240 : n2 ≤ 40 := by have := (bl_ok L.2.1 (t := t2) h2).2.1; omega
  rw [hn2] at l274b
  obtain ⟨s1, d1, R1, f1, g8, z1, v1⟩ := c222 L.2.1 h1 h2 hn1 hn2 hD (by omega)
  obtain ⟨wB, hwB⟩ : ∃ wB, wB = wS (wU w 682 ((2 : Int)).toNat ((D : Int) + 1)) s1 := ⟨_, rfl⟩
  have x1 : wB.1 = w.1 := by rw [hwB]; rfl
  have x2 : wB.2.2 = s1 := by rw [hwB]; rfl
  have x3 : ∀ a k, ¬ (a = 682 ∧ k = 2) → wB.2.1 a k = w.2.1 a k := fun a k h => by
    rw [hwB]
    show upS w.2.1 682 2 ((D : Int) + 1) a k = _
    unfold upS
    rw [if_neg h]
  have x4 : wB.2.1 682 2 = (D : Int) + 1 := by
    rw [hwB]
    show upS w.2.1 682 2 ((D : Int) + 1) 682 2 = _
    exact up_s
  have LB : LI n wB := LI_td (w' := wB) L (Nat.le_refl n) x1 (by rw [x2]; exact R1) (fun x k y1 y2 _ _ y5 => by rw [x2]; exact f1 x k y1 y2 (by omega) (by omega) (by omega)) (fun a k _ _ h => x3 a k (by omega)) (by rw [x2, f1 653 1 (by decide) (by unfold KP; omega) (by decide) (by omega) (by omega), x3 682 1 (by decide)]; exact L.2.2.2.1) (by rw [x2, g8]; exact x4) hn
  have SB : Sc w wB := fun k => ⟨x3 _ k (by omega), x3 _ k (by omega)⟩
  have RB : Rel 1000 wB.2.2 := LB.2.1
  have B8 : wB.2.2 658 1 = (D : Int) + 1 := by rw [x2]; exact g8
  have Bz : wB.2.2 (660 + 2 * D) 1 = (n2 : Nat) := by rw [x2]; exact z1
  have Brow : ∀ t, t < 4 → ∀ j, j ≤ 1 → wB.2.2 (11 + 2 * t + j) = w.2.2 (11 + 2 * t + j) := fun t ht j hj => funext fun k => by
    rw [x2]
    exact f1 _ k (by omega) (by unfold KP; omega) (by omega) (by omega) (by omega)
  have B1 : wB.2.2 (11 + 2 * t1) 1 = (n1 : Nat) := by
    have := Brow t1 h1 0 (by decide)
    rw [Nat.add_zero] at this
    rw [this]; exact hn1
  have B2 : wB.2.2 (11 + 2 * t2) 1 = (n2 : Nat) := by
    have := Brow t2 h2 0 (by decide)
    rw [Nat.add_zero] at this
    rw [this]; exact hn2
  have E1 : wB.2.2 (11 + 2 * t1 + 1) = w.2.2 (11 + 2 * t1 + 1) := Brow t1 h1 1 (by decide)
  have E2 : wB.2.2 (11 + 2 * t2 + 1) = w.2.2 (11 + 2 * t2 + 1) := Brow t2 h2 1 (by decide)
  have S : SND (dF wB.2.2 D) (w.2.2 (11 + 2 * t1 + 1)) (w.2.2 (11 + 2 * t2 + 1)) n1 n2 := fun i hi => by
    have ll := cds_len (f := w.2.2 (11 + 2 * t1 + 1)) (g := w.2.2 (11 + 2 * t2 + 1)) (n1 := n1) (n2 := n2) n2 0 (by omega)
    obtain ⟨C, hC⟩ : ∃ C, C = cds (w.2.2 (11 + 2 * t1 + 1)) (w.2.2 (11 + 2 * t2 + 1)) n1 n2 n2 0 := ⟨_, rfl⟩
    have sd := cds_sd (f := w.2.2 (11 + 2 * t1 + 1)) (g := w.2.2 (11 + 2 * t2 + 1)) (n1 := n1) (n2 := n2) n2 0
    rw [← hC] at ll sd v1
    obtain ⟨v, hv⟩ : ∃ v, C[i]? = some v := ⟨C[i]'(by omega), List.getElem?_eq_getElem (by omega)⟩
    have fv : ∀ i v, C[i]? = some v → dF wB.2.2 D i = v := fun i v h => by rw [x2]; exact v1 i v h
    have e := fv i v hv
    rw [e]
    rcases sd i v hv with ⟨q1, q2, q3, q4⟩ | q1
    · rw [Nat.zero_add] at q3
      refine Or.inl ⟨q1, q2, q3, ?_⟩
      rcases q4 with ⟨q4, q5, q6⟩ | ⟨q4, q5⟩
      · exact Or.inl ⟨q4, fv _ _ q5⟩
      · have := (List.getElem?_eq_some_iff.mp q5).1
        exact Or.inr ⟨by omega, fv _ _ q4, fv _ _ q5⟩
    · rw [Nat.zero_add] at q1
      have := (bl_ok L.2.1 (t := t2) h2).2.2 i (by omega)
      exact Or.inr ⟨by omega, q1⟩
  obtain ⟨to, hto⟩ : ∃ to, to = (t2 + 1 + b / 4 % 3) % 4 := ⟨_, rfl⟩
  have h3 : to < 4 := by rw [hto]; exact Nat.mod_lt _ (by decide)
  have b3 : b / 4 % 3 < 3 := Nat.mod_lt _ (by decide)
  have tne : ¬ to = t2 := by omega
  have em6 : Int.tmod ((t2 : Int) + 1 + Int.tmod (Int.tdiv (b : Int) 4) 3) 4 = (to : Int) := by rw [hto]; rfl
  have em7 : Int.tmod (Int.tdiv (b : Int) 4) 3 = ((b / 4 % 3 : Nat) : Int) := rfl
  have rD : rS (dF wB.2.2 D) n2 0 0 ≤ (n1 : Int) := rS_le n2 0 0 (by omega) (fun i _ hi h5 => by
    rcases S i (by omega) with ⟨q1, q2, -⟩ | ⟨q1, q2⟩
    · exact q2
    · omega)
  obtain ⟨-, s3, d3, R3, f3, z3, v3⟩ := (c226 (t1 := D) (t2 := t1) (t3 := to) RB (by omega) h1 h3 Bz B1).resolve_left (fun e => by omega)
  have L3 : LI n (wS wB s3) := LI_by LB hn R3 (fun x k y1 y2 y3 _ => f3 x k y1 y2 (by omega) (by omega)) (f3 658 1 (by decide) (by unfold KP; omega) (by omega) (by omega))
  have z32 : s3 (11 + 2 * t2) 1 = (n2 : Nat) := by rw [f3 _ 1 (by omega) (by unfold KP; omega) (by omega) (by omega)]; exact B2
  have same : ∀ i, i < n2 → s3 (11 + 2 * to + 1) i = s3 (11 + 2 * t2 + 1) i := fun i hi => by
    rw [v3 i hi, f3 (11 + 2 * t2 + 1) i (by omega) (by unfold KP; omega) (by omega) (by omega), E1, E2]
    unfold ptb
    rcases S i hi with ⟨q1, q2, q3, -⟩ | ⟨q1, q2⟩
    · rw [if_pos (by omega)]; exact q3
    · rw [if_neg (by omega)]; omega
  have k23 : (wS wB s3).2.1 682 ((2 : Int)).toNat = (D : Int) + 1 := x4
  have em8 : Int.tmod (Int.tdiv (b : Int) 12) ((D + 1 : Nat) : Int) = ((b / 12 % (D + 1) : Nat) : Int) := rfl
  have bD : b / 12 % (D + 1) < D + 1 := Nat.mod_lt _ (by omega)
  have k2m : (wS wB s3).2.1 682 2 = (D : Int) + 1 := x4
  obtain ⟨w', L', S', K'⟩ := m276 (one := b / 12 % (D + 1)) (two := D) L3 hn (by omega) (by omega)
  refine ⟨w', L', Sc_t (Sc_t SB (Sc_e rfl)) S', lb275 ⟨by decide, _, w, by rw [em]; exact l274, ?_⟩⟩
  rw [em3, if_neg (by omega), k2, if_neg (by omega), em, em2]
  refine ⟨L.1, ⟨by decide, by decide⟩, L.1, ⟨by decide, by decide⟩, by decide, _, w, l274b, ?_⟩
  rw [k2]
  refine ⟨L.1, ⟨by decide, by decide⟩, by omega, L.1, ⟨by decide, by decide⟩, by decide, _, s1, d1, ?_⟩
  rw [if_pos rfl, ← hwB]
  refine bK275_213 (ll275b (w := wB) (c := 1000) (n1 := n1) RB (by omega) Bz n240 n140 S n2 0 0 _ 0 (by omega) rfl (by rw [Nat.sub_zero]; omega) (by decide) (fun rr d6 d9 d10 d11 d12 d13 hrr => bK275_374 ?_) (by omega) none)
  rw [if_neg (show ¬ (1 : Int) = 0 by decide), em6, em7]
  refine ⟨by omega, by omega, by omega, _, s3, d3, ?_⟩
  rw [if_pos rfl]
  refine bK275_415 (ll275c (w := wS wB s3) (c := 1000) L3.2.1 h2 h3 z32 z3 same n240 (n2 + 1) 0 _ (by omega) (fun rr' d5 d8 d12' d13' hrr' => bK275_464 ?_) (by omega))
  rw [if_neg (show ¬ (1 : Int) = 0 by decide), k23, if_pos (by omega), show (D : Int) + 1 = ((D + 1 : Nat) : Int) by omega, em8]
  refine ⟨L3.1, ⟨by decide, by decide⟩, L3.1, ⟨by decide, by decide⟩, by omega, by omega, 1, w', K', ?_⟩
  rw [if_neg (show ¬ (1 : Int) = 0 by decide)]
  exact bK275_495 (bK275_500 ⟨Or.inr rfl, rfl⟩)
end
