/-! Whence a line of the top came. -/
noncomputable section
theorem ofZ_eq {O N : Nat → Int} : ∀ (l : List St), ofZ O N l = true → ∀ q, q ∈ l → q.2.1 = q.2.2.2 := by
  intro l
  induction l with
  | nil => intro _ q hq; cases hq
  | cons r t ih =>
    intro h q hq
    have e : ofZ O N (r :: t) = if r.2.1 = r.2.2.2 ∧ hwZ O N r.1 r.2.2.1 r.2.1 0 = true then ofZ O N t else false := rfl
    rw [e] at h
    by_cases y : r.2.1 = r.2.2.2 ∧ hwZ O N r.1 r.2.2.1 r.2.1 0 = true
    · rw [if_pos y] at h
      rcases List.mem_cons.mp hq with z | z
      · rw [z]; exact y.1
      · exact ih h q z
    · rw [if_neg y] at h
      cases h
theorem fsr_b {O N F K : Nat → Int} {nb na n : Nat} : ∀ (d i : Nat), i + d = nb → fsr O N F K nb na n d i = -1 ∨ (0 ≤ fsr O N F K nb na n d i ∧ fsr O N F K nb na n d i < (nb : Int)) := by
  intro d
  induction d with
  | zero => intro i _; exact Or.inl rfl
  | succ d ih =>
    intro i hi
    have e : fsr O N F K nb na n (d + 1) i = if O i = N n ∧ goalZ O N F K nb na i = (n : Int) then (i : Int) else fsr O N F K nb na n d (i + 1) := rfl
    rw [e]
    by_cases y : O i = N n ∧ goalZ O N F K nb na i = (n : Int)
    · rw [if_pos y]
      right; omega
    · rw [if_neg y]
      exact ih (i + 1) (by omega)
theorem srcZ_b {O N F K : Nat → Int} {nb na n : Nat} (V : VF F nb na) (I : IV F K nb na) (hn : n < na) : srcZ O N F K nb na (hks F nb na) n = -1 ∨ (0 ≤ srcZ O N F K nb na (hks F nb na) n ∧ srcZ O N F K nb na (hks F nb na) n < (nb : Int)) := by
  have D := DS_0 V
  unfold srcZ
  by_cases y : K n = -1
  · rw [if_neg (fun h => h y)]
    by_cases y1 : fsr O N F K nb na n nb 0 = -1
    · rw [if_neg (fun h => h y1)]
      by_cases y2 : ofZ O N (hks F nb na) = true
      · rw [if_pos y2]
        obtain ⟨h, q, w1, w2, w3⟩ := DS_nc D I hn y
        have e := ofZ_eq _ y2 q (List.mem_of_getElem? w1)
        have b := (DS_b _ _ _ _ D).2.2 q (List.mem_of_getElem? w1)
        rw [bsd_at _ _ _ _ D h q w1 w2 w3]
        right; omega
      · rw [if_neg y2]
        exact Or.inl rfl
    · rw [if_pos y1]
      exact fsr_b nb 0 (by omega)
  · rw [if_pos y]
    rcases I.1 n hn with z | ⟨z1, z2, z3⟩
    · exact Or.inl z
    · exact Or.inr ⟨z1, z2⟩
/-- sizes of a layer -/
def lnb (σ : Sg) (k : Nat) : Nat := (σ (406 + 13 * k + 1) 1).toNat
def lna (σ : Sg) (k : Nat) : Nat := (σ (406 + 13 * k + 3) 1).toNat
def SRC (σ : Sg) (k p : Nat) : Int := srcZ (σ (406 + 13 * k + 2)) (σ (406 + 13 * k + 4)) (σ (406 + 13 * k + 6)) (σ (406 + 13 * k + 8)) (lnb σ k) (lna σ k) (hks (σ (406 + 13 * k + 6)) (lnb σ k) (lna σ k)) p
def orgZ (σ : Sg) : Nat → Nat → Int × Nat
  | 0, p => (-1, p)
  | k + 1, p => if SRC σ k p = -1 then ((k : Int), p) else orgZ σ k (SRC σ k p).toNat
/-- a layer, both sides -/
theorem ly_at {σ : Sg} {c : Int} {k : Nat} (H : Rel c σ) (hk : (k : Int) < σ 402 3) : k < 5 ∧ isPatch (406 + 13 * k) = true ∧ lnb σ k ≤ 16 ∧ lna σ k ≤ 16 ∧ NP σ (406 + 13 * k) (lnb σ k) (lna σ k) ∧ Slot σ (24 + k) (lnb σ k) (lna σ k) (σ (406 + 13 * k + 2)) (σ (406 + 13 * k + 4)) (σ (406 + 13 * k + 6)) ∧ (∀ i, i < lnb σ k → isLn (σ (406 + 13 * k + 2) i) = true) ∧ (∀ i, i < lna σ k → isLn (σ (406 + 13 * k + 4) i) = true) ∧ (0 < k → lna σ (k - 1) = lnb σ k) := by
  have hS : RSt c σ := H.2.2.2.2.2.1
  obtain ⟨h1, h2, h3, h4, h5, h6, h7, h8, h9, h10, h11⟩ := hS
  obtain ⟨x1, x2, x3⟩ := h11 k hk
  have hP := (cpL (p := k) (by omega)).2.2.2.2.2.2.1
  obtain ⟨nb, na, hb1, hb2, N, S⟩ := po_slot x1 x2 (WF_w H.1 (pat_1 hP)).2.1 (WF_w H.1 (pat_3 hP)).2.1
  have e1 : lnb σ k = nb := by unfold lnb; rw [N.1]; omega
  have e2 : lna σ k = na := by unfold lna; rw [N.2.1]; omega
  rw [e1, e2]
  refine ⟨by omega, hP, hb1, hb2, N, S, fun i hi => x2.2.2.2.2.2.2.2.1 i (by rw [N.1]; omega), fun i hi => x2.2.2.2.2.2.2.2.2.1 i (by rw [N.2.1]; omega), fun hk0 => ?_⟩
  have hbl : blw k = 406 + 13 * (k - 1) + 3 := by unfold blw; rw [if_neg (by omega)]
  have z := x3.1
  rw [hbl, N.1] at z
  unfold lna
  omega
/-- only rows of likenesses of layers were written -/
def FK (s σ : Sg) : Prop := ∀ c x, ¬ (406 ≤ c ∧ c ≤ 470 ∧ ((c - 406) % 13 = 11 ∨ (c - 406) % 13 = 12)) → s c x = σ c x
/-- origin -/
theorem l132 {σ : Sg} {c : Int} (H : Rel c σ) : ∀ (k p : Nat) (s : Sg) (d1 d4 : Option AV), (k : Int) ≤ σ 402 3 → (0 < k → p < lna σ (k - 1)) → p ≤ 99 → WF s → FK s σ → ∃ s', C132_17 d1 p ((k : Int) - 1) d4 s (rI (100 * ((orgZ σ k p).1 + 1) + ((orgZ σ k p).2 : Nat)) s') ∧ WF s' ∧ FK s' σ ∧ (orgZ σ k p).2 ≤ 99 ∧ -1 ≤ (orgZ σ k p).1 ∧ (orgZ σ k p).1 < (k : Int) := by
  intro k
  induction k with
  | zero =>
    intro p s d1 d4 hk hp hp9 W fr
    refine ⟨s, b132_17 ?_, W, fr, hp9, by show (-1 : Int) ≤ -1; omega, by show (-1 : Int) < 0; omega⟩
    rw [if_neg (by omega)]
    show rI (100 * ((-1 : Int) + 1) + ((p : Nat) : Int)) s = _
    rw [show 100 * ((-1 : Int) + 1) + ((p : Nat) : Int) = (p : Int) by omega]
  | succ k ih =>
    intro p s d1 d4 hk hp hp9 W fr
    obtain ⟨k5, hP, hb, ha, N, S, lO, lN, hsz⟩ := ly_at H (k := k) (by omega)
    have hpn : p < lna σ k := hp (by omega)
    have fP : ∀ j x, j ≤ 10 → s (406 + 13 * k + j) x = σ (406 + 13 * k + j) x := fun j x hj => fr _ x (by omega)
    have e2 : s (406 + 13 * k + 2) = σ (406 + 13 * k + 2) := funext fun x => fP 2 x (by omega)
    have e4 : s (406 + 13 * k + 4) = σ (406 + 13 * k + 4) := funext fun x => fP 4 x (by omega)
    have e6 : s (406 + 13 * k + 6) = σ (406 + 13 * k + 6) := funext fun x => fP 6 x (by omega)
    have e8 : s (406 + 13 * k + 8) = σ (406 + 13 * k + 8) := funext fun x => fP 8 x (by omega)
    have N' : NP s (406 + 13 * k) (lnb σ k) (lna σ k) := NP_fr (fun c x h => fr c x (by omega)) N
    have c11 := (cpL (p := k) (by omega)).2.2.2.2.2.1
    obtain ⟨s1, a1, a2, a3⟩ := d122 (n := p) hP W N' (by omega) (by omega) (by rw [e2]; exact lO) (by rw [e4]; exact lN) (by omega) hpn
    rw [e2, e4, e6, e8] at a1
    have a1 : Dd 122 [vA (406 + 13 * k), vI p] s (rI (SRC σ k p) s1) := a1
    have fr1 : FK s1 σ := fun c x h => by rw [a3 c x (by omega) (by omega)]; exact fr c x h
    have sb := srcZ_b (O := σ (406 + 13 * k + 2)) (N := σ (406 + 13 * k + 4)) N.2.2.2.2.1 N.2.2.2.2.2.1 hpn
    have sb : SRC σ k p = -1 ∨ (0 ≤ SRC σ k p ∧ SRC σ k p < (lnb σ k : Int)) := sb
    have eo : orgZ σ (k + 1) p = if SRC σ k p = -1 then ((k : Int), p) else orgZ σ k (SRC σ k p).toNat := rfl
    have qE' := (cpL (p := k) (by omega)).2.2.2.2.2.2.2
    by_cases y : SRC σ k p = -1
    · rw [if_pos y] at eo
      rw [eo]
      refine ⟨s1, b132_17 ?_, a2, fr1, hp9, by show (-1 : Int) ≤ (k : Int); omega, by show (k : Int) < _; omega⟩
      rw [if_pos (by omega), show ((k + 1 : Nat) : Int) - 1 = (k : Int) by omega]
      refine ⟨by omega, 406 + 13 * k, by rw [tn]; exact qE', hP, _, s1, a1, ?_⟩
      rw [if_pos y]
      exact ⟨by omega, by omega, by omega, rfl⟩
    · rw [if_neg y] at eo
      rw [eo]
      obtain ⟨q, hq⟩ := Int.eq_ofNat_of_zero_le (show 0 ≤ SRC σ k p by omega)
      rw [hq] at sb y ⊢
      rw [tn]
      obtain ⟨s', c1, c2, c3, c4, c5, c6⟩ := ih q s1 d1 (some (vI (q : Nat))) (by omega) (fun h0 => by rw [hsz h0]; omega) (by omega) a2 fr1
      refine ⟨s', b132_17 ?_, c2, c3, c4, c5, by omega⟩
      rw [if_pos (by omega), show ((k + 1 : Nat) : Int) - 1 = (k : Int) by omega]
      refine ⟨by omega, 406 + 13 * k, by rw [tn]; exact qE', hP, _, s1, a1, ?_⟩
      rw [hq, if_neg y, show (k : Int) + (-1) = (k : Int) - 1 by omega]
      exact ⟨by omega, c1⟩
/-- the reference's way down -/
def FM (s σ : Sg) : Prop := ∀ c x, 682 ≤ c → ¬ c = 726 → ¬ c = 690 → ¬ c = 695 → ¬ (700 ≤ c ∧ c ≤ 704) → ¬ (c = 682 ∧ (x = 0 ∨ x = 43 ∨ x = 44)) → s c x = σ c x
theorem l364 {σ : Sg} {c : Int} (H : Rel c σ) {d1 : Option AV} : ∀ (k p : Nat) (s : Sg), (k : Int) ≤ σ 402 3 → (0 < k → p < lna σ (k - 1)) → p ≤ 99 → Zl s → FM s σ → s 682 43 = (k : Int) - 1 → s 682 44 = (p : Nat) → ∃ s', (if 0 ≤ s 682 43 then ∃ v4 s3, Dd 363 [vA 682, vI (24 + s 682 43), vI p] s (rI v4 s3) ∧ C364_39 d1 v4 s3 (rV s') else C364_39 d1 (-1) s (rV s')) ∧ Zl s' ∧ s' 682 43 = (orgZ σ k p).1 ∧ s' 682 44 = ((orgZ σ k p).2 : Nat) ∧ (∀ c x, ¬ c = 690 → ¬ c = 695 → ¬ (700 ≤ c ∧ c ≤ 704) → ¬ (c = 682 ∧ (x = 43 ∨ x = 44)) → s' c x = s c x) := by
  intro k
  induction k with
  | zero =>
    intro p s hk hp hp9 Z fr z43 z44
    refine ⟨s, ?_, Z, by rw [z43]; rfl, by rw [z44]; rfl, fun _ _ _ _ _ _ => rfl⟩
    rw [if_neg (by omega)]
    refine b364_39 ?_
    rw [if_pos rfl]
  | succ k ih =>
    intro p s hk hp hp9 Z fr z43 z44
    obtain ⟨k5, hP, hb, ha, N, S, lO, lN, hsz⟩ := ly_at H (k := k) (by omega)
    have hpn : p < lna σ k := hp (by omega)
    have S' : Slot s (24 + k) (lnb σ k) (lna σ k) (σ (406 + 13 * k + 2)) (σ (406 + 13 * k + 4)) (σ (406 + 13 * k + 6)) := Slot_fr (fun c x h => fr c x (by omega) (by omega) (by omega) (by omega) (by omega) (by omega)) S
    obtain ⟨s1, a1, a2, a3⟩ := d363 (s := 24 + k) (n := p) (by omega) (by omega) ha N.2.2.2.2.1 N.2.2.2.2.2.1 lO lN S' hpn Z
    have a1 : Dd 363 [vA 682, vI ((24 + k : Nat) : Int), vI p] s (rI (SRC σ k p) s1) := a1
    have sb := srcZ_b (O := σ (406 + 13 * k + 2)) (N := σ (406 + 13 * k + 4)) N.2.2.2.2.1 N.2.2.2.2.2.1 hpn
    have sb : SRC σ k p = -1 ∨ (0 ≤ SRC σ k p ∧ SRC σ k p < (lnb σ k : Int)) := sb
    have eo : orgZ σ (k + 1) p = if SRC σ k p = -1 then ((k : Int), p) else orgZ σ k (SRC σ k p).toNat := rfl
    have z1 : s1 682 43 = (k : Int) := by rw [a3 _ _ (by decide) (by decide) (by decide), z43]; omega
    have z2 : s1 682 44 = (p : Nat) := by rw [a3 _ _ (by decide) (by decide) (by decide), z44]
    by_cases y : SRC σ k p = -1
    · rw [if_pos y] at eo
      rw [eo]
      refine ⟨s1, ?_, a2, z1, z2, fun c x h1 h2 h3 _ => a3 c x h1 h2 h3⟩
      rw [if_pos (by omega), z43, show 24 + (((k + 1 : Nat) : Int) - 1) = ((24 + k : Nat) : Int) by omega]
      refine ⟨_, s1, a1, b364_39 ?_⟩
      rw [if_pos y]
    · rw [if_neg y] at eo
      rw [eo]
      obtain ⟨q, hq⟩ := Int.eq_ofNat_of_zero_le (show 0 ≤ SRC σ k p by omega)
      rw [hq] at sb y a1 ⊢
      rw [tn]
      obtain ⟨s2, hs2⟩ : ∃ s2, s2 = upS (upS s1 682 43 (s1 682 43 - 1)) 682 44 (q : Nat) := ⟨_, rfl⟩
      have w43 : s2 682 43 = (k : Int) - 1 := by rw [hs2, up_k (by decide), up_s, z1]
      have w44 : s2 682 44 = (q : Nat) := by rw [hs2, up_s]
      have off2 : ∀ c x, ¬ (c = 682 ∧ (x = 43 ∨ x = 44)) → s2 c x = s1 c x := fun c x h => by
        rw [hs2]
        unfold upS
        rw [if_neg (by omega), if_neg (by omega)]
      obtain ⟨s', c1, c2, c3, c4, c5⟩ := ih q s2 (by omega) (fun h0 => by rw [hsz h0]; omega) (by omega) (Zl_fr (fun x => off2 _ _ (by omega)) a2) (fun c x h1 h2 h3 h4 h5 h6 => by rw [off2 c x (by omega), a3 c x h3 h4 h5]; exact fr c x h1 h2 h3 h4 h5 h6) w43 w44
      refine ⟨s', ?_, c2, c3, c4, fun c x h1 h2 h3 h4 => by rw [c5 c x h1 h2 h3 h4, off2 c x h4]; exact a3 c x h1 h2 h3⟩
      rw [if_pos (by omega), z43, show 24 + (((k + 1 : Nat) : Int) - 1) = ((24 + k : Nat) : Int) by omega]
      refine ⟨_, s1, a1, b364_39 ?_⟩
      rw [if_neg y, ← hs2]
      exact ⟨by omega, by
        have z := c1
        by_cases y0 : 0 ≤ s2 682 43
        · rw [if_pos y0] at z ⊢
          obtain ⟨v4, s3, t1, t2⟩ := z
          exact ⟨by omega, v4, s3, t1, b364_82 t2⟩
        · rw [if_neg y0] at z ⊢
          exact b364_82 z⟩
end
