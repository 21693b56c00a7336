-- DRAFT 99.x3org.lean
/-! Whence a line of the top came. -/
noncomputable section
theorem ofZ_eq {O N : Nat → Int} : ∀ (l : List St), ofZ O N l = true → ∀ q, q ∈ l → q.2.1 = q.2.2.2 := by
  intro l
  induction l with
  | nil => intro _ q hq; cases hq
  | cons r t ih =>
    intro h q hq
    have e : ofZ O N (r :: t) = if r.2.1 = r.2.2.2 ∧ hwZ O N r.1 r.2.2.1 r.2.1 0 = true then ofZ O N t else false := rfl
    rw [e] at h
    by_cases y : r.2.1 = r.2.2.2 ∧ hwZ O N r.1 r.2.2.1 r.2.1 0 = true
    · rw [if_pos y] at h
      rcases List.mem_cons.mp hq with z | z
      · rw [z]; exact y.1
      · exact ih h q z
    · rw [if_neg y] at h
      cases h
theorem fsr_b {O N F K : Nat → Int} {nb na n : Nat} : ∀ (d i : Nat), i + d = nb → fsr O N F K nb na n d i = -1 ∨ (0 ≤ fsr O N F K nb na n d i ∧ fsr O N F K nb na n d i < (nb : Int)) := by
  intro d
  induction d with
  | zero => intro i _; exact Or.inl rfl
  | succ d ih =>
    intro i hi
    have e : fsr O N F K nb na n (d + 1) i = if O i = N n ∧ goalZ O N F K nb na i = (n : Int) then (i : Int) else fsr O N F K nb na n d (i + 1) := rfl
    rw [e]
    by_cases y : O i = N n ∧ goalZ O N F K nb na i = (n : Int)
    · rw [if_pos y]
      right; omega
    · rw [if_neg y]
      exact ih (i + 1) (by omega)
theorem srcZ_b {O N F K : Nat → Int} {nb na n : Nat} (V : VF F nb na) (I : IV F K nb na) (hn : n < na) : srcZ O N F K nb na (hks F nb na) n = -1 ∨ (0 ≤ srcZ O N F K nb na (hks F nb na) n ∧ srcZ O N F K nb na (hks F nb na) n < (nb : Int)) := by
  have D := DS_0 V
  unfold srcZ
  by_cases y : K n = -1
  · rw [if_neg (fun h => h y)]
    by_cases y1 : fsr O N F K nb na n nb 0 = -1
    · rw [if_neg (fun h => h y1)]
      by_cases y2 : ofZ O N (hks F nb na) = true
      · rw [if_pos y2]
        obtain ⟨h, q, w1, w2, w3⟩ := DS_nc D I hn y
        have e := ofZ_eq _ y2 q (List.mem_of_getElem? w1)
        have b := (DS_b _ _ _ _ D).2.2 q (List.mem_of_getElem? w1)
        rw [bsd_at _ _ _ _ D h q w1 w2 w3]
        right; omega
      · rw [if_neg y2]
        exact Or.inl rfl
    · rw [if_pos y1]
      exact fsr_b nb 0 (by omega)
  · rw [if_pos y]
    rcases I.1 n hn with z | ⟨z1, z2, z3⟩
    · exact Or.inl z
    · exact Or.inr ⟨z1, z2⟩
/-- sizes of a layer -/
def lnb (σ : Sg) (k : Nat) : Nat := (σ (406 + 13 * k + 1) 1).toNat
def lna (σ : Sg) (k : Nat) : Nat := (σ (406 + 13 * k + 3) 1).toNat
def SRC (σ : Sg) (k p : Nat) : Int := srcZ (σ (406 + 13 * k + 2)) (σ (406 + 13 * k + 4)) (σ (406 + 13 * k + 6)) (σ (406 + 13 * k + 8)) (lnb σ k) (lna σ k) (hks (σ (406 + 13 * k + 6)) (lnb σ k) (lna σ k)) p
def orgZ (σ : Sg) : Nat → Nat → Int × Nat
  | 0, p => (-1, p)
  | k + 1, p => if SRC σ k p = -1 then ((k : Int), p) else orgZ σ k (SRC σ k p).toNat
/-- a layer, both sides -/
theorem ly_at {σ : Sg} {c : Int} {k : Nat} (H : Rel c σ) (hk : (k : Int) < σ 402 3) : k < 5 ∧ isPatch (406 + 13 * k) = true ∧ lnb σ k ≤ 16 ∧ lna σ k ≤ 16 ∧ NP σ (406 + 13 * k) (lnb σ k) (lna σ k) ∧ Slot σ (24 + k) (lnb σ k) (lna σ k) (σ (406 + 13 * k + 2)) (σ (406 + 13 * k + 4)) (σ (406 + 13 * k + 6)) ∧ (∀ i, i < lnb σ k → isLn (σ (406 + 13 * k + 2) i) = true) ∧ (∀ i, i < lna σ k → isLn (σ (406 + 13 * k + 4) i) = true) ∧ (0 < k → lna σ (k - 1) = lnb σ k) := by
  have hS : RSt c σ := H.2.2.2.2.2.1
  obtain ⟨h1, h2, h3, h4, h5, h6, h7, h8, h9, h10, h11⟩ := hS
  obtain ⟨x1, x2, x3⟩ := h11 k hk
  have hP := (cpL (p := k) (by omega)).2.2.2.2.2.2.1
  obtain ⟨nb, na, hb1, hb2, N, S⟩ := po_slot x1 x2 (WF_w H.1 (pat_1 hP)).2.1 (WF_w H.1 (pat_3 hP)).2.1
  have e1 : lnb σ k = nb := by unfold lnb; rw [N.1]; omega
  have e2 : lna σ k = na := by unfold lna; rw [N.2.1]; omega
  rw [e1, e2]
  refine ⟨by omega, hP, hb1, hb2, N, S, fun i hi => x2.2.2.2.2.2.2.2.1 i (by rw [N.1]; omega), fun i hi => x2.2.2.2.2.2.2.2.2.1 i (by rw [N.2.1]; omega), fun hk0 => ?_⟩
  have hbl : blw k = 406 + 13 * (k - 1) + 3 := by unfold blw; rw [if_neg (by omega)]
  have z := x3.1
  rw [hbl, N.1] at z
  unfold lna
  omega
/-- only rows of likenesses of layers were written -/
def FK (s σ : Sg) : Prop := ∀ c x, ¬ (406 ≤ c ∧ c ≤ 470 ∧ ((c - 406) % 13 = 11 ∨ (c - 406) % 13 = 12)) → s c x = σ c x
/-- origin -/
theorem l132 {σ : Sg} {c : Int} (H : Rel c σ) : ∀ (k p : Nat) (s : Sg) (d1 d4 : Option AV), (k : Int) ≤ σ 402 3 → (0 < k → p < lna σ (k - 1)) → p ≤ 99 → WF s → FK s σ → ∃ s', C132_17 d1 p ((k : Int) - 1) d4 s (rI (100 * ((orgZ σ k p).1 + 1) + ((orgZ σ k p).2 : Nat)) s') ∧ WF s' ∧ FK s' σ ∧ (orgZ σ k p).2 ≤ 99 ∧ -1 ≤ (orgZ σ k p).1 ∧ (orgZ σ k p).1 < (k : Int) := by
  intro k
  induction k with
  | zero =>
    intro p s d1 d4 hk hp hp9 W fr
    refine ⟨s, b132_17 ?_, W, fr, hp9, by show (-1 : Int) ≤ -1; omega, by show (-1 : Int) < 0; omega⟩
    rw [if_neg (by omega)]
    show rI (100 * ((-1 : Int) + 1) + ((p : Nat) : Int)) s = _
    rw [show 100 * ((-1 : Int) + 1) + ((p : Nat) : Int) = (p : Int) by omega]
  | succ k ih =>
    intro p s d1 d4 hk hp hp9 W fr
    obtain ⟨k5, hP, hb, ha, N, S, lO, lN, hsz⟩ := ly_at H (k := k) (by omega)
    have hpn : p < lna σ k := hp (by omega)
    have fP : ∀ j x, j ≤ 10 → s (406 + 13 * k + j) x = σ (406 + 13 * k + j) x := fun j x hj => fr _ x (by omega)
    have e2 : s (406 + 13 * k + 2) = σ (406 + 13 * k + 2) := funext fun x => fP 2 x (by omega)
    have e4 : s (406 + 13 * k + 4) = σ (406 + 13 * k + 4) := funext fun x => fP 4 x (by omega)
    have e6 : s (406 + 13 * k + 6) = σ (406 + 13 * k + 6) := funext fun x => fP 6 x (by omega)
    have e8 : s (406 + 13 * k + 8) = σ (406 + 13 * k + 8) := funext fun x => fP 8 x (by omega)
    have N' : NP s (406 + 13 * k) (lnb σ k) (lna σ k) := NP_fr (fun c x h => fr c x (by omega)) N
    have c11 := (cpL (p := k) (by omega)).2.2.2.2.2.1
    obtain ⟨s1, a1, a2, a3⟩ := d122 (n := p) hP W N' (by omega) (by omega) (by rw [e2]; exact lO) (by rw [e4]; exact lN) (by omega) hpn
    rw [e2, e4, e6, e8] at a1
    have a1 : Dd 122 [vA (406 + 13 * k), vI p] s (rI (SRC σ k p) s1) := a1
    have fr1 : FK s1 σ := fun c x h => by rw [a3 c x (by omega) (by omega)]; exact fr c x h
    have sb := srcZ_b (O := σ (406 + 13 * k + 2)) (N := σ (406 + 13 * k + 4)) N.2.2.2.2.1 N.2.2.2.2.2.1 hpn
    have sb : SRC σ k p = -1 ∨ (0 ≤ SRC σ k p ∧ SRC σ k p < (lnb σ k : Int)) := sb
    have eo : orgZ σ (k + 1) p = if SRC σ k p = -1 then ((k : Int), p) else orgZ σ k (SRC σ k p).toNat := rfl
    have qE' := (cpL (p := k) (by omega)).2.2.2.2.2.2.2
    by_cases y : SRC σ k p = -1
    · rw [if_pos y] at eo
      rw [eo]
      refine ⟨s1, b132_17 ?_, a2, fr1, hp9, by show (-1 : Int) ≤ (k : Int); omega, by show (k : Int) < _; omega⟩
      rw [if_pos (by omega), show ((k + 1 : Nat) : Int) - 1 = (k : Int) by omega]
      refine ⟨by omega, 406 + 13 * k, by rw [tn]; exact qE', hP, _, s1, a1, ?_⟩
      rw [if_pos y]
      exact ⟨by omega, by omega, by omega, rfl⟩
    · rw [if_neg y] at eo
      rw [eo]
      obtain ⟨q, hq⟩ := Int.eq_ofNat_of_zero_le (show 0 ≤ SRC σ k p by omega)
      rw [hq] at sb y ⊢
      rw [tn]
      obtain ⟨s', c1, c2, c3, c4, c5, c6⟩ := ih q s1 d1 (some (vI (q : Nat))) (by omega) (fun h0 => by rw [hsz h0]; omega) (by omega) a2 fr1
      refine ⟨s', b132_17 ?_, c2, c3, c4, c5, by omega⟩
      rw [if_pos (by omega), show ((k + 1 : Nat) : Int) - 1 = (k : Int) by omega]
      refine ⟨by omega, 406 + 13 * k, by rw [tn]; exact qE', hP, _, s1, a1, ?_⟩
      rw [hq, if_neg y, show (k : Int) + (-1) = (k : Int) - 1 by omega]
      exact ⟨by omega, c1⟩
/-- the reference's way down -/
def FM (s σ : Sg) : Prop := ∀ c x, 682 ≤ c → ¬ c = 726 → ¬ c = 690 → ¬ c = 695 → ¬ (700 ≤ c ∧ c ≤ 704) → ¬ (c = 682 ∧ (x = 0 ∨ x = 43 ∨ x = 44)) → s c x = σ c x
theorem l364 {σ : Sg} {c : Int} (H : Rel c σ) {d1 : Option AV} : ∀ (k p : Nat) (s : Sg), (k : Int) ≤ σ 402 3 → (0 < k → p < lna σ (k - 1)) → p ≤ 99 → Zl s → FM s σ → s 682 43 = (k : Int) - 1 → s 682 44 = (p : Nat) → ∃ s', (if 0 ≤ s 682 43 then ∃ v4 s3, Dd 363 [vA 682, vI (24 + s 682 43), vI p] s (rI v4 s3) ∧ C364_39 d1 v4 s3 (rV s') else C364_39 d1 (-1) s (rV s')) ∧ Zl s' ∧ s' 682 43 = (orgZ σ k p).1 ∧ s' 682 44 = ((orgZ σ k p).2 : Nat) ∧ (∀ c x, ¬ c = 690 → ¬ c = 695 → ¬ (700 ≤ c ∧ c ≤ 704) → ¬ (c = 682 ∧ (x = 43 ∨ x = 44)) → s' c x = s c x) := by
  intro k
  induction k with
  | zero =>
    intro p s hk hp hp9 Z fr z43 z44
    refine ⟨s, ?_, Z, by rw [z43]; rfl, by rw [z44]; rfl, fun _ _ _ _ _ _ => rfl⟩
    rw [if_neg (by omega)]
    refine b364_39 ?_
    rw [if_pos rfl]
  | succ k ih =>
    intro p s hk hp hp9 Z fr z43 z44
    obtain ⟨k5, hP, hb, ha, N, S, lO, lN, hsz⟩ := ly_at H (k := k) (by omega)
    have hpn : p < lna σ k := hp (by omega)
    have S' : Slot s (24 + k) (lnb σ k) (lna σ k) (σ (406 + 13 * k + 2)) (σ (406 + 13 * k + 4)) (σ (406 + 13 * k + 6)) := Slot_fr (fun c x h => fr c x (by omega) (by omega) (by omega) (by omega) (by omega) (by omega)) S
    obtain ⟨s1, a1, a2, a3⟩ := d363 (s := 24 + k) (n := p) (by omega) (by omega) ha N.2.2.2.2.1 N.2.2.2.2.2.1 lO lN S' hpn Z
    have a1 : Dd 363 [vA 682, vI ((24 + k : Nat) : Int), vI p] s (rI (SRC σ k p) s1) := a1
    have sb := srcZ_b (O := σ (406 + 13 * k + 2)) (N := σ (406 + 13 * k + 4)) N.2.2.2.2.1 N.2.2.2.2.2.1 hpn
    have sb : SRC σ k p = -1 ∨ (0 ≤ SRC σ k p ∧ SRC σ k p < (lnb σ k : Int)) := sb
    have eo : orgZ σ (k + 1) p = if SRC σ k p = -1 then ((k : Int), p) else orgZ σ k (SRC σ k p).toNat := rfl
    have z1 : s1 682 43 = (k : Int) := by rw [a3 _ _ (by decide) (by decide) (by decide), z43]; omega
    have z2 : s1 682 44 = (p : Nat) := by rw [a3 _ _ (by decide) (by decide) (by decide), z44]
    by_cases y : SRC σ k p = -1
    · rw [if_pos y] at eo
      rw [eo]
      refine ⟨s1, ?_, a2, z1, z2, fun c x h1 h2 h3 _ => a3 c x h1 h2 h3⟩
      rw [if_pos (by omega), z43, show 24 + (((k + 1 : Nat) : Int) - 1) = ((24 + k : Nat) : Int) by omega]
      refine ⟨_, s1, a1, b364_39 ?_⟩
      rw [if_pos y]
    · rw [if_neg y] at eo
      rw [eo]
      obtain ⟨q, hq⟩ := Int.eq_ofNat_of_zero_le (show 0 ≤ SRC σ k p by omega)
      rw [hq] at sb y a1 ⊢
      rw [tn]
      obtain ⟨s2, hs2⟩ : ∃ s2, s2 = upS (upS s1 682 43 (s1 682 43 - 1)) 682 44 (q : Nat) := ⟨_, rfl⟩
      have w43 : s2 682 43 = (k : Int) - 1 := by rw [hs2, up_k (by decide), up_s, z1]
      have w44 : s2 682 44 = (q : Nat) := by rw [hs2, up_s]
      have off2 : ∀ c x, ¬ (c = 682 ∧ (x = 43 ∨ x = 44)) → s2 c x = s1 c x := fun c x h => by
        rw [hs2]
        unfold upS
        rw [if_neg (by omega), if_neg (by omega)]
      obtain ⟨s', c1, c2, c3, c4, c5⟩ := ih q s2 (by omega) (fun h0 => by rw [hsz h0]; omega) (by omega) (Zl_fr (fun x => off2 _ _ (by omega)) a2) (fun c x h1 h2 h3 h4 h5 h6 => by rw [off2 c x (by omega), a3 c x h3 h4 h5]; exact fr c x h1 h2 h3 h4 h5 h6) w43 w44
      refine ⟨s', ?_, c2, c3, c4, fun c x h1 h2 h3 h4 => by rw [c5 c x h1 h2 h3 h4, off2 c x h4]; exact a3 c x h1 h2 h3⟩
      rw [if_pos (by omega), z43, show 24 + (((k + 1 : Nat) : Int) - 1) = ((24 + k : Nat) : Int) by omega]
      refine ⟨_, s1, a1, b364_39 ?_⟩
      rw [if_neg y, ← hs2]
      exact ⟨by omega, by
        have z := c1
        by_cases y0 : 0 ≤ s2 682 43
        · rw [if_pos y0] at z ⊢
          obtain ⟨v4, s3, t1, t2⟩ := z
          exact ⟨by omega, v4, s3, t1, b364_82 t2⟩
        · rw [if_neg y0] at z ⊢
          exact b364_82 z⟩
end
-- DRAFT 99.x4bl.lean
/-! blame, began. -/
noncomputable section
theorem RSt_FK {σ s : Sg} {c : Int} (fr : FK s σ) (H : RSt c σ) : RSt c s := by
  obtain ⟨h1, h2, h3, h4, h5, h6, h7, h8, h9, h10, h11⟩ := H
  have e0 := fr 402 3 (by omega)
  have e1 := fr 402 4 (by omega)
  have e2 := fr 682 39 (by omega)
  have e3 := fr 682 40 (by omega)
  have e4 := fr 682 41 (by omega)
  refine ⟨by omega, by omega, by omega, by omega, by omega, by omega, rowEq_fr (fr 471 1 (by omega)) (fun x => fr 472 x (by omega)) (fun x => fr 711 x (by omega)) e0 h7, fun q hq => ?_, rowEq_fr (fr 403 1 (by omega)) (fun x => fr 404 x (by omega)) (fun x => fr 710 x (by omega)) e2 h9, fun i hi => ?_, fun j hj => ?_⟩
  · rw [e0] at hq
    rw [fr 472 q (by omega), e1]
    exact h8 q hq
  · rw [fr 403 1 (by omega)] at hi
    rw [fr 404 i (by omega)]
    exact h10 i hi
  · rw [e0] at hj
    obtain ⟨g1, g2, g3⟩ := h11 j hj
    have hbl : ∀ a x, a = blw j ∨ a = blw j + 1 → s a x = σ a x := by
      intro a x ha
      unfold blw at ha
      by_cases y : j = 0
      · rw [if_pos y] at ha
        exact fr a x (by omega)
      · rw [if_neg y] at ha
        exact fr a x (by omega)
    exact ⟨PR_fr (fun a x ha => fr a x (by omega)) (fun a x ha => fr a x (by omega)) g1, PO_fr (fun a x ha => fr a x (by omega)) g2, smP_fr (funext fun x => fr _ x (by omega)) (funext fun x => fr _ x (by omega)) (funext fun x => hbl _ x (Or.inl rfl)) (funext fun x => hbl _ x (Or.inr rfl)) g3⟩
theorem Rel_FK {σ s : Sg} {c : Int} (w : WF s) (fr : FK s σ) (H : Rel c σ) : Rel c s := by
  obtain ⟨h1, h2, h3, h4, h5, h6, h7, h8, h9⟩ := H
  exact ⟨w, Zl_fr (fun k => fr _ _ (by omega)) h2, RT_fr (fun x k hx => fr x k (by omega)) h3, RB_fr (fun x k hx => fr x k (by omega)) h4, RP_fr (fun x k hx => fr x k (by omega)) h5, RSt_FK fr h6, RU_fr (fun x k hx => fr x k (by omega)) h7, RF_fr (fun x k hx => fr x k (by omega)) h8, RD_fr (fun x k hx => fr x k (by omega)) h9⟩
/-- the way down, both sides -/
theorem both_org {σ : Sg} {c a1 : Int} (H : Rel c σ) (hp : 0 ≤ a1 ∧ a1 < σ (blw (σ 402 3).toNat) 1) : ∃ (L : Int) (q : Nat) (s1 : Sg), q ≤ 99 ∧ -1 ≤ L ∧ L < σ 402 3 ∧ Dd 132 [vA 402, vI a1] σ (rI (100 * (L + 1) + (q : Nat)) s1) ∧ WF s1 ∧ FK s1 σ ∧ ∀ s : Sg, Zl s → FM s σ → ∃ s', Dd 364 [vA 682, vI a1] s (rV s') ∧ Zl s' ∧ s' 682 43 = L ∧ s' 682 44 = (q : Nat) ∧ ∀ c x, ¬ c = 690 → ¬ c = 695 → ¬ (700 ≤ c ∧ c ≤ 704) → ¬ (c = 682 ∧ (x = 43 ∨ x = 44)) → s' c x = s c x := by
  obtain ⟨p, rfl⟩ := Int.eq_ofNat_of_zero_le hp.1
  have hS : RSt c σ := H.2.2.2.2.2.1
  obtain ⟨h, hh⟩ := Int.eq_ofNat_of_zero_le hS.1
  have h5 : h ≤ 5 := by have := hS.2.1; omega
  have hp2 := hp.2
  rw [hh, tn] at hp2
  have hp3 : 0 < h → p < lna σ (h - 1) := fun h0 => by
    unfold blw at hp2
    rw [if_neg (by omega)] at hp2
    unfold lna
    omega
  have hp9 : p ≤ 99 := by
    by_cases y : 0 < h
    · have := hp3 y
      have := (ly_at H (k := h - 1) (by omega)).2.2.2.1
      omega
    · unfold blw at hp2
      rw [if_pos (by omega)] at hp2
      have w := H.1 403 (by decide +kernel)
      have c403 : cap 403 = 16 := by decide +kernel
      rw [c403] at w
      omega
  obtain ⟨s1, a1, a2, a3, a4, a5, a6⟩ := l132 H h p σ (some (vI p)) none (by omega) hp3 hp9 H.1 (fun _ _ _ => rfl)
  refine ⟨(orgZ σ h p).1, (orgZ σ h p).2, s1, a4, a5, by omega, b132 ?_, a2, a3, fun s Z fm => ?_⟩
  · rw [if_neg (by omega), hh]
    exact ⟨by omega, a1⟩
  · have e40 : s 682 40 = (h : Nat) := by rw [fm _ _ (by decide) (by decide) (by decide) (by decide) (by decide) (by decide), hS.2.2.1, hh]
    obtain ⟨s2, hs2⟩ : ∃ s2, s2 = upS (upS s 682 43 (s 682 40 - 1)) 682 44 (p : Nat) := ⟨_, rfl⟩
    have off2 : ∀ c x, ¬ (c = 682 ∧ (x = 43 ∨ x = 44)) → s2 c x = s c x := fun c x h => by
      rw [hs2]
      unfold upS
      rw [if_neg (by omega), if_neg (by omega)]
    have w43 : s2 682 43 = (h : Int) - 1 := by rw [hs2, up_k (by decide), up_s, e40]
    have w44 : s2 682 44 = (p : Nat) := by rw [hs2, up_s]
    obtain ⟨s', c1, c2, c3, c4, c5⟩ := l364 H (d1 := some (vI (p : Nat))) h p s2 (by omega) hp3 hp9 (Zl_fr (fun x => off2 _ _ (by omega)) Z) (fun c x h1 h2 h3 h4 h5 h6 => by rw [off2 c x (by omega)]; exact fm c x h1 h2 h3 h4 h5 h6) w43 w44
    refine ⟨s', b364 ⟨by omega, ?_⟩, c2, c3, c4, fun c x h1 h2 h3 h4 => by rw [c5 c x h1 h2 h3 h4]; exact off2 c x h4⟩
    rw [← hs2]
    by_cases y0 : 0 ≤ s2 682 43
    · rw [if_pos y0] at c1 ⊢
      obtain ⟨v4, s3, t1, t2⟩ := c1
      exact ⟨by omega, v4, s3, t1, b364_38 t2⟩
    · rw [if_neg y0] at c1 ⊢
      exact b364_38 c1
theorem o41f {σ : Sg} {c a1 : Int} (H : Rel c σ) (h : ¬ (0 ≤ a1 ∧ a1 < σ (blw (σ 402 3).toNat) 1)) : OpR 429 366 [vA 0, vI a1, vA 726] [vA 682, vI a1] σ (c + 1) ∧ OpR 430 367 [vA 0, vI a1, vA 726] [vA 682, vI a1] σ (c + 1) := by
  have e127 := d127 H
  have e146 := d146 (σ := σ) (blw_row H)
  have e365 : Dd 365 [vA 682, vI a1] σ (rI 0 (upS σ 682 0 1)) := by
    refine b365 ⟨_, _, d341 H, _, _, d246, ?_⟩
    rw [if_neg h, if_pos rfl]
    refine b365_17 ⟨_, _, d245, ?_, ?_⟩
    · rw [if_neg (show ¬ (1 : Int) = 0 by decide)]
      exact Or.inl rfl
    · rw [if_neg (show ¬ (1 : Int) = 0 by decide)]
  refine ⟨op_x H (kx := 1) (b := 0) (by decide) (b429 (Or.inr ⟨_, b213 ⟨_, _, e127, blw_row H, _, _, e146, Or.inr ⟨_, _, d232_no h, rfl⟩⟩, rfl⟩)) (b366 ⟨_, _, e365, ?_⟩), op_x H (kx := 1) (b := 0) (by decide) (b430 (Or.inr ⟨_, b214 ⟨_, _, e127, blw_row H, _, _, e146, Or.inr ⟨_, _, d232_no h, rfl⟩⟩, rfl⟩)) (b367 ⟨_, _, e365, ?_⟩)⟩
  · rw [if_pos rfl]
  · rw [if_pos rfl]
/-- the relation after the way down -/
theorem org_fin {w m : Nat} {aw am : List AV} {σ s1 s2 s' : Sg} {c v : Int} (H : Rel c σ) (W : WF s1) (fr : FK s1 σ) (hA : Dd w aw σ (rI 0 (upS s1 726 ((0 : Int).toNat) v))) (hs2 : s2 = upS (upS s1 726 ((0 : Int).toNat) v) 682 0 0) (hB : Dd m am (upS s1 726 ((0 : Int).toNat) v) (rI v s')) (Z : Zl s') (f' : ∀ c x, ¬ c = 690 → ¬ c = 695 → ¬ (700 ≤ c ∧ c ≤ 704) → ¬ (c = 682 ∧ (x = 43 ∨ x = 44)) → s' c x = s2 c x) : OpR w m aw am σ (c + 1) := by
  obtain ⟨s4, hs4⟩ : ∃ s4 : Sg, s4 = fun c k => if c = 695 then σ c k else s' c k := ⟨_, rfl⟩
  have z1 : ∀ c k, ¬ c = 695 → s4 c k = s' c k := fun c k h => by rw [hs4]; show (if c = 695 then σ c k else s' c k) = _; rw [if_neg h]
  have z2 : ∀ k, s4 695 k = σ 695 k := fun k => by rw [hs4]; show (if 695 = 695 then σ 695 k else s' 695 k) = _; rw [if_pos rfl]
  obtain ⟨s5, hs5⟩ : ∃ s5 : Sg, s5 = fun c k => if 406 ≤ c ∧ c ≤ 470 ∧ ((c - 406) % 13 = 11 ∨ (c - 406) % 13 = 12) then σ c k else s4 c k := ⟨_, rfl⟩
  have z3 : ∀ c k, ¬ (406 ≤ c ∧ c ≤ 470 ∧ ((c - 406) % 13 = 11 ∨ (c - 406) % 13 = 12)) → s5 c k = s4 c k := fun c k h => by rw [hs5]; show (if 406 ≤ c ∧ c ≤ 470 ∧ ((c - 406) % 13 = 11 ∨ (c - 406) % 13 = 12) then σ c k else s4 c k) = _; rw [if_neg h]
  have z4 : ∀ c k, (406 ≤ c ∧ c ≤ 470 ∧ ((c - 406) % 13 = 11 ∨ (c - 406) % 13 = 12)) → s5 c k = σ c k := fun c k h => by rw [hs5]; show (if 406 ≤ c ∧ c ≤ 470 ∧ ((c - 406) % 13 = 11 ∨ (c - 406) % 13 = 12) then σ c k else s4 c k) = _; rw [if_pos h]
  have lo : ∀ x k, x < 682 → s' x k = s1 x k := fun x k h => by rw [f' x k (by omega) (by omega) (by omega) (by omega), hs2, up_a (by omega), up_a (by omega)]
  have off : ∀ x k, ¬ x = 690 → ¬ x = 695 → ¬ (700 ≤ x ∧ x ≤ 704) → ¬ x = 726 → ¬ (x = 682 ∧ (k = 0 ∨ k = 43 ∨ k = 44)) → ¬ (406 ≤ x ∧ x ≤ 470 ∧ ((x - 406) % 13 = 11 ∨ (x - 406) % 13 = 12)) → s' x k = σ x k := fun x k h1 h2 h3 h4 h5 h6 => by
    rw [f' x k h1 h2 h3 (by omega), hs2]
    have : upS (upS s1 726 ((0 : Int).toNat) v) 682 0 0 x k = upS s1 726 ((0 : Int).toNat) v x k := by
      unfold upS
      rw [if_neg (by omega)]
    rw [this, up_a h4]
    exact fr x k h6
  have W4 : WF s4 := WF_fr (fun x k h => by rw [z1 x k (by omega)]; exact lo x k h) W
  have W5 : WF s5 := fun x hx => by
    by_cases y : 406 ≤ x ∧ x ≤ 470 ∧ ((x - 406) % 13 = 11 ∨ (x - 406) % 13 = 12)
    · rw [z4 x 1 y]
      exact H.1 x hx
    · rw [z3 x 1 y]
      exact W4 x hx
  refine op_fin hA hB ?_ (fun _ => ?_) (fun x k h => ?_) (fun x k h => off x k (by omega) (by omega) (by omega) (by omega) (by omega) (by omega)) (Rel_L (σ := s4) (Int.le_refl _) (fun x k h => (z1 x k (by omega)).symm) Z (Rel_FK (σ := s5) W4 (fun x k h => (z3 x k h).symm) (Rel_sc (by omega) W5 (fun x k h => ?_) H)))
  · rw [f' _ _ (by decide) (by decide) (by decide) (by decide), hs2, up_s]
  · rw [f' _ _ (by decide) (by decide) (by decide) (by decide), hs2, up_a (by decide)]
    exact up_s
  · rw [up_a (by omega)]
    exact fr x k (by omega)
  · by_cases y : 406 ≤ x ∧ x ≤ 470 ∧ ((x - 406) % 13 = 11 ∨ (x - 406) % 13 = 12)
    · exact z4 x k y
    · rw [z3 x k y]
      by_cases y2 : x = 695
      · rw [y2]; exact z2 k
      · rw [z1 x k y2]
        exact off x k (by omega) y2 (by omega) (by omega) (by omega) y
end
-- DRAFT 99.x5bl.lean
/-! blame, began: the calls. -/
noncomputable section
theorem e365b {σ s1 : Sg} {c a1 v : Int} (H : Rel c σ) (fr : FK s1 σ) (h : 0 ≤ a1 ∧ a1 < σ (blw (σ 402 3).toNat) 1) : Dd 365 [vA 682, vI a1] (upS s1 726 ((0 : Int).toNat) v) (rI 1 (upS (upS s1 726 ((0 : Int).toNat) v) 682 0 0)) := by
  have e341 := d341m H (σ' := upS s1 726 ((0 : Int).toNat) v) (fun a k h1 h2 => by rw [up_a h2]; exact fr a k (by omega))
  refine b365 ⟨_, _, e341, _, _, d246, ?_⟩
  rw [if_pos h, if_neg (show ¬ (1 : Int) = 0 by decide)]
  refine b365_17 ⟨_, _, d245, ?_, ?_⟩
  · rw [if_pos rfl]
    exact Or.inr rfl
  · rw [if_pos rfl]
theorem fm2 {σ s1 : Sg} {v : Int} (fr : FK s1 σ) : FM (upS (upS s1 726 ((0 : Int).toNat) v) 682 0 0) σ := fun c x h1 h2 _ _ _ h6 => by
  have : upS (upS s1 726 ((0 : Int).toNat) v) 682 0 0 c x = upS s1 726 ((0 : Int).toNat) v c x := by
    unfold upS
    rw [if_neg (by omega)]
  rw [this, up_a h2]
  exact fr c x (by omega)
theorem zl2 {σ s1 : Sg} {v : Int} (Z : Zl σ) (fr : FK s1 σ) : Zl (upS (upS s1 726 ((0 : Int).toNat) v) 682 0 0) := Zl_fr (fun k => by
  rw [up_a (by decide), up_a (by decide)]
  exact fr 695 k (by omega)) Z
/-- blame -/
theorem o41 {σ : Sg} {c a1 : Int} (H : Rel c σ) : OpR 429 366 [vA 0, vI a1, vA 726] [vA 682, vI a1] σ (c + 1) := by
  by_cases h : 0 ≤ a1 ∧ a1 < σ (blw (σ 402 3).toNat) 1
  · obtain ⟨L, q, s1, b1, b2, b3, b4, W, fr, b5⟩ := both_org H h
    have hS : RSt c σ := H.2.2.2.2.2.1
    have h7 := hS.2.2.2.2.2.2.1
    have e127 := d127 H
    have e146 := d146 (σ := σ) (blw_row H)
    have e133 : Dd 133 [vA 402, vI (100 * (L + 1) + (q : Nat))] s1 (rI L s1) := by
      refine b133 ?_
      rw [td (by omega), show (100 * (L + 1) + ((q : Nat) : Int)) / 100 - 1 = L by omega]
      have := hS.2.1
      exact ⟨by omega, rfl⟩
    have e147 := d147 (σ := s1) (a := 471) (i := L) (WF_w W (by decide +kernel))
    have hA := b429 (x1 := a1) (Or.inl ⟨_, _, b213 ⟨_, _, e127, blw_row H, _, _, e146, Or.inl ⟨_, d232_ok h, _, _, b4, _, _, e133, _, _, e147, rfl⟩⟩, rfl⟩)
    obtain ⟨v, hv⟩ : ∃ v, v = atS s1 471 L := ⟨_, rfl⟩
    rw [← hv] at hA
    obtain ⟨s', c1, c2, c3, c4, c5⟩ := b5 (upS (upS s1 726 ((0 : Int).toNat) v) 682 0 0) (zl2 H.2.1 fr) (fm2 fr)
    have ev : v = if L < 0 then -1 else s' 711 L.toNat := by
      rw [hv]
      unfold atS
      rw [fr 471 1 (by omega), h7.1]
      by_cases y : L < 0
      · rw [if_pos y, if_neg (by omega)]
      · rw [if_neg y, if_pos (by omega), c5 _ _ (by decide) (by decide) (by decide) (by decide), up_a (by decide), up_a (by decide), fr 711 _ (by omega)]
        have z := h7.2 L.toNat (by omega)
        rw [Nat.zero_add] at z
        have e : s1 (471 + 1) L.toNat = σ 472 L.toNat := fr 472 _ (by omega)
        rw [e]
        exact z
    refine org_fin H W fr hA rfl (b366 ⟨1, _, e365b H fr h, ?_⟩) c2 c5
    rw [if_neg (show ¬ (1 : Int) = 0 by decide)]
    refine ⟨s', c1, ?_, ?_⟩
    · rw [c3]
      have := hS.2.1
      exact fun _ => by omega
    · rw [c3, ev]
  · exact (o41f H h).1
/-- began -/
theorem o42 {σ : Sg} {c a1 : Int} (H : Rel c σ) : OpR 430 367 [vA 0, vI a1, vA 726] [vA 682, vI a1] σ (c + 1) := by
  by_cases h : 0 ≤ a1 ∧ a1 < σ (blw (σ 402 3).toNat) 1
  · obtain ⟨L, q, s1, b1, b2, b3, b4, W, fr, b5⟩ := both_org H h
    have e127 := d127 H
    have e146 := d146 (σ := σ) (blw_row H)
    have e134 : Dd 134 [vA 402, vI (100 * (L + 1) + (q : Nat))] s1 (rI (q : Nat) s1) := by
      refine b134 ?_
      rw [tm (by omega), show (100 * (L + 1) + ((q : Nat) : Int)) % 100 = ((q : Nat) : Int) by omega]
    have hA := b430 (x1 := a1) (Or.inl ⟨_, _, b214 ⟨_, _, e127, blw_row H, _, _, e146, Or.inl ⟨_, d232_ok h, _, _, b4, _, _, e134, rfl⟩⟩, rfl⟩)
    obtain ⟨s', c1, c2, c3, c4, c5⟩ := b5 (upS (upS s1 726 ((0 : Int).toNat) (q : Nat)) 682 0 0) (zl2 H.2.1 fr) (fm2 fr)
    refine org_fin H W fr hA rfl (b367 ⟨1, _, e365b H fr h, ?_⟩) c2 c5
    rw [if_neg (show ¬ (1 : Int) = 0 by decide)]
    refine ⟨s', c1, ?_⟩
    rw [c4]
  · exact (o41f H h).2
end
