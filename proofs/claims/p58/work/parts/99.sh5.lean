/-! Shifting hunks, the reference's side. -/
noncomputable section
theorem d251 {x : Int} {σ : Sg} (h : isLn x = true) : Dd 251 [vI x] σ (rI (ind x) σ) := by
  have hi := ind_b h
  have h0 := isLn_le h
  refine b251 ⟨_, _, d249, ?_⟩
  unfold ind
  by_cases y : mkP x
  · rw [if_pos y, if_pos y, if_neg (show ¬ (1 : Int) = 0 by decide)]
  · rw [if_neg y, if_neg y, if_pos rfl, td h0.1]
/-- a line of a text of a slot -/
def LX (σ : Sg) (s : Nat) (ad : Int) (X : Nat → Int) (m : Nat) : Prop := ∀ p, p < m → (if ad = 0 then σ 685 (100 * s + p) else σ 686 (100 * s + p)) = X p
theorem d286x {σ : Sg} {s m p : Nat} {ad : Int} {X : Nat → Int} (hs : s < 44) (hm : m ≤ 100) (L : LX σ s ad X m) (hp : p < m) : Dd 286 [vA 682, vI ad, vI ((100 * s + p : Nat) : Int)] σ (rI (X p) σ) := by
  refine b286 ⟨fun _ => by omega, fun _ => by omega, ?_⟩
  rw [tn, L p hp]
theorem mvF_0 {F : Nat → Int} {nb na h o d nw a : Nat} {l : List St} (H : DS F nb na l 0 0 0) (hq : l[h]? = some (o, d, nw, a)) : ∀ x, x < nb → mvF F (peo l h 0) (nso nb l h) o d nw a x = F x := by
  obtain ⟨⟨pj, i0, i1, i2⟩, i3, i4, i5, i6, i7, i8, i9, i10, i11, i12⟩ := DS_at _ _ _ _ _ _ H hq
  have i1 : nw = pj + (o - peo l h 0) := i1
  have i2 : ∀ x, peo l h 0 ≤ x → x < o → F x = ((pj + (x - peo l h 0) : Nat) : Int) := i2
  have i3 : ∀ x, o ≤ x → x < o + d → F x = -1 := i3
  have i6 : ∀ x, o + d ≤ x → x < nso nb l h → F x = ((nw + a + (x - (o + d)) : Nat) : Int) := i6
  have i12 : peo l h 0 ≤ o := i12
  intro x hx
  unfold mvF
  by_cases y1 : x < peo l h 0 ∨ nso nb l h ≤ x
  · rw [if_pos y1]
  · rw [if_neg y1]
    by_cases y2 : x < o
    · rw [if_pos y2, i2 x (by omega) y2]
      congr 1
      omega
    · rw [if_neg y2]
      by_cases y3 : x < o + d
      · rw [if_pos y3, i3 x (by omega) y3]
      · rw [if_neg y3, i6 x (by omega) (by omega)]
/-- shiftsBy, a hunk that only adds -/
theorem d284a {σ : Sg} {s i j n : Nat} {bk : Int} (hs : s < 44) (hi : i ≤ 99) (hj : j ≤ 100) (hn : n ≤ 100) (hn1 : 0 < n) (hb : ¬ bk = 0 → 0 < i) : Dd 284 [vA 682, vI s, vI 1, vI i, vI j, vI n, vI bk] σ (rV (upS σ 687 (100 * s + (if bk = 0 then i else i - 1)) ((if bk = 0 then j else j + n - 1 : Nat) : Int))) := by
  refine b284 ?_
  rw [if_neg (show ¬ (1 : Int) = 0 by decide)]
  refine ⟨by omega, fun _ => by omega, b284_24 ?_⟩
  by_cases y : bk = 0
  · rw [if_pos y, if_pos y, if_pos y, if_pos y]
    refine ⟨by omega, fun h => absurd y h, fun h => absurd y h, b284_42 ⟨by omega, ?_⟩⟩
    rw [show ((100 * (s : Int) + (i : Int))).toNat = 100 * s + i by omega]
  · have := hb y
    rw [if_neg y, if_neg y, if_neg y, if_neg y]
    refine ⟨by omega, fun _ => by omega, fun _ => by omega, b284_42 ⟨by omega, ?_⟩⟩
    rw [show ((100 * (s : Int) + ((i : Int) - 1))).toNat = 100 * s + (i - 1) by omega, show (j : Int) + (n : Int) - 1 = ((j + n - 1 : Nat) : Int) by omega]
/-- shiftsBy, a hunk that only drops -/
theorem d284d {σ : Sg} {s i j n : Nat} {bk : Int} (hs : s < 44) (hi : i + n ≤ 99) (hj : j ≤ 100) (hn1 : 0 < n) (hb : ¬ bk = 0 → 0 < i) : Dd 284 [vA 682, vI s, vI 0, vI i, vI j, vI n, vI bk] σ (rV (upS (upS σ 687 (100 * s + (if bk = 0 then i else i + n - 1)) (if bk = 0 then (j : Int) else (j : Int) - 1)) 687 (100 * s + (if bk = 0 then i + n else i - 1)) (-1))) := by
  refine b284 ?_
  rw [if_pos rfl]
  refine ⟨by omega, fun _ => by omega, fun _ => by omega, b284_69 ?_⟩
  by_cases y : bk = 0
  · rw [if_pos y, if_pos y, if_pos y, if_pos y]
    refine ⟨by omega, fun h => absurd y h, b284_84 ⟨by omega, by omega, fun _ => by omega, fun h => absurd y h, ?_⟩⟩
    rw [if_pos y]
    refine b284_108 ⟨by omega, by omega, ?_⟩
    rw [show ((100 * (s : Int) + (i : Int))).toNat = 100 * s + i by omega, show ((100 * (s : Int) + ((i : Int) + (n : Int)))).toNat = 100 * s + (i + n) by omega]
  · have := hb y
    rw [if_neg y, if_neg y, if_neg y, if_neg y]
    refine ⟨by omega, fun _ => by omega, b284_84 ⟨by omega, by omega, fun h => absurd h y, fun _ => by omega, ?_⟩⟩
    rw [if_neg y]
    refine b284_108 ⟨by omega, by omega, ?_⟩
    rw [show ((100 * (s : Int) + ((i : Int) + (n : Int) - 1))).toNat = 100 * s + (i + n - 1) by omega, show ((100 * (s : Int) + ((i : Int) - 1))).toNat = 100 * s + (i - 1) by omega]
/-- the pairs of a slot, step by step -/
theorem l285s {s nb na h o d nw a : Nat} {ad : Int} {l : List St} {F : Nat → Int} {σ0 : Sg} (hs : s < 44) (hb : nb ≤ 99) (ha : na ≤ 99) (H : DS F nb na l 0 0 0) (hq : l[h]? = some (o, d, nw, a)) (hone : (ad = 1 ∧ d = 0) ∨ (ad = 0 ∧ a = 0)) (c : Int) (hc1 : -(mbk l h (o, d, nw, a) : Int) ≤ c) (hc2 : c ≤ (mon nb l h (o, d, nw, a) : Int)) : ∀ (k : Nat) (by' : Int) (o' n' : Nat) (σ : Sg), (0 ≤ c → by' + (k : Int) = c ∧ 0 ≤ by') → (c < 0 → by' - (k : Int) = c ∧ by' ≤ 0) → (o' : Int) = (o : Int) + by' → (n' : Int) = (nw : Int) + by' → (∀ b x, ¬ (b = 687 ∧ 100 * s ≤ x ∧ x < 100 * s + 100) → σ b x = σ0 b x) → (∀ x, x < nb → σ 687 (100 * s + x) = mvF F (peo l h 0) (nso nb l h) o' d n' a x) → ∃ σ', (∀ (d2 d4 d6 d7 d8 d9 d11 : Option AV), C285_339 s d2 ad d4 ((a + d : Nat) : Int) d6 d7 d8 d9 c d11 o' n' by' σ (rV σ')) ∧ (∀ b x, ¬ (b = 687 ∧ 100 * s ≤ x ∧ x < 100 * s + 100) → σ' b x = σ0 b x) ∧ ∀ x, x < nb → σ' 687 (100 * s + x) = mvF F (peo l h 0) (nso nb l h) ((o : Int) + c).toNat d ((nw : Int) + c).toNat a x := by
  obtain ⟨⟨pj, i0, i1, i2⟩, i3, i4, i5, i6, i7, i8, i9, i10, i11, i12⟩ := DS_at _ _ _ _ _ _ H hq
  have i1 : nw = pj + (o - peo l h 0) := i1
  have i4 : o + d ≤ nso nb l h := i4
  have i7 : 0 < d + a := i7
  have i8 : nw + a + (nso nb l h - (o + d)) ≤ na := i8
  have i9 : h + 1 < l.length → o + d + 1 ≤ nso nb l h := i9
  have i12 : peo l h 0 ≤ o := i12
  have m1 : mbk l h (o, d, nw, a) ≤ o - peo l h 0 := Nat.sub_le _ _
  have m2 : mon nb l h (o, d, nw, a) ≤ nso nb l h - (o + d) := Nat.sub_le _ _
  obtain ⟨lo, hlo⟩ : ∃ lo, lo = peo l h 0 := ⟨_, rfl⟩
  obtain ⟨hi, hhi⟩ : ∃ hi, hi = nso nb l h := ⟨_, rfl⟩
  rw [← hlo] at i1 i12 m1
  rw [← hhi] at i4 i5 i8 m2
  rw [← hlo, ← hhi]
  intro k
  induction k with
  | zero =>
    intro by' o' n' σ h1 h2 ho hn fr hv
    have e : by' = c := by
      by_cases y : 0 ≤ c
      · have := h1 y
        omega
      · have := h2 (by omega)
        omega
    refine ⟨σ, fun d2 d4 d6 d7 d8 d9 d11 => b285_339 ?_, fr, ?_⟩
    · rw [if_pos e]
    · rw [show ((o : Int) + c).toNat = o' by omega, show ((nw : Int) + c).toNat = n' by omega]
      exact hv
  | succ k ih =>
    intro by' o' n' σ h1 h2 ho hn fr hv
    by_cases y : 0 ≤ c
    · have g1 := h1 y
      have ne : ¬ by' = c := by omega
      -- one on
      have stepv : ∃ σ1, Dd 284 [vA 682, vI s, vI ad, vI o', vI n', vI ((a + d : Nat) : Int), vI 0] σ (rV σ1) ∧ (∀ b x, ¬ (b = 687 ∧ 100 * s ≤ x ∧ x < 100 * s + 100) → σ1 b x = σ b x) ∧ ∀ x, x < nb → σ1 687 (100 * s + x) = mvF F lo hi (o' + 1) d (n' + 1) a x := by
        rcases hone with ⟨z1, z2⟩ | ⟨z1, z2⟩
        · subst z1 z2
          have e := d284a (σ := σ) (s := s) (i := o') (j := n') (n := a + 0) (bk := 0) hs (by omega) (by omega) (by omega) (by omega) (fun h => absurd rfl h)
          rw [if_pos rfl, if_pos rfl] at e
          refine ⟨_, e, fun b x hx => ?_, fun x hx => ?_⟩
          · unfold upS
            rw [if_neg (by omega)]
          · by_cases q : x = o'
            · rw [q, up_s]
              unfold mvF
              rw [if_neg (by omega), if_pos (by omega)]
              congr 1
              omega
            · rw [up_k (by omega), hv x hx]
              unfold mvF
              by_cases q1 : x < lo ∨ hi ≤ x
              · rw [if_pos q1, if_pos q1]
              · rw [if_neg q1, if_neg q1]
                by_cases q2 : x < o'
                · rw [if_pos q2, if_pos (by omega)]
                  congr 1
                  omega
                · rw [if_neg q2, if_neg (show ¬ x < o' + 0 by omega), if_neg (show ¬ x < o' + 1 by omega), if_neg (show ¬ x < o' + 1 + 0 by omega)]
                  congr 1
                  omega
        · subst z1 z2
          have e := d284d (σ := σ) (s := s) (i := o') (j := n') (n := 0 + d) (bk := 0) hs (by omega) (by omega) (by omega) (fun h => absurd rfl h)
          rw [if_pos rfl, if_pos rfl, if_pos rfl] at e
          refine ⟨_, e, fun b x hx => ?_, fun x hx => ?_⟩
          · unfold upS
            rw [if_neg (by omega), if_neg (by omega)]
          · by_cases q : x = o' + (0 + d)
            · rw [q, up_s]
              unfold mvF
              rw [if_neg (by omega), if_neg (by omega), if_pos (by omega)]
            · rw [up_k (by omega)]
              by_cases q0 : x = o'
              · rw [q0, up_s]
                unfold mvF
                rw [if_neg (by omega), if_pos (by omega)]
                congr 1
                omega
              · rw [up_k (by omega), hv x hx]
                unfold mvF
                by_cases q1 : x < lo ∨ hi ≤ x
                · rw [if_pos q1, if_pos q1]
                · rw [if_neg q1, if_neg q1]
                  by_cases q2 : x < o'
                  · rw [if_pos q2, if_pos (by omega)]
                    congr 1
                    omega
                  · rw [if_neg q2, if_neg (show ¬ x < o' + 1 by omega)]
                    by_cases q3 : x < o' + d
                    · rw [if_pos q3, if_pos (by omega)]
                    · rw [if_neg q3, if_neg (show ¬ x < o' + 1 + d by omega)]
                      congr 1
                      omega
      obtain ⟨σ1, e1, e2, e3⟩ := stepv
      obtain ⟨σ', a1, a2, a3⟩ := ih (by' + 1) (o' + 1) (n' + 1) σ1 (fun _ => by omega) (fun q => by omega) (by omega) (by omega) (fun b x hx => by rw [e2 b x hx]; exact fr b x hx) e3
      refine ⟨σ', fun d2 d4 d6 d7 d8 d9 d11 => b285_339 ?_, a2, a3⟩
      rw [if_neg ne, if_neg (show ¬ c < 0 by omega)]
      refine b285_365 ⟨_, e1, ?_⟩
      rw [if_neg (show ¬ c < 0 by omega)]
      refine b285_380 ⟨by omega, ?_⟩
      rw [if_neg (show ¬ c < 0 by omega)]
      refine b285_395 ⟨by omega, ?_⟩
      rw [if_neg (show ¬ c < 0 by omega)]
      refine b285_410 ⟨by omega, ?_⟩
      rw [show (o' : Int) + 1 = ((o' + 1 : Nat) : Int) by omega, show (n' : Int) + 1 = ((n' + 1 : Nat) : Int) by omega]
      exact a1 _ _ _ _ _ _ _
    · have g1 := h2 (by omega)
      have ne : ¬ by' = c := by omega
      have stepv : ∃ σ1, Dd 284 [vA 682, vI s, vI ad, vI o', vI n', vI ((a + d : Nat) : Int), vI 1] σ (rV σ1) ∧ (∀ b x, ¬ (b = 687 ∧ 100 * s ≤ x ∧ x < 100 * s + 100) → σ1 b x = σ b x) ∧ ∀ x, x < nb → σ1 687 (100 * s + x) = mvF F lo hi (o' - 1) d (n' - 1) a x := by
        rcases hone with ⟨z1, z2⟩ | ⟨z1, z2⟩
        · subst z1 z2
          have e := d284a (σ := σ) (s := s) (i := o') (j := n') (n := a + 0) (bk := 1) hs (by omega) (by omega) (by omega) (by omega) (fun _ => by omega)
          rw [if_neg (show ¬ (1 : Int) = 0 by decide), if_neg (show ¬ (1 : Int) = 0 by decide)] at e
          refine ⟨_, e, fun b x hx => ?_, fun x hx => ?_⟩
          · unfold upS
            rw [if_neg (by omega)]
          · by_cases q : x = o' - 1
            · rw [q, up_s]
              unfold mvF
              rw [if_neg (by omega), if_neg (by omega), if_neg (by omega)]
              congr 1
              omega
            · rw [up_k (by omega), hv x hx]
              unfold mvF
              by_cases q1 : x < lo ∨ hi ≤ x
              · rw [if_pos q1, if_pos q1]
              · rw [if_neg q1, if_neg q1]
                by_cases q2 : x < o'
                · rw [if_pos q2, if_pos (show x < o' - 1 by omega)]
                  congr 1
                  omega
                · rw [if_neg q2, if_neg (show ¬ x < o' + 0 by omega), if_neg (show ¬ x < o' - 1 by omega), if_neg (show ¬ x < o' - 1 + 0 by omega)]
                  congr 1
                  omega
        · subst z1 z2
          have e := d284d (σ := σ) (s := s) (i := o') (j := n') (n := 0 + d) (bk := 1) hs (by omega) (by omega) (by omega) (fun _ => by omega)
          rw [if_neg (show ¬ (1 : Int) = 0 by decide), if_neg (show ¬ (1 : Int) = 0 by decide), if_neg (show ¬ (1 : Int) = 0 by decide)] at e
          refine ⟨_, e, fun b x hx => ?_, fun x hx => ?_⟩
          · unfold upS
            rw [if_neg (by omega), if_neg (by omega)]
          · by_cases q : x = o' - 1
            · rw [q, up_s]
              unfold mvF
              rw [if_neg (by omega), if_neg (by omega), if_pos (by omega)]
            · rw [up_k (by omega)]
              by_cases q0 : x = o' + (0 + d) - 1
              · rw [q0, up_s]
                unfold mvF
                rw [if_neg (by omega), if_neg (by omega), if_neg (by omega)]
                omega
              · rw [up_k (by omega), hv x hx]
                unfold mvF
                by_cases q1 : x < lo ∨ hi ≤ x
                · rw [if_pos q1, if_pos q1]
                · rw [if_neg q1, if_neg q1]
                  by_cases q2 : x < o'
                  · rw [if_pos q2, if_pos (show x < o' - 1 by omega)]
                    congr 1
                    omega
                  · rw [if_neg q2, if_neg (show ¬ x < o' - 1 by omega)]
                    by_cases q3 : x < o' + d
                    · rw [if_pos q3, if_pos (by omega)]
                    · rw [if_neg q3, if_neg (show ¬ x < o' - 1 + d by omega)]
                      congr 1
                      omega
      obtain ⟨σ1, e1, e2, e3⟩ := stepv
      obtain ⟨σ', a1, a2, a3⟩ := ih (by' - 1) (o' - 1) (n' - 1) σ1 (fun q => by omega) (fun _ => by omega) (by omega) (by omega) (fun b x hx => by rw [e2 b x hx]; exact fr b x hx) e3
      refine ⟨σ', fun d2 d4 d6 d7 d8 d9 d11 => b285_339 ?_, a2, a3⟩
      rw [if_neg ne, if_pos (show c < 0 by omega)]
      refine b285_365 ⟨_, e1, ?_⟩
      rw [if_pos (show c < 0 by omega)]
      refine b285_380 ⟨by omega, ?_⟩
      rw [if_pos (show c < 0 by omega)]
      refine b285_395 ⟨by omega, ?_⟩
      rw [if_pos (show c < 0 by omega)]
      refine b285_410 ⟨by omega, ?_⟩
      rw [show (o' : Int) + (-1) = ((o' - 1 : Nat) : Int) by omega, show (n' : Int) + (-1) = ((n' - 1 : Nat) : Int) by omega, show by' + (-1) = by' - 1 by omega]
      exact a1 _ _ _ _ _ _ _
end
