-- DRAFT 99.w2kin.lean
/-! Where a line went: the class's side. -/
noncomputable section
def rAh (O N F K : Nat → Int) (nb na i n : Nat) : Nat := mt (fun r => knI O N F K nb na ((i : Int) - r - 1) ((n : Int) - r - 1)) i
def rBe (O N F K : Nat → Int) (nb na i n : Nat) : Nat := mt (fun r => knI O N F K nb na ((i : Int) + r + 1) ((n : Int) + r + 1)) (nb - i)
def hsF (O N : Nat → Int) : Nat → Nat → Nat → Bool
  | 0, _, _ => false
  | l + 1, i, n => if O i = N n then true else hsF O N l (i + 1) (n + 1)
def gst (O N F K : Nat → Int) (nb na p n : Nat) (s : Int × Nat × Nat) : Int × Nat × Nat :=
  if knB O N F K nb na p n = true then
    (if s.2.2 ≤ rAh O N F K nb na p n + 1 + rBe O N F K nb na p n ∧ hsF O N (rAh O N F K nb na p n + 1 + rBe O N F K nb na p n) (p - rAh O N F K nb na p n) (n - rAh O N F K nb na p n) = true ∧ (s.2.2 < rAh O N F K nb na p n + 1 + rBe O N F K nb na p n ∨ (¬ s.1 = -1 ∧ ((n : Int) - (rAh O N F K nb na p n : Nat) < s.1 - (s.2.1 : Nat) ∨ ((n : Int) - (rAh O N F K nb na p n : Nat) = s.1 - (s.2.1 : Nat) ∧ s.2.1 < rAh O N F K nb na p n)))) then ((n : Int), rAh O N F K nb na p n, rAh O N F K nb na p n + 1 + rBe O N F K nb na p n) else s)
  else s
def gfo (O N F K : Nat → Int) (nb na p : Nat) : Nat → Nat → Int × Nat × Nat → Int × Nat × Nat
  | 0, _, s => s
  | d + 1, n, s => gfo O N F K nb na p d (n + 1) (gst O N F K nb na p n s)
def goalZ (O N F K : Nat → Int) (nb na p : Nat) : Int := (gfo O N F K nb na p na 0 (-1, 0, 1)).1
theorem rA_b {O N F K : Nat → Int} {nb na i n : Nat} : rAh O N F K nb na i n ≤ i ∧ rAh O N F K nb na i n ≤ n ∧ ∀ r, r < rAh O N F K nb na i n → knB O N F K nb na (i - r - 1) (n - r - 1) = true := by
  have h1 : rAh O N F K nb na i n ≤ i := mt_le
  have h2 : ∀ r, r < rAh O N F K nb na i n → knI O N F K nb na ((i : Int) - r - 1) ((n : Int) - r - 1) = true := fun r hr => mt_m (p := fun r => knI O N F K nb na ((i : Int) - (r : Nat) - 1) ((n : Int) - (r : Nat) - 1)) hr
  refine ⟨h1, ?_, fun r hr => ?_⟩
  · by_cases y : rAh O N F K nb na i n = 0
    · omega
    · have z := knI_i.mp (h2 (rAh O N F K nb na i n - 1) (by omega))
      omega
  · obtain ⟨z1, z2, z3⟩ := knI_i.mp (h2 r hr)
    rw [show ((i : Int) - (r : Int) - 1).toNat = i - r - 1 by omega, show ((n : Int) - (r : Int) - 1).toNat = n - r - 1 by omega] at z3
    exact z3
theorem rB_b {O N F K : Nat → Int} {nb na i n : Nat} (hi : i < nb) (hn : n < na) : i + rBe O N F K nb na i n < nb ∧ n + rBe O N F K nb na i n < na ∧ ∀ r, r < rBe O N F K nb na i n → knB O N F K nb na (i + r + 1) (n + r + 1) = true := by
  have h2 : ∀ r, r < rBe O N F K nb na i n → knB O N F K nb na (i + r + 1) (n + r + 1) = true := fun r hr => by
    have z := mt_m (p := fun r => knI O N F K nb na ((i : Int) + (r : Nat) + 1) ((n : Int) + (r : Nat) + 1)) hr
    obtain ⟨z1, z2, z3⟩ := knI_i.mp z
    rw [show ((i : Int) + (r : Int) + 1).toNat = i + r + 1 by omega, show ((n : Int) + (r : Int) + 1).toNat = n + r + 1 by omega] at z3
    exact z3
  refine ⟨?_, ?_, h2⟩
  · by_cases y : rBe O N F K nb na i n = 0
    · omega
    · have z := knB_i.mp (h2 (rBe O N F K nb na i n - 1) (by omega))
      omega
  · by_cases y : rBe O N F K nb na i n = 0
    · omega
    · have z := knB_i.mp (h2 (rBe O N F K nb na i n - 1) (by omega))
      omega
theorem d119 {σ : Sg} {P nb na i n : Nat} {O N F K : Nat → Int} (hP : isPatch P = true) (V : KIN σ P nb na O N F K) (hi : i ≤ 1000) (hn : n ≤ 1000) : Dd 119 [vA P, vI i, vI n] σ (rI (rAh O N F K nb na i n : Nat) σ) := by
  have h1 : rAh O N F K nb na i n ≤ i := mt_le
  have L : ∀ (d k : Nat), k + d = rAh O N F K nb na i n → C119_2 P i n k σ (rI (rAh O N F K nb na i n : Nat) σ) := by
    intro d
    induction d with
    | zero =>
      intro k hk
      have e : k = rAh O N F K nb na i n := by omega
      refine b119_2 hP ?_
      by_cases y : k < i
      · rw [if_pos (by omega)]
        refine ⟨by omega, by omega, by omega, by omega, _, _, d116 hP V, ?_⟩
        have z := mt_n (p := fun r => knI O N F K nb na ((i : Int) - (r : Nat) - 1) ((n : Int) - (r : Nat) - 1)) (n := i) (show rAh O N F K nb na i n < i by omega)
        have z : knI O N F K nb na ((i : Int) - (k : Nat) - 1) ((n : Int) - (k : Nat) - 1) = false := by rw [e]; exact z
        rw [z, if_pos (show (if false = true then (1 : Int) else 0) = 0 by decide), e]
      · rw [if_neg (by omega), e]
    | succ d ih =>
      intro k hk
      refine b119_2 hP ?_
      rw [if_pos (by omega)]
      refine ⟨by omega, by omega, by omega, by omega, _, _, d116 hP V, ?_⟩
      have z : knI O N F K nb na ((i : Int) - (k : Nat) - 1) ((n : Int) - (k : Nat) - 1) = true := mt_m (p := fun r => knI O N F K nb na ((i : Int) - (r : Nat) - 1) ((n : Int) - (r : Nat) - 1)) (n := i) (show k < rAh O N F K nb na i n by omega)
      rw [z, if_pos rfl, if_neg (show ¬ (1 : Int) = 0 by decide), show (k : Int) + 1 = ((k + 1 : Nat) : Int) by omega]
      exact ⟨by omega, ih (k + 1) (by omega)⟩
  exact b119 (L _ 0 (Nat.zero_add _))
theorem d120 {σ : Sg} {P nb na i n : Nat} {O N F K : Nat → Int} (hP : isPatch P = true) (V : KIN σ P nb na O N F K) (hb : nb ≤ 100) (hi : i ≤ 1000) (hn : n ≤ 1000) : Dd 120 [vA P, vI i, vI n] σ (rI (rBe O N F K nb na i n : Nat) σ) := by
  have h1 : rBe O N F K nb na i n ≤ nb - i := mt_le
  have L : ∀ (d k : Nat), k + d = rBe O N F K nb na i n → C120_2 P i n k σ (rI (rBe O N F K nb na i n : Nat) σ) := by
    intro d
    induction d with
    | zero =>
      intro k hk
      have e : k = rBe O N F K nb na i n := by omega
      refine b120_2 hP ⟨by omega, _, _, RV_146 V.1.1, ?_⟩
      by_cases y : i + k < nb
      · rw [if_pos (by omega)]
        refine ⟨by omega, by omega, by omega, by omega, _, _, d116 hP V, ?_⟩
        have z := mt_n (p := fun r => knI O N F K nb na ((i : Int) + (r : Nat) + 1) ((n : Int) + (r : Nat) + 1)) (n := nb - i) (show rBe O N F K nb na i n < nb - i by omega)
        have z : knI O N F K nb na ((i : Int) + (k : Nat) + 1) ((n : Int) + (k : Nat) + 1) = false := by rw [e]; exact z
        rw [z, if_pos (show (if false = true then (1 : Int) else 0) = 0 by decide), e]
      · rw [if_neg (by omega), e]
    | succ d ih =>
      intro k hk
      refine b120_2 hP ⟨by omega, _, _, RV_146 V.1.1, ?_⟩
      rw [if_pos (by omega)]
      refine ⟨by omega, by omega, by omega, by omega, _, _, d116 hP V, ?_⟩
      have z : knI O N F K nb na ((i : Int) + (k : Nat) + 1) ((n : Int) + (k : Nat) + 1) = true := mt_m (p := fun r => knI O N F K nb na ((i : Int) + (r : Nat) + 1) ((n : Int) + (r : Nat) + 1)) (n := nb - i) (show k < rBe O N F K nb na i n by omega)
      rw [z, if_pos rfl, if_neg (show ¬ (1 : Int) = 0 by decide), show (k : Int) + 1 = ((k + 1 : Nat) : Int) by omega]
      exact ⟨by omega, ih (k + 1) (by omega)⟩
  exact b120 (L _ 0 (Nat.zero_add _))
theorem d121 {σ : Sg} {P nb na i n l : Nat} {O N F K : Nat → Int} (hP : isPatch P = true) (V : KIN σ P nb na O N F K) (hb : nb ≤ 100) (ha : na ≤ 100) (hi : i + l ≤ nb) (hn : n + l ≤ na) : Dd 121 [vA P, vI i, vI n, vI l] σ (rI (if hsF O N l i n = true then 1 else 0) σ) := by
  have L : ∀ (d k : Nat), k + d = l → C121_3 P i n l k σ (rI (if hsF O N d (i + k) (n + k) = true then 1 else 0) σ) := by
    intro d
    induction d with
    | zero =>
      intro k hk
      refine b121_3 hP ?_
      rw [if_neg (by omega)]
      rfl
    | succ d ih =>
      intro k hk
      refine b121_3 hP ?_
      rw [if_pos (by omega), show (i : Int) + (k : Int) = ((i + k : Nat) : Int) by omega, show (n : Int) + (k : Int) = ((n + k : Nat) : Int) by omega, show (k : Int) + 1 = ((k + 1 : Nat) : Int) by omega]
      refine ⟨by omega, _, _, RV_147 V.1.1 (by omega), by omega, _, _, RV_147 V.1.2.1 (by omega), ?_⟩
      have e : hsF O N (d + 1) (i + k) (n + k) = if O (i + k) = N (n + k) then true else hsF O N d (i + k + 1) (n + k + 1) := rfl
      rw [e]
      by_cases y : O (i + k) = N (n + k)
      · rw [if_pos y, if_pos y]
        rfl
      · rw [if_neg y, if_neg y]
        exact ⟨by omega, ih (k + 1) (by omega)⟩
  exact b121 (L l 0 (by omega))
theorem d118 {a b c d : Int} {σ : Sg} : Dd 118 [vI a, vI b, vI c, vI d] σ (rI (if a < c ∨ (a = c ∧ d < b) then 1 else 0) σ) := by
  refine b118 ?_
  by_cases y1 : c ≤ a
  · rw [if_pos y1]
    by_cases y2 : a = c
    · rw [if_pos y2]
      by_cases y3 : d < b
      · rw [if_pos y3, if_pos (Or.inr ⟨y2, y3⟩)]
        exact b118_15 rfl
      · rw [if_neg y3, if_neg (by omega)]
    · rw [if_neg y2, if_neg (by omega)]
  · rw [if_neg y1, if_pos (by omega)]
    exact b118_15 rfl
/-- the best so far is within bounds -/
def SB (s : Int × Nat × Nat) : Prop := -1 ≤ s.1 ∧ s.1 ≤ 100 ∧ s.2.1 ≤ 100 ∧ s.2.2 ≤ 300
theorem gst_SB {O N F K : Nat → Int} {nb na p n : Nat} {s : Int × Nat × Nat} (hb : nb ≤ 100) (ha : na ≤ 100) (h : SB s) : SB (gst O N F K nb na p n s) := by
  unfold gst
  by_cases y : knB O N F K nb na p n = true
  · rw [if_pos y]
    have z := knB_i.mp y
    have a := (rA_b (O := O) (N := N) (F := F) (K := K) (nb := nb) (na := na) (i := p) (n := n))
    have b := (rB_b (O := O) (N := N) (F := F) (K := K) z.1 z.2.1)
    split
    · refine ⟨?_, ?_, ?_, ?_⟩
      · show -1 ≤ (n : Int)
        omega
      · show (n : Int) ≤ 100
        omega
      · show rAh O N F K nb na p n ≤ 100
        omega
      · show rAh O N F K nb na p n + 1 + rBe O N F K nb na p n ≤ 300
        omega
    · exact h
  · rw [if_neg y]
    exact h
/-- goalOf -/
theorem d117 {σ : Sg} {P nb na p : Nat} {O N F K : Nat → Int} (hP : isPatch P = true) (V : KIN σ P nb na O N F K) (hb : nb ≤ 100) (ha : na ≤ 100) (hp : p ≤ 100) : Dd 117 [vA P, vI p] σ (rI (goalZ O N F K nb na p) σ) := by
  have L : ∀ (d n : Nat) (s : Int × Nat × Nat) (d6 d7 d8 : Option AV), n + d = na → SB s → C117_10 P p s.1 (s.2.1 : Nat) (s.2.2 : Nat) n d6 d7 d8 σ (rI (gfo O N F K nb na p d n s).1 σ) := by
    intro d
    induction d with
    | zero =>
      intro n s d6 d7 d8 hn hs
      refine b117_10 hP ⟨_, _, RV_146 V.1.2.1, ?_⟩
      rw [if_neg (by omega)]
      rfl
    | succ d ih =>
      intro n s d6 d7 d8 hn hs
      obtain ⟨h1, h2, h3, h4⟩ := hs
      have hs : SB s := ⟨h1, h2, h3, h4⟩
      show C117_10 P p s.1 (s.2.1 : Nat) (s.2.2 : Nat) n d6 d7 d8 σ (rI (gfo O N F K nb na p d (n + 1) (gst O N F K nb na p n s)).1 σ)
      have hs' := gst_SB (O := O) (N := N) (F := F) (K := K) (p := p) (n := n) hb ha hs
      have nx := fun d6 d7 d8 => ih (n + 1) (gst O N F K nb na p n s) d6 d7 d8 (by omega) hs'
      refine b117_10 hP ⟨_, _, RV_146 V.1.2.1, ?_⟩
      rw [if_pos (by omega)]
      refine ⟨_, _, d116 hP V, ?_⟩
      have ekn : knI O N F K nb na (p : Int) (n : Int) = knB O N F K nb na p n := by
        unfold knI
        rw [decide_eq_true (show (0 : Int) ≤ (p : Int) by omega), decide_eq_true (show (0 : Int) ≤ (n : Int) by omega), tn, tn]
        rfl
      rw [ekn]
      by_cases y : knB O N F K nb na p n = true
      · rw [if_pos y, if_neg (show ¬ (1 : Int) = 0 by decide)]
        have z := knB_i.mp y
        have ab := (rA_b (O := O) (N := N) (F := F) (K := K) (nb := nb) (na := na) (i := p) (n := n))
        have bb := (rB_b (O := O) (N := N) (F := F) (K := K) z.1 z.2.1)
        have eg : gst O N F K nb na p n s = (if s.2.2 ≤ rAh O N F K nb na p n + 1 + rBe O N F K nb na p n ∧ hsF O N (rAh O N F K nb na p n + 1 + rBe O N F K nb na p n) (p - rAh O N F K nb na p n) (n - rAh O N F K nb na p n) = true ∧ (s.2.2 < rAh O N F K nb na p n + 1 + rBe O N F K nb na p n ∨ (¬ s.1 = -1 ∧ ((n : Int) - (rAh O N F K nb na p n : Nat) < s.1 - (s.2.1 : Nat) ∨ ((n : Int) - (rAh O N F K nb na p n : Nat) = s.1 - (s.2.1 : Nat) ∧ s.2.1 < rAh O N F K nb na p n)))) then ((n : Int), rAh O N F K nb na p n, rAh O N F K nb na p n + 1 + rBe O N F K nb na p n) else s) := by
          unfold gst
          rw [if_pos y]
        refine ⟨_, _, d119 hP V (by omega) (by omega), by omega, _, _, d120 hP V hb (by omega) (by omega), by omega, ?_⟩
        obtain ⟨A, hA⟩ : ∃ A, A = rAh O N F K nb na p n := ⟨_, rfl⟩
        obtain ⟨B, hB⟩ : ∃ B, B = rBe O N F K nb na p n := ⟨_, rfl⟩
        rw [← hA, ← hB] at eg
        rw [← hA] at ab
        rw [← hB] at bb
        rw [← hA, ← hB, show ((A : Nat) : Int) + 1 + ((B : Nat) : Int) = ((A + 1 + B : Nat) : Int) by omega]
        have skip : ∀ d6 d7 d8 : Option AV, gst O N F K nb na p n s = s → C117_137 P p s.1 (s.2.1 : Nat) (s.2.2 : Nat) n d6 d7 d8 σ (rI (gfo O N F K nb na p d (n + 1) (gst O N F K nb na p n s)).1 σ) := fun d6 d7 d8 e => by
          have w := nx d6 d7 d8
          rw [e] at w ⊢
          refine b117_137 ⟨by omega, ?_⟩
          rw [show (n : Int) + 1 = ((n + 1 : Nat) : Int) by omega]
          exact w
        by_cases y1 : s.2.2 ≤ A + 1 + B
        · rw [if_pos (by omega), show (p : Int) - ((A : Nat) : Int) = ((p - A : Nat) : Int) by omega, show (n : Int) - ((A : Nat) : Int) = ((n - A : Nat) : Int) by omega]
          refine ⟨by omega, by omega, _, _, d121 hP V hb ha (by omega) (by omega), ?_⟩
          by_cases y2 : hsF O N (A + 1 + B) (p - A) (n - A) = true
          · rw [if_pos y2, if_neg (show ¬ (1 : Int) = 0 by decide)]
            have take : ∀ d8 : Option AV, gst O N F K nb na p n s = ((n : Int), A, A + 1 + B) → C117_127 P p (some (vI s.1)) (some (vI (s.2.1 : Nat))) (some (vI (s.2.2 : Nat))) n (A : Nat) ((A + 1 + B : Nat) : Int) d8 σ (rI (gfo O N F K nb na p d (n + 1) (gst O N F K nb na p n s)).1 σ) := fun d8 e => by
              have w := nx (some (vI (A : Nat))) (some (vI ((A + 1 + B : Nat) : Int))) d8
              rw [e] at w ⊢
              refine b117_127 (b117_137 ⟨by omega, ?_⟩)
              rw [show (n : Int) + 1 = ((n + 1 : Nat) : Int) by omega]
              exact w
            by_cases y3 : s.1 = -1
            · rw [if_pos y3]
              refine b117_112 (b117_113 ?_)
              by_cases y4 : s.2.2 < A + 1 + B
              · rw [if_neg (by omega)]
                rw [y3] at take ⊢
                exact take _ (by rw [eg, if_pos ⟨y1, y2, Or.inl y4⟩])
              · rw [if_pos (by omega), if_pos rfl]
                exact skip _ _ _ (by
                  rw [eg, if_neg]
                  rintro ⟨u1, u2, u3⟩
                  rcases u3 with u | ⟨u, v⟩
                  · omega
                  · exact u y3)
            · rw [if_neg y3]
              refine ⟨by omega, by omega, _, _, d118, ?_⟩
              have en : ((n - A : Nat) : Int) = (n : Int) - (A : Nat) := by omega
              by_cases y5 : ((n - A : Nat) : Int) < s.1 - ((s.2.1 : Nat) : Int) ∨ (((n - A : Nat) : Int) = s.1 - ((s.2.1 : Nat) : Int) ∧ ((s.2.1 : Nat) : Int) < ((A : Nat) : Int))
              · rw [if_pos y5, if_neg (show ¬ (1 : Int) = 0 by decide)]
                refine b117_113 ?_
                have tk := take (some (vI 1)) (by
                  rw [eg, if_pos ⟨y1, y2, Or.inr ⟨y3, by rw [en] at y5; omega⟩⟩])
                by_cases y4 : ((A + 1 + B : Nat) : Int) ≤ ((s.2.2 : Nat) : Int)
                · rw [if_pos y4, if_neg (show ¬ (1 : Int) = 0 by decide)]
                  exact tk
                · rw [if_neg y4]
                  exact tk
              · rw [if_neg y5, if_pos rfl]
                refine b117_112 (b117_113 ?_)
                by_cases y4 : s.2.2 < A + 1 + B
                · rw [if_neg (by omega)]
                  exact take _ (by rw [eg, if_pos ⟨y1, y2, Or.inl y4⟩])
                · rw [if_pos (by omega), if_pos rfl]
                  exact skip _ _ _ (by
                    rw [eg, if_neg]
                    rintro ⟨u1, u2, u3⟩
                    rcases u3 with u | ⟨u, v⟩
                    · omega
                    · rw [en] at y5
                      omega)
          · rw [if_neg y2, if_pos rfl]
            exact skip _ _ _ (by rw [eg, if_neg (fun h => y2 h.2.1)])
        · rw [if_neg (by omega)]
          exact skip _ _ _ (by rw [eg, if_neg (fun h => y1 h.1)])
      · have e : gst O N F K nb na p n s = s := by
          unfold gst
          rw [if_neg y]
        rw [if_neg y, if_pos rfl]
        have w := nx d6 d7 d8
        rw [e] at w ⊢
        refine b117_137 ⟨by omega, ?_⟩
        rw [show (n : Int) + 1 = ((n + 1 : Nat) : Int) by omega]
        exact w
  exact b117 (L na 0 (-1, 0, 1) none none none (by omega) ⟨by decide, by decide, by decide, by decide⟩)
end
-- DRAFT 99.w3kin.lean
/-! Where a line went: the reference's side. -/
noncomputable section
/-- the pairs from a hunk on -/
theorem DS_dr {F : Nat → Int} {nb na : Nat} : ∀ (h : Nat) (l : List St) (i j e : Nat), DS F nb na l i j e → h ≤ l.length → ∃ i' j' e', DS F nb na (l.drop h) i' j' e' ∧ i ≤ i' ∧ j ≤ j' ∧ (h = 0 → i' = i ∧ j' = j ∧ e' = e) ∧ (0 < h → e' = 1) := by
  intro h
  induction h with
  | zero => intro l i j e D _; exact ⟨i, j, e, D, Nat.le_refl _, Nat.le_refl _, fun _ => ⟨rfl, rfl, rfl⟩, fun h => absurd h (Nat.not_lt_zero 0)⟩
  | succ h ih =>
    intro l i j e D hl
    cases l with
    | nil => exact absurd hl (by simp)
    | cons q t =>
      have bb := (DS_b _ _ _ _ D).2.2 q List.mem_cons_self
      obtain ⟨v1, v2, v3, v4, v5, v6⟩ := D
      obtain ⟨i', j', e', a1, a2, a3, a4, a5⟩ := ih t _ _ _ v6 (by rw [List.length_cons] at hl; omega)
      refine ⟨i', j', e', a1, by omega, by omega, fun h => absurd h (by omega), fun _ => ?_⟩
      by_cases y : h = 0
      · exact (a4 y).2.2
      · exact a5 (by omega)
/-- around a hunk all lines are paired -/
theorem DS_nb {F K : Nat → Int} {nb na h o d n a : Nat} {l : List St} (D : DS F nb na l 0 0 0) (I : IV F K nb na) (hq : l[h]? = some (o, d, n, a)) : (0 < o → ¬ F (o - 1) = -1) ∧ (0 < n → ¬ K (n - 1) = -1) ∧ (o + d < nb → ¬ F (o + d) = -1) ∧ (n + a < na → ¬ K (n + a) = -1) ∧ (∀ x, o ≤ x → x < o + d → F x = -1) ∧ o + d ≤ nb ∧ n + a ≤ na := by
  have hl := (List.getElem?_eq_some_iff.mp hq).1
  obtain ⟨i', j', e', a1, a2, a3, a4, a5⟩ := DS_dr h l 0 0 0 D (by omega)
  have hd : l.drop h = (o, d, n, a) :: l.drop (h + 1) := by
    rw [List.drop_eq_getElem_cons hl]
    rw [List.getElem?_eq_getElem hl] at hq
    have z := Option.some.inj hq
    rw [z]
  rw [hd] at a1
  have bb := (DS_b _ _ _ _ a1).2.2 _ List.mem_cons_self
  have b1 : o + d ≤ nb := bb.2.1
  have b2 : n + a ≤ na := bb.2.2.2
  obtain ⟨v1, v2, v3, v4, v5, v6⟩ := a1
  have x1 : i' + e' ≤ o := v1
  have x2 : n = j' + (o - i') := v2
  have x3 : ∀ x, i' ≤ x → x < o → F x = ((j' + (x - i') : Nat) : Int) := v3
  have x4 : ∀ x, o ≤ x → x < o + d → F x = -1 := v4
  have hh := DS_hd v6
  have hh1 : o + d < nb → F (o + d) = ((n + a : Nat) : Int) := hh.1
  have hh2 : ¬ o + d < nb → n + a = na := hh.2
  have hi : 0 < o ∨ 0 < n → i' < o := by
    intro y
    by_cases z : h = 0
    · obtain ⟨z1, z2, z3⟩ := a4 z
      omega
    · have := a5 (by omega)
      omega
  refine ⟨fun y => ?_, fun y => ?_, fun y => ?_, fun y => ?_, x4, b1, b2⟩
  · have := hi (Or.inl y)
    rw [x3 (o - 1) (by omega) (by omega)]
    omega
  · have := hi (Or.inr y)
    have z := IV_at I (show o - 1 < nb by omega) (show F (o - 1) = ((n - 1 : Nat) : Int) by rw [x3 (o - 1) (by omega) (by omega)]; congr 1; omega)
    omega
  · rw [hh1 y]
    omega
  · by_cases z : o + d < nb
    · have w := IV_at I z (hh1 z)
      omega
    · have := hh2 z
      omega
/-- a line that no hunk drops has its partner -/
theorem DS_oc {F : Nat → Int} {nb na : Nat} : ∀ (l : List St) (i j e x : Nat), DS F nb na l i j e → i ≤ x → x < nb → F x = -1 → ∃ (h : Nat) (q : St), l[h]? = some q ∧ q.1 ≤ x ∧ x < q.1 + q.2.1 := by
  intro l
  induction l with
  | nil =>
    intro i j e x D h1 h2 h3
    have z := D.2.2.2 x h1 h2
    omega
  | cons q t ih =>
    intro i j e x D h1 h2 h3
    obtain ⟨v1, v2, v3, v4, v5, v6⟩ := D
    by_cases y1 : x < q.1
    · have z := v3 x h1 y1
      omega
    · by_cases y2 : x < q.1 + q.2.1
      · exact ⟨0, q, rfl, by omega, y2⟩
      · obtain ⟨h, r, w1, w2, w3⟩ := ih _ _ _ x v6 (by omega) h2 h3
        exact ⟨h + 1, r, w1, w2, w3⟩
/-- hunks don't overlap -/
theorem DS_un {F : Nat → Int} {nb na : Nat} : ∀ (l : List St) (i j e : Nat), DS F nb na l i j e → ∀ (h h' : Nat) (q q' : St), h < h' → l[h]? = some q → l[h']? = some q' → q.1 + q.2.1 ≤ q'.1 ∧ q.2.2.1 + q.2.2.2 ≤ q'.2.2.1 := by
  intro l
  induction l with
  | nil => intro i j e _ h h' q q' _ h1; cases h1
  | cons r t ih =>
    intro i j e D h h' q q' hlt h1 h2
    obtain ⟨v1, v2, v3, v4, v5, v6⟩ := D
    cases h' with
    | zero => omega
    | succ h' =>
      rw [List.getElem?_cons_succ] at h2
      cases h with
      | zero =>
        rw [List.getElem?_cons_zero] at h1
        cases h1
        have b := (DS_b _ _ _ _ v6).2.2 q' (List.mem_of_getElem? h2)
        exact ⟨b.1, b.2.2.1⟩
      | succ h =>
        rw [List.getElem?_cons_succ] at h1
        exact ih _ _ _ v6 h h' q q' (by omega) h1 h2
/-- the hunk that drops a line -/
theorem d312 {σ : Sg} {l : List St} {p : Nat} (K : HK σ 0 0 l) (hl : l.length ≤ 120) (z : σ 704 0 = (l.length : Nat)) (hp : p ≤ 1000) (hb : ∀ (h : Nat) (q : St), l[h]? = some q → q.1 + q.2.1 ≤ 200) : ∃ v : Int, Dd 312 [vA 682, vI 0, vI p] σ (rI v σ) ∧ ((v = -1 ∧ ∀ (h : Nat) (q : St), l[h]? = some q → ¬ (q.1 ≤ p ∧ p < q.1 + q.2.1)) ∨ ∃ (h : Nat) (q : St), v = (h : Int) ∧ l[h]? = some q ∧ q.1 ≤ p ∧ p < q.1 + q.2.1) := by
  have L : ∀ (d h : Nat) (x3 : Int) (d5 : Option AV), h + d = l.length → ((x3 = -1 ∧ ∀ (h' : Nat) (q : St), h' < h → l[h']? = some q → ¬ (q.1 ≤ p ∧ p < q.1 + q.2.1)) ∨ ∃ (h' : Nat) (q : St), x3 = (h' : Int) ∧ l[h']? = some q ∧ q.1 ≤ p ∧ p < q.1 + q.2.1) → ∃ v : Int, C312_5 0 p x3 h d5 σ (rI v σ) ∧ ((v = -1 ∧ ∀ (h : Nat) (q : St), l[h]? = some q → ¬ (q.1 ≤ p ∧ p < q.1 + q.2.1)) ∨ ∃ (h : Nat) (q : St), v = (h : Int) ∧ l[h]? = some q ∧ q.1 ≤ p ∧ p < q.1 + q.2.1) := by
    intro d
    induction d with
    | zero =>
      intro h x3 d5 hh inv
      refine ⟨x3, b312_5 ?_, ?_⟩
      · rw [show ((0 : Int)).toNat = 0 from rfl, z, if_neg (by omega)]
      · rcases inv with ⟨i1, i2⟩ | i
        · exact Or.inl ⟨i1, fun h' q hq => i2 h' q (by have := (List.getElem?_eq_some_iff.mp hq).1; omega) hq⟩
        · exact Or.inr i
    | succ d ih =>
      intro h x3 d5 hh inv
      obtain ⟨q, hq⟩ : ∃ q, l[h]? = some q := ⟨l[h], List.getElem?_eq_getElem (by omega)⟩
      obtain ⟨v0, v1, v2, v3⟩ := HK_at K hq
      have bq := hb h q hq
      have st : ∀ {o : Rs} (y : Int), C312_79 0 p (some (vI x3)) h (some (vI (q.1 : Nat))) y σ o → (y = if q.1 ≤ p ∧ p < q.1 + q.2.1 then (h : Int) else x3) → C312_5 0 p x3 h d5 σ o := fun {o} y hy ey => by
        refine b312_5 ?_
        rw [show ((0 : Int)).toNat = 0 from rfl, z, if_pos (by omega)]
        refine ⟨fun _ => by omega, fun e => absurd rfl e, ?_⟩
        rw [if_pos rfl, tn, v0]
        refine b312_37 ?_
        by_cases y1 : q.1 ≤ p
        · rw [if_pos (by omega)]
          refine ⟨fun _ => by omega, fun e => absurd rfl e, ?_⟩
          rw [if_pos rfl, tn, v1]
          refine b312_69 ⟨by omega, ?_⟩
          by_cases y2 : p < q.1 + q.2.1
          · rw [if_pos ⟨y1, y2⟩] at ey
            rw [if_pos (by omega), ← ey]
            exact hy
          · rw [if_neg (fun e => y2 e.2)] at ey
            rw [if_neg (by omega)]
            refine b312_78 ?_
            rw [← ey]
            exact hy
        · rw [if_neg (fun e => y1 e.1)] at ey
          rw [if_neg (by omega)]
          refine b312_78 ?_
          rw [← ey]
          exact hy
      obtain ⟨v, a1, a2⟩ := ih (h + 1) (if q.1 ≤ p ∧ p < q.1 + q.2.1 then (h : Int) else x3) (some (vI (q.1 : Nat))) (by omega) (by
        by_cases y : q.1 ≤ p ∧ p < q.1 + q.2.1
        · rw [if_pos y]
          exact Or.inr ⟨h, q, rfl, hq, y⟩
        · rw [if_neg y]
          rcases inv with ⟨i1, i2⟩ | i
          · refine Or.inl ⟨i1, fun h' q' hlt hq' => ?_⟩
            by_cases e : h' = h
            · subst e
              rw [hq] at hq'
              cases hq'
              exact y
            · exact i2 h' q' (by omega) hq'
          · exact Or.inr i)
      refine ⟨v, st _ (b312_79 ⟨by omega, ?_⟩) rfl, a2⟩
      rw [show (h : Int) + 1 = ((h + 1 : Nat) : Int) by omega]
      exact a1
  obtain ⟨v, a1, a2⟩ := L l.length 0 (-1) none (by omega) (Or.inl ⟨rfl, fun h' q h => absurd h (Nat.not_lt_zero h')⟩)
  exact ⟨v, b312 a1, a2⟩
/-- areLike -/
theorem d313 {σ : Sg} {s nb na i n : Nat} {O N F : Nat → Int} (hs : s < 44) (S : Slot σ s nb na O N F) (hi : i < nb) (hn : n < na) (h1 : nb ≤ 100) (h2 : na ≤ 100) (lO : ∀ i, i < nb → isLn (O i) = true) (lN : ∀ i, i < na → isLn (N i) = true) (Z : Zl σ) : ∃ σ', Dd 313 [vA 682, vI s, vI i, vI n] σ (rI (if 50 ≤ lik (O i) (N n) then 1 else 0) σ') ∧ Zl σ' ∧ Sm σ σ' := by
  obtain ⟨σ', a1, a2, a3⟩ := d254 (isLn_nn (lO i hi)) (isLn_nn (lN n hn)) Z
  refine ⟨σ', b313 ?_, a2, a3⟩
  rw [show (100 * (s : Int) + (i : Int)).toNat = 100 * s + i by omega, show (100 * (s : Int) + (n : Int)).toNat = 100 * s + n by omega, S.2.2.1 i hi, S.2.2.2.1 n hn]
  exact ⟨by omega, by omega, by omega, by omega, by omega, by omega, _, _, a1, rfl⟩
theorem Sm_t {σ s t : Sg} (h1 : Sm σ s) (h2 : Sm s t) : Sm σ t := fun c k h => by rw [h2 c k h]; exact h1 c k h
theorem Sm_r {σ : Sg} : Sm σ σ := fun _ _ _ => rfl
theorem Sm_S {σ s : Sg} {p nb na : Nat} {O N F : Nat → Int} (h : Sm σ s) (S : Slot σ p nb na O N F) : Slot s p nb na O N F := Slot_fr (fun c k hc => h c k (by omega)) S
/-- what the search goes by -/
def CXK (σ : Sg) (s nb na p hp : Nat) (O N F K : Nat → Int) (l : List St) (o d n a : Nat) : Prop := s < 44 ∧ nb ≤ 99 ∧ na ≤ 16 ∧ l.length ≤ 120 ∧ Slot σ s nb na O N F ∧ HK σ 0 0 l ∧ σ 704 0 = (l.length : Nat) ∧ DS F nb na l 0 0 0 ∧ IV F K nb na ∧ (∀ i, i < nb → isLn (O i) = true) ∧ (∀ i, i < na → isLn (N i) = true) ∧ l[hp]? = some (o, d, n, a) ∧ o ≤ p ∧ p < o + d
theorem CXK_Sm {σ s' : Sg} {s nb na p hp : Nat} {O N F K : Nat → Int} {l : List St} {o d n a : Nat} (h : Sm σ s') (C : CXK σ s nb na p hp O N F K l o d n a) : CXK s' s nb na p hp O N F K l o d n a := by
  obtain ⟨c1, c2, c3, c4, c5, c6, c7, c8, c9, c10, c11, c12, c13, c14⟩ := C
  exact ⟨c1, c2, c3, c4, Sm_S h c5, fun h' q hq => by rw [h _ _ (by decide), h _ _ (by decide), h _ _ (by decide), h _ _ (by decide)]; exact c6 h' q hq, by rw [h _ _ (by decide)]; exact c7, c8, c9, c10, c11, c12, c13, c14⟩
/-- lines of the two hunks could be the same just when they are alike -/
theorem kn_in {σ : Sg} {s nb na p hp h : Nat} {O N F K : Nat → Int} {l : List St} {o d n a o' d' n' a' i j : Nat} (C : CXK σ s nb na p hp O N F K l o d n a) (hq : l[h]? = some (o', d', n', a')) (hi : o ≤ i ∧ i < o + d) (hj : n' ≤ j ∧ j < n' + a') : knB O N F K nb na i j = true ↔ 50 ≤ lik (O i) (N j) := by
  obtain ⟨c1, c2, c3, c4, c5, c6, c7, c8, c9, c10, c11, c12, c13, c14⟩ := C
  obtain ⟨e1, e2, e3, e4, e5, e6, e7⟩ := DS_nb c8 c9 c12
  obtain ⟨f1, f2, f3, f4, f5, f6, f7⟩ := DS_nb c8 c9 hq
  have hF := e5 i hi.1 hi.2
  have hK : K j = -1 := by
    have hl := (List.getElem?_eq_some_iff.mp hq).1
    rcases c9.1 j (by omega) with z | ⟨z1, z2, z3⟩
    · exact z
    · exfalso
      obtain ⟨x, hx⟩ := Int.eq_ofNat_of_zero_le z1
      rw [hx, tn] at z3
      obtain ⟨i1, j1, e1', a1, a2, a3, a4, a5⟩ := DS_dr h l 0 0 0 c8 (by omega)
      have hd : l.drop h = (o', d', n', a') :: l.drop (h + 1) := by
        rw [List.drop_eq_getElem_cons hl]
        rw [List.getElem?_eq_getElem hl] at hq
        have z := Option.some.inj hq
        rw [z]
      rw [hd] at a1
      obtain ⟨v1, v2, v3, v4, v5, v6⟩ := a1
      have x2 : n' = j1 + (o' - i1) := v2
      have x1 : i1 + e1' ≤ o' := v1
      have V := DS_VF c8
      -- the partner lies ahead of the hunk, in it, or behind it
      by_cases y1 : x < o'
      · by_cases y2 : 0 < o'
        · have w := f1 y2
          rcases V.1 (o' - 1) (by omega) with u | u
          · exact w u
          · have key : F (o' - 1) < (n' : Int) := by
              by_cases y3 : i1 < o'
              · have t := v3 (o' - 1) (by omega) (by show o' - 1 < o'; omega)
                rw [t]
                omega
              · by_cases y4 : h = 0
                · obtain ⟨t1, t2, t3⟩ := a4 y4
                  omega
                · have := a5 (by omega)
                  omega
            by_cases y5 : x = o' - 1
            · rw [y5] at z3
              omega
            · have t := V.2 x (o' - 1) (by omega) (by omega) (by omega) w
              omega
        · omega
      · by_cases y2 : x < o' + d'
        · have t := f5 x (by omega) y2
          omega
        · rcases (DS_v _ _ _ _ v6).1 x (by show o' + d' ≤ x; omega) (by omega) with t | t
          · omega
          · have t1 : ((n' + a' : Nat) : Int) ≤ F x := t.1
            omega
  constructor
  · intro y
    exact (knB_i.mp y).2.2.2.2.2
  · intro y
    exact knB_i.mpr ⟨by omega, by omega, by omega, hF, hK, y⟩
end
