/-! Where a line went: the class's side. -/
noncomputable section
def rAh (O N F K : Nat → Int) (nb na i n : Nat) : Nat := mt (fun r => knI O N F K nb na ((i : Int) - r - 1) ((n : Int) - r - 1)) i
def rBe (O N F K : Nat → Int) (nb na i n : Nat) : Nat := mt (fun r => knI O N F K nb na ((i : Int) + r + 1) ((n : Int) + r + 1)) (nb - i)
def hsF (O N : Nat → Int) : Nat → Nat → Nat → Bool
  | 0, _, _ => false
  | l + 1, i, n => if O i = N n then true else hsF O N l (i + 1) (n + 1)
def gst (O N F K : Nat → Int) (nb na p n : Nat) (s : Int × Nat × Nat) : Int × Nat × Nat :=
  if knB O N F K nb na p n = true then
    (if s.2.2 ≤ rAh O N F K nb na p n + 1 + rBe O N F K nb na p n ∧ hsF O N (rAh O N F K nb na p n + 1 + rBe O N F K nb na p n) (p - rAh O N F K nb na p n) (n - rAh O N F K nb na p n) = true ∧ (s.2.2 < rAh O N F K nb na p n + 1 + rBe O N F K nb na p n ∨ (¬ s.1 = -1 ∧ ((n : Int) - (rAh O N F K nb na p n : Nat) < s.1 - (s.2.1 : Nat) ∨ ((n : Int) - (rAh O N F K nb na p n : Nat) = s.1 - (s.2.1 : Nat) ∧ s.2.1 < rAh O N F K nb na p n)))) then ((n : Int), rAh O N F K nb na p n, rAh O N F K nb na p n + 1 + rBe O N F K nb na p n) else s)
  else s
def gfo (O N F K : Nat → Int) (nb na p : Nat) : Nat → Nat → Int × Nat × Nat → Int × Nat × Nat
  | 0, _, s => s
  | d + 1, n, s => gfo O N F K nb na p d (n + 1) (gst O N F K nb na p n s)
def goalZ (O N F K : Nat → Int) (nb na p : Nat) : Int := (gfo O N F K nb na p na 0 (-1, 0, 1)).1
theorem rA_b {O N F K : Nat → Int} {nb na i n : Nat} : rAh O N F K nb na i n ≤ i ∧ rAh O N F K nb na i n ≤ n ∧ ∀ r, r < rAh O N F K nb na i n → knB O N F K nb na (i - r - 1) (n - r - 1) = true := by
  have h1 : rAh O N F K nb na i n ≤ i := mt_le
  have h2 : ∀ r, r < rAh O N F K nb na i n → knI O N F K nb na ((i : Int) - r - 1) ((n : Int) - r - 1) = true := fun r hr => mt_m (p := fun r => knI O N F K nb na ((i : Int) - (r : Nat) - 1) ((n : Int) - (r : Nat) - 1)) hr
  refine ⟨h1, ?_, fun r hr => ?_⟩
  · by_cases y : rAh O N F K nb na i n = 0
    · omega
    · have z := knI_i.mp (h2 (rAh O N F K nb na i n - 1) (by omega))
      omega
  · obtain ⟨z1, z2, z3⟩ := knI_i.mp (h2 r hr)
    rw [show ((i : Int) - (r : Int) - 1).toNat = i - r - 1 by omega, show ((n : Int) - (r : Int) - 1).toNat = n - r - 1 by omega] at z3
    exact z3
theorem rB_b {O N F K : Nat → Int} {nb na i n : Nat} (hi : i < nb) (hn : n < na) : i + rBe O N F K nb na i n < nb ∧ n + rBe O N F K nb na i n < na ∧ ∀ r, r < rBe O N F K nb na i n → knB O N F K nb na (i + r + 1) (n + r + 1) = true := by
  have h2 : ∀ r, r < rBe O N F K nb na i n → knB O N F K nb na (i + r + 1) (n + r + 1) = true := fun r hr => by
    have z := mt_m (p := fun r => knI O N F K nb na ((i : Int) + (r : Nat) + 1) ((n : Int) + (r : Nat) + 1)) hr
    obtain ⟨z1, z2, z3⟩ := knI_i.mp z
    rw [show ((i : Int) + (r : Int) + 1).toNat = i + r + 1 by omega, show ((n : Int) + (r : Int) + 1).toNat = n + r + 1 by omega] at z3
    exact z3
  refine ⟨?_, ?_, h2⟩
  · by_cases y : rBe O N F K nb na i n = 0
    · omega
    · have z := knB_i.mp (h2 (rBe O N F K nb na i n - 1) (by omega))
      omega
  · by_cases y : rBe O N F K nb na i n = 0
    · omega
    · have z := knB_i.mp (h2 (rBe O N F K nb na i n - 1) (by omega))
      omega
theorem d119 {σ : Sg} {P nb na i n : Nat} {O N F K : Nat → Int} (hP : isPatch P = true) (V : KIN σ P nb na O N F K) (hi : i ≤ 1000) (hn : n ≤ 1000) : Dd 119 [vA P, vI i, vI n] σ (rI (rAh O N F K nb na i n : Nat) σ) := by
  have h1 : rAh O N F K nb na i n ≤ i := mt_le
  have L : ∀ (d k : Nat), k + d = rAh O N F K nb na i n → C119_2 P i n k σ (rI (rAh O N F K nb na i n : Nat) σ) := by
    intro d
    induction d with
    | zero =>
      intro k hk
      have e : k = rAh O N F K nb na i n := by omega
      refine b119_2 hP ?_
      by_cases y : k < i
      · rw [if_pos (by omega)]
        refine ⟨by omega, by omega, by omega, by omega, _, _, d116 hP V, ?_⟩
        have z := mt_n (p := fun r => knI O N F K nb na ((i : Int) - (r : Nat) - 1) ((n : Int) - (r : Nat) - 1)) (n := i) (show rAh O N F K nb na i n < i by omega)
        have z : knI O N F K nb na ((i : Int) - (k : Nat) - 1) ((n : Int) - (k : Nat) - 1) = false := by rw [e]; exact z
        rw [z, if_pos (show (if false = true then (1 : Int) else 0) = 0 by decide), e]
      · rw [if_neg (by omega), e]
    | succ d ih =>
      intro k hk
      refine b119_2 hP ?_
      rw [if_pos (by omega)]
      refine ⟨by omega, by omega, by omega, by omega, _, _, d116 hP V, ?_⟩
      have z : knI O N F K nb na ((i : Int) - (k : Nat) - 1) ((n : Int) - (k : Nat) - 1) = true := mt_m (p := fun r => knI O N F K nb na ((i : Int) - (r : Nat) - 1) ((n : Int) - (r : Nat) - 1)) (n := i) (show k < rAh O N F K nb na i n by omega)
      rw [z, if_pos rfl, if_neg (show ¬ (1 : Int) = 0 by decide), show (k : Int) + 1 = ((k + 1 : Nat) : Int) by omega]
      exact ⟨by omega, ih (k + 1) (by omega)⟩
  exact b119 (L _ 0 (Nat.zero_add _))
theorem d120 {σ : Sg} {P nb na i n : Nat} {O N F K : Nat → Int} (hP : isPatch P = true) (V : KIN σ P nb na O N F K) (hb : nb ≤ 100) (hi : i ≤ 1000) (hn : n ≤ 1000) : Dd 120 [vA P, vI i, vI n] σ (rI (rBe O N F K nb na i n : Nat) σ) := by
  have h1 : rBe O N F K nb na i n ≤ nb - i := mt_le
  have L : ∀ (d k : Nat), k + d = rBe O N F K nb na i n → C120_2 P i n k σ (rI (rBe O N F K nb na i n : Nat) σ) := by
    intro d
    induction d with
    | zero =>
      intro k hk
      have e : k = rBe O N F K nb na i n := by omega
      refine b120_2 hP ⟨by omega, _, _, RV_146 V.1.1, ?_⟩
      by_cases y : i + k < nb
      · rw [if_pos (by omega)]
        refine ⟨by omega, by omega, by omega, by omega, _, _, d116 hP V, ?_⟩
        have z := mt_n (p := fun r => knI O N F K nb na ((i : Int) + (r : Nat) + 1) ((n : Int) + (r : Nat) + 1)) (n := nb - i) (show rBe O N F K nb na i n < nb - i by omega)
        have z : knI O N F K nb na ((i : Int) + (k : Nat) + 1) ((n : Int) + (k : Nat) + 1) = false := by rw [e]; exact z
        rw [z, if_pos (show (if false = true then (1 : Int) else 0) = 0 by decide), e]
      · rw [if_neg (by omega), e]
    | succ d ih =>
      intro k hk
      refine b120_2 hP ⟨by omega, _, _, RV_146 V.1.1, ?_⟩
      rw [if_pos (by omega)]
      refine ⟨by omega, by omega, by omega, by omega, _, _, d116 hP V, ?_⟩
      have z : knI O N F K nb na ((i : Int) + (k : Nat) + 1) ((n : Int) + (k : Nat) + 1) = true := mt_m (p := fun r => knI O N F K nb na ((i : Int) + (r : Nat) + 1) ((n : Int) + (r : Nat) + 1)) (n := nb - i) (show k < rBe O N F K nb na i n by omega)
      rw [z, if_pos rfl, if_neg (show ¬ (1 : Int) = 0 by decide), show (k : Int) + 1 = ((k + 1 : Nat) : Int) by omega]
      exact ⟨by omega, ih (k + 1) (by omega)⟩
  exact b120 (L _ 0 (Nat.zero_add _))
theorem d121 {σ : Sg} {P nb na i n l : Nat} {O N F K : Nat → Int} (hP : isPatch P = true) (V : KIN σ P nb na O N F K) (hb : nb ≤ 100) (ha : na ≤ 100) (hi : i + l ≤ nb) (hn : n + l ≤ na) : Dd 121 [vA P, vI i, vI n, vI l] σ (rI (if hsF O N l i n = true then 1 else 0) σ) := by
  have L : ∀ (d k : Nat), k + d = l → C121_3 P i n l k σ (rI (if hsF O N d (i + k) (n + k) = true then 1 else 0) σ) := by
    intro d
    induction d with
    | zero =>
      intro k hk
      refine b121_3 hP ?_
      rw [if_neg (by omega)]
      rfl
    | succ d ih =>
      intro k hk
      refine b121_3 hP ?_
      rw [if_pos (by omega), show (i : Int) + (k : Int) = ((i + k : Nat) : Int) by omega, show (n : Int) + (k : Int) = ((n + k : Nat) : Int) by omega, show (k : Int) + 1 = ((k + 1 : Nat) : Int) by omega]
      refine ⟨by omega, _, _, RV_147 V.1.1 (by omega), by omega, _, _, RV_147 V.1.2.1 (by omega), ?_⟩
      have e : hsF O N (d + 1) (i + k) (n + k) = if O (i + k) = N (n + k) then true else hsF O N d (i + k + 1) (n + k + 1) := rfl
      rw [e]
      by_cases y : O (i + k) = N (n + k)
      · rw [if_pos y, if_pos y]
        rfl
      · rw [if_neg y, if_neg y]
        exact ⟨by omega, ih (k + 1) (by omega)⟩
  exact b121 (L l 0 (by omega))
theorem d118 {a b c d : Int} {σ : Sg} : Dd 118 [vI a, vI b, vI c, vI d] σ (rI (if a < c ∨ (a = c ∧ d < b) then 1 else 0) σ) := by
  refine b118 ?_
  by_cases y1 : c ≤ a
  · rw [if_pos y1]
    by_cases y2 : a = c
    · rw [if_pos y2]
      by_cases y3 : d < b
      · rw [if_pos y3, if_pos (Or.inr ⟨y2, y3⟩)]
        exact b118_15 rfl
      · rw [if_neg y3, if_neg (by omega)]
    · rw [if_neg y2, if_neg (by omega)]
  · rw [if_neg y1, if_pos (by omega)]
    exact b118_15 rfl
/-- the best so far is within bounds -/
def SB (s : Int × Nat × Nat) : Prop := -1 ≤ s.1 ∧ s.1 ≤ 100 ∧ s.2.1 ≤ 100 ∧ s.2.2 ≤ 300
theorem gst_SB {O N F K : Nat → Int} {nb na p n : Nat} {s : Int × Nat × Nat} (hb : nb ≤ 100) (ha : na ≤ 100) (h : SB s) : SB (gst O N F K nb na p n s) := by
  unfold gst
  by_cases y : knB O N F K nb na p n = true
  · rw [if_pos y]
    have z := knB_i.mp y
    have a := (rA_b (O := O) (N := N) (F := F) (K := K) (nb := nb) (na := na) (i := p) (n := n))
    have b := (rB_b (O := O) (N := N) (F := F) (K := K) z.1 z.2.1)
    split
    · refine ⟨?_, ?_, ?_, ?_⟩
      · show -1 ≤ (n : Int)
        omega
      · show (n : Int) ≤ 100
        omega
      · show rAh O N F K nb na p n ≤ 100
        omega
      · show rAh O N F K nb na p n + 1 + rBe O N F K nb na p n ≤ 300
        omega
    · exact h
  · rw [if_neg y]
    exact h
/-- goalOf -/
theorem d117 {σ : Sg} {P nb na p : Nat} {O N F K : Nat → Int} (hP : isPatch P = true) (V : KIN σ P nb na O N F K) (hb : nb ≤ 100) (ha : na ≤ 100) (hp : p ≤ 100) : Dd 117 [vA P, vI p] σ (rI (goalZ O N F K nb na p) σ) := by
  have L : ∀ (d n : Nat) (s : Int × Nat × Nat) (d6 d7 d8 : Option AV), n + d = na → SB s → C117_10 P p s.1 (s.2.1 : Nat) (s.2.2 : Nat) n d6 d7 d8 σ (rI (gfo O N F K nb na p d n s).1 σ) := by
    intro d
    induction d with
    | zero =>
      intro n s d6 d7 d8 hn hs
      refine b117_10 hP ⟨_, _, RV_146 V.1.2.1, ?_⟩
      rw [if_neg (by omega)]
      rfl
    | succ d ih =>
      intro n s d6 d7 d8 hn hs
      obtain ⟨h1, h2, h3, h4⟩ := hs
      have hs : SB s := ⟨h1, h2, h3, h4⟩
      show C117_10 P p s.1 (s.2.1 : Nat) (s.2.2 : Nat) n d6 d7 d8 σ (rI (gfo O N F K nb na p d (n + 1) (gst O N F K nb na p n s)).1 σ)
      have hs' := gst_SB (O := O) (N := N) (F := F) (K := K) (p := p) (n := n) hb ha hs
      have nx := fun d6 d7 d8 => ih (n + 1) (gst O N F K nb na p n s) d6 d7 d8 (by omega) hs'
      refine b117_10 hP ⟨_, _, RV_146 V.1.2.1, ?_⟩
      rw [if_pos (by omega)]
      refine ⟨_, _, d116 hP V, ?_⟩
      have ekn : knI O N F K nb na (p : Int) (n : Int) = knB O N F K nb na p n := by
        unfold knI
        rw [decide_eq_true (show (0 : Int) ≤ (p : Int) by omega), decide_eq_true (show (0 : Int) ≤ (n : Int) by omega), tn, tn]
        rfl
      rw [ekn]
      by_cases y : knB O N F K nb na p n = true
      · rw [if_pos y, if_neg (show ¬ (1 : Int) = 0 by decide)]
        have z := knB_i.mp y
        have ab := (rA_b (O := O) (N := N) (F := F) (K := K) (nb := nb) (na := na) (i := p) (n := n))
        have bb := (rB_b (O := O) (N := N) (F := F) (K := K) z.1 z.2.1)
        have eg : gst O N F K nb na p n s = (if s.2.2 ≤ rAh O N F K nb na p n + 1 + rBe O N F K nb na p n ∧ hsF O N (rAh O N F K nb na p n + 1 + rBe O N F K nb na p n) (p - rAh O N F K nb na p n) (n - rAh O N F K nb na p n) = true ∧ (s.2.2 < rAh O N F K nb na p n + 1 + rBe O N F K nb na p n ∨ (¬ s.1 = -1 ∧ ((n : Int) - (rAh O N F K nb na p n : Nat) < s.1 - (s.2.1 : Nat) ∨ ((n : Int) - (rAh O N F K nb na p n : Nat) = s.1 - (s.2.1 : Nat) ∧ s.2.1 < rAh O N F K nb na p n)))) then ((n : Int), rAh O N F K nb na p n, rAh O N F K nb na p n + 1 + rBe O N F K nb na p n) else s) := by
          unfold gst
          rw [if_pos y]
        refine ⟨_, _, d119 hP V (by omega) (by omega), by omega, _, _, d120 hP V hb (by omega) (by omega), by omega, ?_⟩
        obtain ⟨A, hA⟩ : ∃ A, A = rAh O N F K nb na p n := ⟨_, rfl⟩
        obtain ⟨B, hB⟩ : ∃ B, B = rBe O N F K nb na p n := ⟨_, rfl⟩
        rw [← hA, ← hB] at eg
        rw [← hA] at ab
        rw [← hB] at bb
        rw [← hA, ← hB, show ((A : Nat) : Int) + 1 + ((B : Nat) : Int) = ((A + 1 + B : Nat) : Int) by omega]
        have skip : ∀ d6 d7 d8 : Option AV, gst O N F K nb na p n s = s → C117_137 P p s.1 (s.2.1 : Nat) (s.2.2 : Nat) n d6 d7 d8 σ (rI (gfo O N F K nb na p d (n + 1) (gst O N F K nb na p n s)).1 σ) := fun d6 d7 d8 e => by
          have w := nx d6 d7 d8
          rw [e] at w ⊢
          refine b117_137 ⟨by omega, ?_⟩
          rw [show (n : Int) + 1 = ((n + 1 : Nat) : Int) by omega]
          exact w
        by_cases y1 : s.2.2 ≤ A + 1 + B
        · rw [if_pos (by omega), show (p : Int) - ((A : Nat) : Int) = ((p - A : Nat) : Int) by omega, show (n : Int) - ((A : Nat) : Int) = ((n - A : Nat) : Int) by omega]
          refine ⟨by omega, by omega, _, _, d121 hP V hb ha (by omega) (by omega), ?_⟩
          by_cases y2 : hsF O N (A + 1 + B) (p - A) (n - A) = true
          · rw [if_pos y2, if_neg (show ¬ (1 : Int) = 0 by decide)]
            have take : ∀ d8 : Option AV, gst O N F K nb na p n s = ((n : Int), A, A + 1 + B) → C117_127 P p (some (vI s.1)) (some (vI (s.2.1 : Nat))) (some (vI (s.2.2 : Nat))) n (A : Nat) ((A + 1 + B : Nat) : Int) d8 σ (rI (gfo O N F K nb na p d (n + 1) (gst O N F K nb na p n s)).1 σ) := fun d8 e => by
              have w := nx (some (vI (A : Nat))) (some (vI ((A + 1 + B : Nat) : Int))) d8
              rw [e] at w ⊢
              refine b117_127 (b117_137 ⟨by omega, ?_⟩)
              rw [show (n : Int) + 1 = ((n + 1 : Nat) : Int) by omega]
              exact w
            by_cases y3 : s.1 = -1
            · rw [if_pos y3]
              refine b117_112 (b117_113 ?_)
              by_cases y4 : s.2.2 < A + 1 + B
              · rw [if_neg (by omega)]
                rw [y3] at take ⊢
                exact take _ (by rw [eg, if_pos ⟨y1, y2, Or.inl y4⟩])
              · rw [if_pos (by omega), if_pos rfl]
                exact skip _ _ _ (by
                  rw [eg, if_neg]
                  rintro ⟨u1, u2, u3⟩
                  rcases u3 with u | ⟨u, v⟩
                  · omega
                  · exact u y3)
            · rw [if_neg y3]
              refine ⟨by omega, by omega, _, _, d118, ?_⟩
              have en : ((n - A : Nat) : Int) = (n : Int) - (A : Nat) := by omega
              by_cases y5 : ((n - A : Nat) : Int) < s.1 - ((s.2.1 : Nat) : Int) ∨ (((n - A : Nat) : Int) = s.1 - ((s.2.1 : Nat) : Int) ∧ ((s.2.1 : Nat) : Int) < ((A : Nat) : Int))
              · rw [if_pos y5, if_neg (show ¬ (1 : Int) = 0 by decide)]
                refine b117_113 ?_
                have tk := take (some (vI 1)) (by
                  rw [eg, if_pos ⟨y1, y2, Or.inr ⟨y3, by rw [en] at y5; omega⟩⟩])
                by_cases y4 : ((A + 1 + B : Nat) : Int) ≤ ((s.2.2 : Nat) : Int)
                · rw [if_pos y4, if_neg (show ¬ (1 : Int) = 0 by decide)]
                  exact tk
                · rw [if_neg y4]
                  exact tk
              · rw [if_neg y5, if_pos rfl]
                refine b117_112 (b117_113 ?_)
                by_cases y4 : s.2.2 < A + 1 + B
                · rw [if_neg (by omega)]
                  exact take _ (by rw [eg, if_pos ⟨y1, y2, Or.inl y4⟩])
                · rw [if_pos (by omega), if_pos rfl]
                  exact skip _ _ _ (by
                    rw [eg, if_neg]
                    rintro ⟨u1, u2, u3⟩
                    rcases u3 with u | ⟨u, v⟩
                    · omega
                    · rw [en] at y5
                      omega)
          · rw [if_neg y2, if_pos rfl]
            exact skip _ _ _ (by rw [eg, if_neg (fun h => y2 h.2.1)])
        · rw [if_neg (by omega)]
          exact skip _ _ _ (by rw [eg, if_neg (fun h => y1 h.1)])
      · have e : gst O N F K nb na p n s = s := by
          unfold gst
          rw [if_neg y]
        rw [if_neg y, if_pos rfl]
        have w := nx d6 d7 d8
        rw [e] at w ⊢
        refine b117_137 ⟨by omega, ?_⟩
        rw [show (n : Int) + 1 = ((n + 1 : Nat) : Int) by omega]
        exact w
  exact b117 (L na 0 (-1, 0, 1) none none none (by omega) ⟨by decide, by decide, by decide, by decide⟩)
end
