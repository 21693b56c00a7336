/-! How like two lines are: bits here, a table there. -/
noncomputable section
def cw : Nat → Int → Nat
  | 0, _ => 0
  | k + 1, n => if 0 < n then cw k (n / 10) + 1 else 0
def dr : Nat → Int → Int
  | 0, n => n
  | k + 1, n => dr k (n / 10)
def lcRow (p : Nat → Bool) (prev : Nat → Nat) : Nat → Nat
  | 0 => 0
  | j + 1 => if p j = true then prev j + 1 else max (prev (j + 1)) (lcRow p prev j)
def lcT (e : Nat → Nat → Bool) : Nat → Nat → Nat
  | 0 => fun _ => 0
  | i + 1 => lcRow (e i) (lcT e i)
theorem lcT_0 {e : Nat → Nat → Bool} (i : Nat) : lcT e i 0 = 0 := by cases i <;> rfl
theorem lcT_s {e : Nat → Nat → Bool} (i j : Nat) : lcT e (i + 1) (j + 1) = if e i j = true then lcT e i j + 1 else max (lcT e i (j + 1)) (lcT e (i + 1) j) := rfl
theorem lcT_le {e : Nat → Nat → Bool} : ∀ (i j : Nat), lcT e i j ≤ i := by
  intro i
  induction i with
  | zero => intro j; exact Nat.le_refl 0
  | succ i ih =>
    intro j
    induction j with
    | zero => rw [lcT_0]; omega
    | succ j ih2 =>
      rw [lcT_s]
      split
      · have := ih j; omega
      · have := ih (j + 1); omega
theorem cw_le : ∀ (k : Nat) (n : Int), cw k n ≤ k := by
  intro k
  induction k with
  | zero => intro n; exact Nat.le_refl 0
  | succ k ih =>
    intro n
    unfold cw
    split
    · have := ih (n / 10); omega
    · omega
theorem dr_nn : ∀ (k : Nat) (n : Int), 0 ≤ n → 0 ≤ dr k n := by
  intro k
  induction k with
  | zero => intro n h; exact h
  | succ k ih => intro n h; exact ih (n / 10) (by omega)
theorem l72 : ∀ (k : Nat) (d0 : Option AV) (x1 x2 : Int) (σ : Sg), k ≤ 4 → 0 ≤ x2 → 0 ≤ x1 → x1 ≤ 4 - k → C72_6 d0 x1 x2 (4 - k) σ (rI (x1 + cw k x2) σ) := by
  intro k
  induction k with
  | zero =>
    intro d0 x1 x2 σ hk h2 h1 h3
    refine b72_6 ?_
    rw [if_neg (by omega)]
    show rI (x1 + ((0 : Nat) : Int)) σ = _
    rw [show x1 + ((0 : Nat) : Int) = x1 by omega]
  | succ k ih =>
    intro d0 x1 x2 σ hk h2 h1 h3
    refine b72_6 ?_
    rw [if_pos (by omega)]
    by_cases hp : 0 < x2
    · rw [if_pos hp, td h2]
      refine ⟨by omega, by omega, ?_⟩
      have e := ih d0 (x1 + 1) (x2 / 10) σ (by omega) (by omega) (by omega) (by omega)
      have e2 : cw (k + 1) x2 = cw k (x2 / 10) + 1 := by show (if 0 < x2 then _ else _) = _; rw [if_pos hp]
      rw [e2, show x1 + ((cw k (x2 / 10) + 1 : Nat) : Int) = x1 + 1 + (cw k (x2 / 10) : Nat) by omega]
      rw [show (4 : Int) - ((k + 1 : Nat) : Int) + 1 = 4 - (k : Nat) by omega]
      exact e
    · rw [if_neg hp]
      have e2 : cw (k + 1) x2 = 0 := by show (if 0 < x2 then _ else _) = _; rw [if_neg hp]
      rw [e2, show x1 + ((0 : Nat) : Int) = x1 by omega]
theorem d72 {n : Int} {σ : Sg} (h : 0 ≤ n) : Dd 72 [vI n] σ (rI (cw 4 n) σ) := by
  refine b72 ?_
  have e := l72 4 (some (vI n)) 0 n σ (by omega) h (by omega) (by omega)
  rw [Int.zero_add] at e
  exact e
theorem d70 {x : Int} {σ : Sg} (h : 0 ≤ x) : Dd 70 [vI x] σ (rI (if mkP x then x else x % 10000) σ) := by
  refine b70 ⟨_, _, d66, ?_⟩
  by_cases h2 : mkP x
  · rw [if_pos h2, if_pos h2, if_neg (by decide)]
  · rw [if_neg h2, if_neg h2, if_pos rfl, tm h]
theorem d69 {x : Int} {σ : Sg} (h : 0 ≤ x) : Dd 69 [vI x] σ (rI (if mkP x then 0 else x / 10000) σ) := by
  refine b69 ⟨_, _, d66, ?_⟩
  by_cases h2 : mkP x
  · rw [if_pos h2, if_pos h2, if_neg (by decide)]
  · rw [if_neg h2, if_neg h2, if_pos rfl, td h]
def plc (w : Int) : Nat → Int → Int → Int → Int
  | 0, x2, _, _ => x2
  | k + 1, x2, x3, x4 => if 0 < x3 then plc w k (if x3 % 10 = w then iOr x2 (iShl 1 x4) else x2) (x3 / 10) (x4 + 1) else x2
theorem l74 {w : Int} : ∀ (k : Nat) (d1 : Option AV) (x2 x3 : Int) (σ : Sg), k ≤ 4 → 0 ≤ x3 → C74_7 w d1 x2 x3 (4 - k) σ (rI (plc w k x2 x3 (4 - k)) σ) := by
  intro k
  induction k with
  | zero =>
    intro d1 x2 x3 σ hk h
    refine b74_7 ?_
    rw [if_neg (by omega)]
    rfl
  | succ k ih =>
    intro d1 x2 x3 σ hk h
    refine b74_7 ?_
    rw [if_pos (by omega)]
    by_cases hp : 0 < x3
    · rw [if_pos hp, tm h]
      refine b74_32 ⟨by omega, ?_⟩
      have e := ih d1 (if x3 % 10 = w then iOr x2 (iShl 1 (4 - ((k + 1 : Nat) : Int))) else x2) (x3 / 10) σ (by omega) (by omega)
      rw [show (4 : Int) - (k : Nat) = 4 - ((k + 1 : Nat) : Int) + 1 by omega] at e
      have e2 : plc w (k + 1) x2 x3 (4 - ((k + 1 : Nat) : Int)) = plc w k (if x3 % 10 = w then iOr x2 (iShl 1 (4 - ((k + 1 : Nat) : Int))) else x2) (x3 / 10) (4 - ((k + 1 : Nat) : Int) + 1) := by
        show (if 0 < x3 then _ else _) = _
        rw [if_pos hp]
      rw [e2, td h]
      exact e
    · rw [if_neg hp]
      have e2 : plc w (k + 1) x2 x3 (4 - ((k + 1 : Nat) : Int)) = x2 := by
        show (if 0 < x3 then _ else _) = _
        rw [if_neg hp]
      rw [e2]
theorem d74 {w n : Int} {σ : Sg} (h : 0 ≤ n) : Dd 74 [vI w, vI n] σ (rI (plc w 4 0 n 0) σ) := b74 (l74 4 (some (vI n)) 0 n σ (by omega) h)
/-- the places of a word, as bits -/
def pbt (n w : Int) (i : Nat) : Bool := decide (0 < dr i n) && decide (dr i n % 10 = w)
def pm (n w : Int) : Nat := (if pbt n w 0 = true then 1 else 0) + (if pbt n w 1 = true then 2 else 0) + (if pbt n w 2 = true then 4 else 0) + (if pbt n w 3 = true then 8 else 0)
theorem plc_val {w n : Int} (h : 0 ≤ n) : plc w 4 0 n 0 = ((pm n w : Nat) : Int) := by
  have key : ∀ b0 b1 b2 b3 : Bool, (fun (x : Int) => (fun (y : Int) => (fun (z : Int) => if b3 = true then iOr z (iShl 1 3) else z) (if b2 = true then iOr y (iShl 1 2) else y)) (if b1 = true then iOr x (iShl 1 1) else x)) (if b0 = true then iOr 0 (iShl 1 0) else 0) = ((((if b0 = true then 1 else 0) + (if b1 = true then 2 else 0) + (if b2 = true then 4 else 0) + (if b3 = true then 8 else 0) : Nat)) : Int) := by decide +kernel
  have kk := key (pbt n w 0) (pbt n w 1) (pbt n w 2) (pbt n w 3)
  unfold pm
  rw [← kk]
  have q0 : dr 0 n = n := rfl
  have q1 : dr 1 n = n / 10 := rfl
  have q2 : dr 2 n = n / 10 / 10 := rfl
  have q3 : dr 3 n = n / 10 / 10 / 10 := rfl
  have s0 : ∀ (a b : Int) , (if pbt n w 0 = true then a else b) = if 0 < n then (if n % 10 = w then a else b) else b := by
    intro a b; unfold pbt; rw [q0]; by_cases h1 : 0 < n <;> by_cases h2 : n % 10 = w <;> simp [h1, h2]
  have s1 : ∀ (a b : Int) , (if pbt n w 1 = true then a else b) = if 0 < n / 10 then (if n / 10 % 10 = w then a else b) else b := by
    intro a b; unfold pbt; rw [q1]; by_cases h1 : 0 < n / 10 <;> by_cases h2 : n / 10 % 10 = w <;> simp [h1, h2]
  have s2 : ∀ (a b : Int) , (if pbt n w 2 = true then a else b) = if 0 < n / 10 / 10 then (if n / 10 / 10 % 10 = w then a else b) else b := by
    intro a b; unfold pbt; rw [q2]; by_cases h1 : 0 < n / 10 / 10 <;> by_cases h2 : n / 10 / 10 % 10 = w <;> simp [h1, h2]
  have s3 : ∀ (a b : Int) , (if pbt n w 3 = true then a else b) = if 0 < n / 10 / 10 / 10 then (if n / 10 / 10 / 10 % 10 = w then a else b) else b := by
    intro a b; unfold pbt; rw [q3]; by_cases h1 : 0 < n / 10 / 10 / 10 <;> by_cases h2 : n / 10 / 10 / 10 % 10 = w <;> simp [h1, h2]
  dsimp only
  rw [s0, s1, s2, s3]
  unfold plc
  by_cases h0 : 0 < n
  · rw [if_pos h0, if_pos h0]
    unfold plc
    by_cases h1 : 0 < n / 10
    · rw [if_pos h1, if_pos h1]
      unfold plc
      by_cases h2 : 0 < n / 10 / 10
      · rw [if_pos h2, if_pos h2]
        unfold plc
        by_cases h3 : 0 < n / 10 / 10 / 10
        · rw [if_pos h3, if_pos h3]
          unfold plc
          rfl
        · rw [if_neg h3, if_neg h3]; rfl
      · rw [if_neg h2, if_neg h2, if_neg (show ¬ 0 < n / 10 / 10 / 10 by omega)]; rfl
    · rw [if_neg h1, if_neg h1, if_neg (show ¬ 0 < n / 10 / 10 by omega), if_neg (show ¬ 0 < n / 10 / 10 / 10 by omega)]
  · rw [if_neg h0, if_neg h0, if_neg (show ¬ 0 < n / 10 by omega), if_neg (show ¬ 0 < n / 10 / 10 by omega), if_neg (show ¬ 0 < n / 10 / 10 / 10 by omega)]
theorem pm_lt {n w : Int} : pm n w < 16 := by
  unfold pm
  repeat' split
  all_goals omega
theorem pm_bit {n w : Int} {i : Nat} (h : i < 4) : (pm n w >>> i) % 2 = if pbt n w i = true then 1 else 0 := by
  have key : ∀ b0 b1 b2 b3 : Bool, ∀ i, i < 4 → ((((if b0 = true then 1 else 0) + (if b1 = true then 2 else 0) + (if b2 = true then 4 else 0) + (if b3 = true then 8 else 0) : Nat)) >>> i) % 2 = if (match i with | 0 => b0 | 1 => b1 | 2 => b2 | _ => b3) = true then 1 else 0 := by decide +kernel
  have e := key (pbt n w 0) (pbt n w 1) (pbt n w 2) (pbt n w 3) i h
  unfold pm
  rw [e]
  match i, h with
  | 0, _ => rfl
  | 1, _ => rfl
  | 2, _ => rfl
  | 3, _ => rfl
def stp (V p : Nat) : Nat := (V + (V &&& p)) ||| (V - (V &&& p))
def col (D : Nat) : Nat → Nat
  | 0 => 0
  | i + 1 => col D i + (D >>> i) % 2
def bst (a : Nat → Nat) (p : Nat) : Nat → Nat
  | 0 => 0
  | i + 1 => if (p >>> i) % 2 = 1 then a i + 1 else max (bst a p i) (a (i + 1))
theorem stp_fact : ∀ V, V < 128 → ∀ p, p < 16 → iAnd (V : Nat) (p : Nat) = ((V &&& p : Nat) : Int) ∧ iOr (((V + (V &&& p)) : Nat) : Int) (((V - (V &&& p)) : Nat) : Int) = ((stp V p : Nat) : Int) ∧ V &&& p ≤ V ∧ (V < 16 → stp V p < 32) ∧ (V < 32 → stp V p < 64) ∧ (V < 64 → stp V p < 128) ∧ stp V p < 256 := by decide +kernel
theorem bst_fact : ∀ V, V < 128 → ∀ p, p < 16 → ∀ i, i < 5 → col (15 - stp V p % 16) i = bst (col (15 - V % 16)) p i := by decide +kernel
theorem bst_congr {a a' : Nat → Nat} {p p' : Nat} : ∀ (c : Nat), (∀ i, i ≤ c → a i = a' i) → (∀ i, i < c → (p >>> i) % 2 = (p' >>> i) % 2) → ∀ i, i ≤ c → bst a p i = bst a' p' i := by
  intro c ha hp i
  induction i with
  | zero => intro _; rfl
  | succ i ih =>
    intro hi
    show (if (p >>> i) % 2 = 1 then a i + 1 else max (bst a p i) (a (i + 1))) = (if (p' >>> i) % 2 = 1 then a' i + 1 else max (bst a' p' i) (a' (i + 1)))
    rw [hp i (by omega), ha i (by omega), ha (i + 1) hi, ih (by omega)]
theorem fin_fact : ∀ V, V < 256 → ∀ c, c < 5 → iAnd (((2 ^ c - 1 : Nat)) : Int) (iXor (V : Nat) (-1)) = (((2 ^ c - 1) &&& (15 - V % 16) : Nat) : Int) := by decide +kernel
theorem fin_fact2 : ∀ D, D < 16 → ∀ c, c < 5 → col ((2 ^ c - 1) &&& D) 4 = col D c ∧ (2 ^ c - 1) &&& D < 16 := by decide +kernel
theorem shl_fact : ∀ c, c < 5 → iShl 1 (c : Nat) = ((2 ^ c : Nat) : Int) := by decide +kernel
def opN (n : Int) : Nat → Nat → Int → Nat
  | 0, V, _ => V
  | k + 1, V, r => if 0 < r then opN n k (stp V (pm n (r % 10))) (r / 10) else V
theorem pm_step {n r : Int} {V : Nat} (h : 0 ≤ n) (hV : V < 128) : iOr ((V : Int) + iAnd (V : Nat) (plc (r % 10) 4 0 n 0)) ((V : Int) - iAnd (V : Nat) (plc (r % 10) 4 0 n 0)) = ((stp V (pm n (r % 10)) : Nat) : Int) ∧ iAnd (V : Nat) (plc (r % 10) 4 0 n 0) = ((V &&& pm n (r % 10) : Nat) : Int) ∧ V &&& pm n (r % 10) ≤ V := by
  rw [plc_val h]
  obtain ⟨f1, f2, f3, _⟩ := stp_fact V hV _ (pm_lt (n := n) (w := r % 10))
  refine ⟨?_, f1, f3⟩
  rw [f1, ← f2]
  congr 1
  omega
theorem l73 {n : Int} (hn : 0 ≤ n) : ∀ (k : Nat) (d1 d6 : Option AV) (x2 : Int) (V : Nat) (r : Int) (σ : Sg) (o : Rs), k ≤ 4 → V < 2 ^ (8 - k) → 0 ≤ r → (∀ d0 d4 d5 d6, C73_64 d0 d1 x2 ((opN n k V r : Nat) : Int) d4 d5 d6 σ o) → C73_17 n d1 x2 V r (4 - k) d6 σ o := by
  intro k
  induction k with
  | zero =>
    intro d1 d6 x2 V r σ o hk hV hr H
    refine b73_17 ?_
    rw [if_neg (by omega)]
    exact H _ _ _ _
  | succ k ih =>
    intro d1 d6 x2 V r σ o hk hV hr H
    refine b73_17 ?_
    rw [if_pos (by omega)]
    by_cases hp : 0 < r
    · rw [if_pos hp, tm hr, td hr]
      have hV2 : V < 128 := by
        have : 2 ^ (8 - (k + 1)) ≤ 2 ^ 7 := Nat.pow_le_pow_right (by decide) (by omega)
        omega
      obtain ⟨f1, f2, f3⟩ := pm_step (r := r) hn hV2
      refine ⟨_, _, d74 hn, ?_⟩
      rw [f1, f2]
      refine ⟨by omega, by omega, by omega, ?_⟩
      have e : opN n (k + 1) V r = opN n k (stp V (pm n (r % 10))) (r / 10) := by
        show (if 0 < r then _ else _) = _
        rw [if_pos hp]
      rw [e] at H
      have hs : stp V (pm n (r % 10)) < 2 ^ (8 - k) := by
        obtain ⟨_, _, _, g1, g2, g3, g4⟩ := stp_fact V hV2 _ (pm_lt (n := n) (w := r % 10))
        have h4 : k = 0 ∨ k = 1 ∨ k = 2 ∨ k = 3 := by omega
        rcases h4 with h4 | h4 | h4 | h4 <;> subst h4
        · exact g4
        · exact g3 hV
        · exact g2 hV
        · exact g1 hV
      have e3 := ih d1 (some (.inl ((V &&& pm n (r % 10) : Nat) : Int))) x2 _ (r / 10) σ o (by omega) hs (by omega) H
      rw [show (4 : Int) - (k : Nat) = 4 - ((k + 1 : Nat) : Int) + 1 by omega] at e3
      exact e3
    · rw [if_neg hp]
      have e : opN n (k + 1) V r = V := by
        show (if 0 < r then _ else _) = _
        rw [if_neg hp]
      rw [e] at H
      exact H _ _ _ _
theorem d443 {y : Nat} {σ : Sg} (h : y < 16) : Dd 443 [vI y] σ (rI ((col y 4 : Nat) : Int) σ) := by
  have h2 : y = 0 ∨ y = 1 ∨ y = 2 ∨ y = 3 ∨ y = 4 ∨ y = 5 ∨ y = 6 ∨ y = 7 ∨ y = 8 ∨ y = 9 ∨ y = 10 ∨ y = 11 ∨ y = 12 ∨ y = 13 ∨ y = 14 ∨ y = 15 := by omega
  rcases h2 with h2 | h2 | h2 | h2 | h2 | h2 | h2 | h2 | h2 | h2 | h2 | h2 | h2 | h2 | h2 | h2 <;> subst h2 <;> exact b443 ⟨by decide +kernel, by decide +kernel, by decide +kernel, by decide +kernel, by decide +kernel, rfl⟩
/-- the digits of one number at the places of the other -/
def eqd (n r : Int) (i j : Nat) : Bool := decide (dr i n % 10 = dr j r % 10)
theorem dr_s (k : Nat) (n : Int) : dr (k + 1) n = dr k (n / 10) := rfl
theorem dr_c : ∀ (k : Nat) (n : Int), dr (k + 1) n = dr k n / 10 := by
  intro k
  induction k with
  | zero => intro n; rfl
  | succ k ih => intro n; rw [dr_s (k + 1), ih, dr_s]
theorem cw_pos : ∀ (k : Nat) (n : Int) (i : Nat), i < cw k n → 0 < dr i n := by
  intro k
  induction k with
  | zero => intro n i h; exact absurd h (Nat.not_lt_zero i)
  | succ k ih =>
    intro n i h
    unfold cw at h
    by_cases hp : 0 < n
    · rw [if_pos hp] at h
      cases i with
      | zero => exact hp
      | succ i => exact ih (n / 10) i (by omega)
    · rw [if_neg hp] at h
      exact absurd h (Nat.not_lt_zero i)
theorem opN_inv {n r : Int} (hn : 0 ≤ n) {c : Nat} (hc : c = cw 4 n) : ∀ (k j V : Nat), k + j = 4 → V < 2 ^ (8 - k) → (∀ i, i ≤ c → lcT (eqd n r) i j = col (15 - V % 16) i) → 0 ≤ r → (∀ i, i ≤ c → lcT (eqd n r) i (j + cw k (dr j r)) = col (15 - opN n k V (dr j r) % 16) i) ∧ opN n k V (dr j r) < 256 := by
  have hc4 : c ≤ 4 := by rw [hc]; exact cw_le 4 n
  intro k
  induction k with
  | zero =>
    intro j V hkj hV hI hr
    exact ⟨hI, hV⟩
  | succ k ih =>
    intro j V hkj hV hI hr
    by_cases hp : 0 < dr j r
    · have e1 : opN n (k + 1) V (dr j r) = opN n k (stp V (pm n (dr j r % 10))) (dr (j + 1) r) := by
        show (if 0 < dr j r then _ else _) = _
        rw [if_pos hp, dr_c]
      have e2 : cw (k + 1) (dr j r) = cw k (dr (j + 1) r) + 1 := by
        show (if 0 < dr j r then _ else _) = _
        rw [if_pos hp, dr_c]
      have hV2 : V < 128 := by
        have : 2 ^ (8 - (k + 1)) ≤ 2 ^ 7 := Nat.pow_le_pow_right (by decide) (by omega)
        omega
      have hs : stp V (pm n (dr j r % 10)) < 2 ^ (8 - k) := by
        obtain ⟨_, _, _, g1, g2, g3, g4⟩ := stp_fact V hV2 _ (pm_lt (n := n) (w := dr j r % 10))
        have h4 : k = 0 ∨ k = 1 ∨ k = 2 ∨ k = 3 := by omega
        rcases h4 with h4 | h4 | h4 | h4 <;> subst h4
        · exact g4
        · exact g3 hV
        · exact g2 hV
        · exact g1 hV
      have hstep : ∀ i, i ≤ c → lcT (eqd n r) i (j + 1) = col (15 - stp V (pm n (dr j r % 10)) % 16) i := by
        intro i hi
        rw [bst_fact V hV2 _ (pm_lt (n := n) (w := dr j r % 10)) i (by omega)]
        have hb : ∀ i, i ≤ c → lcT (eqd n r) i (j + 1) = bst (fun i => lcT (eqd n r) i j) (pm n (dr j r % 10)) i := by
          intro i
          induction i with
          | zero => intro _; rfl
          | succ i ih2 =>
            intro hi
            have hbit := pm_bit (n := n) (w := dr j r % 10) (i := i) (by omega)
            have hpos := cw_pos 4 n i (by omega)
            have hpb : pbt n (dr j r % 10) i = eqd n r i j := by
              unfold pbt eqd
              rw [decide_eq_true hpos, Bool.true_and]
            rw [hpb] at hbit
            rw [lcT_s]
            show _ = if (pm n (dr j r % 10) >>> i) % 2 = 1 then lcT (eqd n r) i j + 1 else max (bst (fun i => lcT (eqd n r) i j) (pm n (dr j r % 10)) i) (lcT (eqd n r) (i + 1) j)
            rw [hbit, ← ih2 (by omega)]
            by_cases he : eqd n r i j = true
            · rw [if_pos he, if_pos he, if_pos rfl]
            · rw [if_neg he, if_neg he, if_neg (by decide)]
        rw [hb i hi]
        exact bst_congr c (fun i hi => hI i hi) (fun _ _ => rfl) i hi
      have e3 := ih (j + 1) _ (by omega) hs hstep hr
      rw [e1, e2, show j + (cw k (dr (j + 1) r) + 1) = j + 1 + cw k (dr (j + 1) r) by omega]
      exact e3
    · have e1 : opN n (k + 1) V (dr j r) = V := by
        show (if 0 < dr j r then _ else _) = _
        rw [if_neg hp]
      have e2 : cw (k + 1) (dr j r) = 0 := by
        show (if 0 < dr j r then _ else _) = _
        rw [if_neg hp]
      rw [e1, e2]
      refine ⟨hI, Nat.lt_of_lt_of_le hV ?_⟩
      have : 2 ^ (8 - (k + 1)) ≤ 2 ^ 8 := Nat.pow_le_pow_right (by decide) (by omega)
      omega
theorem d73 {n r : Int} {σ : Sg} (hn : 0 ≤ n) (hr : 0 ≤ r) : Dd 73 [vI n, vI r] σ (rI ((lcT (eqd n r) (cw 4 n) (cw 4 r) : Nat) : Int) σ) := by
  have hc := cw_le 4 n
  have hsh := shl_fact (cw 4 n) (by omega)
  have hpw : 1 ≤ 2 ^ cw 4 n ∧ 2 ^ cw 4 n ≤ 16 := ⟨Nat.one_le_two_pow, by have : 2 ^ cw 4 n ≤ 2 ^ 4 := Nat.pow_le_pow_right (by decide) hc; omega⟩
  have e0 : iShl 1 ((cw 4 n : Nat) : Int) - 1 = ((2 ^ cw 4 n - 1 : Nat) : Int) := by rw [hsh]; omega
  refine b73 ⟨_, _, d72 hn, ?_⟩
  rw [e0]
  refine ⟨by omega, ?_⟩
  have hI : ∀ i, i ≤ cw 4 n → lcT (eqd n r) i 0 = col (15 - (2 ^ cw 4 n - 1) % 16) i := by
    have h0 : ∀ c, c < 5 → ∀ i, i ≤ c → col (15 - (2 ^ c - 1) % 16) i = 0 := by decide +kernel
    intro i hi
    rw [lcT_0, h0 _ (by omega) i hi]
  obtain ⟨g1, g2⟩ := opN_inv (r := r) hn rfl 4 0 (2 ^ cw 4 n - 1) rfl (by show _ < 16; omega) hI hr
  have ee := l73 hn 4 (some (vI r)) none ((2 ^ cw 4 n - 1 : Nat) : Int) (2 ^ cw 4 n - 1) r σ (rI ((lcT (eqd n r) (cw 4 n) (cw 4 r) : Nat) : Int) σ) (by omega) (by show _ < 16; omega) hr (by
    intro d0 d4 d5 d6
    refine b73_64 ?_
    have hg1 := g1 (cw 4 n) (Nat.le_refl _)
    rw [show dr 0 r = r from rfl, Nat.zero_add] at hg1
    rw [show dr 0 r = r from rfl] at g2
    rw [fin_fact _ g2 _ (by omega)]
    obtain ⟨f1, f2⟩ := fin_fact2 (15 - opN n 4 (2 ^ cw 4 n - 1) r % 16) (by omega) (cw 4 n) (by omega)
    refine ⟨_, _, d443 f2, ?_⟩
    rw [f1, hg1])
  exact ee
/-- the likeness of two lines -/
def lik (x y : Int) : Int :=
  if mkP x ∨ mkP y then (if x = y then 100 else 0)
  else if cw 4 (x % 10000) + cw 4 (y % 10000) = 0 then 100
  else 200 * ((lcT (eqd (x % 10000) (y % 10000)) (cw 4 (x % 10000)) (cw 4 (y % 10000)) : Nat) : Int) / ((cw 4 (x % 10000) + cw 4 (y % 10000) : Nat) : Int)
theorem d71 {x y : Int} {σ : Sg} (hx : 0 ≤ x) (hy : 0 ≤ y) : Dd 71 [vI x, vI y] σ (rI (lik x y) σ) := by
  refine b71 ⟨_, _, d66, ?_⟩
  unfold lik
  by_cases h1 : mkP x
  · rw [if_pos h1, if_neg (by decide), if_pos (Or.inl h1)]
    exact b71_14 rfl
  · rw [if_neg h1, if_pos rfl]
    refine ⟨_, _, d66, ?_⟩
    by_cases h2 : mkP y
    · rw [if_pos h2, if_neg (by decide), if_pos (Or.inr h2)]
      exact b71_14 rfl
    · rw [if_neg h2, if_pos rfl, if_neg (show ¬ (mkP x ∨ mkP y) by intro e; rcases e with e | e; exact h1 e; exact h2 e)]
      have hxn : 0 ≤ x % 10000 := by omega
      have hyn : 0 ≤ y % 10000 := by omega
      have dx := d70 (x := x) (σ := σ) hx
      have dy := d70 (x := y) (σ := σ) hy
      rw [if_neg h1] at dx
      rw [if_neg h2] at dy
      have cx := cw_le 4 (x % 10000)
      have cy := cw_le 4 (y % 10000)
      refine ⟨_, _, dx, _, _, d72 hxn, _, _, dy, _, _, d72 hyn, by omega, ?_⟩
      by_cases h3 : cw 4 (x % 10000) + cw 4 (y % 10000) = 0
      · rw [if_pos (by omega), if_pos h3]
      · rw [if_neg (by omega), if_neg h3]
        refine ⟨_, _, dx, _, _, dy, _, _, d73 hxn hyn, ?_, by omega, ?_⟩
        · have := lcT_le (e := eqd (x % 10000) (y % 10000)) (cw 4 (x % 10000)) (cw 4 (y % 10000))
          omega
        · rw [td (by omega)]
          simp only [Int.natCast_add]
end
