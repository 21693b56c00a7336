/-! Counts and places of a line in a stretch, on both sides. -/
noncomputable section
def cnt (f : Nat → Int) (x : Int) : Nat → Nat → Int
  | _, 0 => 0
  | a, d + 1 => (if f a = x then 1 else 0) + cnt f x (a + 1) d
theorem cnt_b {f : Nat → Int} {x : Int} : ∀ (d a : Nat), 0 ≤ cnt f x a d ∧ cnt f x a d ≤ (d : Int) := by
  intro d
  induction d with
  | zero =>
    intro a
    show 0 ≤ (0 : Int) ∧ (0 : Int) ≤ ((0 : Nat) : Int)
    omega
  | succ d ih =>
    intro a
    have := ih (a + 1)
    show 0 ≤ (if f a = x then (1 : Int) else 0) + cnt f x (a + 1) d ∧ (if f a = x then (1 : Int) else 0) + cnt f x (a + 1) d ≤ ((d + 1 : Nat) : Int)
    split <;> omega
theorem cnt_0 {f : Nat → Int} {x : Int} : ∀ (d a : Nat), (0 < cnt f x a d ↔ ∃ k, a ≤ k ∧ k < a + d ∧ f k = x) := by
  intro d
  induction d with
  | zero =>
    intro a
    refine ⟨fun h => ?_, fun ⟨k, h1, h2, _⟩ => by omega⟩
    have : (0 : Int) < 0 := h
    omega
  | succ d ih =>
    intro a
    have b := cnt_b (f := f) (x := x) d (a + 1)
    have e : cnt f x a (d + 1) = (if f a = x then (1 : Int) else 0) + cnt f x (a + 1) d := rfl
    rw [e]
    by_cases h : f a = x
    · rw [if_pos h]
      exact ⟨fun _ => ⟨a, Nat.le_refl a, by omega, h⟩, fun _ => by omega⟩
    · rw [if_neg h, Int.zero_add, ih (a + 1)]
      refine ⟨fun ⟨k, h1, h2, h3⟩ => ⟨k, by omega, by omega, h3⟩, fun ⟨k, h1, h2, h3⟩ => ?_⟩
      by_cases y : k = a
      · rw [y] at h3; exact absurd h3 h
      · exact ⟨k, by omega, by omega, h3⟩
def fnd (g : Nat → Int) (x : Int) : Nat → Nat → Int
  | _, 0 => -1
  | k, d + 1 => if g k = x then (k : Int) else fnd g x (k + 1) d
theorem fnd_in {g : Nat → Int} {x : Int} : ∀ (d b : Nat), (∃ k, b ≤ k ∧ k < b + d ∧ g k = x) → ∃ k : Nat, fnd g x b d = (k : Int) ∧ b ≤ k ∧ k < b + d ∧ g k = x := by
  intro d
  induction d with
  | zero =>
    rintro b ⟨k, h1, h2, -⟩
    omega
  | succ d ih =>
    rintro b ⟨k, h1, h2, h3⟩
    have e : fnd g x b (d + 1) = if g b = x then (b : Int) else fnd g x (b + 1) d := rfl
    rw [e]
    by_cases h : g b = x
    · rw [if_pos h]
      exact ⟨b, rfl, Nat.le_refl b, by omega, h⟩
    · rw [if_neg h]
      obtain ⟨k', e1, e2, e3, e4⟩ := ih (b + 1) ⟨k, by
        by_cases y : k = b
        · rw [y] at h3; exact absurd h3 h
        · omega, by omega, h3⟩
      exact ⟨k', e1, by omega, by omega, e4⟩
theorem fnd_ext {g : Nat → Int} {x : Int} : ∀ (d d' b : Nat), d ≤ d' → (∃ k, b ≤ k ∧ k < b + d ∧ g k = x) → fnd g x b d' = fnd g x b d := by
  intro d
  induction d with
  | zero =>
    rintro d' b _ ⟨k, h1, h2, -⟩
    omega
  | succ d ih =>
    rintro d' b hd ⟨k, h1, h2, h3⟩
    cases d' with
    | zero => omega
    | succ d' =>
      show (if g b = x then (b : Int) else fnd g x (b + 1) d') = if g b = x then (b : Int) else fnd g x (b + 1) d
      by_cases h : g b = x
      · rw [if_pos h, if_pos h]
      · rw [if_neg h, if_neg h]
        refine ih d' (b + 1) (by omega) ⟨k, ?_, by omega, h3⟩
        by_cases y : k = b
        · rw [y] at h3; exact absurd h3 h
        · omega
/-- Row.countOf -/
theorem d157 {σ : Sg} {R n a e : Nat} {f : Nat → Int} {x : Int} (w : wR σ R) (hn : σ R 1 = (n : Nat)) (hf : ∀ i, i < n → σ (R + 1) i = f i) (ha : a ≤ e) (he : e ≤ n) : Dd 157 [vA R, vI x, vI a, vI e] σ (rI (cnt f x a (e - a)) σ) := by
  have hc := cap_le w.1
  have w2 := w.2.2
  have L : ∀ (d k : Nat) (acc : Int) (d2 : Option AV), k + d = e → 0 ≤ acc → acc + (d : Int) ≤ 9000 → C157_10 R x d2 e acc k σ (rI (acc + cnt f x k d) σ) := by
    intro d
    induction d with
    | zero =>
      intro k acc d2 hk h0 h1
      refine b157_10 w.1 ?_
      rw [if_neg (by omega), show cnt f x k 0 = 0 from rfl, Int.add_zero]
    | succ d ih =>
      intro k acc d2 hk h0 h1
      refine b157_10 w.1 ?_
      rw [if_pos (by omega), if_pos (by omega), show ((k : Nat) : Int).toNat = k by omega, hf k (by omega)]
      have e1 : cnt f x k (d + 1) = (if f k = x then (1 : Int) else 0) + cnt f x (k + 1) d := rfl
      rw [e1]
      refine ⟨by omega, fun _ => by omega, b157_39 ⟨by omega, ?_⟩⟩
      rw [show (k : Int) + 1 = ((k + 1 : Nat) : Int) by omega]
      by_cases y : f k = x
      · rw [if_pos y, if_pos y, show acc + (1 + cnt f x (k + 1) d) = acc + 1 + cnt f x (k + 1) d by omega]
        exact ih (k + 1) (acc + 1) d2 (by omega) (by omega) (by omega)
      · rw [if_neg y, if_neg y, Int.zero_add]
        exact ih (k + 1) acc d2 (by omega) h0 (by omega)
  refine b157 ?_
  rw [show (if 0 < (a : Int) then (a : Int) else 0) = (a : Int) by split <;> omega]
  have z := L (e - a) a 0 (some (vI a)) (by omega) (by omega) (by omega)
  rw [Int.zero_add] at z
  exact z
/-- Row.find -/
theorem d160 {σ : Sg} {R n b : Nat} {g : Nat → Int} {x : Int} (w : wR σ R) (hn : σ R 1 = (n : Nat)) (hg : ∀ i, i < n → σ (R + 1) i = g i) (hb : b ≤ n) : Dd 160 [vA R, vI x, vI b] σ (rI (fnd g x b (n - b)) σ) := by
  have hc := cap_le w.1
  have w2 := w.2.2
  have L : ∀ (d k : Nat) (d2 : Option AV), k + d = n → C160_6 R x d2 k σ (rI (fnd g x k d) σ) := by
    intro d
    induction d with
    | zero =>
      intro k d2 hk
      refine b160_6 w.1 ?_
      rw [if_neg (by omega)]
      rfl
    | succ d ih =>
      intro k d2 hk
      refine b160_6 w.1 ?_
      have e1 : fnd g x k (d + 1) = if g k = x then (k : Int) else fnd g x (k + 1) d := rfl
      rw [if_pos (by omega), show ((k : Nat) : Int).toNat = k by omega, hg k (by omega), e1]
      refine ⟨by omega, ?_⟩
      by_cases y : g k = x
      · rw [if_pos y, if_pos y]
      · rw [if_neg y, if_neg y, show (k : Int) + 1 = ((k + 1 : Nat) : Int) by omega]
        exact ⟨by omega, ih (k + 1) d2 (by omega)⟩
  refine b160 ?_
  rw [show (if 0 < (b : Int) then (b : Int) else 0) = (b : Int) by split <;> omega]
  exact L (n - b) b _ (by omega)
/-- the reference's counts -/
theorem d269 {σ : Sg} {f g : Nat → Int} {n1 n2 a ae b be : Nat} {x : Int} (R : MRw σ f g n1 n2) (M : MS σ a ae b be) (ha : a ≤ ae) (h1 : ae ≤ n1) : Dd 269 [vA 682, vI x] σ (rI (cnt f x a (ae - a)) σ) := by
  obtain ⟨r1, r2, r3, r4⟩ := R
  obtain ⟨m17, m18, m19, m20⟩ := M
  have L : ∀ (d k : Nat) (acc : Int), k + d = ae → 0 ≤ acc → acc + (d : Int) ≤ 9000 → C269_7 x acc k σ (rI (acc + cnt f x k d) σ) := by
    intro d
    induction d with
    | zero =>
      intro k acc hk h0 h2
      refine b269_7 ?_
      rw [m18, if_neg (by omega), show cnt f x k 0 = 0 from rfl, Int.add_zero]
    | succ d ih =>
      intro k acc hk h0 h2
      refine b269_7 ?_
      have e1 : cnt f x k (d + 1) = (if f k = x then (1 : Int) else 0) + cnt f x (k + 1) d := rfl
      rw [m18, if_pos (by omega), tn, r3 k (by omega), e1]
      refine ⟨by omega, b269_31 ?_⟩
      rw [show (k : Int) + 1 = ((k + 1 : Nat) : Int) by omega]
      by_cases y : f k = x
      · rw [if_pos y, show acc + (1 + cnt f x (k + 1) d) = acc + 1 + cnt f x (k + 1) d by omega]
        exact ⟨by omega, by omega, ih (k + 1) (acc + 1) (by omega) (by omega) (by omega)⟩
      · rw [if_neg y, Int.zero_add, Int.add_zero]
        exact ⟨by omega, by omega, ih (k + 1) acc (by omega) h0 (by omega)⟩
  refine b269 ?_
  rw [m17]
  have z := L (ae - a) a 0 (by omega) (by omega) (by omega)
  rw [Int.zero_add] at z
  exact z
theorem d270 {σ : Sg} {f g : Nat → Int} {n1 n2 a ae b be : Nat} {x : Int} (R : MRw σ f g n1 n2) (M : MS σ a ae b be) (hb : b ≤ be) (h2' : be ≤ n2) : Dd 270 [vA 682, vI x] σ (rI (cnt g x b (be - b)) σ) := by
  obtain ⟨r1, r2, r3, r4⟩ := R
  obtain ⟨m17, m18, m19, m20⟩ := M
  have L : ∀ (d k : Nat) (acc : Int), k + d = be → 0 ≤ acc → acc + (d : Int) ≤ 9000 → C270_7 x acc k σ (rI (acc + cnt g x k d) σ) := by
    intro d
    induction d with
    | zero =>
      intro k acc hk h0 h2
      refine b270_7 ?_
      rw [m20, if_neg (by omega), show cnt g x k 0 = 0 from rfl, Int.add_zero]
    | succ d ih =>
      intro k acc hk h0 h2
      refine b270_7 ?_
      have e1 : cnt g x k (d + 1) = (if g k = x then (1 : Int) else 0) + cnt g x (k + 1) d := rfl
      rw [m20, if_pos (by omega), tn, r4 k (by omega), e1]
      refine ⟨by omega, b270_31 ?_⟩
      rw [show (k : Int) + 1 = ((k + 1 : Nat) : Int) by omega]
      by_cases y : g k = x
      · rw [if_pos y, show acc + (1 + cnt g x (k + 1) d) = acc + 1 + cnt g x (k + 1) d by omega]
        exact ⟨by omega, by omega, ih (k + 1) (acc + 1) (by omega) (by omega) (by omega)⟩
      · rw [if_neg y, Int.zero_add, Int.add_zero]
        exact ⟨by omega, by omega, ih (k + 1) acc (by omega) h0 (by omega)⟩
  refine b270 ?_
  rw [m19]
  have z := L (be - b) b 0 (by omega) (by omega) (by omega)
  rw [Int.zero_add] at z
  exact z
theorem d271 {σ : Sg} {f g : Nat → Int} {n1 n2 a ae b be : Nat} {x : Int} (R : MRw σ f g n1 n2) (M : MS σ a ae b be) (hb : b ≤ be) (h2' : be ≤ n2) : Dd 271 [vA 682, vI x] σ (rI (fnd g x b (be - b)) σ) := by
  obtain ⟨r1, r2, r3, r4⟩ := R
  obtain ⟨m17, m18, m19, m20⟩ := M
  have L : ∀ (d : Nat), b + d ≤ be → C271_9 x (fnd g x (b + d) (be - (b + d))) (((b + d : Nat) : Int) - 1) σ (rI (fnd g x b (be - b)) σ) := by
    intro d
    induction d with
    | zero =>
      intro hk
      refine b271_9 ?_
      rw [m19, if_neg (by omega), Nat.add_zero]
    | succ d ih =>
      intro hk
      refine b271_9 ?_
      have z := ih (by omega)
      have e1 : fnd g x (b + d) (be - (b + d)) = if g (b + d) = x then ((b + d : Nat) : Int) else fnd g x (b + (d + 1)) (be - (b + (d + 1))) := by
        rw [show be - (b + d) = (be - (b + (d + 1))) + 1 by omega]
        rfl
      rw [e1] at z
      rw [m19, show ((b + (d + 1) : Nat) : Int) - 1 = ((b + d : Nat) : Int) by omega, if_pos (by omega), tn, r4 _ (by omega)]
      refine ⟨by omega, b271_32 ⟨by omega, ?_⟩⟩
      rw [show ((b + d : Nat) : Int) + (-1) = ((b + d : Nat) : Int) - 1 by omega]
      exact z
  have z := L (be - b) (by omega)
  rw [show b + (be - b) = be by omega, Nat.sub_self] at z
  refine b271 ⟨by rw [m20]; omega, ?_⟩
  rw [m20]
  exact z
end
