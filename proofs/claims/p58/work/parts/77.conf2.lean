/-! A conflict is resolved. -/
noncomputable section
def sg (f : Nat → Int) (x y : Nat) : List Int := (List.range (y - x)).map (fun k => f (x + k))
theorem sg_len {f : Nat → Int} {x y : Nat} : (sg f x y).length = y - x := by
  unfold sg
  rw [List.length_map, List.length_range]
theorem sg_mem {f : Nat → Int} {x y : Nat} {v : Int} (h : v ∈ sg f x y) : ∃ j, x ≤ j ∧ j < y ∧ v = f j := by
  unfold sg at h
  obtain ⟨k, h1, h2⟩ := List.mem_map.mp h
  have := List.mem_range.mp h1
  exact ⟨x + k, by omega, by omega, h2.symm⟩
theorem sg_nil {f : Nat → Int} {x y : Nat} (h : y ≤ x) : sg f x y = [] := List.eq_nil_of_length_eq_zero (by rw [sg_len]; omega)
theorem sg_cons {f : Nat → Int} {x y : Nat} (h : x < y) : sg f x y = f x :: sg f (x + 1) y := by
  apply List.ext_getElem?
  intro i
  unfold sg
  cases i with
  | zero =>
    rw [List.getElem?_map, List.getElem?_range (by omega)]
    rfl
  | succ i =>
    rw [List.getElem?_cons_succ, List.getElem?_map, List.getElem?_map]
    by_cases hi : i < y - (x + 1)
    · rw [List.getElem?_range (by omega), List.getElem?_range hi]
      show some (f (x + (i + 1))) = some (f (x + 1 + i))
      rw [show x + (i + 1) = x + 1 + i by omega]
    · rw [List.getElem?_eq_none (by rw [List.length_range]; omega), List.getElem?_eq_none (by rw [List.length_range]; omega)]
      rfl
theorem rl_sg {σ : Sg} {a n : Nat} (hn : σ a 1 = (n : Nat)) {x y : Nat} (hy : y ≤ n) : ((rl σ a).take y).drop x = sg (fun i => σ (a + 1) i) x y := by
  apply List.ext_getElem?
  intro i
  rw [List.getElem?_drop]
  unfold rl sg
  rw [List.getElem?_map]
  by_cases hi : i < y - x
  · rw [List.getElem?_take_of_lt (by omega), List.getElem?_map, List.getElem?_range (by omega), List.getElem?_range hi]
    rfl
  · rw [List.getElem?_eq_none (by rw [List.length_take]; omega), List.getElem?_eq_none (by rw [List.length_range]; omega)]
    rfl
def plF (f : Nat → Int) (n : Nat) : Nat → Nat → Nat → Nat
  | 0, i, _ => i
  | w + 1, i, x => if cfP f n i then (if x = 0 then i else plF f n w (i + 1) (x - 1)) else plF f n w (i + 1) x
theorem plF_s {f : Nat → Int} {n w i x : Nat} : plF f n (w + 1) i x = if cfP f n i then (if x = 0 then i else plF f n w (i + 1) (x - 1)) else plF f n w (i + 1) x := rfl
theorem plF_ok {f : Nat → Int} {n : Nat} : ∀ (k i x : Nat), i + k = n → x < cnF f n k i → i ≤ plF f n k i x ∧ plF f n k i x < n ∧ cfP f n (plF f n k i x) := by
  intro k
  induction k with
  | zero =>
    intro i x h hx
    exact absurd hx (Nat.not_lt_zero x)
  | succ k ih =>
    intro i x h hx
    rw [cnF_s] at hx
    rw [plF_s]
    by_cases h1 : cfP f n i
    · rw [if_pos h1] at hx ⊢
      by_cases h2 : x = 0
      · rw [if_pos h2]; exact ⟨Nat.le_refl _, by omega, h1⟩
      · rw [if_neg h2]
        obtain ⟨q1, q2, q3⟩ := ih (i + 1) (x - 1) (by omega) (by omega)
        exact ⟨by omega, q2, q3⟩
    · rw [if_neg h1] at hx ⊢
      obtain ⟨q1, q2, q3⟩ := ih (i + 1) x (by omega) (by omega)
      exact ⟨by omega, q2, q3⟩
theorem l86 {a n : Nat} {σ : Sg} {f : Nat → Int} (w : wR σ a) (hn : σ a 1 = (n : Nat)) (hf : ∀ i, i < n → σ (a + 1) i = f i) {d1 : Option AV} : ∀ (k i x : Nat), i + k = n → x < cnF f n k i → C86_4 a d1 x i σ (rI (plF f n k i x : Nat) σ) := by
  have hc := cap_le w.1
  have w2 := w.2.2
  intro k
  induction k with
  | zero =>
    intro i x h hx
    exact absurd hx (Nat.not_lt_zero x)
  | succ k ih =>
    intro i x h hx
    have hle := cnF_le (f := f) (n := n) (k + 1) i
    have hle2 := cnF_le (f := f) (n := n) k (i + 1)
    rw [cnF_s] at hx
    refine b86_4 w.1 ⟨_, _, d146 w.1, ?_⟩
    rw [if_pos (by omega)]
    refine ⟨_, _, d83 w hn hf (by omega), ?_⟩
    by_cases h1 : cfP f n i
    · rw [if_pos h1] at hx
      rw [if_pos h1, if_neg (show ¬ (1 : Int) = 0 by decide)]
      by_cases h2 : x = 0
      · rw [if_pos (show (x : Int) = 0 by omega)]
        have e2 : plF f n (k + 1) i x = i := by rw [plF_s, if_pos h1, if_pos h2]
        exact congrArg (fun z : Nat => rI (z : Int) σ) e2
      · rw [if_neg (show ¬ (x : Int) = 0 by omega)]
        refine ⟨by omega, b86_29 ⟨by omega, ?_⟩⟩
        have e := ih (i + 1) (x - 1) (by omega) (by omega)
        rw [plF_s, if_pos h1, if_neg h2, show (x : Int) + (-1) = ((x - 1 : Nat) : Int) by omega, show (i : Int) + 1 = ((i + 1 : Nat) : Int) by omega]
        exact e
    · rw [if_neg h1] at hx
      rw [if_neg h1, if_pos rfl]
      refine b86_29 ⟨by omega, ?_⟩
      have e := ih (i + 1) x (by omega) (by omega)
      rw [plF_s, if_neg h1, show (i : Int) + 1 = ((i + 1 : Nat) : Int) by omega]
      exact e
theorem l339a {t n : Nat} {σ : Sg} {f : Nat → Int} (ht : t < 4) (hn : σ 684 t = (n : Nat)) (h16 : n ≤ 16) (hf : ∀ i, i < n → σ 683 (16 * t + i) = f i) {d2 d4 d7 d8 d9 : Option AV} {x3 : Int} {o : Rs} : ∀ (k i x : Nat), i + k = n → x < cnF f n k i → C339_132 t d2 x3 d4 (plF f n k i x : Nat) (nm f n (plF f n k i x) : Nat) (nm f n (nm f n (plF f n k i x)) : Nat) 0 d9 (upS σ 682 32 0) o → C339_65 t d2 x3 d4 i x d7 d8 d9 σ o := by
  intro k
  induction k with
  | zero =>
    intro i x h hx
    exact absurd hx (Nat.not_lt_zero x)
  | succ k ih =>
    intro i x h hx hh
    have hle := cnF_le (f := f) (n := n) (k + 1) i
    have hle2 := cnF_le (f := f) (n := n) k (i + 1)
    have hi : i < n := by omega
    have h5 := nm_le (f := f) hi
    rw [cnF_s] at hx
    rw [plF_s] at hh
    by_cases h1 : cfP f n i
    · rw [if_pos h1] at hx hh
      have d := d336 (f := f) ht hn h16 hf hi
      rw [if_pos h1] at d
      by_cases h2 : x = 0
      · rw [if_pos h2] at hh
        refine b339_65 ?_
        rw [if_pos (by omega)]
        refine ⟨_, _, d, ?_⟩
        rw [if_neg (show ¬ (1 : Int) = 0 by decide)]
        exact ⟨_, _, d334 ht hn h16 hf (by omega), _, _, d334 ht hn h16 hf (by omega), hh⟩
      · rw [if_neg h2] at hh
        have e := ih (i + 1) (x - 1) (by omega) (by omega) hh
        refine b339_65 ?_
        rw [if_neg (by omega)]
        refine b339_80 ⟨_, _, d, b339_97 ?_⟩
        rw [if_neg (show ¬ (1 : Int) = 0 by decide)]
        rw [show (x : Int) - 1 = ((x - 1 : Nat) : Int) by omega, show (i : Int) + 1 = ((i + 1 : Nat) : Int) by omega]
        exact ⟨by omega, by omega, e⟩
    · rw [if_neg h1] at hx hh
      have d := d336 (f := f) ht hn h16 hf hi
      rw [if_neg h1] at d
      have e := ih (i + 1) x (by omega) (by omega) hh
      have go : C339_80 t d2 x3 d4 i x d7 d8 d9 σ o := by
        refine b339_80 ⟨_, _, d, b339_97 ?_⟩
        rw [if_pos rfl, show (x : Int) - 0 = (x : Int) by omega, show (i : Int) + 1 = ((i + 1 : Nat) : Int) by omega]
        exact ⟨by omega, by omega, e⟩
      refine b339_65 ?_
      by_cases h2 : (x : Int) ≤ 0
      · rw [if_pos h2]
        refine ⟨_, _, d, ?_⟩
        rw [if_pos rfl]
        exact go
      · rw [if_neg h2]
        exact go
/-- the reference's made lines -/
def Rm (σ : Sg) (l : List Int) : Prop := σ 682 32 = (l.length : Nat) ∧ ∀ i v, l[i]? = some v → σ 705 i = v
theorem Rm_nil {σ : Sg} : Rm (upS σ 682 32 0) [] := ⟨by rw [up_s]; rfl, fun i v h => by simp at h⟩
theorem d319 {σ : Sg} {l : List Int} {v : Int} (H : Rm σ l) (h : l.length < 160) : ∃ s, Dd 319 [vA 682, vI v] σ (rV s) ∧ Rm s (l ++ [v]) ∧ ∀ c k, ¬ c = 705 → ¬ (c = 682 ∧ k = 32) → s c k = σ c k := by
  obtain ⟨h1, h2⟩ := H
  have e0 : (upS σ 705 (σ 682 32).toNat v) 682 32 = (l.length : Nat) := by rw [up_a (by decide)]; exact h1
  refine ⟨_, b319 ⟨by omega, by rw [e0]; omega, rfl⟩, ⟨?_, fun i w hw => ?_⟩, fun c k q1 q2 => ?_⟩
  · rw [up_s, e0, List.length_append]
    simp
  · rw [up_a (by decide)]
    by_cases hi : i < l.length
    · rw [List.getElem?_append_left hi] at hw
      rw [up_k (by omega)]
      exact h2 i w hw
    · have hle : (l ++ [v]).length = l.length + 1 := by simp
      have hi2 := (List.getElem?_eq_some_iff.mp hw).1
      have e : i = l.length := by omega
      rw [e, List.getElem?_append_right (Nat.le_refl _), Nat.sub_self] at hw
      have hw : v = w := by simpa using hw
      rw [show i = (σ 682 32).toNat by omega, up_s, hw]
  · have : ∀ s : Sg, ∀ z, upS s 682 32 z c k = s c k := fun s z => by unfold upS; rw [if_neg q2]
    rw [this, up_a q1]
theorem l325 {t m : Nat} (ht : t < 4) (hm : m ≤ 16) : ∀ (d i : Nat) (σ : Sg), σ 682 32 = (m : Nat) → i + d = m → C325_12 t i σ (rV (acS σ 683 (16 * t) 705 0 i m)) := by
  intro d
  induction d with
  | zero =>
    intro i σ h1 h2
    refine b325_12 ?_
    rw [if_neg (by omega), show i = m by omega, acS_end]
  | succ d ih =>
    intro i σ h1 h2
    refine b325_12 ?_
    rw [if_pos (by omega)]
    refine ⟨by omega, by omega, by omega, by omega, by omega, ?_⟩
    have e := ih (i + 1) (upS σ 683 (16 * t + i) (σ 705 (0 + i))) (by rw [up_a (by decide)]; exact h1) (by omega)
    rw [acS_step (by omega) (by decide)] at e
    rw [show ((i : Int)).toNat = 0 + i by omega, show (16 * (t : Int) + (i : Int)).toNat = 16 * t + i by omega, show (i : Int) + 1 = ((i + 1 : Nat) : Int) by omega]
    exact e
/-- the made lines become a text -/
theorem d325 {σ : Sg} {t : Nat} {l : List Int} (ht : t < 4) (H : Rm σ l) (h : l.length ≤ 16) : ∃ s, Dd 325 [vA 682, vI t] σ (rV s) ∧ s 684 t = (l.length : Nat) ∧ (∀ i v, l[i]? = some v → s 683 (16 * t + i) = v) ∧ s 682 32 = (l.length : Nat) ∧ ∀ c k, ¬ (c = 683 ∧ 16 * t ≤ k ∧ k < 16 * t + 16) → ¬ (c = 684 ∧ k = t) → s c k = σ c k := by
  obtain ⟨h1, h2⟩ := H
  have e := l325 ht h (l.length) 0 (upS σ 684 t (σ 682 32)) (by rw [up_a (by decide)]; exact h1) (by omega)
  refine ⟨acS (upS σ 684 t (σ 682 32)) 683 (16 * t) 705 0 0 l.length, b325 ⟨by omega, ?_⟩, ?_, fun i v hv => ?_, ?_, fun c k q1 q2 => ?_⟩
  · rw [show ((t : Int)).toNat = t by omega]
    exact e
  · rw [acS_off (by decide), up_s, h1]
  · have hi := (List.getElem?_eq_some_iff.mp hv).1
    rw [acS_val hi, up_a (by decide), Nat.zero_add]
    exact h2 i v hv
  · rw [acS_off (by decide), up_a (by decide), h1]
  · rw [show acS (upS σ 684 t (σ 682 32)) 683 (16 * t) 705 0 0 l.length c k = upS σ 684 t (σ 682 32) c k by
      by_cases hc : c = 683
      · exact acS_out (by omega)
      · exact acS_off hc]
    unfold upS
    rw [if_neg q2]
/-- what is kept of the lines, one by one -/
def kpF (f : Nat → Int) (K : Nat → Bool) : Nat → Nat → List Int
  | 0, _ => []
  | w + 1, i => if K i then f i :: kpF f K w (i + 1) else kpF f K w (i + 1)
theorem kpF_s {f : Nat → Int} {K : Nat → Bool} {w i : Nat} : kpF f K (w + 1) i = if K i then f i :: kpF f K w (i + 1) else kpF f K w (i + 1) := rfl
theorem kpF_len {f : Nat → Int} {K : Nat → Bool} : ∀ (w i : Nat), (kpF f K w i).length ≤ w := by
  intro w
  induction w with
  | zero => intro i; exact Nat.le_refl _
  | succ w ih =>
    intro i
    have := ih (i + 1)
    rw [kpF_s]
    split
    · rw [List.length_cons]; omega
    · omega
theorem kpF_add {f : Nat → Int} {K : Nat → Bool} : ∀ (u w i : Nat), kpF f K (u + w) i = kpF f K u i ++ kpF f K w (i + u) := by
  intro u
  induction u with
  | zero => intro w i; rw [Nat.zero_add]; rfl
  | succ u ih =>
    intro w i
    rw [show u + 1 + w = (u + w) + 1 by omega, kpF_s, kpF_s, ih, show i + 1 + u = i + (u + 1) by omega]
    split
    · rfl
    · rfl
theorem kpF_t {f : Nat → Int} {K : Nat → Bool} : ∀ (w i : Nat), (∀ j, i ≤ j → j < i + w → K j = true) → kpF f K w i = sg f i (i + w) := by
  intro w
  induction w with
  | zero => intro i _; rw [sg_nil (by omega)]; rfl
  | succ w ih =>
    intro i h
    rw [kpF_s, if_pos (h i (Nat.le_refl _) (by omega)), ih (i + 1) (fun j h1 h2 => h j (by omega) (by omega)), sg_cons (f := f) (x := i) (y := i + (w + 1)) (by omega), show i + 1 + w = i + (w + 1) by omega]
theorem kpF_f {f : Nat → Int} {K : Nat → Bool} : ∀ (w i : Nat), (∀ j, i ≤ j → j < i + w → K j = false) → kpF f K w i = [] := by
  intro w
  induction w with
  | zero => intro i _; rfl
  | succ w ih =>
    intro i h
    rw [kpF_s, h i (Nat.le_refl _) (by omega), if_neg (by decide), ih (i + 1) (fun j h1 h2 => h j (by omega) (by omega))]
def kpB (x : Int) (p q r : Nat) (i : Nat) : Bool := if p < i ∧ i < q then decide (x = 1 ∨ x = 3) else if q < i ∧ i < r then decide (2 ≤ x) else decide (i < p ∨ r < i)
/-- the lines that stay -/
def rsL (f : Nat → Int) (x : Int) (n p q r : Nat) : List Int := sg f 0 p ++ ((if x = 1 ∨ x = 3 then sg f (p + 1) q else []) ++ ((if x = 2 ∨ x = 3 then sg f (q + 1) r else []) ++ sg f (r + 1) n))
theorem kp_rs {f : Nat → Int} {x : Int} {n p q r : Nat} (hx : 1 ≤ x ∧ x ≤ 3) (h1 : p < q) (h2 : q < r) (h3 : r < n) : kpF f (kpB x p q r) n 0 = rsL f x n p q r := by
  have e0 : kpF f (kpB x p q r) p 0 = sg f 0 p := by
    have := kpF_t (f := f) (K := kpB x p q r) p 0 (fun j a b => by
      unfold kpB
      rw [if_neg (by omega), if_neg (by omega)]
      exact decide_eq_true (by omega))
    rw [Nat.zero_add] at this
    exact this
  have e1 : kpF f (kpB x p q r) 1 p = [] := kpF_f 1 p (fun j a b => by
    unfold kpB
    rw [if_neg (by omega), if_neg (by omega)]
    exact decide_eq_false (by omega))
  have e2 : kpF f (kpB x p q r) (q - (p + 1)) (p + 1) = (if x = 1 ∨ x = 3 then sg f (p + 1) q else []) := by
    by_cases z : x = 1 ∨ x = 3
    · rw [if_pos z]
      have := kpF_t (f := f) (K := kpB x p q r) (q - (p + 1)) (p + 1) (fun j a b => by
        unfold kpB
        rw [if_pos (by omega)]
        exact decide_eq_true z)
      rw [show p + 1 + (q - (p + 1)) = q by omega] at this
      exact this
    · rw [if_neg z]
      exact kpF_f _ _ (fun j a b => by
        unfold kpB
        rw [if_pos (by omega)]
        exact decide_eq_false z)
  have e3 : kpF f (kpB x p q r) 1 q = [] := kpF_f 1 q (fun j a b => by
    unfold kpB
    rw [if_neg (by omega), if_neg (by omega)]
    exact decide_eq_false (by omega))
  have e4 : kpF f (kpB x p q r) (r - (q + 1)) (q + 1) = (if x = 2 ∨ x = 3 then sg f (q + 1) r else []) := by
    by_cases z : x = 2 ∨ x = 3
    · rw [if_pos z]
      have := kpF_t (f := f) (K := kpB x p q r) (r - (q + 1)) (q + 1) (fun j a b => by
        unfold kpB
        rw [if_neg (by omega), if_pos (by omega)]
        exact decide_eq_true (by omega))
      rw [show q + 1 + (r - (q + 1)) = r by omega] at this
      exact this
    · rw [if_neg z]
      exact kpF_f _ _ (fun j a b => by
        unfold kpB
        rw [if_neg (by omega), if_pos (by omega)]
        exact decide_eq_false (by omega))
  have e5 : kpF f (kpB x p q r) 1 r = [] := kpF_f 1 r (fun j a b => by
    unfold kpB
    rw [if_neg (by omega), if_neg (by omega)]
    exact decide_eq_false (by omega))
  have e6 : kpF f (kpB x p q r) (n - (r + 1)) (r + 1) = sg f (r + 1) n := by
    have := kpF_t (f := f) (K := kpB x p q r) (n - (r + 1)) (r + 1) (fun j a b => by
      unfold kpB
      rw [if_neg (by omega), if_neg (by omega)]
      exact decide_eq_true (by omega))
    rw [show r + 1 + (n - (r + 1)) = n by omega] at this
    exact this
  have s := kpF_add (f := f) (K := kpB x p q r)
  rw [show n = p + (1 + ((q - (p + 1)) + (1 + ((r - (q + 1)) + (1 + (n - (r + 1))))))) by omega, s, s, s, s, s, s, Nat.zero_add, show p + 1 + (q - (p + 1)) = q by omega, show q + 1 + (r - (q + 1)) = r by omega, e0, e1, e2, e3, e4, e5, e6, List.nil_append, List.nil_append, List.nil_append]
  unfold rsL
  rw [show p + (1 + ((q - (p + 1)) + (1 + ((r - (q + 1)) + (1 + (n - (r + 1))))))) = n by omega]
theorem l339b {t n : Nat} {f : Nat → Int} (ht : t < 4) (h16 : n ≤ 16) {d2 d4 : Option AV} {x : Int} (hx : 1 ≤ x ∧ x ≤ 3) {p q r : Nat} : ∀ (w i : Nat) (d9 : Option AV) (σ : Sg) (m : List Int), i + w = n → σ 684 t = (n : Nat) → (∀ i, i < n → σ 683 (16 * t + i) = f i) → Rm σ m → m.length ≤ i → ∃ s, C339_132 t d2 x d4 p q r i d9 σ (rI ((m ++ kpF f (kpB x p q r) w i).length : Nat) s) ∧ s 684 t = ((m ++ kpF f (kpB x p q r) w i).length : Nat) ∧ (∀ k v, (m ++ kpF f (kpB x p q r) w i)[k]? = some v → s 683 (16 * t + k) = v) ∧ ∀ c k, ¬ (c = 683 ∧ 16 * t ≤ k ∧ k < 16 * t + 16) → ¬ (c = 684 ∧ k = t) → ¬ c = 705 → ¬ (c = 682 ∧ k = 32) → s c k = σ c k := by
  intro w
  induction w with
  | zero =>
    intro i d9 σ m h hn hf hm hl
    obtain ⟨s, g1, g2, g3, g4, g5⟩ := d325 ht hm (by omega)
    rw [show kpF f (kpB x p q r) 0 i = [] from rfl, List.append_nil]
    refine ⟨s, b339_132 ⟨by omega, ?_⟩, g2, g3, fun c k q1 q2 _ _ => g5 c k q1 q2⟩
    rw [show ((t : Int)).toNat = t by omega, if_neg (by omega)]
    exact ⟨_, g1, by rw [g4]⟩
  | succ w ih =>
    intro i d9 σ m h hn hf hm hl
    have step : ∀ b : Bool, kpB x p q r i = b → (∀ {o : Rs}, C339_218 t d2 x d4 p q r i d9 (if b then 1 else 0) σ o → C339_132 t d2 x d4 p q r i d9 σ o) → ∃ s, C339_132 t d2 x d4 p q r i d9 σ (rI ((m ++ kpF f (kpB x p q r) (w + 1) i).length : Nat) s) ∧ s 684 t = ((m ++ kpF f (kpB x p q r) (w + 1) i).length : Nat) ∧ (∀ k v, (m ++ kpF f (kpB x p q r) (w + 1) i)[k]? = some v → s 683 (16 * t + k) = v) ∧ ∀ c k, ¬ (c = 683 ∧ 16 * t ≤ k ∧ k < 16 * t + 16) → ¬ (c = 684 ∧ k = t) → ¬ c = 705 → ¬ (c = 682 ∧ k = 32) → s c k = σ c k := by
      intro b hb go
      rw [kpF_s, hb]
      cases b with
      | false =>
        rw [if_neg (by decide)]
        obtain ⟨s, g1, g2, g3, g4⟩ := ih (i + 1) (some (vI 0)) σ m (by omega) hn hf hm (by omega)
        refine ⟨s, go (b339_218 ?_), g2, g3, g4⟩
        rw [if_neg (show ¬ false = true by decide), if_pos rfl]
        refine b339_241 ⟨by omega, ?_⟩
        rw [show (i : Int) + 1 = ((i + 1 : Nat) : Int) by omega]
        exact g1
      | true =>
        rw [if_pos rfl]
        obtain ⟨s1, f1, f2, f3⟩ := d319 (v := f i) hm (by omega)
        obtain ⟨s, g1, g2, g3, g4⟩ := ih (i + 1) (some (vI 1)) s1 (m ++ [f i]) (by omega) (by rw [f3 _ _ (by decide) (by omega)]; exact hn) (fun j hj => by rw [f3 _ _ (by decide) (by omega)]; exact hf j hj) f2 (by rw [List.length_append]; simp; omega)
        rw [List.append_assoc] at g1 g2 g3
        refine ⟨s, go (b339_218 ?_), g2, g3, fun c k q1 q2 q3 q4 => by rw [g4 c k q1 q2 q3 q4, f3 c k q3 q4]⟩
        rw [if_pos rfl, if_neg (show ¬ (1 : Int) = 0 by decide), show (16 * (t : Int) + (i : Int)).toNat = 16 * t + i by omega, hf i (by omega)]
        refine ⟨by omega, by omega, by omega, _, f1, b339_241 ⟨by omega, ?_⟩⟩
        rw [show (i : Int) + 1 = ((i + 1 : Nat) : Int) by omega]
        exact g1
    have base : ∀ {o : Rs}, (if (p : Int) < i then (if (i : Int) < q then C339_218 t d2 x d4 p q r i d9 (if (Int.tmod x 2) = 1 then 1 else 0) σ o else C339_172 t d2 x d4 p q r i d9 σ o) else C339_172 t d2 x d4 p q r i d9 σ o) → C339_132 t d2 x d4 p q r i d9 σ o := by
      intro o hh
      refine b339_132 ⟨by omega, ?_⟩
      rw [show ((t : Int)).toNat = t by omega, if_pos (by omega)]
      exact hh
    have hodd : (Int.tmod x 2 = 1) ↔ (x = 1 ∨ x = 3) := by
      rw [tm (by omega)]
      omega
    by_cases z1 : p < i ∧ i < q
    · refine step (decide (x = 1 ∨ x = 3)) (by unfold kpB; rw [if_pos z1]) (fun hh => base ?_)
      rw [if_pos (by omega), if_pos (by omega)]
      by_cases y : x = 1 ∨ x = 3
      · rw [decide_eq_true y, if_pos rfl] at hh
        rw [if_pos (hodd.mpr y)]
        exact hh
      · rw [decide_eq_false y, if_neg (by decide)] at hh
        rw [if_neg (fun e => y (hodd.mp e))]
        exact hh
    · have to172 : ∀ {o : Rs}, C339_172 t d2 x d4 p q r i d9 σ o → C339_132 t d2 x d4 p q r i d9 σ o := by
        intro o hh
        refine base ?_
        by_cases y1 : (p : Int) < i
        · rw [if_pos y1, if_neg (by omega)]; exact hh
        · rw [if_neg y1]; exact hh
      by_cases z2 : q < i ∧ i < r
      · refine step (decide (2 ≤ x)) (by unfold kpB; rw [if_neg z1, if_pos z2]) (fun hh => to172 (b339_172 ?_))
        rw [if_pos (by omega), if_pos (by omega)]
        by_cases y : 2 ≤ x
        · rw [decide_eq_true y, if_pos rfl] at hh
          rw [if_pos y]
          exact hh
        · rw [decide_eq_false y, if_neg (by decide)] at hh
          rw [if_neg y]
          exact hh
      · have to199 : ∀ {o : Rs}, C339_199 t d2 x d4 p q r i d9 σ o → C339_132 t d2 x d4 p q r i d9 σ o := by
          intro o hh
          refine to172 (b339_172 ?_)
          by_cases y1 : (q : Int) < i
          · rw [if_pos y1, if_neg (by omega)]; exact hh
          · rw [if_neg y1]; exact hh
        refine step (decide (i < p ∨ r < i)) (by unfold kpB; rw [if_neg z1, if_neg z2]) (fun hh => to199 (b339_199 ?_))
        by_cases y1 : (p : Int) ≤ i
        · rw [if_pos y1]
          by_cases y2 : (r : Int) < i
          · rw [decide_eq_true (by omega), if_pos rfl] at hh
            rw [if_pos y2]
            exact b339_213 hh
          · rw [decide_eq_false (by omega), if_neg (by decide)] at hh
            rw [if_neg y2]
            exact hh
        · rw [decide_eq_true (by omega), if_pos rfl] at hh
          rw [if_neg y1]
          exact b339_213 hh
end
