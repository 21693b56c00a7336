/-! Conflicts in a text: marks, how many there are. -/
noncomputable section
def nmF (f : Nat → Int) (n : Nat) : Nat → Nat → Nat
  | 0, i => i
  | w + 1, i => if i < n then (if mkP (f i) then i else nmF f n w (i + 1)) else i
theorem nmF_s {f : Nat → Int} {n w i : Nat} : nmF f n (w + 1) i = if i < n then (if mkP (f i) then i else nmF f n w (i + 1)) else i := rfl
def nm (f : Nat → Int) (n i : Nat) : Nat := nmF f n n (i + 1)
theorem nmF_ge {f : Nat → Int} {n : Nat} : ∀ (w i : Nat), i ≤ nmF f n w i := by
  intro w
  induction w with
  | zero => intro i; exact Nat.le_refl _
  | succ w ih =>
    intro i
    rw [nmF_s]
    split
    · split
      · exact Nat.le_refl _
      · have := ih (i + 1); omega
    · exact Nat.le_refl _
theorem nmF_le {f : Nat → Int} {n : Nat} : ∀ (w i : Nat), i ≤ n → nmF f n w i ≤ n := by
  intro w
  induction w with
  | zero => intro i h; exact h
  | succ w ih =>
    intro i h
    rw [nmF_s]
    split
    · split
      · omega
      · exact ih (i + 1) (by omega)
    · exact h
theorem nm_ge {f : Nat → Int} {n i : Nat} : i < nm f n i := nmF_ge (f := f) n (i + 1)
theorem nm_le {f : Nat → Int} {n i : Nat} (h : i < n) : nm f n i ≤ n := nmF_le n (i + 1) h
def fat (f : Nat → Int) (n i : Nat) : Int := if i < n then f i else -1
abbrev cfP (f : Nat → Int) (n p : Nat) : Prop := fat f n p = 50001 ∧ fat f n (nm f n p) = 50002 ∧ fat f n (nm f n (nm f n p)) = 50003
theorem fat_lt {f : Nat → Int} {n i : Nat} {v : Int} (hv : 0 < v) (h : fat f n i = v) : i < n := by
  unfold fat at h
  by_cases hi : i < n
  · exact hi
  · rw [if_neg hi] at h; omega
def cnF (f : Nat → Int) (n : Nat) : Nat → Nat → Nat
  | 0, _ => 0
  | w + 1, i => (if cfP f n i then 1 else 0) + cnF f n w (i + 1)
theorem cnF_s {f : Nat → Int} {n w i : Nat} : cnF f n (w + 1) i = (if cfP f n i then 1 else 0) + cnF f n w (i + 1) := rfl
theorem cnF_le {f : Nat → Int} {n : Nat} : ∀ (w i : Nat), cnF f n w i ≤ w := by
  intro w
  induction w with
  | zero => intro i; exact Nat.le_refl _
  | succ w ih =>
    intro i
    have := ih (i + 1)
    rw [cnF_s]
    split <;> omega
section
variable {a n : Nat} {σ : Sg} {f : Nat → Int}
theorem l84 (w : wR σ a) (hn : σ a 1 = (n : Nat)) (hf : ∀ i, i < n → σ (a + 1) i = f i) {d1 : Option AV} : ∀ (k i : Nat), n ≤ i + k → C84_4 a d1 i σ (rI (nmF f n k i : Nat) σ) := by
  have hc := cap_le w.1
  have w2 := w.2.2
  intro k
  induction k with
  | zero =>
    intro i h
    refine b84_4 w.1 ⟨_, _, d146 w.1, ?_⟩
    rw [if_neg (by omega)]
    rfl
  | succ k ih =>
    intro i h
    refine b84_4 w.1 ⟨_, _, d146 w.1, ?_⟩
    by_cases h1 : i < n
    · rw [if_pos (by omega)]
      have e : atS σ a (i : Int) = f i := by
        unfold atS
        rw [if_pos (by omega), show ((i : Int)).toNat = i by omega]
        exact hf i h1
      have d := d147 (i := (i : Int)) w
      rw [e] at d
      refine ⟨_, _, d, _, _, d66, ?_⟩
      by_cases h2 : mkP (f i)
      · rw [if_pos h2, if_neg (show ¬ (1 : Int) = 0 by decide)]
        have e2 : nmF f n (k + 1) i = i := by rw [nmF_s, if_pos h1, if_pos h2]
        exact congrArg (fun z : Nat => rI (z : Int) σ) e2
      · rw [if_neg h2, if_pos rfl]
        refine ⟨by omega, ?_⟩
        have e2 : nmF f n (k + 1) i = nmF f n k (i + 1) := by rw [nmF_s, if_pos h1, if_neg h2]
        rw [e2, show (i : Int) + 1 = ((i + 1 : Nat) : Int) by omega]
        exact ih (i + 1) (by omega)
    · rw [if_neg (by omega)]
      have e2 : nmF f n (k + 1) i = i := by rw [nmF_s, if_neg h1]
      exact congrArg (fun z : Nat => rI (z : Int) σ) e2
theorem d84 (w : wR σ a) (hn : σ a 1 = (n : Nat)) (hf : ∀ i, i < n → σ (a + 1) i = f i) {i : Nat} (hi : i ≤ 5000) : Dd 84 [vA a, vI i] σ (rI (nm f n i : Nat) σ) := by
  have e := l84 w hn hf (d1 := some (vI i)) n (i + 1) (by omega)
  rw [show (((i + 1 : Nat)) : Int) = (i : Int) + 1 by omega] at e
  exact b84 ⟨by omega, e⟩
theorem d147f (w : wR σ a) (hn : σ a 1 = (n : Nat)) (hf : ∀ i, i < n → σ (a + 1) i = f i) {i : Nat} : Dd 147 [vA a, vI i] σ (rI (fat f n i) σ) := by
  have d := d147 (i := (i : Int)) w
  have e : atS σ a (i : Int) = fat f n i := by
    unfold atS fat
    by_cases h1 : i < n
    · rw [if_pos (by omega), if_pos h1, show ((i : Int)).toNat = i by omega]
      exact hf i h1
    · rw [if_neg (by omega), if_neg h1]
  rw [e] at d
  exact d
theorem d83 (w : wR σ a) (hn : σ a 1 = (n : Nat)) (hf : ∀ i, i < n → σ (a + 1) i = f i) {p : Nat} (hp : p < n) : Dd 83 [vA a, vI p] σ (rI (if cfP f n p then 1 else 0) σ) := by
  have hc := cap_le w.1
  have w2 := w.2.2
  have h1 := nm_le (f := f) hp
  refine b83 w.1 ⟨_, _, d84 w hn hf (by omega), _, _, d84 w hn hf (by omega), _, _, d147f w hn hf, ?_⟩
  by_cases e1 : fat f n p = 50001
  · rw [if_pos e1]
    refine ⟨_, _, d147f w hn hf, ?_⟩
    by_cases e2 : fat f n (nm f n p) = 50002
    · rw [if_pos e2]
      refine ⟨_, _, d147f w hn hf, ?_⟩
      by_cases e3 : fat f n (nm f n (nm f n p)) = 50003
      · rw [if_pos e3, if_pos ⟨e1, e2, e3⟩]
      · rw [if_neg e3, if_neg (fun e => e3 e.2.2)]
    · rw [if_neg e2, if_neg (fun e => e2 e.2.1)]
  · rw [if_neg e1, if_neg (fun e => e1 e.1)]
theorem l82 (w : wR σ a) (hn : σ a 1 = (n : Nat)) (hf : ∀ i, i < n → σ (a + 1) i = f i) {d0 : Option AV} : ∀ (k i x : Nat), i + k = n → x ≤ i → C82_4 d0 a x i σ (rI ((x + cnF f n k i : Nat) : Int) σ) := by
  have hc := cap_le w.1
  have w2 := w.2.2
  intro k
  induction k with
  | zero =>
    intro i x h hx
    refine b82_4 w.1 ⟨_, _, d146 w.1, ?_⟩
    rw [if_neg (by omega)]
    rfl
  | succ k ih =>
    intro i x h hx
    refine b82_4 w.1 ⟨_, _, d146 w.1, ?_⟩
    rw [if_pos (by omega)]
    refine ⟨_, _, d83 w hn hf (by omega), fun _ => by omega, b82_23 ⟨by omega, ?_⟩⟩
    rw [cnF_s]
    by_cases h1 : cfP f n i
    · have e := ih (i + 1) (x + 1) (by omega) (by omega)
      rw [if_pos h1, if_neg (show ¬ (1 : Int) = 0 by decide), if_pos h1, show x + (1 + cnF f n k (i + 1)) = x + 1 + cnF f n k (i + 1) by omega]
      rw [show (((i + 1 : Nat)) : Int) = (i : Int) + 1 by omega, show (((x + 1 : Nat)) : Int) = (x : Int) + 1 by omega] at e
      exact e
    · have e := ih (i + 1) x (by omega) (by omega)
      rw [if_neg h1, if_pos rfl, if_neg h1, Nat.zero_add]
      rw [show (((i + 1 : Nat)) : Int) = (i : Int) + 1 by omega] at e
      exact e
theorem d82 (w : wR σ a) (hn : σ a 1 = (n : Nat)) (hf : ∀ i, i < n → σ (a + 1) i = f i) : Dd 82 [vA 399, vA a] σ (rI (cnF f n n 0 : Nat) σ) := by
  have e := l82 w hn hf (d0 := some (vA 399)) n 0 0 (by omega) (by omega)
  rw [Nat.zero_add] at e
  exact b82 e
end
section
variable {t n : Nat} {σ : Sg} {f : Nat → Int}
theorem l334 (ht : t < 4) (hn : σ 684 t = (n : Nat)) (h16 : n ≤ 16) (hf : ∀ i, i < n → σ 683 (16 * t + i) = f i) {d2 : Option AV} : ∀ (k i : Nat), n ≤ i + k → i ≤ 100 → C334_4 t d2 i σ (rI (nmF f n k i : Nat) σ) := by
  intro k
  induction k with
  | zero =>
    intro i h h1
    refine b334_4 ⟨by omega, ?_⟩
    rw [show ((t : Int)).toNat = t by omega, if_neg (by omega)]
    rfl
  | succ k ih =>
    intro i h h9
    refine b334_4 ⟨by omega, ?_⟩
    rw [show ((t : Int)).toNat = t by omega]
    by_cases h1 : i < n
    · rw [if_pos (by omega), show (16 * (t : Int) + (i : Int)).toNat = 16 * t + i by omega, hf i h1]
      refine ⟨by omega, by omega, by omega, _, _, d249, ?_⟩
      by_cases h2 : mkP (f i)
      · rw [if_pos h2, if_neg (show ¬ (1 : Int) = 0 by decide)]
        have e2 : nmF f n (k + 1) i = i := by rw [nmF_s, if_pos h1, if_pos h2]
        exact congrArg (fun z : Nat => rI (z : Int) σ) e2
      · rw [if_neg h2, if_pos rfl]
        refine ⟨by omega, ?_⟩
        have e2 : nmF f n (k + 1) i = nmF f n k (i + 1) := by rw [nmF_s, if_pos h1, if_neg h2]
        rw [e2, show (i : Int) + 1 = ((i + 1 : Nat) : Int) by omega]
        exact ih (i + 1) (by omega) (by omega)
    · rw [if_neg (by omega)]
      have e2 : nmF f n (k + 1) i = i := by rw [nmF_s, if_neg h1]
      exact congrArg (fun z : Nat => rI (z : Int) σ) e2
theorem d334 (ht : t < 4) (hn : σ 684 t = (n : Nat)) (h16 : n ≤ 16) (hf : ∀ i, i < n → σ 683 (16 * t + i) = f i) {i : Nat} (hi : i ≤ 50) : Dd 334 [vA 682, vI t, vI i] σ (rI (nm f n i : Nat) σ) := by
  have e := l334 ht hn h16 hf (d2 := some (vI i)) n (i + 1) (by omega) (by omega)
  rw [show (((i + 1 : Nat)) : Int) = (i : Int) + 1 by omega] at e
  exact b334 ⟨by omega, e⟩
theorem d335 (ht : t < 4) (hn : σ 684 t = (n : Nat)) (h16 : n ≤ 16) (hf : ∀ i, i < n → σ 683 (16 * t + i) = f i) {i : Nat} {v : Int} (hv : 0 < v) : Dd 335 [vA 682, vI t, vI i, vI v] σ (rI (if fat f n i = v then 1 else 0) σ) := by
  refine b335 ?_
  rw [show ((t : Int)).toNat = t by omega, show (16 * (t : Int) + (i : Int)).toNat = 16 * t + i by omega]
  refine ⟨by omega, fun _ => by omega, fun _ => by omega, fun _ => by omega, ?_⟩
  unfold fat
  by_cases h1 : i < n
  · rw [if_pos h1, if_pos (show (i : Int) < σ 684 t by omega), hf i h1]
  · rw [if_neg h1, if_neg (show ¬ (i : Int) < σ 684 t by omega), if_neg (show ¬ (-1 : Int) = v by omega)]
theorem d336 (ht : t < 4) (hn : σ 684 t = (n : Nat)) (h16 : n ≤ 16) (hf : ∀ i, i < n → σ 683 (16 * t + i) = f i) {p : Nat} (hp : p < n) : Dd 336 [vA 682, vI t, vI p] σ (rI (if cfP f n p then 1 else 0) σ) := by
  have h1 := nm_le (f := f) hp
  refine b336 ⟨_, _, d334 ht hn h16 hf (by omega), _, _, d335 ht hn h16 hf (by decide), ?_⟩
  by_cases e1 : fat f n p = 50001
  · rw [if_pos e1, if_neg (show ¬ (1 : Int) = 0 by decide)]
    refine ⟨_, _, d335 ht hn h16 hf (by decide), ?_⟩
    by_cases e2 : fat f n (nm f n p) = 50002
    · rw [if_pos e2, if_neg (show ¬ (1 : Int) = 0 by decide)]
      refine ⟨_, _, d334 ht hn h16 hf (by omega), _, _, d335 ht hn h16 hf (by decide), ?_⟩
      by_cases e3 : fat f n (nm f n (nm f n p)) = 50003
      · rw [if_pos e3, if_neg (show ¬ (1 : Int) = 0 by decide), if_pos ⟨e1, e2, e3⟩]
      · rw [if_neg e3, if_pos rfl, if_neg (fun e => e3 e.2.2)]
    · rw [if_neg e2, if_pos rfl, if_neg (fun e => e2 e.2.1)]
  · rw [if_neg e1, if_pos rfl, if_neg (fun e => e1 e.1)]
theorem l337 (ht : t < 4) (hn : σ 684 t = (n : Nat)) (h16 : n ≤ 16) (hf : ∀ i, i < n → σ 683 (16 * t + i) = f i) : ∀ (k i x : Nat), i + k = n → x ≤ i → C337_4 t x i σ (rI ((x + cnF f n k i : Nat) : Int) σ) := by
  intro k
  induction k with
  | zero =>
    intro i x h hx
    refine b337_4 ⟨by omega, ?_⟩
    rw [show ((t : Int)).toNat = t by omega, if_neg (by omega)]
    rfl
  | succ k ih =>
    intro i x h hx
    refine b337_4 ⟨by omega, ?_⟩
    rw [show ((t : Int)).toNat = t by omega, if_pos (by omega)]
    refine ⟨_, _, d336 ht hn h16 hf (by omega), b337_29 ?_⟩
    rw [cnF_s]
    by_cases h1 : cfP f n i
    · have e := ih (i + 1) (x + 1) (by omega) (by omega)
      rw [if_pos h1, if_neg (show ¬ (1 : Int) = 0 by decide), if_pos h1, show x + (1 + cnF f n k (i + 1)) = x + 1 + cnF f n k (i + 1) by omega]
      rw [show (((i + 1 : Nat)) : Int) = (i : Int) + 1 by omega, show (((x + 1 : Nat)) : Int) = (x : Int) + 1 by omega] at e
      exact ⟨by omega, by omega, e⟩
    · have e := ih (i + 1) x (by omega) (by omega)
      rw [if_neg h1, if_pos rfl, if_neg h1, Nat.zero_add]
      rw [show (((i + 1 : Nat)) : Int) = (i : Int) + 1 by omega] at e
      refine ⟨by omega, by omega, ?_⟩
      rw [Int.add_zero]
      exact e
theorem d337 (ht : t < 4) (hn : σ 684 t = (n : Nat)) (h16 : n ≤ 16) (hf : ∀ i, i < n → σ 683 (16 * t + i) = f i) : Dd 337 [vA 682, vI t] σ (rI (cnF f n n 0 : Nat) σ) := by
  have e := l337 ht hn h16 hf n 0 0 (by omega) (by omega)
  rw [Nat.zero_add] at e
  exact b337 e
end
/-- both sides of a text that the relation holds together -/
theorem cf_two {σ : Sg} {c : Int} {t : Nat} (H : Rel c σ) (ht : t < 4) : ∃ n : Nat, n ≤ 16 ∧ σ (2 + 2 * t) 1 = (n : Nat) ∧ σ 684 t = (n : Nat) ∧ wR σ (2 + 2 * t) ∧ ∀ i, i < n → σ 683 (16 * t + i) = σ (2 + 2 * t + 1) i := by
  obtain ⟨r1, r2, r3⟩ := rel_t H (t := (t : Int)) (by omega)
  have hr := (el_1 (i := (t : Int)) (by omega)).2
  rw [show ((t : Int)).toNat = t by omega] at r1 r2 r3 hr
  obtain ⟨n, hn⟩ := Int.eq_ofNat_of_zero_le r2
  have q := (H.2.2.1 t ht).1.2
  exact ⟨n, by omega, hn, by omega, WF_w H.1 hr, fun i hi => (q i (by omega)).symm⟩
theorem o26 {σ : Sg} {c a1 : Int} (H : Rel c σ) : OpR 415 338 [vA 0, vI a1, vA 726] [vA 682, vI a1] σ (c + 1) := by
  by_cases g1 : a1 < 0
  · exact x26_0 H g1
  by_cases g2 : 4 ≤ a1
  · exact x26_1 H g2
  have k1 : 0 ≤ a1 ∧ a1 < 4 := by omega
  obtain ⟨t, rfl⟩ := Int.eq_ofNat_of_zero_le k1.1
  obtain ⟨n, h16, hn, hm, w, hf⟩ := cf_two H (t := t) (by omega)
  have e227 := d227_ok (σ := σ) k1
  rw [show ((t : Int)).toNat = t by omega] at e227
  have dA := d82 (f := fun i => σ (2 + 2 * t + 1) i) w hn (fun i _ => rfl)
  refine op_q H (b415 (Or.inl ⟨_, _, b198 (Or.inl ⟨_, _, e227, w.1, _, _, dA, rfl⟩), rfl⟩)) ?_
  refine b338 ⟨_, _, d247_ok k1, ?_⟩
  rw [if_neg (show ¬ (1 : Int) = 0 by decide)]
  refine b338_13 ⟨_, _, d245, ?_⟩
  rw [if_pos rfl, if_neg (show ¬ (1 : Int) = 0 by decide)]
  exact ⟨_, _, d337 (by omega) (by rw [up_a (by decide), up_a (by decide)]; exact hm) h16 (fun i hi => by rw [up_a (by decide), up_a (by decide)]; exact hf i hi), rfl⟩
end
