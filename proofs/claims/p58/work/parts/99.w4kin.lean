/-! movedTo, both sides. -/
noncomputable section
/-- the lines ahead -/
theorem l314a {σ0 : Sg} {s nb na p hp h x : Nat} {O N F K : Nat → Int} {l : List St} {o d n a o' d' n' a' : Nat} (C : CXK σ0 s nb na p hp O N F K l o d n a) (hq : l[h]? = some (o', d', n', a')) (hx : n' ≤ x ∧ x < n' + a') {x4 x5 x6 x7 : Int} : ∀ (w k : Nat) (σ : Sg), k + w = rAh O N F K nb na p x → k + o ≤ p → k + n' ≤ x → Sm σ0 σ → Zl σ → ∃ σ', Sm σ0 σ' ∧ Zl σ' ∧ ∀ {u : Rs}, (∀ d14 d15 : Option AV, C314_146 s p hp x4 x5 x6 x7 h x (rAh O N F K nb na p x : Nat) 0 0 1 d14 d15 σ' u) → ∀ d14 d15 : Option AV, C314_86 s p hp x4 x5 x6 x7 h x k 0 0 1 d14 d15 σ u := by
  intro w
  have CC := C
  obtain ⟨c1, c2, c3, c4, c5, c6, c7, c8, c9, c10, c11, c12, c13, c14⟩ := C
  obtain ⟨e1, e2, e3, e4, e5, e6, e7⟩ := DS_nb c8 c9 c12
  obtain ⟨f1, f2, f3, f4, f5, f6, f7⟩ := DS_nb c8 c9 hq
  have hlp := (List.getElem?_eq_some_iff.mp c12).1
  have hlh := (List.getElem?_eq_some_iff.mp hq).1
  have vals : ∀ {σ : Sg}, Sm σ0 σ → σ 700 hp = (o : Nat) ∧ σ 702 h = (n' : Nat) := fun {σ} sm => by
    obtain ⟨v0, -⟩ := HK_at c6 c12
    obtain ⟨-, -, v2, -⟩ := HK_at c6 hq
    exact ⟨by rw [sm _ _ (by decide)]; exact v0, by rw [sm _ _ (by decide)]; exact v2⟩
  have ab := rA_b (O := O) (N := N) (F := F) (K := K) (nb := nb) (na := na) (i := p) (n := x)
  induction w with
  | zero =>
    intro k σ hk hk1 hk2 sm Z
    have ek : k = rAh O N F K nb na p x := by omega
    obtain ⟨w0, w2⟩ := vals sm
    by_cases y : o < p - k ∧ n' < x - k
    · obtain ⟨σ1, g1, g2, g3⟩ := d313 (s := s) (i := p - k - 1) (n := x - k - 1) c1 (Sm_S sm c5) (by omega) (by omega) (by omega) (by omega) c10 c11 Z
      refine ⟨σ1, Sm_t sm g3, g2, fun {u} hu d14 d15 => b314_86 ?_⟩
      rw [if_neg (show ¬ (1 : Int) = 0 by decide), tn, w0, tn, w2]
      refine ⟨by omega, by omega, ?_⟩
      rw [if_pos (by omega)]
      refine ⟨by omega, by omega, ?_⟩
      rw [if_pos (by omega), show (p : Int) - (k : Int) - 1 = ((p - k - 1 : Nat) : Int) by omega, show (x : Int) - (k : Int) - 1 = ((x - k - 1 : Nat) : Int) by omega]
      have hno : ¬ 50 ≤ lik (O (p - k - 1)) (N (x - k - 1)) := fun hy => by
        have t1 := (kn_in CC hq (i := p - k - 1) (j := x - k - 1) ⟨by omega, by omega⟩ ⟨by omega, by omega⟩).mpr hy
        have t2 := mt_n (p := fun r => knI O N F K nb na ((p : Int) - (r : Nat) - 1) ((x : Int) - (r : Nat) - 1)) (n := p) (show rAh O N F K nb na p x < p by omega)
        have t2 : knI O N F K nb na ((p : Int) - (k : Nat) - 1) ((x : Int) - (k : Nat) - 1) = false := by rw [ek]; exact t2
        rw [knI_i.mpr ⟨by omega, by omega, by rw [show ((p : Int) - (k : Int) - 1).toNat = p - k - 1 by omega, show ((x : Int) - (k : Int) - 1).toNat = x - k - 1 by omega]; exact t1⟩] at t2
        cases t2
      rw [if_neg hno] at g1
      refine ⟨by omega, by omega, by omega, by omega, _, _, g1, ?_⟩
      rw [if_pos rfl, ek]
      exact hu _ _
    · refine ⟨σ, sm, Z, fun {u} hu d14 d15 => b314_86 ?_⟩
      rw [if_neg (show ¬ (1 : Int) = 0 by decide), tn, w0, tn, w2]
      refine ⟨by omega, by omega, ?_⟩
      by_cases y1 : o < p - k
      · rw [if_pos (by omega)]
        refine ⟨by omega, by omega, ?_⟩
        rw [if_neg (by omega), ek]
        exact hu _ _
      · rw [if_neg (by omega), ek]
        exact hu _ _
  | succ w ih =>
    intro k σ hk hk1 hk2 sm Z
    obtain ⟨w0, w2⟩ := vals sm
    have kn := ab.2.2 k (by omega)
    have kk := knB_i.mp kn
    -- the hunks go on ahead
    have y1 : o < p - k := by
      by_cases y : o < p - k
      · exact y
      · exfalso
        have e : p - k - 1 = o - 1 := by omega
        exact e1 (by omega) (by rw [← e]; exact kk.2.2.2.1)
    have y2 : n' < x - k := by
      by_cases y : n' < x - k
      · exact y
      · exfalso
        have e : x - k - 1 = n' - 1 := by omega
        exact f2 (by omega) (by rw [← e]; exact kk.2.2.2.2.1)
    obtain ⟨σ1, g1, g2, g3⟩ := d313 (s := s) (i := p - k - 1) (n := x - k - 1) c1 (Sm_S sm c5) (by omega) (by omega) (by omega) (by omega) c10 c11 Z
    rw [if_pos kk.2.2.2.2.2] at g1
    obtain ⟨σ', a1, a2, a3⟩ := ih (k + 1) σ1 (by omega) (by omega) (by omega) (Sm_t sm g3) g2
    refine ⟨σ', a1, a2, fun {u} hu d14 d15 => b314_86 ?_⟩
    rw [if_neg (show ¬ (1 : Int) = 0 by decide), tn, w0, tn, w2]
    refine ⟨by omega, by omega, ?_⟩
    rw [if_pos (by omega)]
    refine ⟨by omega, by omega, ?_⟩
    rw [if_pos (by omega), show (p : Int) - (k : Int) - 1 = ((p - k - 1 : Nat) : Int) by omega, show (x : Int) - (k : Int) - 1 = ((x - k - 1 : Nat) : Int) by omega]
    refine ⟨by omega, by omega, by omega, by omega, _, _, g1, ?_⟩
    rw [if_neg (show ¬ (1 : Int) = 0 by decide), show (k : Int) + 1 = ((k + 1 : Nat) : Int) by omega]
    exact ⟨by omega, a3 hu _ _⟩
/-- the lines behind -/
theorem l314b {σ0 : Sg} {s nb na p hp h x : Nat} {O N F K : Nat → Int} {l : List St} {o d n a o' d' n' a' : Nat} (C : CXK σ0 s nb na p hp O N F K l o d n a) (hq : l[h]? = some (o', d', n', a')) (hx : n' ≤ x ∧ x < n' + a') {x4 x5 x6 x7 : Int} {A : Nat} : ∀ (w k : Nat) (σ : Sg), k + w = rBe O N F K nb na p x → p + k < o + d → x + k < n' + a' → Sm σ0 σ → Zl σ → ∃ σ', Sm σ0 σ' ∧ Zl σ' ∧ ∀ {u : Rs}, (∀ d14 d15 : Option AV, C314_217 s p hp x4 x5 x6 x7 h x A (rBe O N F K nb na p x : Nat) 0 1 d14 d15 σ' u) → ∀ d14 d15 : Option AV, C314_146 s p hp x4 x5 x6 x7 h x A k 0 1 d14 d15 σ u := by
  intro w
  have CC := C
  obtain ⟨c1, c2, c3, c4, c5, c6, c7, c8, c9, c10, c11, c12, c13, c14⟩ := C
  obtain ⟨e1, e2, e3, e4, e5, e6, e7⟩ := DS_nb c8 c9 c12
  obtain ⟨f1, f2, f3, f4, f5, f6, f7⟩ := DS_nb c8 c9 hq
  have hlp := (List.getElem?_eq_some_iff.mp c12).1
  have hlh := (List.getElem?_eq_some_iff.mp hq).1
  have HKs : ∀ {σ : Sg}, Sm σ0 σ → HK σ 0 0 l := fun {σ} sm h' q hq => by
    rw [sm _ _ (by decide), sm _ _ (by decide), sm _ _ (by decide), sm _ _ (by decide)]
    exact c6 h' q hq
  have bb := rB_b (O := O) (N := N) (F := F) (K := K) (nb := nb) (na := na) (i := p) (n := x) (by omega) (by omega)
  induction w with
  | zero =>
    intro k σ hk hk1 hk2 sm Z
    have ek : k = rBe O N F K nb na p x := by omega
    have e281 := d281 (HKs sm) c4 c12 (by show o + d ≤ 100; omega)
    have e281 : Dd 281 [vA 682, vI hp] σ (rI ((o + d : Nat) : Int) σ) := e281
    obtain ⟨-, -, v2, v3⟩ := HK_at (HKs sm) hq
    have v2 : σ 702 h = (n' : Nat) := v2
    have v3 : σ 703 h = (a' : Nat) := v3
    by_cases y : p + k + 1 < o + d ∧ x + k + 1 < n' + a'
    · obtain ⟨σ1, g1, g2, g3⟩ := d313 (s := s) (i := p + k + 1) (n := x + k + 1) c1 (Sm_S sm c5) (by omega) (by omega) (by omega) (by omega) c10 c11 Z
      refine ⟨σ1, Sm_t sm g3, g2, fun {u} hu d14 d15 => b314_146 ?_⟩
      rw [if_neg (show ¬ (1 : Int) = 0 by decide)]
      refine ⟨by omega, by omega, _, _, e281, ?_⟩
      rw [if_pos (by omega), tn, v2, v3]
      refine ⟨by omega, by omega, by omega, by omega, by omega, ?_⟩
      rw [if_pos (by omega), show (p : Int) + (k : Int) + 1 = ((p + k + 1 : Nat) : Int) by omega, show (x : Int) + (k : Int) + 1 = ((x + k + 1 : Nat) : Int) by omega]
      have hno : ¬ 50 ≤ lik (O (p + k + 1)) (N (x + k + 1)) := fun hy => by
        have t1 := (kn_in CC hq (i := p + k + 1) (j := x + k + 1) ⟨by omega, by omega⟩ ⟨by omega, by omega⟩).mpr hy
        have t2 := mt_n (p := fun r => knI O N F K nb na ((p : Int) + (r : Nat) + 1) ((x : Int) + (r : Nat) + 1)) (n := nb - p) (show rBe O N F K nb na p x < nb - p by omega)
        have t2 : knI O N F K nb na ((p : Int) + (k : Nat) + 1) ((x : Int) + (k : Nat) + 1) = false := by rw [ek]; exact t2
        rw [knI_i.mpr ⟨by omega, by omega, by rw [show ((p : Int) + (k : Int) + 1).toNat = p + k + 1 by omega, show ((x : Int) + (k : Int) + 1).toNat = x + k + 1 by omega]; exact t1⟩] at t2
        cases t2
      rw [if_neg hno] at g1
      refine ⟨by omega, by omega, by omega, by omega, _, _, g1, ?_⟩
      rw [if_pos rfl, ek]
      exact hu _ _
    · refine ⟨σ, sm, Z, fun {u} hu d14 d15 => b314_146 ?_⟩
      rw [if_neg (show ¬ (1 : Int) = 0 by decide)]
      refine ⟨by omega, by omega, _, _, e281, ?_⟩
      by_cases y1 : p + k + 1 < o + d
      · rw [if_pos (by omega), tn, v2, v3]
        refine ⟨by omega, by omega, by omega, by omega, by omega, ?_⟩
        rw [if_neg (by omega), ek]
        exact hu _ _
      · rw [if_neg (by omega), ek]
        exact hu _ _
  | succ w ih =>
    intro k σ hk hk1 hk2 sm Z
    have kn := bb.2.2 k (by omega)
    have kk := knB_i.mp kn
    have e281 := d281 (HKs sm) c4 c12 (by show o + d ≤ 100; omega)
    have e281 : Dd 281 [vA 682, vI hp] σ (rI ((o + d : Nat) : Int) σ) := e281
    obtain ⟨-, -, v2, v3⟩ := HK_at (HKs sm) hq
    have v2 : σ 702 h = (n' : Nat) := v2
    have v3 : σ 703 h = (a' : Nat) := v3
    have y1 : p + k + 1 < o + d := by
      by_cases y : p + k + 1 < o + d
      · exact y
      · exfalso
        have e : p + k + 1 = o + d := by omega
        exact e3 (by omega) (by rw [← e]; exact kk.2.2.2.1)
    have y2 : x + k + 1 < n' + a' := by
      by_cases y : x + k + 1 < n' + a'
      · exact y
      · exfalso
        have e : x + k + 1 = n' + a' := by omega
        exact f4 (by omega) (by rw [← e]; exact kk.2.2.2.2.1)
    obtain ⟨σ1, g1, g2, g3⟩ := d313 (s := s) (i := p + k + 1) (n := x + k + 1) c1 (Sm_S sm c5) (by omega) (by omega) (by omega) (by omega) c10 c11 Z
    rw [if_pos kk.2.2.2.2.2] at g1
    obtain ⟨σ', a1, a2, a3⟩ := ih (k + 1) σ1 (by omega) (by omega) (by omega) (Sm_t sm g3) g2
    refine ⟨σ', a1, a2, fun {u} hu d14 d15 => b314_146 ?_⟩
    rw [if_neg (show ¬ (1 : Int) = 0 by decide)]
    refine ⟨by omega, by omega, _, _, e281, ?_⟩
    rw [if_pos (by omega), tn, v2, v3]
    refine ⟨by omega, by omega, by omega, by omega, by omega, ?_⟩
    rw [if_pos (by omega), show (p : Int) + (k : Int) + 1 = ((p + k + 1 : Nat) : Int) by omega, show (x : Int) + (k : Int) + 1 = ((x + k + 1 : Nat) : Int) by omega]
    refine ⟨by omega, by omega, by omega, by omega, _, _, g1, ?_⟩
    rw [if_neg (show ¬ (1 : Int) = 0 by decide), show (k : Int) + 1 = ((k + 1 : Nat) : Int) by omega]
    exact ⟨by omega, a3 hu _ _⟩
/-- whether a line is just the same -/
theorem l314s {σ0 σ : Sg} {s nb na p hp h x : Nat} {O N F K : Nat → Int} {l : List St} {o d n a : Nat} (C : CXK σ0 s nb na p hp O N F K l o d n a) (sm : Sm σ0 σ) {x4 x5 x6 x7 : Int} {A B : Nat} {d15 : Option AV} {u : Rs} (hA : A ≤ p) (hA2 : A ≤ x) (hB : p + B < nb) (hB2 : x + B < na) : ∀ (w k : Nat) (f : Bool), k + w = A + 1 + B → (∀ d14 : Option AV, C314_284 s p hp x4 x5 x6 x7 h x A B (if (f || hsF O N w (p - A + k) (x - A + k)) = true then 1 else 0) 1 d14 d15 σ u) → C314_222 s p hp x4 x5 x6 x7 h x A B (if f = true then 1 else 0) 1 ((k : Int) - (A : Int)) d15 σ u := by
  obtain ⟨c1, c2, c3, c4, c5, c6, c7, c8, c9, c10, c11, c12, c13, c14⟩ := C
  have S := Sm_S sm c5
  intro w
  induction w with
  | zero =>
    intro k f hk hx
    refine b314_222 ?_
    rw [if_neg (by omega)]
    have z := hx (some (vI ((k : Int) - (A : Int))))
    rw [show hsF O N 0 (p - A + k) (x - A + k) = false from rfl, Bool.or_false] at z
    exact z
  | succ w ih =>
    intro k f hk hx
    refine b314_222 ?_
    rw [if_pos (by omega), if_neg (show ¬ (1 : Int) = 0 by decide)]
    have e : hsF O N (w + 1) (p - A + k) (x - A + k) = if O (p - A + k) = N (x - A + k) then true else hsF O N w (p - A + k + 1) (x - A + k + 1) := rfl
    rw [e] at hx
    have nx : ∀ (f' : Bool) (d12 : Option AV), (f' || hsF O N w (p - A + k + 1) (x - A + k + 1)) = (f || if O (p - A + k) = N (x - A + k) then true else hsF O N w (p - A + k + 1) (x - A + k + 1)) → C314_276 s p hp x4 x5 x6 x7 h x A B d12 1 ((k : Int) - (A : Int)) d15 (if f' = true then 1 else 0) σ u := fun f' d12 hf => by
      refine b314_276 ⟨by omega, ?_⟩
      rw [show (k : Int) - (A : Int) + 1 = ((k + 1 : Nat) : Int) - (A : Int) by omega]
      refine ih (k + 1) f' (by omega) (fun d14 => ?_)
      rw [show p - A + (k + 1) = p - A + k + 1 by omega, show x - A + (k + 1) = x - A + k + 1 by omega, hf]
      exact hx d14
    by_cases yf : f = true
    · subst yf
      rw [if_pos rfl, if_neg (show ¬ (1 : Int) = 0 by decide)]
      exact b314_271 (nx true _ (by rw [Bool.true_or, Bool.true_or]))
    · have yf' : f = false := Bool.eq_false_iff.mpr yf
      subst yf'
      rw [if_neg (show ¬ false = true by decide), if_pos rfl, show (100 * (s : Int) + (p : Int) + ((k : Int) - (A : Int))).toNat = 100 * s + (p - A + k) by omega, show (100 * (s : Int) + (x : Int) + ((k : Int) - (A : Int))).toNat = 100 * s + (x - A + k) by omega, S.2.2.1 _ (by omega), S.2.2.2.1 _ (by omega)]
      refine ⟨by omega, by omega, by omega, by omega, by omega, by omega, by omega, by omega, ?_⟩
      by_cases y : O (p - A + k) = N (x - A + k)
      · rw [if_pos y]
        exact b314_271 (nx true _ (by rw [if_pos y, Bool.true_or, Bool.false_or]))
      · rw [if_neg y]
        exact nx false _ (by rw [if_neg y])
end
