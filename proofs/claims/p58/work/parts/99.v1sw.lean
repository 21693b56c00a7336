/-! Two neighbours of an array exchanged; swap. -/
noncomputable section
theorem NP_pb {σ : Sg} {P Q nb na : Nat} (hg : P + 13 ≤ Q ∨ Q + 13 ≤ P) (N : NP σ Q nb na) (c1 : nb ≤ cap (P + 1)) (c3 : na ≤ cap (P + 3)) (c5 : nb ≤ cap (P + 5)) (c7 : na ≤ cap (P + 7)) (c9 : 4 * (nb + 1) ≤ cap (P + 9)) (h100 : nb ≤ 100) (h100' : na ≤ 100) : NP (pbS σ P Q) P nb na ∧ (∀ i, i < nb → pbS σ P Q (P + 2) i = σ (Q + 2) i) ∧ (∀ i, i < na → pbS σ P Q (P + 4) i = σ (Q + 4) i) ∧ ∀ i, i < nb → pbS σ P Q (P + 6) i = σ (Q + 6) i := by
  obtain ⟨n1, n3, n5, n7, V, K, C1, C2⟩ := N
  have hl := hks_len V
  obtain ⟨a1, b1⟩ := pb_row (σ := σ) (P := P) (Q := Q) (j := 1) hg (by omega) (by omega)
  obtain ⟨a3, b3⟩ := pb_row (σ := σ) (P := P) (Q := Q) (j := 3) hg (by omega) (by omega)
  obtain ⟨a5, b5⟩ := pb_row (σ := σ) (P := P) (Q := Q) (j := 5) hg (by omega) (by omega)
  obtain ⟨a7, b7⟩ := pb_row (σ := σ) (P := P) (Q := Q) (j := 7) hg (by omega) (by omega)
  obtain ⟨a9, b9⟩ := pb_row (σ := σ) (P := P) (Q := Q) (j := 9) hg (by omega) (by omega)
  have v6 : ∀ i, i < nb → pbS σ P Q (P + 6) i = σ (Q + 6) i := fun i hi => b5 i (by omega)
  have v8 : ∀ i, i < na → pbS σ P Q (P + 8) i = σ (Q + 8) i := fun i hi => b7 i (by omega)
  have hk : hks (pbS σ P Q (P + 6)) nb na = hks (σ (Q + 6)) nb na := hks_cg v6
  refine ⟨⟨by rw [a1]; exact n1, by rw [a3]; exact n3, by rw [a5]; exact n5, by rw [a7]; exact n7, VF_cg v6 V, ⟨fun j hj => ?_, fun i hi e => ?_⟩, ?_⟩, fun i hi => b1 i (by omega), fun i hi => b3 i (by omega), v6⟩
  · rw [v8 j hj]
    rcases K.1 j hj with z | ⟨z1, z2, z3⟩
    · exact Or.inl z
    · exact Or.inr ⟨z1, z2, by rw [v6 _ (by omega)]; exact z3⟩
  · rw [v6 i hi] at e ⊢
    have z := V.1 i hi
    rw [v8 _ (by omega)]
    exact K.2 i hi e
  · unfold PCS
    rw [hk, a9]
    refine ⟨C1, fun h q hq => ?_⟩
    have hlt := (List.getElem?_eq_some_iff.mp hq).1
    have z := C2 h q hq
    have e0 : pbS σ P Q (P + 10) (4 * h) = σ (Q + 10) (4 * h) := b9 _ (by omega)
    have e1 : pbS σ P Q (P + 10) (4 * h + 1) = σ (Q + 10) (4 * h + 1) := b9 _ (by omega)
    have e2 : pbS σ P Q (P + 10) (4 * h + 2) = σ (Q + 10) (4 * h + 2) := b9 _ (by omega)
    have e3 : pbS σ P Q (P + 10) (4 * h + 3) = σ (Q + 10) (4 * h + 3) := b9 _ (by omega)
    rw [e0, e1, e2, e3]
    exact z
/-- the patches of an array: the two at hand -/
def EL (A k P Q : Nat) : Prop := ∃ n : Nat, qN A n = true ∧ n ≤ 1000 ∧ k + 1 < n ∧ qE A k P = true ∧ isPatch P = true ∧ qE A (k + 1) Q = true ∧ isPatch Q = true
theorem l10 {σ : Sg} {A k P Q : Nat} {lim : Int} {o : Rs} (E : EL A k P Q) (h : ∃ v19 s18, Dd 6 [vA 350, vA P, vA Q] σ (rI v19 s18) ∧ (if v19 = 0 then (∃ v22 s21, Dd 7 [vA 350, vA P, vA Q] s18 (rI v22 s21) ∧ (if lim < v22 then o = rI 0 s21 else (∃ s24, Dd 8 [vA 350, vA P, vA Q] s21 (rV s24) ∧ (∃ s26, Dd 96 [vA P, vA 351] s24 (rV s26) ∧ (∃ s28, Dd 96 [vA Q, vA 364] s26 (rV s28) ∧ o = rI 1 s28))))) else o = rI 0 s18)) : Dd 10 [vA 350, vA A, vI k, vI lim] σ o := by
  obtain ⟨n, e1, e2, e3, e4, e5, e6, e7⟩ := E
  have r1 : Dd 89 [vA A, vI k, vI (n : Nat)] σ (rA P σ) := by
    refine b89 ?_
    rw [if_pos (by omega), if_pos (by omega)]
    refine ⟨n, e1, by omega, ?_⟩
    rw [if_pos (by omega)]
    exact ⟨by omega, P, by rw [tn]; exact e4, e5, rfl⟩
  have r2 : Dd 89 [vA A, vI ((k : Int) + 1), vI (n : Nat)] σ (rA Q σ) := by
    refine b89 ?_
    rw [if_pos (by omega), if_pos (by omega)]
    refine ⟨n, e1, by omega, ?_⟩
    rw [if_pos (by omega)]
    exact ⟨by omega, Q, by rw [show ((k : Int) + 1).toNat = k + 1 by omega]; exact e6, e7, rfl⟩
  refine b10 ⟨n, e1, by omega, some P, _, r1, by omega, n, e1, by omega, some Q, _, r2, fun e => (by cases e), fun a14 ha => ?_⟩
  cases ha
  refine ⟨e5, fun e => (by cases e), fun a16 ha => ?_⟩
  cases ha
  exact ⟨e7, h⟩
/-- what two patches are after they were exchanged -/
theorem d10_y {σ : Sg} {A k P Q nb na nc : Nat} {lim : Int} {b M f a g : List Int} (E : EL A k P Q) (eP : P + 12 < 350 ∨ 376 < P) (eQ : Q + 12 < 350 ∨ 376 < Q) (ePQ : P + 13 ≤ Q) (w : WF σ) (N : NP σ P nb na) (N' : NP σ Q na nc) (hf : ∀ x, x < na → σ (P + 4) x = σ (Q + 2) x) (hn : nb ≤ 96 ∧ na ≤ 96 ∧ nc ≤ 96) (hM : M.length ≤ 96) (hl : (M.length : Int) ≤ lim) (hb : b.length = nb) (ha : a.length = nc) (hm : M.length + na = nb + nc) (hfl : f.length = nb) (hgl : g.length = M.length) (bv : ∀ (x : Nat) (v : Int), b[x]? = some v → v = σ (P + 2) x) (av : ∀ (x : Nat) (v : Int), a[x]? = some v → v = σ (Q + 4) x) (tc : ¬ TCH (hks (σ (P + 6)) nb na) (hks (σ (Q + 6)) na nc)) (cP : ∀ j, j = 1 ∨ j = 3 ∨ j = 5 ∨ j = 7 → nb ≤ cap (P + j) ∧ M.length ≤ cap (P + j)) (cQ : ∀ j, j = 1 ∨ j = 3 ∨ j = 5 ∨ j = 7 → M.length ≤ cap (Q + j) ∧ nc ≤ cap (Q + j)) (cP9 : 4 * (nb + 1) ≤ cap (P + 9)) (cQ9 : 4 * (M.length + 1) ≤ cap (Q + 9)) (r : mvW (σ (P + 6)) (σ (P + 8)) (σ (Q + 6)) (σ (Q + 8)) (σ (P + 2)) (σ (P + 4)) (σ (Q + 4)) nb na nc (nb + na + nc) 0 0 0 [] [] [] [] [] = (b, M, f, a, g)) : ∃ s, Dd 10 [vA 350, vA A, vI k, vI lim] σ (rI 1 s) ∧ WF s ∧ NP s P nb M.length ∧ NP s Q M.length nc ∧ (∀ i, i < nb → s (P + 2) i = σ (P + 2) i) ∧ (∀ i, i < M.length → s (P + 4) i = gv M i) ∧ (∀ i, i < nb → s (P + 6) i = gv f i) ∧ (∀ i, i < M.length → s (Q + 2) i = gv M i) ∧ (∀ i, i < nc → s (Q + 4) i = σ (Q + 4) i) ∧ (∀ i, i < M.length → s (Q + 6) i = gv g i) ∧ (∀ i, i < nb → ¬ s (P + 6) i = -1 → s (P + 2) i = s (P + 4) (s (P + 6) i).toNat) ∧ (∀ i, i < M.length → ¬ s (Q + 6) i = -1 → s (Q + 2) i = s (Q + 4) (s (Q + 6) i).toNat) ∧ ∀ c x, ¬ (352 ≤ c ∧ c ≤ 361) → ¬ (365 ≤ c ∧ c ≤ 374) → ¬ (P + 1 ≤ c ∧ c ≤ P + 10) → ¬ (Q + 1 ≤ c ∧ c ≤ Q + 10) → s c x = σ c x := by
  have hP : isPatch P = true := by obtain ⟨n, e1, e2, e3, e4, e5, e6, e7⟩ := E; exact e5
  have hQ : isPatch Q = true := by obtain ⟨n, e1, e2, e3, e4, e5, e6, e7⟩ := E; exact e7
  obtain ⟨s8, a1, a2, W8, a4⟩ := mp_c hP hQ eP eQ w N N' hf hn hM hb ha r
  obtain ⟨-, t2⟩ := d6 hP hQ (WF_w w (pat_9 hP)) (WF_w w (pat_9 hQ)) (PC_of N (by omega) (by omega)) (PC_of N' (by omega) (by omega))
  have e6 := t2 tc
  have e7 : Dd 7 [vA 350, vA P, vA Q] σ (rI (M.length : Nat) σ) := by
    have p1 := d146 (σ := σ) (pat_1 hP)
    rw [N.1] at p1
    have p2 := d146 (σ := σ) (pat_3 hQ)
    rw [N'.2.1] at p2
    have p3 := d146 (σ := σ) (pat_1 hQ)
    rw [N'.1] at p3
    refine b7 hP hQ ⟨_, _, p1, _, _, p2, by omega, _, _, p3, by omega, ?_⟩
    rw [show ((nb : Nat) : Int) + ((nc : Nat) : Int) - ((na : Nat) : Int) = ((M.length : Nat) : Int) by omega]
  obtain ⟨⟨f1, -, f3, f4, f5, f6⟩, ⟨u1, -, u3, u4, u5, u6⟩⟩ := a2
  have hbl : b.length = nb := hb
  have f1 : NP s8 351 nb M.length := by rw [← hb]; exact f1
  have u1 : NP s8 364 M.length nc := by rw [← ha]; exact u1
  have gP : P + 13 ≤ 351 ∨ 351 + 13 ≤ P := by
    rcases eP with z | z
    · left; omega
    · right; omega
  have gQ : Q + 13 ≤ 364 ∨ 364 + 13 ≤ Q := by
    rcases eQ with z | z
    · left; omega
    · right; omega
  obtain ⟨p1, p2, p3, p4⟩ := NP_pb (σ := s8) (P := P) (Q := 351) gP f1 (cP 1 (by omega)).1 (cP 3 (by omega)).2 (cP 5 (by omega)).1 (cP 7 (by omega)).2 cP9 (by omega) (by omega)
  have hw1 : WF (pbS s8 P 351) := WF_pb hP WDp351.1 W8
  have u1' : NP (pbS s8 P 351) 364 M.length nc := NP_fr (fun c x h => pb_off (by omega)) u1
  obtain ⟨r1, r2, r3, r4⟩ := NP_pb (σ := pbS s8 P 351) (P := Q) (Q := 364) gQ u1' (cQ 1 (by omega)).1 (cQ 3 (by omega)).2 (cQ 5 (by omega)).1 (cQ 7 (by omega)).2 cQ9 (by omega) (by omega)
  have off : ∀ c x, P + 1 ≤ c ∧ c ≤ P + 10 → pbS (pbS s8 P 351) Q 364 c x = pbS s8 P 351 c x := fun c x h => pb_off (by omega)
  have m2 : ∀ i, i < nb → s8 (351 + 2) i = σ (P + 2) i := fun i hi => by
    have z := gv_at (l := b) (x := i) (by omega)
    rw [f3 i _ z, bv i _ z]
  have n4 : ∀ i, i < nc → s8 (364 + 4) i = σ (Q + 4) i := fun i hi => by
    have z := gv_at (l := a) (x := i) (by omega)
    rw [u4 i _ z, av i _ z]
  have x364 : ∀ c i, 365 ≤ c ∧ c ≤ 374 → pbS s8 P 351 c i = s8 c i := fun c i h => pb_off (by omega)
  have v1 : ∀ i, i < nb → pbS (pbS s8 P 351) Q 364 (P + 2) i = σ (P + 2) i := fun i hi => by rw [off _ _ (by omega), p2 i hi]; exact m2 i hi
  have v2 : ∀ i, i < M.length → pbS (pbS s8 P 351) Q 364 (P + 4) i = gv M i := fun i hi => by rw [off _ _ (by omega), p3 i hi]; exact f4 i _ (gv_at hi)
  have v3 : ∀ i, i < nb → pbS (pbS s8 P 351) Q 364 (P + 6) i = gv f i := fun i hi => by rw [off _ _ (by omega), p4 i hi]; exact f5 i _ (gv_at (by show i < f.length; omega))
  have v4 : ∀ i, i < M.length → pbS (pbS s8 P 351) Q 364 (Q + 2) i = gv M i := fun i hi => by rw [r2 i hi, x364 _ _ (by decide)]; exact u3 i _ (gv_at hi)
  have v5 : ∀ i, i < nc → pbS (pbS s8 P 351) Q 364 (Q + 4) i = σ (Q + 4) i := fun i hi => by rw [r3 i hi, x364 _ _ (by decide)]; exact n4 i hi
  have v6 : ∀ i, i < M.length → pbS (pbS s8 P 351) Q 364 (Q + 6) i = gv g i := fun i hi => by rw [r4 i hi, x364 _ _ (by decide)]; exact u5 i _ (gv_at (by show i < g.length; omega))
  have NP1 : NP (pbS (pbS s8 P 351) Q 364) P nb M.length := NP_fr off p1
  refine ⟨pbS (pbS s8 P 351) Q 364, l10 E ⟨0, σ, e6, ?_⟩, WF_pb hQ WDp364.1 hw1, NP1, r1, v1, v2, v3, v4, v5, v6, fun i hi e => ?_, fun i hi e => ?_, fun c x h1 h2 h3 h4 => by rw [pb_off h4, pb_off h3]; exact a4 c x h1 h2⟩
  · rw [if_pos rfl]
    refine ⟨_, σ, e7, ?_⟩
    rw [if_neg (by omega)]
    exact ⟨s8, a1, _, d96 hP WDp351.1 (by omega) (WF_pw W8), _, d96 hQ WDp364.1 (by omega) (WF_pw hw1), rfl⟩
  · have z := NP1.2.2.2.2.1.1 i hi
    rw [v1 i hi, v2 _ (by omega)]
    rw [v3 i hi] at e z ⊢
    have y := f6 i (by show i < b.length; omega)
    rw [f5 i _ (gv_at (by show i < f.length; omega)), m2 i hi] at y
    rw [y e]
    exact f4 _ _ (gv_at (by show (gv f i).toNat < M.length; omega))
  · have z := r1.2.2.2.2.1.1 i hi
    rw [v4 i hi, v5 _ (by omega)]
    rw [v6 i hi] at e z ⊢
    have y := u6 i hi
    rw [u5 i _ (gv_at (by show i < g.length; omega)), u3 i _ (gv_at hi)] at y
    rw [y e]
    exact n4 (gv g i).toNat (by omega)
theorem d10_t {σ : Sg} {A k P Q nb na na' nc : Nat} {lim : Int} (E : EL A k P Q) (w : WF σ) (N : NP σ P nb na) (N' : NP σ Q na' nc) (hn : nb ≤ 100 ∧ na ≤ 100 ∧ na' ≤ 100 ∧ nc ≤ 100) (tc : TCH (hks (σ (P + 6)) nb na) (hks (σ (Q + 6)) na' nc)) : Dd 10 [vA 350, vA A, vI k, vI lim] σ (rI 0 σ) := by
  have hP : isPatch P = true := by obtain ⟨n, e1, e2, e3, e4, e5, e6, e7⟩ := E; exact e5
  have hQ : isPatch Q = true := by obtain ⟨n, e1, e2, e3, e4, e5, e6, e7⟩ := E; exact e7
  obtain ⟨t1, -⟩ := d6 hP hQ (WF_w w (pat_9 hP)) (WF_w w (pat_9 hQ)) (PC_of N (by omega) (by omega)) (PC_of N' (by omega) (by omega))
  refine l10 E ⟨1, σ, t1 tc, ?_⟩
  rw [if_neg (show ¬ (1 : Int) = 0 by decide)]
theorem d10_l {σ : Sg} {A k P Q nb na nc : Nat} {lim : Int} (E : EL A k P Q) (w : WF σ) (N : NP σ P nb na) (N' : NP σ Q na nc) (hn : nb ≤ 100 ∧ na ≤ 100 ∧ nc ≤ 100) (tc : ¬ TCH (hks (σ (P + 6)) nb na) (hks (σ (Q + 6)) na nc)) (hl : lim < (nb : Int) + nc - na) : Dd 10 [vA 350, vA A, vI k, vI lim] σ (rI 0 σ) := by
  have hP : isPatch P = true := by obtain ⟨n, e1, e2, e3, e4, e5, e6, e7⟩ := E; exact e5
  have hQ : isPatch Q = true := by obtain ⟨n, e1, e2, e3, e4, e5, e6, e7⟩ := E; exact e7
  obtain ⟨-, t2⟩ := d6 hP hQ (WF_w w (pat_9 hP)) (WF_w w (pat_9 hQ)) (PC_of N (by omega) (by omega)) (PC_of N' (by omega) (by omega))
  refine l10 E ⟨0, σ, t2 tc, ?_⟩
  rw [if_pos rfl]
  have p1 := d146 (σ := σ) (pat_1 hP)
  rw [N.1] at p1
  have p2 := d146 (σ := σ) (pat_3 hQ)
  rw [N'.2.1] at p2
  have p3 := d146 (σ := σ) (pat_1 hQ)
  rw [N'.1] at p3
  refine ⟨_, σ, b7 hP hQ ⟨_, _, p1, _, _, p2, by omega, _, _, p3, by omega, rfl⟩, ?_⟩
  rw [if_pos (by omega)]
end
