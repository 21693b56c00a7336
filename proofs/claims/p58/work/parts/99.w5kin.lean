/-! movedTo, both sides: the search. -/
noncomputable section
/-- the best so far, as the reference holds it -/
def RLk (p : Nat) (s : Int × Nat × Nat) (x5 x6 : Int) : Prop := (s.1 = -1 ∧ x5 = 0 ∧ x6 = 0 ∧ s.2.2 = 1) ∨ (¬ s.1 = -1 ∧ x5 = s.1 - (s.2.1 : Nat) ∧ x6 = (p : Int) - (s.2.1 : Nat) ∧ 2 ≤ s.2.2)
/-- a new line that a hunk adds -/
theorem l314n {σ0 : Sg} {s nb na p hp h x : Nat} {O N F K : Nat → Int} {l : List St} {o d n a o' d' n' a' : Nat} (C : CXK σ0 s nb na p hp O N F K l o d n a) (hq : l[h]? = some (o', d', n', a')) (hx : n' ≤ x ∧ x < n' + a') {st : Int × Nat × Nat} {x5 x6 : Int} (hs : SB st) (hR : RLk p st x5 x6) {σ : Sg} (sm : Sm σ0 σ) (Z : Zl σ) : ∃ σ' x5' x6', Sm σ0 σ' ∧ Zl σ' ∧ RLk p (gst O N F K nb na p x st) x5' x6' ∧ ∀ {u : Rs}, (∀ d10 d11 d12 d13 d14 d15 : Option AV, C314_385 s p hp ((gst O N F K nb na p x st).2.2 : Nat) x5' x6' (gst O N F K nb na p x st).1 h x d10 d11 d12 d13 d14 d15 σ' u) → ∀ d10 d11 d12 d13 d14 d15 : Option AV, C314_47 s p hp (st.2.2 : Nat) x5 x6 st.1 h x d10 d11 d12 d13 d14 d15 σ u := by
  have CC := C
  obtain ⟨c1, c2, c3, c4, c5, c6, c7, c8, c9, c10, c11, c12, c13, c14⟩ := C
  obtain ⟨e1, e2, e3, e4, e5, e6, e7⟩ := DS_nb c8 c9 c12
  obtain ⟨f1, f2, f3, f4, f5, f6, f7⟩ := DS_nb c8 c9 hq
  have hlh := (List.getElem?_eq_some_iff.mp hq).1
  obtain ⟨-, -, v2, v3⟩ := HK_at c6 hq
  have v2 : σ 702 h = (n' : Nat) := by rw [sm _ _ (by decide)]; exact v2
  have v3 : σ 703 h = (a' : Nat) := by rw [sm _ _ (by decide)]; exact v3
  obtain ⟨σ1, g1, g2, g3⟩ := d313 (s := s) (i := p) (n := x) c1 (Sm_S sm c5) (by omega) (by omega) (by omega) (by omega) c10 c11 Z
  have sm1 := Sm_t sm g3
  obtain ⟨b1, b2, b3, b4⟩ := hs
  have ki := kn_in CC hq (i := p) (j := x) ⟨c13, c14⟩ hx
  have start : ∀ {u : Rs} {v : Int}, (if 50 ≤ lik (O p) (N x) then (1 : Int) else 0) = v → (∀ d14 d15 : Option AV, C314_86 s p hp (st.2.2 : Nat) x5 x6 st.1 h x 0 0 0 v d14 d15 σ1 u) → ∀ d10 d11 d12 d13 d14 d15 : Option AV, C314_47 s p hp (st.2.2 : Nat) x5 x6 st.1 h x d10 d11 d12 d13 d14 d15 σ u := fun {u v} hv hh d10 d11 d12 d13 d14 d15 => by
    refine b314_47 ?_
    rw [tn, v2, v3]
    refine ⟨by omega, by omega, by omega, ?_⟩
    rw [if_pos (by omega)]
    rw [hv] at g1
    exact ⟨_, σ1, g1, hh _ _⟩
  by_cases yk : 50 ≤ lik (O p) (N x)
  · have kn := ki.mpr yk
    have ab := rA_b (O := O) (N := N) (F := F) (K := K) (nb := nb) (na := na) (i := p) (n := x)
    have bb := rB_b (O := O) (N := N) (F := F) (K := K) (nb := nb) (na := na) (i := p) (n := x) (by omega) (by omega)
    obtain ⟨σ2, h1, h2, h3⟩ := l314a CC hq hx (x4 := (st.2.2 : Nat)) (x5 := x5) (x6 := x6) (x7 := st.1) (rAh O N F K nb na p x) 0 σ1 (by omega) (by omega) (by omega) sm1 g2
    obtain ⟨σ3, k1, k2, k3⟩ := l314b CC hq hx (x4 := (st.2.2 : Nat)) (x5 := x5) (x6 := x6) (x7 := st.1) (A := rAh O N F K nb na p x) (rBe O N F K nb na p x) 0 σ2 (by omega) (by omega) (by omega) h1 h2
    have eg : gst O N F K nb na p x st = (if st.2.2 ≤ rAh O N F K nb na p x + 1 + rBe O N F K nb na p x ∧ hsF O N (rAh O N F K nb na p x + 1 + rBe O N F K nb na p x) (p - rAh O N F K nb na p x) (x - rAh O N F K nb na p x) = true ∧ (st.2.2 < rAh O N F K nb na p x + 1 + rBe O N F K nb na p x ∨ (¬ st.1 = -1 ∧ ((x : Int) - (rAh O N F K nb na p x : Nat) < st.1 - (st.2.1 : Nat) ∨ ((x : Int) - (rAh O N F K nb na p x : Nat) = st.1 - (st.2.1 : Nat) ∧ st.2.1 < rAh O N F K nb na p x)))) then ((x : Int), rAh O N F K nb na p x, rAh O N F K nb na p x + 1 + rBe O N F K nb na p x) else st) := by
      unfold gst
      rw [if_pos kn]
    obtain ⟨A, hA⟩ : ∃ A, A = rAh O N F K nb na p x := ⟨_, rfl⟩
    obtain ⟨B, hB⟩ : ∃ B, B = rBe O N F K nb na p x := ⟨_, rfl⟩
    rw [← hA, ← hB] at eg
    rw [← hA] at ab h3
    rw [← hB] at bb
    rw [← hA, ← hB] at k3
    -- what is asked at the end
    obtain ⟨y0, hy0⟩ : ∃ y0 : Int, y0 = if (x : Int) - (A : Nat) < x5 ∨ ((x : Int) - (A : Nat) = x5 ∧ (p : Int) - (A : Nat) < x6) then 1 else 0 := ⟨_, rfl⟩
    have to : ∀ {u : Rs}, (∀ (d11 d15 : Option AV), C314_327 s p hp (st.2.2 : Nat) x5 x6 st.1 h x (A : Nat) d11 (if hsF O N (A + 1 + B) (p - A) (x - A) = true then 1 else 0) 1 ((A + B + 1 : Nat) : Int) d15 y0 σ3 u) → ∀ d10 d11 d12 d13 d14 d15 : Option AV, C314_47 s p hp (st.2.2 : Nat) x5 x6 st.1 h x d10 d11 d12 d13 d14 d15 σ u := fun {u} hu => start (v := 1) (by rw [if_pos yk]) (h3 (k3 (fun d14 d15 => by
      refine b314_217 ⟨by omega, ?_⟩
      have z := l314s CC k1 (x4 := (st.2.2 : Nat)) (x5 := x5) (x6 := x6) (x7 := st.1) (h := h) (A := A) (B := B) (d15 := d15) (u := u) ab.1 ab.2.1 bb.1 bb.2.1 (A + 1 + B) 0 false (by omega) (fun d14 => by
        rw [Bool.false_or, Nat.add_zero, Nat.add_zero]
        refine b314_284 ⟨by omega, by omega, by omega, ?_⟩
        rw [show ((A : Nat) : Int) + ((B : Nat) : Int) + 1 = ((A + B + 1 : Nat) : Int) by omega]
        by_cases z1 : x5 ≤ (x : Int) - (A : Nat)
        · rw [if_pos z1]
          refine ⟨by omega, ?_⟩
          by_cases z2 : (x : Int) - (A : Nat) = x5
          · rw [if_pos z2]
            refine ⟨by omega, ?_⟩
            by_cases z3 : (p : Int) - (A : Nat) < x6
            · rw [if_pos z3]
              refine b314_322 ?_
              rw [if_pos (Or.inr ⟨z2, z3⟩)] at hy0
              rw [hy0] at hu
              exact hu _ _
            · rw [if_neg z3]
              refine b314_326 ?_
              rw [if_neg (by omega)] at hy0
              rw [hy0] at hu
              exact hu _ _
          · rw [if_neg z2]
            refine b314_326 ?_
            rw [if_neg (by omega)] at hy0
            rw [hy0] at hu
            exact hu _ _
        · rw [if_neg z1]
          refine b314_322 ?_
          rw [if_pos (by omega)] at hy0
          rw [hy0] at hu
          exact hu _ _)
      rw [if_neg (show ¬ false = true by decide), show ((0 : Nat) : Int) - (A : Int) = -((A : Nat) : Int) by omega] at z
      exact z)))
    have same : gst O N F K nb na p x st = st → (∀ {u : Rs}, (∀ d10 d11 d12 d13 d14 d15 : Option AV, C314_385 s p hp (st.2.2 : Nat) x5 x6 st.1 h x d10 d11 d12 d13 d14 d15 σ3 u) → ∀ (d11 d15 : Option AV), C314_327 s p hp (st.2.2 : Nat) x5 x6 st.1 h x (A : Nat) d11 (if hsF O N (A + 1 + B) (p - A) (x - A) = true then 1 else 0) 1 ((A + B + 1 : Nat) : Int) d15 y0 σ3 u) → ∃ σ' x5' x6', Sm σ0 σ' ∧ Zl σ' ∧ RLk p (gst O N F K nb na p x st) x5' x6' ∧ ∀ {u : Rs}, (∀ d10 d11 d12 d13 d14 d15 : Option AV, C314_385 s p hp ((gst O N F K nb na p x st).2.2 : Nat) x5' x6' (gst O N F K nb na p x st).1 h x d10 d11 d12 d13 d14 d15 σ' u) → ∀ d10 d11 d12 d13 d14 d15 : Option AV, C314_47 s p hp (st.2.2 : Nat) x5 x6 st.1 h x d10 d11 d12 d13 d14 d15 σ u := fun e h => by
      refine ⟨σ3, x5, x6, k1, k2, by rw [e]; exact hR, fun {u} hu => to (h ?_)⟩
      rw [e] at hu
      exact hu
    by_cases y1 : hsF O N (A + 1 + B) (p - A) (x - A) = true
    · by_cases y2 : st.2.2 < A + 1 + B ∨ (st.2.2 = A + 1 + B ∧ ¬ st.1 = -1 ∧ ((x : Int) - (A : Nat) < st.1 - (st.2.1 : Nat) ∨ ((x : Int) - (A : Nat) = st.1 - (st.2.1 : Nat) ∧ st.2.1 < A)))
      · have e : gst O N F K nb na p x st = ((x : Int), A, A + 1 + B) := by
          rw [eg, if_pos]
          refine ⟨by omega, y1, ?_⟩
          rcases y2 with z | z
          · exact Or.inl z
          · exact Or.inr z.2
        have h2len : 2 ≤ A + 1 + B := by
          rcases hR with ⟨r1, r2, r3, r4⟩ | ⟨r1, r2, r3, r4⟩
          · rcases y2 with z | z
            · omega
            · exact absurd r1 z.2.1
          · rcases y2 with z | z <;> omega
        refine ⟨σ3, (x : Int) - (A : Nat), (p : Int) - (A : Nat), k1, k2, ?_, fun {u} hu => to (fun d11 d15 => ?_)⟩
        · rw [e]
          exact Or.inr ⟨by show ¬ (x : Int) = -1; omega, rfl, rfl, h2len⟩
        · rw [e] at hu
          have take : C314_364 s p hp (some (vI (st.2.2 : Nat))) (some (vI x5)) (some (vI x6)) (some (vI st.1)) h x (A : Nat) d11 (some (vI 1)) (some (vI 1)) ((A + B + 1 : Nat) : Int) (some (vI y0)) σ3 u := by
            refine b314_364 ⟨by omega, by omega, ?_⟩
            have z := hu (some (vI (A : Nat))) d11 (some (vI 1)) (some (vI 1)) (some (vI ((A + B + 1 : Nat) : Int))) (some (vI y0))
            rw [show A + B + 1 = A + 1 + B by omega] at z ⊢
            exact z
          refine b314_327 ?_
          rw [if_pos y1, if_neg (show ¬ (1 : Int) = 0 by decide), if_neg (show ¬ (1 : Int) = 0 by decide), if_pos (by omega)]
          by_cases z1 : ((A + B + 1 : Nat) : Int) ≤ ((st.2.2 : Nat) : Int)
          · rw [if_pos z1, if_pos (by omega)]
            rcases y2 with z | ⟨w1, w2, w3⟩
            · omega
            · rcases hR with ⟨r1, r2, r3, r4⟩ | ⟨r1, r2, r3, r4⟩
              · exact absurd r1 w2
              · rw [if_pos (by omega)] at hy0
                rw [if_neg (by omega)]
                exact take
          · rw [if_neg z1]
            exact take
      · have e : gst O N F K nb na p x st = st := by
          rw [eg, if_neg]
          rintro ⟨u1, u2, u3⟩
          refine y2 ?_
          rcases u3 with u | u
          · exact Or.inl u
          · by_cases z : st.2.2 = A + 1 + B
            · exact Or.inr ⟨z, u⟩
            · exact Or.inl (by omega)
        refine same e (fun {u} hu d11 d15 => b314_327 ?_)
        rw [if_pos y1, if_neg (show ¬ (1 : Int) = 0 by decide), if_neg (show ¬ (1 : Int) = 0 by decide)]
        by_cases z0 : 2 ≤ A + B + 1
        · rw [if_pos (by omega), if_pos (by omega)]
          by_cases z1 : st.2.2 = A + 1 + B
          · rw [if_pos (by omega)]
            have hz : y0 = 0 := by
              rw [hy0, if_neg]
              intro hh
              rcases hR with ⟨r1, r2, r3, r4⟩ | ⟨r1, r2, r3, r4⟩
              · omega
              · exact y2 (Or.inr ⟨z1, r1, by omega⟩)
            rw [if_pos hz]
            exact hu _ _ _ _ _ _
          · rw [if_neg (by omega)]
            exact hu _ _ _ _ _ _
        · rw [if_neg (by omega)]
          exact hu _ _ _ _ _ _
    · have e : gst O N F K nb na p x st = st := by
        rw [eg, if_neg (fun hh => y1 hh.2.1)]
      refine same e (fun {u} hu d11 d15 => b314_327 ?_)
      rw [if_neg y1, if_neg (show ¬ (1 : Int) = 0 by decide), if_pos rfl]
      exact hu _ _ _ _ _ _
  · have kn : ¬ knB O N F K nb na p x = true := fun e => yk (ki.mp e)
    have eg : gst O N F K nb na p x st = st := by
      unfold gst
      rw [if_neg kn]
    refine ⟨σ1, x5, x6, sm1, g2, by rw [eg]; exact hR, fun {u} hu => start (v := 0) (by rw [if_neg yk]) (fun d14 d15 => ?_)⟩
    rw [eg] at hu
    refine b314_86 ?_
    rw [if_pos rfl]
    refine b314_146 ?_
    rw [if_pos rfl]
    refine b314_217 ⟨by omega, b314_222 ?_⟩
    rw [if_pos (by omega), if_pos rfl]
    refine b314_284 ⟨by omega, by omega, by omega, ?_⟩
    have t327 : ∀ (d11 d15 : Option AV) (y0 : Int), C314_327 s p hp (st.2.2 : Nat) x5 x6 st.1 h x 0 d11 0 0 (0 + 0 + 1) d15 y0 σ1 u := fun d11 d15 y0 => by
      refine b314_327 ?_
      rw [if_pos rfl]
      exact hu _ _ _ _ _ _
    by_cases z1 : x5 ≤ (x : Int) - 0
    · rw [if_pos z1]
      refine ⟨by omega, ?_⟩
      by_cases z2 : (x : Int) - 0 = x5
      · rw [if_pos z2]
        refine ⟨by omega, ?_⟩
        by_cases z3 : (p : Int) - 0 < x6
        · rw [if_pos z3]
          exact b314_322 (t327 _ _ _)
        · rw [if_neg z3]
          exact b314_326 (t327 _ _ _)
      · rw [if_neg z2]
        exact b314_326 (t327 _ _ _)
    · rw [if_neg z1]
      exact b314_322 (t327 _ _ _)
end
