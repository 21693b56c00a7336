/-! Texts: put, cut; rows of bytes: addByte, clear. -/
noncomputable section
theorem d145_ok {A : Nat} {n : Nat} {i : Int} {r : Nat} {σ : Sg} (hn : qN A n = true) (hb : n < 1000) (hi : 0 ≤ i ∧ i < n) (hq : qE A i.toNat r = true) (hr : isRow r = true) : Dd 145 [vA A, vI i] σ (rA r σ) := by
  refine b145 ?_
  rw [if_pos hi.1]
  refine ⟨n, hn, by omega, ?_⟩
  rw [if_pos hi.2]
  exact ⟨hi.1, r, hq, hr, rfl⟩
theorem d227_ok {t : Int} {σ : Sg} (ht : 0 ≤ t ∧ t < 4) : Dd 227 [vA 0, vI t] σ (rA (2 + 2 * t.toNat) σ) := by
  refine b227 ⟨_, _, d145_ok (n := 4) (by decide +kernel) (by decide) ht (el_1 ht).1 (el_1 ht).2, fun h => (by cases h), fun a h => ?_⟩
  cases h
  exact ⟨(el_1 ht).2, rfl⟩
theorem d228_ok {t : Int} {σ : Sg} (ht : 0 ≤ t ∧ t < 4) : Dd 228 [vA 0, vI t] σ (rA (11 + 2 * t.toNat) σ) := by
  refine b228 ⟨_, _, d145_ok (n := 4) (by decide +kernel) (by decide) ht (el_10 ht).1 (el_10 ht).2, fun h => (by cases h), fun a h => ?_⟩
  cases h
  exact ⟨(el_10 ht).2, rfl⟩
theorem d232_ok {i n : Int} {σ : Sg} (h : 0 ≤ i ∧ i < n) : Dd 232 [vA 0, vI i, vI n] σ (rV σ) := by
  refine b232 ?_
  rw [if_pos h.1, if_neg (by omega)]
theorem d234_ok {i a b : Int} {σ : Sg} (h : a ≤ i ∧ i ≤ b) : Dd 234 [vA 0, vI i, vI a, vI b] σ (rV σ) := by
  refine b234 ?_
  rw [if_pos h.1, if_neg (by omega)]
theorem d246 {x n : Int} {σ : Sg} : Dd 246 [vI x, vI n] σ (rI (if 0 ≤ x ∧ x < n then 1 else 0) σ) := by
  refine b246 ?_
  by_cases h1 : 0 ≤ x
  · by_cases h2 : x < n
    · rw [if_pos h1, if_pos h2, if_pos ⟨h1, h2⟩]
    · rw [if_pos h1, if_neg h2, if_neg (fun e => h2 e.2)]
  · rw [if_neg h1, if_neg (fun e => h1 e.1)]
theorem d247_ok {t : Int} {σ : Sg} (ht : 0 ≤ t ∧ t < 4) : Dd 247 [vI t] σ (rI 1 σ) := by
  refine b247 ⟨_, _, d246, ?_, ?_⟩
  · rw [if_pos ht]; exact Or.inr rfl
  · rw [if_pos ht]
theorem d377_ok {t : Int} {σ : Sg} (ht : 0 ≤ t ∧ t < 4) : Dd 377 [vI t] σ (rI 1 σ) := by
  refine b377 ⟨_, _, d246, ?_, ?_⟩
  · rw [if_pos ht]; exact Or.inr rfl
  · rw [if_pos ht]
theorem in_sz {σ : Sg} {a : Nat} {p i v : Int} : inS1 σ a p i v a 1 = σ a 1 + 1 := by
  unfold inS1
  rw [if_neg (by omega), if_pos ⟨rfl, rfl⟩]
theorem in_off {σ : Sg} {a c k : Nat} {p i v : Int} (h : ¬ c = a) (h2 : ¬ c = a + 1) : inS1 σ a p i v c k = σ c k := by
  unfold inS1
  rw [if_neg h2, if_neg (fun e => h e.1)]
theorem in_val {σ : Sg} {a k : Nat} {p i v : Int} : inS1 σ a p i v (a + 1) k = if (k : Int) = p then v else if p < (k : Int) ∧ (k : Int) ≤ i then σ (a + 1) (k - 1) else σ (a + 1) k := by
  unfold inS1
  rw [if_pos rfl]
theorem WF_in {σ : Sg} {a : Nat} {p i v : Int} (h : wR σ a) (hs : σ a 1 < (cap a : Int)) : wR (inS1 σ a p i v) a := ⟨h.1, by rw [in_sz]; have := h.2.1; omega, by rw [in_sz]; omega⟩
/-- put, where it goes through -/
theorem p172 {σ : Sg} {c t p l : Int} (H : Rel c σ) (ht : 0 ≤ t ∧ t < 4) (hp : 0 ≤ p ∧ p ≤ σ (2 + 2 * t.toNat) 1) (hl : isLn l = true) (hs : σ (2 + 2 * t.toNat) 1 < 16) : Dd 172 [vA 0, vI t, vI p, vI l] σ (rI (σ (2 + 2 * t.toNat) 1 + 1) (inS1 σ (2 + 2 * t.toNat) p (σ (2 + 2 * t.toNat) 1) l)) := by
  have hr := (el_1 ht).2
  have w := WF_w H.1 hr
  have cc := cp_1 ht
  refine b172 (Or.inl ⟨_, _, d227_ok ht, hr, _, _, d146 hr, by have := w.2; omega, Or.inl ⟨_, d232_ok (by omega), Or.inl ⟨_, d235_t hl, _, _, d146 hr, ?_⟩⟩⟩)
  rw [if_neg (by omega)]
  have d := d146 (σ := inS1 σ (2 + 2 * t.toNat) p (σ (2 + 2 * t.toNat) 1) l) hr
  rw [in_sz] at d
  exact ⟨_, d150 w hp (by omega), _, _, d, rfl⟩
theorem p172_full {σ : Sg} {c t p l : Int} (H : Rel c σ) (ht : 0 ≤ t ∧ t < 4) (hp : 0 ≤ p ∧ p ≤ σ (2 + 2 * t.toNat) 1) (hl : isLn l = true) (hs : ¬ σ (2 + 2 * t.toNat) 1 < 16) : Dd 172 [vA 0, vI t, vI p, vI l] σ (rX 2 σ) := by
  have hr := (el_1 ht).2
  have w := WF_w H.1 hr
  have cc := cp_1 ht
  refine b172 (Or.inl ⟨_, _, d227_ok ht, hr, _, _, d146 hr, by have := w.2; omega, Or.inl ⟨_, d232_ok (by omega), Or.inl ⟨_, d235_t hl, _, _, d146 hr, ?_⟩⟩⟩)
  rw [if_pos (by omega)]
def pmS (σ : Sg) (t p i : Nat) (l : Int) : Sg := fun c k => if c = 683 then (if k = 16 * t + p then l else if 16 * t + p < k ∧ k ≤ 16 * t + i then σ c (k - 1) else σ c k) else if c = 684 ∧ k = t then σ 684 t + 1 else σ c k
theorem l256 {t p : Nat} {l : Int} {d4 : Option AV} (ht : t < 4) : ∀ (d i : Nat) (σ : Sg), i = p + d → i < 16 → 0 ≤ σ 684 t → σ 684 t ≤ 16 → C256_81 t p l d4 i σ (rI (σ 684 t + 1) (pmS σ t p i l)) := by
  intro d
  induction d with
  | zero =>
    intro i σ hi hb h0 h1
    have t1 : ((16 * (t : Int)) + (p : Int)).toNat = 16 * t + p := by omega
    have t2 : ((t : Int)).toNat = t := by omega
    refine b256_81 ?_
    rw [if_neg (by omega), t1, t2, up_a (by decide), up_s]
    refine ⟨by omega, by omega, by omega, by omega, by omega, by omega, by omega, ?_⟩
    congr 1
    funext c k
    unfold pmS upS
    by_cases hc1 : c = 683
    · subst hc1
      rw [if_pos rfl, if_neg (show ¬ (683 = 684 ∧ k = t) by omega)]
      by_cases hk : k = 16 * t + p
      · rw [if_pos hk, if_pos ⟨rfl, hk⟩]
      · rw [if_neg hk, if_neg (show ¬ (16 * t + p < k ∧ k ≤ 16 * t + i) by omega), if_neg (fun e => hk e.2)]
    · rw [if_neg hc1]
      by_cases hc2 : c = 684 ∧ k = t
      · rw [if_pos hc2, if_pos hc2]
      · rw [if_neg hc2, if_neg hc2, if_neg (fun e => hc1 e.1)]
  | succ d ih =>
    intro i σ hi hb h0 h1
    have t1 : ((16 * (t : Int)) + (i : Int)).toNat = 16 * t + i := by omega
    have t3 : (((16 * (t : Int)) + (i : Int)) - 1).toNat = 16 * t + (i - 1) := by omega
    refine b256_81 ?_
    rw [if_pos (by omega), t1, t3]
    refine ⟨by omega, by omega, by omega, by omega, by omega, by omega, by omega, by omega, ?_⟩
    have e := ih (i - 1) (upS σ 683 (16 * t + i) (σ 683 (16 * t + (i - 1)))) (by omega) (by omega) (by rw [up_a (by decide)]; exact h0) (by rw [up_a (by decide)]; exact h1)
    rw [up_a (by decide), show (((i - 1 : Nat)) : Int) = (i : Int) + (-1) by omega] at e
    have e2 : pmS (upS σ 683 (16 * t + i) (σ 683 (16 * t + (i - 1)))) t p (i - 1) l = pmS σ t p i l := by
      funext c k
      unfold pmS
      by_cases hc1 : c = 683
      · subst hc1
        rw [if_pos rfl, if_pos rfl]
        by_cases hk : k = 16 * t + p
        · rw [if_pos hk, if_pos hk]
        · rw [if_neg hk, if_neg hk]
          by_cases hk2 : k = 16 * t + i
          · rw [if_neg (by omega), if_pos (by omega), hk2, up_s]
            congr 1
            omega
          · by_cases hk3 : 16 * t + p < k ∧ k ≤ 16 * t + (i - 1)
            · rw [if_pos hk3, if_pos (by omega), up_k (by omega)]
            · rw [if_neg hk3, if_neg (by omega), up_k hk2]
      · rw [if_neg hc1, if_neg hc1, up_a (by decide)]
        by_cases hc2 : c = 684 ∧ k = t
        · rw [if_pos hc2, if_pos hc2]
        · rw [if_neg hc2, if_neg hc2, up_a hc1]
    rw [e2] at e
    exact e
theorem p256 {σ : Sg} {t p l : Int} (ht : 0 ≤ t ∧ t < 4) (hp : 0 ≤ p ∧ p ≤ σ 684 t.toNat) (hl : isLn l = true) (hs : σ 684 t.toNat < 16) : Dd 256 [vA 682, vI t, vI p, vI l] σ (rI (σ 684 t.toNat + 1) (pmS (upS σ 682 0 0) t.toNat p.toNat (σ 684 t.toNat).toNat l)) := by
  refine b256 ⟨_, _, d247_ok ht, ?_⟩
  rw [if_neg (by decide), if_pos hp.1]
  refine ⟨ht, ?_⟩
  rw [if_pos hp.2]
  refine b256_26 ?_
  rw [if_neg (by decide)]
  refine ⟨_, _, d250, fun _ => ht, ?_⟩
  rw [if_pos hl, if_neg (show ¬ (1 : Int) = 0 by decide), if_neg (show ¬ σ 684 t.toNat = 16 by omega)]
  refine b256_65 ⟨_, _, d245, ?_⟩
  rw [if_pos rfl, if_neg (by decide)]
  refine ⟨ht, ?_⟩
  obtain ⟨tn, rfl⟩ := Int.eq_ofNat_of_zero_le ht.1
  obtain ⟨pn, rfl⟩ := Int.eq_ofNat_of_zero_le hp.1
  have t2 : ((tn : Int)).toNat = tn := by omega
  have t3 : ((pn : Int)).toNat = pn := by omega
  rw [t2] at hp hs ⊢
  rw [t3]
  obtain ⟨sn, hsn⟩ := Int.eq_ofNat_of_zero_le (show 0 ≤ σ 684 tn by omega)
  have e := l256 (t := tn) (p := pn) (l := l) (d4 := some (.inl 1)) (by omega) (sn - pn) sn (upS σ 682 0 0) (by omega) (by omega) (by rw [up_a (by decide)]; omega) (by rw [up_a (by decide)]; omega)
  rw [up_a (by decide)] at e ⊢
  rw [hsn, show ((sn : Int)).toNat = sn by omega]
  rw [hsn] at e
  exact e
theorem p256_full {σ : Sg} {t p l : Int} (ht : 0 ≤ t ∧ t < 4) (hp : 0 ≤ p ∧ p ≤ σ 684 t.toNat) (hl : isLn l = true) (hs : σ 684 t.toNat = 16) : Dd 256 [vA 682, vI t, vI p, vI l] σ (rI 0 (upS σ 682 0 3)) := by
  refine b256 ⟨_, _, d247_ok ht, ?_⟩
  rw [if_neg (by decide), if_pos hp.1]
  refine ⟨ht, ?_⟩
  rw [if_pos hp.2]
  refine b256_26 ?_
  rw [if_neg (by decide)]
  refine ⟨_, _, d250, fun _ => ht, ?_⟩
  rw [if_pos hl, if_neg (show ¬ (1 : Int) = 0 by decide), if_pos hs]
  refine b256_65 ⟨_, _, d245, ?_⟩
  rw [if_neg (show ¬ (3 : Int) = 0 by decide), if_pos rfl]
theorem o0 {σ : Sg} {c a1 a2 a3 : Int} (H : Rel c σ) : OpR 390 256 [vA 0, vI a1, vI a2, vI a3, vA 726] [vA 682, vI a1, vI a2, vI a3] σ (c + 1) := by
  by_cases g1 : a1 < 0
  · exact x0_0 H g1
  by_cases g2 : 4 ≤ a1
  · exact x0_1 H g2
  have k1 : 0 ≤ a1 ∧ a1 < 4 := by omega
  by_cases g3 : a2 < 0
  · exact x0_2 H k1 g3
  by_cases g4 : σ (2 + 2 * a1.toNat) 1 < a2
  · exact x0_3 H k1 g4
  have k2 : 0 ≤ a2 ∧ a2 ≤ σ (2 + 2 * a1.toNat) 1 := by omega
  by_cases g5 : isLn a3 = false
  · exact x0_4 H k1 k2 g5
  have k3 : isLn a3 = true := by simpa using g5
  obtain ⟨r1, r2, r3⟩ := rel_t H k1
  by_cases g6 : σ (2 + 2 * a1.toNat) 1 < 16
  · have hA := b390 (Or.inl ⟨_, _, p172 H k1 k2 k3 g6, rfl⟩)
    have q0 : ∀ v : Int, upS (inS1 σ (2 + 2 * a1.toNat) a2 (σ (2 + 2 * a1.toNat) 1) a3) 726 0 v 684 a1.toNat = σ (2 + 2 * a1.toNat) 1 := fun v => by rw [up_a (by decide), in_off (by omega) (by omega), r1]
    have hB := p256 (σ := upS (inS1 σ (2 + 2 * a1.toNat) a2 (σ (2 + 2 * a1.toNat) 1) a3) 726 0 (σ (2 + 2 * a1.toNat) 1 + 1)) (l := a3) k1 (by rw [q0]; exact k2) k3 (by rw [q0]; exact g6)
    rw [q0] at hB
    have hoff : ∀ c k, ¬ (c = 726 ∨ (c = 682 ∧ k = 0) ∨ (2 ≤ c ∧ c ≤ 9) ∨ c = 683 ∨ c = 684) → pmS (upS (upS (inS1 σ (2 + 2 * a1.toNat) a2 (σ (2 + 2 * a1.toNat) 1) a3) 726 0 (σ (2 + 2 * a1.toNat) 1 + 1)) 682 0 0) a1.toNat a2.toNat (σ (2 + 2 * a1.toNat) 1).toNat a3 c k = σ c k := by
      intro c k hc
      unfold pmS
      rw [if_neg (by omega), if_neg (by omega)]
      by_cases h9 : c = 682
      · rw [up_k (by omega), up_a (by omega), in_off (by omega) (by omega)]
      · rw [up_a h9, up_a (by omega), in_off (by omega) (by omega)]
    have hcl : ∀ c k, 2 ≤ c ∧ c ≤ 9 → pmS (upS (upS (inS1 σ (2 + 2 * a1.toNat) a2 (σ (2 + 2 * a1.toNat) 1) a3) 726 0 (σ (2 + 2 * a1.toNat) 1 + 1)) 682 0 0) a1.toNat a2.toNat (σ (2 + 2 * a1.toNat) 1).toNat a3 c k = inS1 σ (2 + 2 * a1.toNat) a2 (σ (2 + 2 * a1.toNat) 1) a3 c k := by
      intro c k hc
      unfold pmS
      rw [if_neg (by omega), if_neg (by omega), up_a (by omega), up_a (by omega)]
    have hm3 : ∀ k, upS (upS (inS1 σ (2 + 2 * a1.toNat) a2 (σ (2 + 2 * a1.toNat) 1) a3) 726 0 (σ (2 + 2 * a1.toNat) 1 + 1)) 682 0 0 683 k = σ 683 k := fun k => by rw [up_a (by decide), up_a (by decide), in_off (by omega) (by omega)]
    have hm4 : ∀ k, upS (upS (inS1 σ (2 + 2 * a1.toNat) a2 (σ (2 + 2 * a1.toNat) 1) a3) 726 0 (σ (2 + 2 * a1.toNat) 1 + 1)) 682 0 0 684 k = σ 684 k := fun k => by rw [up_a (by decide), up_a (by decide), in_off (by omega) (by omega)]
    have hR : RT (pmS (upS (upS (inS1 σ (2 + 2 * a1.toNat) a2 (σ (2 + 2 * a1.toNat) 1) a3) 726 0 (σ (2 + 2 * a1.toNat) 1 + 1)) 682 0 0) a1.toNat a2.toNat (σ (2 + 2 * a1.toNat) 1).toNat a3) := by
      intro t ht
      obtain ⟨u1, u2⟩ := H.2.2.1 t ht
      have m4 : pmS (upS (upS (inS1 σ (2 + 2 * a1.toNat) a2 (σ (2 + 2 * a1.toNat) 1) a3) 726 0 (σ (2 + 2 * a1.toNat) 1 + 1)) 682 0 0) a1.toNat a2.toNat (σ (2 + 2 * a1.toNat) 1).toNat a3 684 t = if t = a1.toNat then σ 684 t + 1 else σ 684 t := by
        unfold pmS
        rw [if_neg (by decide)]
        by_cases h9 : t = a1.toNat
        · rw [if_pos ⟨rfl, h9⟩, if_pos h9, hm4, h9]
        · rw [if_neg (fun e => h9 e.2), if_neg h9, hm4]
      by_cases h9 : t = a1.toNat
      · rw [← h9] at r1 r2 r3 k2 g6 hcl m4 hm3 ⊢
        rw [if_pos rfl] at m4
        refine ⟨⟨?_, ?_⟩, ?_⟩
        · rw [hcl _ _ (by omega), in_sz, m4, r1]
        · intro i hi
          rw [m4] at hi
          rw [hcl _ _ (by omega), in_val]
          unfold pmS
          rw [if_pos rfl, hm3, hm3]
          by_cases h8 : (i : Int) = a2
          · rw [if_pos h8, if_pos (show 16 * t + i = 16 * t + a2.toNat by omega)]
          · rw [if_neg h8, if_neg (show ¬ 16 * t + i = 16 * t + a2.toNat by omega)]
            by_cases h7 : a2 < (i : Int) ∧ (i : Int) ≤ σ (2 + 2 * t) 1
            · rw [if_pos h7, if_pos (show 16 * t + a2.toNat < 16 * t + i ∧ 16 * t + i ≤ 16 * t + (σ (2 + 2 * t) 1).toNat by omega), u1.2 (i - 1) (by omega)]
              congr 1
              omega
            · rw [if_neg h7, if_neg (show ¬ (16 * t + a2.toNat < 16 * t + i ∧ 16 * t + i ≤ 16 * t + (σ (2 + 2 * t) 1).toNat) by omega), u1.2 i (by omega)]
        · intro i hi
          rw [hcl _ _ (by omega), in_sz] at hi
          rw [hcl _ _ (by omega), in_val]
          by_cases h8 : (i : Int) = a2
          · rw [if_pos h8]; exact k3
          · rw [if_neg h8]
            by_cases h7 : a2 < (i : Int) ∧ (i : Int) ≤ σ (2 + 2 * t) 1
            · rw [if_pos h7]; exact u2 (i - 1) (by omega)
            · rw [if_neg h7]; exact u2 i (by omega)
      · rw [if_neg h9] at m4
        refine ⟨⟨?_, ?_⟩, ?_⟩
        · rw [hcl _ _ (by omega), in_off (by omega) (by omega), m4]; exact u1.1
        · intro i hi
          rw [m4] at hi
          rw [hcl _ _ (by omega), in_off (by omega) (by omega), u1.2 i hi]
          have := (rel_t H (t := (t : Int)) (by omega)).2
          rw [show ((t : Int)).toNat = t by omega] at this
          have u11 := u1.1
          unfold pmS
          rw [if_pos rfl, if_neg (show ¬ 16 * t + i = 16 * a1.toNat + a2.toNat by omega), if_neg (show ¬ (16 * a1.toNat + a2.toNat < 16 * t + i ∧ 16 * t + i ≤ 16 * a1.toNat + (σ (2 + 2 * a1.toNat) 1).toNat) by omega), hm3]
        · intro i hi
          rw [hcl _ _ (by omega), in_off (by omega) (by omega)] at hi ⊢
          exact u2 i hi
    refine ⟨_, _, _, _, hA, hB, ?_, fun _ => ?_, fun i => ?_, ?_, fun i => ?_, ?_, Rel_T (by omega) hoff hR (fun t ht => ?_) H⟩
    · unfold pmS
      rw [if_neg (by decide), if_neg (by omega), up_s]
    · unfold pmS
      rw [if_neg (by decide), if_neg (by omega), up_a (by decide), up_s]
    · rw [scr_a (by decide), in_off (SCR_ne (by omega)) (SCR_ne (by omega))]
    · rw [scr_b (by decide), in_off (SCR1_ne (by omega)) (SCR1_ne (by omega))]
    · exact hoff _ _ (by unfold SCR; omega)
    · exact hoff _ _ (by unfold SCR; omega)
    · rw [hcl _ _ (by omega)]
      have := (rel_t H (t := (t : Int)) (by omega)).2
      rw [show ((t : Int)).toNat = t by omega] at this
      by_cases h9 : t = a1.toNat
      · rw [h9, in_sz]; rw [h9] at this; omega
      · rw [in_off (by omega) (by omega)]; exact this
  · exact op_x H (by decide) (b390 (Or.inr (Or.inr (Or.inr ⟨_, p172_full H k1 k2 k3 g6, rfl⟩)))) (p256_full k1 (by rw [← r1]; exact k2) k3 (by omega))
end
