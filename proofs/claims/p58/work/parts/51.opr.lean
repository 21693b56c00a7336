/-! What is to be shown of each call. -/
noncomputable section
def OpR (w m : Nat) (aw am : List AV) (σ : Sg) (c : Int) : Prop := ∃ (kx b : Int) (s1 s2 : Sg), Dd w aw σ (.inl (some (.inl kx)), s1) ∧ Dd m am s1 (.inl (some (.inl b)), s2) ∧ s2 682 0 = kx ∧ (kx = 0 → s2 726 0 = b) ∧ (∀ i, s1 SCR i = σ SCR i) ∧ s1 (SCR + 1) 0 = σ (SCR + 1) 0 ∧ (∀ i, s2 SCR i = σ SCR i) ∧ s2 (SCR + 1) 0 = σ (SCR + 1) 0 ∧ Rel c s2
/-- the same, of a call that answers whether -/
def OpB (w m : Nat) (aw am : List AV) (σ : Sg) (c : Int) : Prop := ∃ (kx b : Int) (s1 s2 : Sg), Dd w aw σ (.inl (some (.inl kx)), s1) ∧ Dd m am s1 (.inl (some (.inl b)), s2) ∧ s2 682 0 = kx ∧ (kx = 0 → s2 726 0 = (if b = 0 then 0 else 1)) ∧ (∀ i, s1 SCR i = σ SCR i) ∧ s1 (SCR + 1) 0 = σ (SCR + 1) 0 ∧ (∀ i, s2 SCR i = σ SCR i) ∧ s2 (SCR + 1) 0 = σ (SCR + 1) 0 ∧ Rel c s2
theorem scr_a {σ : Sg} {a k : Nat} {v : Int} (h : a < 1000) (i : Nat) : upS σ a k v SCR i = σ SCR i := up_a (by intro e; rw [← e] at h; exact absurd h (by decide))
theorem scr_b {σ : Sg} {a k : Nat} {v : Int} (h : a < 1000) (i : Nat) : upS σ a k v (SCR + 1) i = σ (SCR + 1) i := up_a (by intro e; rw [← e] at h; exact absurd h (by decide))
theorem op_x {w m : Nat} {aw am : List AV} {σ : Sg} {c kx b : Int} (H : Rel c σ) (hk : ¬ kx = 0) (hA : Dd w aw σ (.inl (some (.inl kx)), σ)) (hB : Dd m am σ (.inl (some (.inl b)), upS σ 682 0 kx)) : OpR w m aw am σ (c + 1) :=
  ⟨kx, b, σ, _, hA, hB, up_s, fun h => absurd h hk, fun _ => rfl, rfl, fun i => scr_a (by decide) i, scr_b (by decide) 0, Rel_0 (by omega) (fun c k hc => by
    unfold upS
    rw [if_neg (by omega)]) H⟩
theorem op_xB {w m : Nat} {aw am : List AV} {σ : Sg} {c kx b : Int} (H : Rel c σ) (hk : ¬ kx = 0) (hA : Dd w aw σ (.inl (some (.inl kx)), σ)) (hB : Dd m am σ (.inl (some (.inl b)), upS σ 682 0 kx)) : OpB w m aw am σ (c + 1) :=
  ⟨kx, b, σ, _, hA, hB, up_s, fun h => absurd h hk, fun _ => rfl, rfl, fun i => scr_a (by decide) i, scr_b (by decide) 0, Rel_0 (by omega) (fun c k hc => by
    unfold upS
    rw [if_neg (by omega)]) H⟩
theorem op_q {w m : Nat} {aw am : List AV} {σ : Sg} {c v : Int} (H : Rel c σ) (hA : Dd w aw σ (.inl (some (.inl 0)), upS σ 726 0 v)) (hB : Dd m am (upS σ 726 0 v) (.inl (some (.inl v)), upS (upS σ 726 0 v) 682 0 0)) : OpR w m aw am σ (c + 1) :=
  ⟨0, v, _, _, hA, hB, up_s, fun _ => by rw [up_a (by decide), up_s], fun i => scr_a (by decide) i, scr_b (by decide) 0, fun i => by rw [scr_a (by decide), scr_a (by decide)], by rw [scr_b (by decide), scr_b (by decide)], Rel_0 (by omega) (fun c k hc => by
    unfold upS
    rw [if_neg (by omega), if_neg (by omega)]) H⟩
/-- what the relation says of numbers of both sides -/
theorem rel_n {c : Int} {σ : Sg} (H : Rel c σ) : (σ 682 3 = σ 0 3 ∧ 0 ≤ σ 0 3 ∧ σ 0 3 ≤ 24) ∧ (σ 682 40 = σ 402 3 ∧ 0 ≤ σ 402 3 ∧ σ 402 3 ≤ 5) ∧ (σ 682 33 = σ 393 1 ∧ 0 ≤ σ 393 1 ∧ σ 393 1 ≤ 17) ∧ (σ 653 1 = 6 * σ 682 53 ∧ 0 ≤ σ 682 53 ∧ σ 682 53 ≤ 10 ∧ Int.tdiv (σ 653 1) 6 = σ 682 53) ∧ (σ 682 58 = σ 658 1 ∧ 0 ≤ σ 658 1 ∧ σ 658 1 ≤ 10) := by
  obtain ⟨h1, h2, h3, h4, h5, h6, h7, h8, h9⟩ := H
  have e1 := h1 393 (by decide +kernel)
  have c1 : cap 393 = 17 := by decide +kernel
  have d0 := h8.2.2.2.1.1
  have d1 := h8.2.1
  have d2 := h8.2.2.1
  refine ⟨⟨h5.2.2.1, h5.1, h5.2.1⟩, ⟨h6.2.2.1, h6.1, h6.2.1⟩, ⟨h7.1, e1.1, by omega⟩, ⟨d0, d1, d2, ?_⟩, ⟨h9.2.2.1, h9.1, h9.2.1⟩⟩
  rw [td (by omega)]
  omega
theorem rel_t {c : Int} {σ : Sg} (H : Rel c σ) {t : Int} (ht : 0 ≤ t ∧ t < 4) : σ (2 + 2 * t.toNat) 1 = σ 684 t.toNat ∧ 0 ≤ σ (2 + 2 * t.toNat) 1 ∧ σ (2 + 2 * t.toNat) 1 ≤ 16 := by
  have h := (H.2.2.1 t.toNat (by omega)).1.1
  have w := H.1 (2 + 2 * t.toNat) (el_1 ht).2
  have cc := cp_1 ht
  exact ⟨h, w.1, by omega⟩
theorem rel_b {c : Int} {σ : Sg} (H : Rel c σ) {t : Int} (ht : 0 ≤ t ∧ t < 4) : σ (11 + 2 * t.toNat) 1 = σ 723 t.toNat ∧ 0 ≤ σ (11 + 2 * t.toNat) 1 ∧ σ (11 + 2 * t.toNat) 1 ≤ 40 := by
  have h := (H.2.2.2.1 t.toNat (by omega)).1.1
  have w := H.1 (11 + 2 * t.toNat) (el_10 ht).2
  have cc := cp_10 ht
  exact ⟨h, w.1, by omega⟩
theorem rel_p {c : Int} {σ : Sg} (H : Rel c σ) {p : Int} (hp : 0 ≤ p ∧ p < σ 0 3) : σ (20 + 13 * p.toNat + 1) 1 = σ 688 p.toNat ∧ σ (20 + 13 * p.toNat + 3) 1 = σ 689 p.toNat ∧ 0 ≤ σ 688 p.toNat ∧ σ 688 p.toNat ≤ 16 ∧ 0 ≤ σ 689 p.toNat ∧ σ 689 p.toNat ≤ 16 := by
  have hn := (rel_n H).1
  obtain ⟨g1, g2⟩ := H.2.2.2.2.1.2.2.2 p.toNat (by omega)
  have hq := (el_19 (i := p) (by omega)).2
  have w1 := H.1 _ (pat_1 hq)
  have w3 := H.1 _ (pat_3 hq)
  have a1 := g1.1.1
  have a2 := g1.2.1.1
  have b1 := g2.1
  have b2 := g2.2.1
  exact ⟨a1, a2, by omega, by omega, by omega, by omega⟩
end
