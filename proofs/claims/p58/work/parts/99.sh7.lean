/-! makes, and make. -/
noncomputable section
theorem mvF_cg {F F' : Nat → Int} {nb lo hi o d n a : Nat} (h : ∀ x, x < nb → F x = F' x) : ∀ x, x < nb → mvF F lo hi o d n a x = mvF F' lo hi o d n a x := by
  intro x hx
  unfold mvF
  rw [h x hx]
theorem shF_cg {O N F F' : Nat → Int} {nb hh : Nat} {l : List St} (h : ∀ x, x < nb → F x = F' x) : ∀ x, x < nb → shF O N nb F l hh x = shF O N nb F' l hh x := by
  intro x hx
  unfold shF
  cases l[hh]? with
  | none => exact h x hx
  | some q =>
    dsimp only
    split
    · exact mvF_cg h x hx
    · split
      · exact mvF_cg h x hx
      · exact h x hx
theorem shsF_cg {O N : Nat → Int} {nb : Nat} : ∀ (d hh : Nat) (F F' : Nat → Int) (l : List St), (∀ x, x < nb → F x = F' x) → ∀ x, x < nb → shsF O N nb d hh F l x = shsF O N nb d hh F' l x := by
  intro d
  induction d with
  | zero => intro hh F F' l h; exact h
  | succ d ih => intro hh F F' l h; exact ih (hh + 1) _ _ _ (shF_cg h)
/-- the lines and the pairs of the first text -/
theorem l287a {p n1 : Nat} {f M : Nat → Int} {σ0 : Sg} {d2 d3 : Option AV} (hp : p < 44) (h1 : n1 ≤ 64) (z : σ0 682 12 = (n1 : Nat)) (hf : ∀ i, i < n1 → σ0 691 i = f i) (hM : ∀ i, i < n1 → σ0 693 i = M i) : ∀ (d x : Nat) (σ : Sg) (d5 : Option AV), x + d = n1 → (∀ c k, ¬ ((c = 685 ∨ c = 687) ∧ 100 * p ≤ k ∧ k < 100 * p + 100) → σ c k = σ0 c k) → (∀ k, k < x → σ 685 (100 * p + k) = f k ∧ σ 687 (100 * p + k) = M k) → ∃ s, (∀ {o : Rs}, C287_85 p d2 d3 0 d5 s o → C287_29 p d2 d3 x d5 σ o) ∧ (∀ k, k < n1 → s 685 (100 * p + k) = f k ∧ s 687 (100 * p + k) = M k) ∧ ∀ c k, ¬ ((c = 685 ∨ c = 687) ∧ 100 * p ≤ k ∧ k < 100 * p + 100) → s c k = σ0 c k := by
  intro d
  induction d with
  | zero =>
    intro x σ d5 hx fr hv
    refine ⟨σ, fun {o} hh => b287_29 ?_, fun k hk => hv k (by omega), fr⟩
    rw [fr 682 12 (by omega), z, if_neg (by omega)]
    exact hh
  | succ d ih =>
    intro x σ d5 hx fr hv
    obtain ⟨s, a1, a2, a3⟩ := ih (x + 1) (upS (upS σ 685 (100 * p + x) (f x)) 687 (100 * p + x) (M x)) d5 (by omega) (fun c k y => by
      unfold upS
      rw [if_neg (by omega), if_neg (by omega)]
      exact fr c k y) (fun k hk => by
      by_cases e : k = x
      · rw [e, up_s, up_a (show ¬ (685 : Nat) = 687 by decide), up_s]
        exact ⟨rfl, rfl⟩
      · rw [up_a (show ¬ (685 : Nat) = 687 by decide), up_k (show ¬ 100 * p + k = 100 * p + x by omega), up_k (show ¬ 100 * p + k = 100 * p + x by omega), up_a (show ¬ (687 : Nat) = 685 by decide)]
        exact hv k (by omega))
    refine ⟨s, fun {o} hh => b287_29 ?_, a2, a3⟩
    rw [fr 682 12 (by omega), z, if_pos (by omega), show (100 * (p : Int) + (x : Int)).toNat = 100 * p + x by omega, tn, up_a (show ¬ (693 : Nat) = 685 by decide), fr 691 x (by omega), fr 693 x (by omega), hf x (by omega), hM x (by omega), show (x : Int) + 1 = ((x + 1 : Nat) : Int) by omega]
    exact ⟨by omega, by omega, by omega, by omega, by omega, by omega, by omega, by omega, by omega, a1 hh⟩
/-- the lines of the second text -/
theorem l287b {p n2 : Nat} {g : Nat → Int} {σ0 : Sg} {d2 d3 : Option AV} {d5 : Option AV} (hp : p < 44) (h1 : n2 ≤ 64) (z : σ0 682 13 = (n2 : Nat)) (hf : ∀ i, i < n2 → σ0 692 i = g i) : ∀ (d x : Nat) (σ : Sg), x + d = n2 → (∀ c k, ¬ (c = 686 ∧ 100 * p ≤ k ∧ k < 100 * p + 100) → σ c k = σ0 c k) → (∀ k, k < x → σ 686 (100 * p + k) = g k) → ∃ s, (∀ {o : Rs}, (∃ v7 s6, Dd 280 [vA 682, vI p, vI 0] s (rI v7 s6) ∧ C287_130 p d2 d3 v7 0 s6 o) → C287_85 p d2 d3 x d5 σ o) ∧ (∀ k, k < n2 → s 686 (100 * p + k) = g k) ∧ ∀ c k, ¬ (c = 686 ∧ 100 * p ≤ k ∧ k < 100 * p + 100) → s c k = σ0 c k := by
  intro d
  induction d with
  | zero =>
    intro x σ hx fr hv
    refine ⟨σ, fun {o} hh => b287_85 ?_, fun k hk => hv k (by omega), fr⟩
    rw [fr 682 13 (by omega), z, if_neg (by omega)]
    exact hh
  | succ d ih =>
    intro x σ hx fr hv
    obtain ⟨s, a1, a2, a3⟩ := ih (x + 1) (upS σ 686 (100 * p + x) (g x)) (by omega) (fun c k y => by
      unfold upS
      rw [if_neg (by omega)]
      exact fr c k y) (fun k hk => by
      by_cases e : k = x
      · rw [e, up_s]
      · rw [up_k (show ¬ 100 * p + k = 100 * p + x by omega)]
        exact hv k (by omega))
    refine ⟨s, fun {o} hh => b287_85 ?_, a2, a3⟩
    rw [fr 682 13 (by omega), z, if_pos (by omega), show (100 * (p : Int) + (x : Int)).toNat = 100 * p + x by omega, tn, fr 692 x (by omega), hf x (by omega), show (x : Int) + 1 = ((x + 1 : Nat) : Int) by omega]
    exact ⟨by omega, by omega, by omega, by omega, by omega, a1 hh⟩
/-- the hunks shifted, one after another -/
theorem l287c {p n1 n2 : Nat} {f g : Nat → Int} {σ0 : Sg} {d2 d3 : Option AV} (hp : p < 44) (h1 : n1 ≤ 99) (h2 : n2 ≤ 99) (lf : ∀ i, i < n1 → isLn (f i) = true) (lg : ∀ i, i < n2 → isLn (g i) = true) : ∀ (d h : Nat) (l : List St) (F : Nat → Int) (σ : Sg), h + d = l.length → l.length ≤ 120 → DS F n1 n2 l 0 0 0 → EQL f g F n1 → Slot σ p n1 n2 f g F → HK σ 0 0 l → σ 704 0 = (l.length : Nat) → (∀ c k, ¬ (700 ≤ c ∧ c ≤ 704) → ¬ (c = 687 ∧ 100 * p ≤ k ∧ k < 100 * p + 100) → σ c k = σ0 c k) → ∃ s, C287_130 p d2 d3 (l.length : Nat) h σ (rV s) ∧ Slot s p n1 n2 f g (shsF f g n1 d h F l) ∧ HK s 0 0 (shs f g n1 d h l) ∧ s 704 0 = (l.length : Nat) ∧ ∀ c k, ¬ (700 ≤ c ∧ c ≤ 704) → ¬ (c = 687 ∧ 100 * p ≤ k ∧ k < 100 * p + 100) → s c k = σ0 c k := by
  intro d
  induction d with
  | zero =>
    intro h l F σ hh hl H E S K z fr
    refine ⟨σ, b287_130 ?_, S, K, z, fr⟩
    rw [if_neg (by omega)]
  | succ d ih =>
    intro h l F σ hh hl H E S K z fr
    obtain ⟨s1, a1, a2, a3⟩ := d285 (s := p) (h := h) hp h1 h2 hl (by omega) H K z S lf lg
    obtain ⟨H1, E1⟩ := sh1_DS (h := h) H E
    obtain ⟨t1, t2, t3, t4, t5⟩ := S
    have u1 : s1 688 p = (n1 : Nat) := by rw [a2 _ _ (by omega)]; exact t1
    have u2 : s1 689 p = (n2 : Nat) := by rw [a2 _ _ (by omega)]; exact t2
    obtain ⟨s2, e1, e2, e3, e4, e5⟩ := d280 (s := p) (wh := 0) (f := shF f g n1 F l h) hp (by decide) (by omega) (by omega) (DS_VF H1) u1 u2 a3
    rw [DS_hks H1] at e1 e2 e3 e4
    have S2 : Slot s2 p n1 n2 f g (shF f g n1 F l h) := ⟨by rw [e5 _ _ (by omega) (by omega)]; exact u1, by rw [e5 _ _ (by omega) (by omega)]; exact u2, fun i hi => by rw [e5 _ _ (by omega) (by omega), a2 _ _ (by omega)]; exact t3 i hi, fun i hi => by rw [e5 _ _ (by omega) (by omega), a2 _ _ (by omega)]; exact t4 i hi, fun i hi => by rw [e5 _ _ (by omega) (by omega)]; exact a3 i hi⟩
    obtain ⟨s, g1, g2, g3, g4, g5⟩ := ih (h + 1) (sh1 f g n1 l h) (shF f g n1 F l h) s2 (by rw [sh1_len]; omega) (by rw [sh1_len]; exact hl) H1 E1 S2 e2 e3 (fun c k y1 y2 => by rw [e5 c k (by omega) (by omega), a2 c k y2]; exact fr c k y1 y2)
    rw [sh1_len] at e1 g1 g4
    refine ⟨s, b287_130 ?_, g2, g3, g4, g5⟩
    rw [if_pos (by omega), show (h : Int) + 1 = ((h + 1 : Nat) : Int) by omega]
    exact ⟨s1, a1, _, s2, e1, by omega, g1⟩
/-- makes -/
theorem d287 {p n1 n2 : Nat} {f g : Nat → Int} {way : Int} {σ : Sg} (hp : p < 44) (R : MRw σ f g n1 n2) (m12 : σ 682 12 = (n1 : Nat)) (m13 : σ 682 13 = (n2 : Nat)) (lf : ∀ i, i < n1 → isLn (f i) = true) (lg : ∀ i, i < n2 → isLn (g i) = true) : ∃ s, Dd 287 [vA 682, vI p, vI way] σ (rV s) ∧ Slot s p n1 n2 f g (shsF f g n1 (hks (mtc way f g n1 n2) n1 n2).length 0 (mtc way f g n1 n2) (hks (mtc way f g n1 n2) n1 n2)) ∧ HK s 0 0 (shs f g n1 (hks (mtc way f g n1 n2) n1 n2).length 0 (hks (mtc way f g n1 n2) n1 n2)) ∧ s 704 0 = ((hks (mtc way f g n1 n2) n1 n2).length : Nat) ∧ ∀ c k, ¬ (693 ≤ c ∧ c ≤ 694) → ¬ (696 ≤ c ∧ c ≤ 704) → ¬ (c = 682 ∧ 17 ≤ k ∧ k ≤ 22) → ¬ (685 ≤ c ∧ c ≤ 687 ∧ 100 * p ≤ k ∧ k < 100 * p + 100) → ¬ ((c = 688 ∨ c = 689) ∧ k = p) → s c k = σ c k := by
  have G : GD f g n1 n2 (mtc way f g n1 n2) := mtc_GD
  obtain ⟨s1, a1, a2, a3⟩ := d274 (way := way) R m12 m13
  obtain ⟨M, hM⟩ : ∃ M, M = mtc way f g n1 n2 := ⟨_, rfl⟩
  rw [← hM] at G a1 a2
  rw [← hM]
  obtain ⟨r1, r2, r3, r4⟩ := R
  have x12 : s1 682 12 = (n1 : Nat) := by rw [a3 _ _ (by omega) (by omega) (by omega)]; exact m12
  have x13 : s1 682 13 = (n2 : Nat) := by rw [a3 _ _ (by omega) (by omega) (by omega)]; exact m13
  have fr1 : ∀ c k, ¬ ((c = 688 ∨ c = 689) ∧ k = p) → upS (upS s1 688 p (n1 : Nat)) 689 p (n2 : Nat) c k = s1 c k := fun c k h => by
    unfold upS
    rw [if_neg (by omega), if_neg (by omega)]
  obtain ⟨s2, b1, b2, b3⟩ := l287a (p := p) (n1 := n1) (f := f) (M := M) (σ0 := upS (upS s1 688 p (n1 : Nat)) 689 p (n2 : Nat)) (d2 := some (vI way)) (d3 := some (vI ((n1 : Int) - cnt M (-1) 0 n1))) hp (by omega) (by rw [fr1 _ _ (by omega)]; exact x12) (fun i hi => by rw [fr1 _ _ (by omega), a3 _ _ (by omega) (by omega) (by omega)]; exact r3 i hi) (fun i hi => by rw [fr1 _ _ (by omega)]; exact a2 i hi) n1 0 (upS (upS s1 688 p (n1 : Nat)) 689 p (n2 : Nat)) none (by omega) (fun _ _ _ => rfl) (fun k hk => by omega)
  obtain ⟨s3, e1, e2, e3⟩ := l287b (p := p) (n2 := n2) (g := g) (σ0 := s2) (d2 := some (vI way)) (d3 := some (vI ((n1 : Int) - cnt M (-1) 0 n1))) (d5 := none) hp (by omega) (by rw [b3 _ _ (by omega), fr1 _ _ (by omega)]; exact x13) (fun i hi => by rw [b3 _ _ (by omega), fr1 _ _ (by omega), a3 _ _ (by omega) (by omega) (by omega)]; exact r4 i hi) n2 0 s2 (by omega) (fun _ _ _ => rfl) (fun k hk => by omega)
  have z1 : s3 688 p = (n1 : Nat) := by rw [e3 _ _ (by omega), b3 _ _ (by omega), up_a (by decide), up_s]
  have z2 : s3 689 p = (n2 : Nat) := by rw [e3 _ _ (by omega), b3 _ _ (by omega), up_s]
  have z3 : ∀ i, i < n1 → s3 685 (100 * p + i) = f i := fun i hi => by rw [e3 _ _ (by omega)]; exact (b2 i hi).1
  have z5 : ∀ i, i < n1 → s3 687 (100 * p + i) = M i := fun i hi => by rw [e3 _ _ (by omega)]; exact (b2 i hi).2
  obtain ⟨s4, c1, c2, c3, c4, c5⟩ := d280 (s := p) (wh := 0) (f := M) hp (by decide) (by omega) (by omega) G.1 z1 z2 z5
  have S4 : Slot s4 p n1 n2 f g M := ⟨by rw [c5 _ _ (by omega) (by omega)]; exact z1, by rw [c5 _ _ (by omega) (by omega)]; exact z2, fun i hi => by rw [c5 _ _ (by omega) (by omega)]; exact z3 i hi, fun i hi => by rw [c5 _ _ (by omega) (by omega)]; exact e2 i hi, fun i hi => by rw [c5 _ _ (by omega) (by omega)]; exact z5 i hi⟩
  obtain ⟨s5, g1, g2, g3, g4, g5⟩ := l287c (p := p) (n1 := n1) (n2 := n2) (f := f) (g := g) (σ0 := s4) (d2 := some (vI way)) (d3 := some (vI ((n1 : Int) - cnt M (-1) 0 n1))) hp (by omega) (by omega) lf lg (hks M n1 n2).length 0 (hks M n1 n2) M s4 (by omega) (by omega) (DS_0 G.1) G.2 S4 c2 c3 (fun _ _ _ _ => rfl)
  refine ⟨s5, b287 ⟨_, s1, a1, by omega, by omega, ?_⟩, g2, g3, g4, fun c k y1 y2 y3 y4 y5 => ?_⟩
  · have e : upS (upS s1 688 ((p : Int)).toNat (s1 682 12)) 689 ((p : Int)).toNat (upS s1 688 ((p : Int)).toNat (s1 682 12) 682 13) = upS (upS s1 688 p (n1 : Nat)) 689 p (n2 : Nat) := by
      rw [tn, x12, up_a (show ¬ (682 : Nat) = 688 by decide), x13]
    rw [e]
    exact b1 (e1 ⟨_, s4, c1, g1⟩)
  · rw [g5 c k (by omega) (by omega), c5 c k (by omega) (by omega), e3 c k (by omega), b3 c k (by omega), fr1 c k y5, a3 c k y1 (by omega) y3]
theorem cpS379 : isPatch 379 = true ∧ cap 380 = 16 ∧ cap 382 = 16 ∧ cap 384 = 16 ∧ cap 386 = 16 ∧ cap 388 = 68 := by decide +kernel
/-- make -/
theorem o9 {σ : Sg} {c a1 a2 a3 : Int} (H : Rel c σ) : OpR 399 299 [vA 0, vI a1, vI a2, vI a3, vA 726] [vA 682, vI a1, vI a2, vI a3] σ (c + 1) := by
  by_cases g1 : a1 < 0
  · exact x9_0 H g1
  by_cases g2 : 4 ≤ a1
  · exact x9_1 H g2
  by_cases g3 : a2 < 0
  · exact x9_2 H (by omega) g3
  by_cases g4 : 4 ≤ a2
  · exact x9_3 H (by omega) g4
  by_cases g5 : a3 < 0
  · exact x9_4 H (by omega) (by omega) g5
  by_cases g6 : 2 < a3
  · exact x9_5 H (by omega) (by omega) g6
  obtain ⟨t, rfl⟩ := Int.eq_ofNat_of_zero_le (show 0 ≤ a1 by omega)
  obtain ⟨u, rfl⟩ := Int.eq_ofNat_of_zero_le (show 0 ≤ a2 by omega)
  have g7 : 0 ≤ a3 ∧ a3 < 3 := by omega
  obtain ⟨n1, b1, r1, z1, m1, v1, l1⟩ := rt_two H (t := t) (by omega)
  obtain ⟨n2, b2, r2, z2, m2, v2, l2⟩ := rt_two H (t := u) (by omega)
  have hn := (rel_n H).1
  have e227 := d227_ok (σ := σ) (t := (t : Int)) (by omega)
  have f227 := d227_ok (σ := σ) (t := (u : Int)) (by omega)
  rw [tn] at e227 f227
  have G : GD (σ (2 + 2 * t + 1)) (σ (2 + 2 * u + 1)) n1 n2 (mtc a3 (σ (2 + 2 * t + 1)) (σ (2 + 2 * u + 1)) n1 n2) := mtc_GD
  obtain ⟨s1, a1', W1, a4', a5', a6'⟩ := d15 (way := a3) H.1 r1 r2 z1 z2 (by omega) (by omega) (by omega) (by omega)
  obtain ⟨M, hM⟩ : ∃ M, M = mtc a3 (σ (2 + 2 * t + 1)) (σ (2 + 2 * u + 1)) n1 n2 := ⟨_, rfl⟩
  rw [← hM] at a5' G
  obtain ⟨p379, c380, c382, c384, c386, c388⟩ := cpS379
  have c380' : cap (379 + 1) = 16 := c380
  have c382' : cap (379 + 3) = 16 := c382
  have c384' : cap (379 + 5) = 16 := c384
  have c386' : cap (379 + 7) = 16 := c386
  have c388' : cap (379 + 9) = 68 := c388
  have w337 : wR s1 337 := WF_w W1 (by decide +kernel)
  have a5'' : ∀ i, i < n1 → s1 (337 + 1) i = M i := a5'
  obtain ⟨s2, e1, e2, e3, e4, e5, e6, e7⟩ := d95 (P := 379) (x1 := 2 + 2 * t) (x2 := 2 + 2 * u) (x3 := 337) (nb := n1) (na := n2) (σ := s1) p379 (WF_w W1 r1) (WF_w W1 r2) w337 (by rw [a6' _ _ (by omega) (by omega)]; exact z1) (by rw [a6' _ _ (by omega) (by omega)]; exact z2) a4' (VF_cg a5'' G.1) (by omega) (by omega) (by omega) (by omega) (by omega) (by omega) (by omega) (by omega)
  have W2 : WF s2 := WF_np W1 p379 e2 e3 (by omega) (by omega) (by omega) (by omega) e7
  have h6 : ∀ i, i < n1 → s2 (379 + 6) i = M i := fun i hi => by rw [e6 i hi]; exact a5'' i hi
  have E2 : EQL (σ (2 + 2 * t + 1)) (σ (2 + 2 * u + 1)) (s2 (379 + 6)) n1 := fun x hx hne => by
    rw [h6 x hx] at hne ⊢
    exact G.2 x hx hne
  obtain ⟨s3, k1, k2, k3, k4, k5, k6⟩ := d108 (P := 379) (nb := n1) (na := n2) (O := σ (2 + 2 * t + 1)) (N := σ (2 + 2 * u + 1)) p379 W2 (by omega) (by omega) e2 (fun i hi => by rw [e4 i hi, a6' _ _ (by omega) (by omega)]) (fun i hi => by rw [e5 i hi, a6' _ _ (by omega) (by omega)]) l1 l2 E2 (by omega) (by omega)
  have q2 : ∀ i, i < n1 → s3 (379 + 2) i = σ (2 + 2 * t + 1) i := fun i hi => by rw [k6 _ _ (by omega), e4 i hi, a6' _ _ (by omega) (by omega)]
  have q4 : ∀ i, i < n2 → s3 (379 + 4) i = σ (2 + 2 * u + 1) i := fun i hi => by rw [k6 _ _ (by omega), e5 i hi, a6' _ _ (by omega) (by omega)]
  have V3 : VF (s3 (379 + 6)) n1 n2 := k2.2.2.2.2.1
  have W3 : WF s3 := WF_np W2 p379 k2 k5 (by omega) (by omega) (by omega) (by omega) (fun c k h => k6 c k (by omega))
  have P3 : PO s3 379 16 := by
    refine PO_of k2 (by omega) (by omega) (fun i hi e => ?_) (fun i hi => ?_) (fun i hi => ?_)
    · have y := V3.1 i hi
      rw [q2 i hi, q4 _ (by omega)]
      exact k3 i hi e
    · rw [q2 i hi]; exact l1 i hi
    · rw [q4 i hi]; exact l2 i hi
  have F1 : ∀ a k, a < 682 → KP a k → s3 a k = σ a k := fun a k h1 h2 => by rw [k6 a k (by omega), e7 a k (by omega), a6' a k (by omega) (by omega)]
  have G1 : ∀ a k, 682 ≤ a → s3 a k = σ a k := fun a k h1 => by rw [k6 a k (by omega), e7 a k (by omega), a6' a k (by omega) (by omega)]
  have m299 : ∀ {s : Sg} {o : Rs}, C299_44 (t : Int) (u : Int) a3 (if s 682 3 = 24 then 3 else 0) s o → Dd 299 [vA 682, vI t, vI u, vI a3] s o := by
    intro s o hh
    refine b299 ⟨_, _, d247_ok (by omega), ?_⟩
    rw [if_neg (show ¬ (1 : Int) = 0 by decide)]
    refine ⟨_, _, d247_ok (by omega), ?_⟩
    rw [if_neg (show ¬ (1 : Int) = 0 by decide)]
    refine ⟨_, _, d275, ?_⟩
    rw [if_pos g7, if_neg (show ¬ (1 : Int) = 0 by decide)]
    exact hh
  by_cases g8 : σ 0 3 < 24
  · obtain ⟨p, hp⟩ := Int.eq_ofNat_of_zero_le hn.2.1
    refine op_st H hp (by omega) p379 (by decide) W3 F1 G1 P3 k2.1 k2.2.1 (fun s hs => b399 (Or.inl ⟨_, _, b181 (Or.inl ⟨_, _, e227, r1, Or.inl ⟨_, _, f227, r2, Or.inl ⟨_, d236_ok g7, _, _, a1', by decide +kernel, s2, e1, s3, k1, Or.inl ⟨_, _, hs, rfl⟩⟩⟩⟩), rfl⟩)) (fun s hs => ?_)
    have e3' := hs 682 3 (by decide) (by decide)
    have fr0 : ∀ a k, 682 ≤ a → ¬ a = 726 → ¬ (a = 682 ∧ k = 0) → upS s 682 0 0 a k = σ a k := fun a k h1 h2 h3 => by
      have : upS s 682 0 0 a k = s a k := by unfold upS; rw [if_neg h3]
      rw [this]
      exact hs a k h1 h2
    obtain ⟨s4, y1, y2, y3, y4, y5, y6⟩ := d276 (t := t) (u := u) (n1 := n1) (n2 := n2) (σ := upS s 682 0 0) (by omega) (by omega) (by rw [fr0 _ _ (by decide) (by decide) (by omega)]; exact m1) (by rw [fr0 _ _ (by decide) (by decide) (by omega)]; exact m2) b1 b2
    have RR : MRw s4 (σ (2 + 2 * t + 1)) (σ (2 + 2 * u + 1)) n1 n2 := ⟨by omega, by omega, fun i hi => by rw [y2 i hi, fr0 _ _ (by decide) (by decide) (by omega)]; exact v1 i hi, fun i hi => by rw [y3 i hi, fr0 _ _ (by decide) (by decide) (by omega)]; exact v2 i hi⟩
    obtain ⟨s5, x1, x2, x3, x4, x5⟩ := d287 (p := p) (way := a3) (by omega) RR y4 y5 l1 l2
    rw [← hM] at x2
    have p4 : s4 682 3 = (p : Nat) := by rw [y6 _ _ (by decide) (by decide) (by decide), up_k (by decide), e3', hn.1, hp]
    have p5 : s5 682 3 = (p : Nat) := by rw [x5 _ _ (by decide) (by decide) (by decide) (by omega) (by omega)]; exact p4
    refine ⟨upS s5 682 3 ((p : Int) + 1), m299 ?_, ?_, up_s, fun b k h => ?_, fun b k h1 h2 h3 h4 h5 h6 => ?_, ?_⟩
    · rw [if_neg (by omega)]
      refine b299_44 ⟨_, _, d245, ?_⟩
      rw [if_pos rfl, if_neg (show ¬ (1 : Int) = 0 by decide)]
      refine ⟨s4, y1, ?_⟩
      rw [p4]
      refine ⟨s5, x1, ?_⟩
      rw [p5, up_s, show ((p : Nat) : Int) + 1 - 1 = (p : Int) by omega]
      exact ⟨by omega, by omega, rfl⟩
    · rw [up_k (by decide), x5 _ _ (by decide) (by decide) (by decide) (by omega) (by omega), y6 _ _ (by decide) (by decide) (by decide), up_s]
    · rw [up_a (by omega), x5 _ _ (by omega) (by omega) (by omega) (by omega) (by omega), y6 _ _ (by omega) (by omega) (by omega), up_a (by omega)]
    · have : upS s5 682 3 ((p : Int) + 1) b k = s5 b k := by unfold upS; rw [if_neg h4]
      rw [this, x5 _ _ (by omega) (by omega) (by omega) h5 h6, y6 _ _ (by omega) (by omega) (by omega), fr0 _ _ h1 (by omega) (by omega)]
    · obtain ⟨t1, t2, t3, t4, t5⟩ := x2
      have hk : hks (s2 (379 + 6)) n1 n2 = hks M n1 n2 := hks_cg h6
      refine ⟨by rw [up_a (by decide)]; exact t1, by rw [up_a (by decide)]; exact t2, fun i hi => ?_, fun i hi => ?_, fun i hi => ?_⟩
      · rw [up_a (by decide), t3 i hi]; exact (q2 i hi).symm
      · rw [up_a (by decide), t4 i hi]; exact (q4 i hi).symm
      · rw [up_a (by decide), t5 i hi, k4 i hi, hk]
        exact shsF_cg _ _ _ _ _ (fun x hx => (h6 x hx).symm) i hi
  · have hfull : Dd 242 [vA 0, vA 379] s3 (rX 2 s3) := d242_full (by rw [F1 0 3 (by decide) (kq_P (by omega))]; exact g8)
    have e3' := G1 682 3 (by decide)
    refine op_full H (kx := 3) (by decide) W3 F1 G1 (b399 (Or.inr (Or.inr (Or.inr ⟨_, b181 (Or.inl ⟨_, _, e227, r1, Or.inl ⟨_, _, f227, r2, Or.inl ⟨_, d236_ok g7, _, _, a1', by decide +kernel, s2, e1, s3, k1, Or.inr ⟨_, _, hfull, rfl⟩⟩⟩⟩), rfl⟩)))) ⟨upS s3 682 0 3, 0, m299 ?_, up_s, fun b k h => by rw [up_a (by omega)], fun b k h1 h2 => ?_⟩
    · rw [if_pos (by omega)]
      refine b299_44 ⟨_, _, d245, ?_⟩
      rw [if_neg (show ¬ (3 : Int) = 0 by decide), if_pos rfl]
    · have : upS s3 682 0 3 b k = s3 b k := by unfold upS; rw [if_neg (by omega)]
      rw [this]
      exact G1 b k h1
end
