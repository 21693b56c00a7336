/-! difference: the reference's side. -/
noncomputable section
/-- what is common is paired, and the goals are names -/
def INV (hA hB : Nat → Int) (s : TS) : Prop := ∀ n, n < 6 → (¬ hA n = 0 → ¬ hB n = 0 → ¬ s.1 n = -1 ∧ ¬ s.2 n = 0) ∧ -1 ≤ s.1 n ∧ s.1 n ≤ 5
theorem INV_0 {hA hB : Nat → Int} : INV hA hB (ts0 hA hB) := by
  intro n hn
  unfold ts0
  dsimp only
  refine ⟨fun h1 h2 => ?_, ?_⟩
  · rw [if_pos ⟨h1, h2⟩, if_pos ⟨h1, h2⟩]
    omega
  · split <;> omega
theorem INV_p {hA hB : Nat → Int} {s : TS} {n e : Nat} (I : INV hA hB s) (he : e < 6) : INV hA hB (prS s n e) := by
  intro x hx
  obtain ⟨i1, i2, i3⟩ := I x hx
  unfold prS
  dsimp only
  refine ⟨fun h1 h2 => ⟨?_, ?_⟩, ?_⟩
  · split
    · omega
    · exact (i1 h1 h2).1
  · split
    · omega
    · exact (i1 h1 h2).2
  · split <;> omega
theorem INV_pI {hA hB : Nat → Int} {sm : Nat → Nat → Bool} {n : Nat} : ∀ (d : Nat) (s : TS), d ≤ 6 → INV hA hB s → INV hA hB (pI hA hB sm n d s) := by
  intro d
  induction d with
  | zero => intro s _ I; exact I
  | succ d ih =>
    intro s hd I
    show INV hA hB (pI hA hB sm n d (if fr1 hA hB s n (5 - d) ∧ sm n (5 - d) = true then prS s n (5 - d) else s))
    refine ih _ (by omega) ?_
    split
    · exact INV_p I (by omega)
    · exact I
theorem INV_pO {hA hB : Nat → Int} {sm : Nat → Nat → Bool} : ∀ (d : Nat) (s : TS), INV hA hB s → INV hA hB (pO hA hB sm d s) := by
  intro d
  induction d with
  | zero => intro s I; exact I
  | succ d ih =>
    intro s I
    exact ih _ (INV_pI 6 s (by omega) I)
theorem INV_sA {hA hB : Nat → Int} {lk : Nat → Nat → Int} {s : TS} (I : INV hA hB s) : INV hA hB (sA hA hB lk s) := by
  unfold sA
  have ok := mB_ok (hA := hA) (hB := hB) (lk := lk) (s := s)
  rcases ok with ⟨k1, k2⟩ | ⟨n, e, k1, k2, k3, k4, k5⟩
  · rw [if_pos k1]; exact I
  · rw [if_neg (by omega), k4]
    exact INV_p I (by omega)
theorem INV_sN {hA hB : Nat → Int} {lk : Nat → Nat → Int} : ∀ (d : Nat) (s : TS), INV hA hB s → INV hA hB (sN hA hB lk d s) := by
  intro d
  induction d with
  | zero => intro s I; exact I
  | succ d ih =>
    intro s I
    exact ih _ (INV_sA I)
/-- the numbers of goals that are free -/
def frc (s : TS) : Nat := (if s.2 0 = 0 then 1 else 0) + (if s.2 1 = 0 then 1 else 0) + (if s.2 2 = 0 then 1 else 0) + (if s.2 3 = 0 then 1 else 0) + (if s.2 4 = 0 then 1 else 0) + (if s.2 5 = 0 then 1 else 0)
theorem frc_6 {s : TS} : frc s ≤ 6 := by
  unfold frc
  have h : ∀ c : Prop, [Decidable c] → (if c then 1 else 0) ≤ (1 : Nat) := by
    intro c hc
    split <;> omega
  have h0 := h (s.2 0 = 0)
  have h1 := h (s.2 1 = 0)
  have h2 := h (s.2 2 = 0)
  have h3 := h (s.2 3 = 0)
  have h4 := h (s.2 4 = 0)
  have h5 := h (s.2 5 = 0)
  omega
theorem frc_p {s : TS} {n e : Nat} (he : e < 6) (h : s.2 e = 0) : frc (prS s n e) + 1 = frc s := by
  have h6 : e = 0 ∨ e = 1 ∨ e = 2 ∨ e = 3 ∨ e = 4 ∨ e = 5 := by omega
  unfold frc prS
  dsimp only
  rcases h6 with q | q | q | q | q | q <;> subst q <;> simp [h] <;> omega
theorem sN_fix {hA hB : Nat → Int} {lk : Nat → Nat → Int} {s : TS} (h : sA hA hB lk s = s) : ∀ d, sN hA hB lk d s = s := by
  intro d
  induction d with
  | zero => rfl
  | succ d ih =>
    show sN hA hB lk d (sA hA hB lk s) = s
    rw [h]
    exact ih
/-- the reference's rows of a difference at hand -/
def MT (hA hB : Nat → Int) (σ0 σ : Sg) (D : Nat) (s : TS) : Prop := (∀ c k, ¬ (691 ≤ c ∧ c ≤ 694) → ¬ c = 721 → ¬ (c = 720 ∧ 6 * D ≤ k ∧ k < 6 * D + 6) → ¬ (c = 682 ∧ (k = 12 ∨ k = 13)) → σ c k = σ0 c k) ∧ ∀ n, n < 6 → σ 720 (6 * D + n) = s.1 n ∧ ((hA n = 0 ∨ hB n = 0) → σ 721 n = s.2 n)
/-- the files of both sides -/
def FL (σc σ0 : Sg) : Prop := ∀ f, f < 18 → σ0 717 f = σc 652 f ∧ (¬ σc 652 f = 0 → ∃ n : Nat, n ≤ 16 ∧ σc (616 + 2 * f) 1 = (n : Nat) ∧ σ0 718 f = (n : Nat) ∧ ∀ i, i < n → σ0 719 (16 * f + i) = σc (616 + 2 * f + 1) i)
theorem d371 {σc σ0 σ : Sg} {hA hB : Nat → Int} {D t u n : Nat} {s : TS} (F : FL σc σ0) (M : MT hA hB σ0 σ D s) (ht : t < 3) (hu : u < 3) (hn : n < 6) : Dd 371 [vA 682, vI t, vI u, vI n] σ (rI (if hv σc t n = 0 then 0 else (if hv σc u n = 0 then 1 else 0)) σ) := by
  have g1 : σ 717 (6 * t + n) = hv σc t n := by
    rw [M.1 _ _ (by decide) (by decide) (by omega) (by omega)]
    exact (F _ (by omega)).1
  have g2 : σ 717 (6 * u + n) = hv σc u n := by
    rw [M.1 _ _ (by decide) (by decide) (by omega) (by omega)]
    exact (F _ (by omega)).1
  refine b371 ⟨by omega, by omega, by omega, fun _ => by omega, fun _ => by omega, fun _ => by omega, ?_⟩
  rw [show ((6 * (t : Int)) + (n : Int)).toNat = 6 * t + n by omega, show ((6 * (u : Int)) + (n : Int)).toNat = 6 * u + n by omega, g1, g2]
/-- areSameFiles -/
theorem l369 {σ : Sg} {f f' nf : Nat} {O N : Nat → Int} (hf : f < 18) (hf' : f' < 18) (h16 : nf ≤ 16) (z1 : σ 718 f = (nf : Nat)) (hO : ∀ i, i < nf → σ 719 (16 * f + i) = O i) (hN : ∀ i, i < nf → σ 719 (16 * f' + i) = N i) : ∀ (d i : Nat), i + d = nf → ((∀ k, i ≤ k → k < nf → O k = N k) → C369_24 f f' 1 i σ (rI 1 σ)) ∧ (¬ (∀ k, i ≤ k → k < nf → O k = N k) → C369_24 f f' 1 i σ (rI 0 σ)) := by
  intro d
  induction d with
  | zero =>
    intro i hi
    refine ⟨fun _ => b369_24 ⟨by omega, ?_⟩, fun h => absurd (fun k h1 h2 => by omega) h⟩
    rw [show ((f : Nat) : Int).toNat = f by omega, z1, if_neg (by omega)]
    exact ⟨Or.inr rfl, rfl⟩
  | succ d ih =>
    intro i hi
    obtain ⟨j1, j2⟩ := ih (i + 1) (by omega)
    have e1 : ((16 * (f : Int)) + (i : Int)).toNat = 16 * f + i := by omega
    have e2 : ((16 * (f' : Int)) + (i : Int)).toNat = 16 * f' + i := by omega
    have go : ∀ {o : Rs} (y : Int), y = (if O i = N i then 1 else 0) → C369_24 f f' y ((i + 1 : Nat) : Int) σ o → C369_24 f f' 1 i σ o := by
      intro o y hy hh
      refine b369_24 ⟨by omega, ?_⟩
      rw [show ((f : Nat) : Int).toNat = f by omega, z1, if_pos (by omega), if_neg (by decide), e1, e2, hO i (by omega), hN i (by omega), ← hy]
      refine ⟨by omega, by omega, by omega, by omega, by omega, by omega, b369_71 ⟨by omega, ?_⟩⟩
      rw [show (i : Int) + 1 = ((i + 1 : Nat) : Int) by omega]
      exact hh
    have z0 : C369_24 f f' 0 ((i + 1 : Nat) : Int) σ (rI 0 σ) := by
      refine b369_24 ⟨by omega, ?_⟩
      by_cases y : ((i + 1 : Nat) : Int) < σ 718 ((f : Int)).toNat
      · rw [if_pos y, if_pos rfl]; exact ⟨Or.inl rfl, rfl⟩
      · rw [if_neg y]; exact ⟨Or.inl rfl, rfl⟩
    by_cases hx : O i = N i
    · have hx1 : (1 : Int) = (if O i = N i then 1 else 0) := by rw [if_pos hx]
      refine ⟨fun h => go 1 hx1 (j1 (fun k h1 h2 => h k (by omega) h2)), fun h => go 1 hx1 (j2 (fun g => h (fun k h1 h2 => ?_)))⟩
      by_cases e : k = i
      · rw [e]; exact hx
      · exact g k (by omega) h2
    · have hx0 : (0 : Int) = (if O i = N i then 1 else 0) := by rw [if_neg hx]
      exact ⟨fun h => absurd (h i (Nat.le_refl i) (by omega)) hx, fun _ => go 0 hx0 z0⟩
theorem d369 {σc σ0 σ : Sg} {hA hB : Nat → Int} {D f f' : Nat} {s : TS} {b : Bool} (F : FL σc σ0) (M : MT hA hB σ0 σ D s) (hf : f < 18) (hf' : f' < 18) (h1 : ¬ σc 652 f = 0) (h2 : ¬ σc 652 f' = 0) (hb : b = true ↔ smP σc (616 + 2 * f) (616 + 2 * f')) : Dd 369 [vA 682, vI f, vI f'] σ (rI (if b = true then 1 else 0) σ) := by
  obtain ⟨n1, a1, a2, a3, a4⟩ := (F f hf).2 h1
  obtain ⟨n2, c1, c2, c3, c4⟩ := (F f' hf').2 h2
  have m : ∀ c k, c = 718 ∨ c = 719 → σ c k = σ0 c k := fun c k h => M.1 c k (by omega) (by omega) (by omega) (by omega)
  rw [← m 718 _ (Or.inl rfl)] at a3 c3
  have go : ∀ {o : Rs}, C369_24 f f' (if n1 = n2 then 1 else 0) ((0 : Nat) : Int) σ o → Dd 369 [vA 682, vI f, vI f'] σ o := by
    intro o hh
    refine b369 ⟨by omega, by omega, b369_20 ?_⟩
    rw [show ((f : Nat) : Int).toNat = f by omega, show ((f' : Nat) : Int).toNat = f' by omega, a3, c3]
    by_cases e : n1 = n2
    · rw [if_pos (by omega)]
      rw [if_pos e] at hh
      exact hh
    · rw [if_neg (by omega)]
      rw [if_neg e] at hh
      exact hh
  by_cases e : n1 = n2
  · subst e
    obtain ⟨j1, j2⟩ := l369 (O := σc (616 + 2 * f + 1)) (N := σc (616 + 2 * f' + 1)) hf hf' a1 a3 (fun i hi => by rw [m _ _ (Or.inr rfl)]; exact a4 i hi) (fun i hi => by rw [m _ _ (Or.inr rfl)]; exact c4 i hi) n1 0 (by omega)
    rw [if_pos rfl] at go
    by_cases y : b = true
    · rw [if_pos y]
      exact go (j1 (fun k _ hk => (hb.mp y).2 k (by omega)))
    · rw [if_neg y]
      exact go (j2 (fun g => y (hb.mpr ⟨by omega, fun k hk => g k (Nat.zero_le k) (by omega)⟩)))
  · rw [if_neg e] at go
    have y : ¬ b = true := fun y => e (by have := (hb.mp y).1; omega)
    rw [if_neg y]
    refine go (b369_24 ⟨by omega, ?_⟩)
    by_cases y : ((0 : Nat) : Int) < σ 718 ((f : Int)).toNat
    · rw [if_pos y, if_pos rfl]; exact ⟨Or.inl rfl, rfl⟩
    · rw [if_neg y]; exact ⟨Or.inl rfl, rfl⟩
theorem q719 : qA 719 0 288 = true := by decide +kernel
/-- likenessOfFiles -/
theorem d370 {σc σ0 σ : Sg} {hA hB : Nat → Int} {D f f' : Nat} {s : TS} (F : FL σc σ0) (M : MT hA hB σ0 σ D s) (hf : f < 18) (hf' : f' < 18) (h1 : ¬ σc 652 f = 0) (h2 : ¬ σc 652 f' = 0) : ∃ σ', Dd 370 [vA 682, vI f, vI f'] σ (rI (lkF σc f f') σ') ∧ MT hA hB σ0 σ' D s := by
  obtain ⟨n1, a1, a2, a3, a4⟩ := (F f hf).2 h1
  obtain ⟨n2, c1, c2, c3, c4⟩ := (F f' hf').2 h2
  have m : ∀ c k, c = 718 ∨ c = 719 → σ c k = σ0 c k := fun c k h => M.1 c k (by omega) (by omega) (by omega) (by omega)
  rw [← m 718 _ (Or.inl rfl)] at a3 c3
  obtain ⟨s1, e1, e2, e3, e4⟩ := d263 (A := 719) (off := 16 * f) (n := n1) (σ := σ) q719 (by decide) (by decide) (by omega) (by omega) (by decide)
  obtain ⟨s2, g1, g2, g3, g4⟩ := d264 (A := 719) (off := 16 * f') (n := n2) (σ := s1) q719 (by decide) (by decide) (by omega) (by omega) (by decide)
  obtain ⟨s3, i1, i2, i3⟩ := d265 (σ0 := s2) (f := σc (616 + 2 * f + 1)) (g := σc (616 + 2 * f' + 1)) (Nat.zero_le n1) (Nat.zero_le n2) (Nat.le_refl n1) (Nat.le_refl n2) (by omega) (by omega) (fun i hi => by
    rw [g4 _ _ (by decide) (by omega), e2 i hi, m _ _ (Or.inr rfl)]
    exact a4 i hi) (fun i hi => by
    rw [g2 i hi, e4 _ _ (by decide) (by omega), m _ _ (Or.inr rfl)]
    exact c4 i hi)
  have v := i2 0 0 (Nat.le_refl 0) (Nat.zero_le n1) (Nat.le_refl 0) (Nat.zero_le n2)
  have bL := lt_b (f := σc (616 + 2 * f + 1)) (g := σc (616 + 2 * f' + 1)) (ae := n1) (be := n2) n1 n2
  have v12 : s2 682 12 = (n1 : Nat) := by rw [g4 _ _ (by decide) (by decide)]; exact e3
  have v0 : s3 694 0 = lt (σc (616 + 2 * f + 1)) (σc (616 + 2 * f' + 1)) n1 n2 n1 n2 := v
  refine ⟨s3, b370 ⟨by omega, by omega, ?_, by omega, by omega, s1, ?_, by omega, by omega, s2, ?_, s3, ?_, fun _ => ?_, fun h => ?_, ?_⟩, fun c k y1 y2 y3 y4 => ?_, fun x hx => ?_⟩
  · rw [show ((f : Nat) : Int).toNat = f by omega, show ((f' : Nat) : Int).toNat = f' by omega, a3, c3]; omega
  · rw [show ((f : Nat) : Int).toNat = f by omega, a3, show 16 * (f : Int) = ((16 * f : Nat) : Int) by omega]
    exact e1
  · rw [show ((f' : Nat) : Int).toNat = f' by omega, e4 _ _ (by decide) (by omega), c3, show 16 * (f' : Int) = ((16 * f' : Nat) : Int) by omega]
    exact g1
  · rw [v12, g3]
    exact i1
  · rw [show ((0 : Int)).toNat = 0 from rfl, v0]; omega
  · rw [show ((f : Nat) : Int).toNat = f by omega, show ((f' : Nat) : Int).toNat = f' by omega, a3, c3] at h ⊢
    omega
  · rw [show ((f : Nat) : Int).toNat = f by omega, show ((f' : Nat) : Int).toNat = f' by omega, a3, c3, show ((0 : Int)).toNat = 0 from rfl, v0]
    unfold lkF
    rw [a2, c2, show ((n1 : Nat) : Int).toNat = n1 by omega, show ((n2 : Nat) : Int).toNat = n2 by omega]
  · rw [i3 c k (by omega), g4 c k (by omega) (by omega), e4 c k (by omega) (by omega)]
    exact M.1 c k y1 y2 y3 y4
  · rw [i3 _ _ (by decide), g4 _ _ (by decide) (by omega), e4 _ _ (by decide) (by omega), i3 _ _ (by decide), g4 _ _ (by decide) (by omega), e4 _ _ (by decide) (by omega)]
    exact M.2 x hx
/-- pairsFiles -/
theorem d372 {hA hB : Nat → Int} {σ0 σ : Sg} {D n e : Nat} {s : TS} {a b : Int} (M : MT hA hB σ0 σ D s) (hD : σ0 682 53 = (D : Nat)) (hD10 : D < 10) (hn : n < 6) (he : e < 6) : ∃ σ', Dd 372 [vA 682, vI a, vI b, vI n, vI e] σ (rV σ') ∧ MT hA hB σ0 σ' D (prS s n e) := by
  have e53 : σ 682 53 = (D : Nat) := by rw [M.1 _ _ (by decide) (by decide) (by omega) (by omega)]; exact hD
  refine ⟨upS (upS σ 720 (6 * D + n) e) 721 e 1, b372 ?_, fun c k y1 y2 y3 y4 => ?_, fun x hx => ⟨?_, fun h => ?_⟩⟩
  · rw [e53, show ((6 * ((D : Nat) : Int)) + (n : Int)).toNat = 6 * D + n by omega, show ((e : Nat) : Int).toNat = e by omega]
    exact ⟨by omega, by omega, by omega, by omega, rfl⟩
  · rw [up_a y2]
    unfold upS
    rw [if_neg (by omega)]
    exact M.1 c k y1 y2 y3 y4
  · rw [up_a (by decide)]
    show _ = if x = n then (e : Int) else s.1 x
    by_cases y : x = n
    · rw [if_pos y, y, up_s]
    · rw [if_neg y, up_k (by omega)]; exact (M.2 x hx).1
  · show _ = if x = e then 1 else s.2 x
    by_cases y : x = e
    · rw [if_pos y, y, up_s]
    · rw [if_neg y, up_k y, up_a (by decide)]; exact (M.2 x hx).2 h
/-- the reference asks of two names what the class asks -/
theorem fr1_iff {hA hB : Nat → Int} {s : TS} {n e : Nat} (I : INV hA hB s) (hn : n < 6) (he : e < 6) : fr1 hA hB s n e ↔ (¬ hA n = 0 ∧ hB n = 0 ∧ s.1 n = -1 ∧ ¬ hB e = 0 ∧ hA e = 0 ∧ s.2 e = 0) := by
  refine ⟨fun h => ⟨h.2.2.1, ?_, h.1, h.2.2.2, ?_, h.2.1⟩, fun h => ⟨h.2.2.1, h.2.2.2.2.2, h.1, h.2.2.2.1⟩⟩
  · by_cases y : hB n = 0
    · exact y
    · exact absurd h.1 ((I n hn).1 h.2.2.1 y).1
  · by_cases y : hA e = 0
    · exact y
    · exact absurd h.2.1 ((I e he).1 y h.2.2.2).2
end
