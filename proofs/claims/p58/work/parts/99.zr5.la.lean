/-! The law's small methods: sizes, texts that are the same, marks. -/
noncomputable section
abbrev rO (v : Int) (w : WS) : Ro := (.inl (some (.inl v)), w)
/-- which row of a patch: the old text, or the new one -/
abbrev sd (b : Int) : Nat := if b = 0 then 1 else 3
def pl (σ : Sg) (p : Nat) (b : Int) : Int := σ (20 + 13 * p + sd b) 1
def px (σ : Sg) (p : Nat) (b : Int) (k : Nat) : Int := σ (20 + 13 * p + sd b + 1) k
theorem pl_ok {σ : Sg} {c : Int} {p : Nat} {b : Int} (H : Rel c σ) (hp : (p : Int) < σ 0 3) : 0 ≤ pl σ p b ∧ pl σ p b ≤ 16 ∧ ∀ k : Nat, (k : Int) < pl σ p b → isLn (px σ p b k) = true := by
  obtain ⟨-, -, hO, h1, h3⟩ := pat_ok H hp
  unfold pl px sd
  by_cases hb : b = 0
  · rw [if_pos hb]
    exact ⟨h1, hO.1, fun k hk => hO.2.2.2.2.2.2.2.1 k hk⟩
  · rw [if_neg hb]
    exact ⟨h3, hO.2.1, fun k hk => hO.2.2.2.2.2.2.2.2.1 k hk⟩
theorem txl_ok {σ : Sg} {c : Int} {t : Nat} (H : Rel c σ) (ht : t < 4) : 0 ≤ σ (2 + 2 * t) 1 ∧ σ (2 + 2 * t) 1 ≤ 16 ∧ ∀ k : Nat, (k : Int) < σ (2 + 2 * t) 1 → isLn (σ (2 + 2 * t + 1) k) = true := by
  have h := rel_t H (t := (t : Int)) (by omega)
  rw [Int.toNat_natCast] at h
  exact ⟨h.2.1, h.2.2, fun k hk => (H.2.2.1 t ht).2 k hk⟩
theorem q188i {σ : Sg} {c : Int} {p k : Nat} {b : Int} (H : Rel c σ) (hp : (p : Int) < σ 0 3) (hk : (k : Int) < pl σ p b) : Dc 188 [vA 0, vI p, vI b, vI k] σ (.inl (some (.inl (px σ p b k)))) σ := by
  have d := q188 (k := k) (b := b) H hp
  rw [atS_in hk] at d
  exact Dc_of d
theorem q188o {σ : Sg} {c : Int} {p k : Nat} {b : Int} (H : Rel c σ) (hp : (p : Int) < σ 0 3) (hk : pl σ p b ≤ (k : Int)) : Dc 188 [vA 0, vI p, vI b, vI k] σ (.inl (some (.inl (-1)))) σ := by
  have d := q188 (k := k) (b := b) H hp
  rw [atS_out hk] at d
  exact Dc_of d
/-- areSame, of texts that are -/
theorem ll247 {w : WS} {c : Int} {t u n : Nat} (H : Rel c w.2.2) (ht : t < 4) (hu : u < 4) (hn : w.2.2 (2 + 2 * t) 1 = (n : Nat)) (hm : w.2.2 (2 + 2 * u) 1 = (n : Nat)) (hs : ∀ k, k < n → w.2.2 (2 + 2 * t + 1) k = w.2.2 (2 + 2 * u + 1) k) : ∀ (d i r : Nat), i + d = n → 5 * d + 1 ≤ r → K247_22 t u 1 i w r (rO 1 w) := by
  have h16 := (txl_ok H ht).2.1
  intro d
  induction d with
  | zero =>
    intro i r hi hr
    refine bK247_22 ⟨by omega, _, _, Dc_of (q175 (σ := w.2.2) ht), ?_⟩
    rw [if_neg (by omega)]
    exact bK247_65 ⟨Or.inr rfl, rfl⟩
  | succ d ih =>
    intro i r hi hr
    refine bK247_22 ⟨by omega, _, _, Dc_of (q175 (σ := w.2.2) ht), ?_⟩
    rw [if_pos (by omega), if_neg (by decide)]
    refine ⟨by omega, _, _, Dc_of (q176 (σ := w.2.2) H ht (by omega)), by omega, _, _, Dc_of (q176 (σ := w.2.2) H hu (by omega)), ?_⟩
    rw [if_pos (hs i (by omega))]
    refine bK247_58 ⟨by omega, ?_⟩
    exact ih (i + 1) _ (by omega) (by omega)
theorem m247 {w : WS} {c : Int} {t u : Nat} (H : Rel c w.2.2) (ht : t < 4) (hu : u < 4) (hs : smP w.2.2 (2 + 2 * t) (2 + 2 * u)) : Lx 247 [vA 0, vI t, vI u] w (rO 1 w) := by
  obtain ⟨n, hn⟩ := Int.eq_ofNat_of_zero_le (txl_ok H ht).1
  have h16 := (txl_ok H ht).2.1
  refine lb247 ⟨by decide, _, _, Dc_of (q175 (σ := w.2.2) ht), by decide, _, _, Dc_of (q175 (σ := w.2.2) hu), ?_⟩
  rw [if_pos hs.1]
  exact bK247_18 (ll247 H ht hu hn (hs.1.symm.trans hn) (fun k hk => hs.2 k (by omega)) n 0 _ (by omega) (by omega))
/-- sizeOf: how many lines a text of a patch has -/
theorem ll250 {w : WS} {c : Int} {p n : Nat} {b : Int} (H : Rel c w.2.2) (hp : (p : Int) < w.2.2 0 3) (hn : pl w.2.2 p b = (n : Nat)) : ∀ (d i r : Nat), i + d = n → 2 * d + 2 ≤ r → K250_2 p b i w r (rO n w) := by
  intro d
  have h16 := (pl_ok (b := b) H hp).2.1
  induction d with
  | zero =>
    intro i r hi hr
    refine bK250_2 ⟨by omega, _, _, q188o (σ := w.2.2) H hp (by omega), ?_⟩
    rw [if_pos rfl, show n = i by omega]
    rfl
  | succ d ih =>
    intro i r hi hr
    refine bK250_2 ⟨by omega, _, _, q188i (σ := w.2.2) H hp (by omega), ?_⟩
    have := isLn_nn ((pl_ok (b := b) H hp).2.2 i (by omega))
    rw [if_neg (by omega)]
    refine ⟨by omega, ?_⟩
    exact ih (i + 1) _ (by omega) (by omega)
theorem m250 {w : WS} {c : Int} {p : Nat} {b : Int} (H : Rel c w.2.2) (hp : (p : Int) < w.2.2 0 3) : Lx 250 [vA 0, vI p, vI b] w (rO (pl w.2.2 p b) w) := by
  obtain ⟨h0, h16, -⟩ := pl_ok (b := b) H hp
  obtain ⟨n, hn⟩ := Int.eq_ofNat_of_zero_le h0
  rw [hn]
  exact lb250 (ll250 H hp hn n 0 40 (by omega) (by omega))
/-- a text of a patch is a text -/
def pT (σ : Sg) (p : Nat) (b : Int) (t : Nat) : Prop := pl σ p b = σ (2 + 2 * t) 1 ∧ ∀ k : Nat, (k : Int) < pl σ p b → px σ p b k = σ (2 + 2 * t + 1) k
theorem ll251 {w : WS} {c : Int} {p t n : Nat} {b : Int} (H : Rel c w.2.2) (hp : (p : Int) < w.2.2 0 3) (ht : t < 4) (hs : pT w.2.2 p b t) (hn : pl w.2.2 p b = (n : Nat)) : ∀ (d i r : Nat), i + d = n → 5 * d + 1 ≤ r → K251_24 p b t 1 i w r (rO 1 w) := by
  have h16 := (pl_ok (b := b) H hp).2.1
  intro d
  have hs1 := hs.1
  induction d with
  | zero =>
    intro i r hi hr
    refine bK251_24 ⟨by omega, _, _, Dc_of (q175 (σ := w.2.2) ht), ?_⟩
    rw [if_neg (by omega)]
    exact bK251_70 ⟨Or.inr rfl, rfl⟩
  | succ d ih =>
    intro i r hi hr
    refine bK251_24 ⟨by omega, _, _, Dc_of (q175 (σ := w.2.2) ht), ?_⟩
    rw [if_pos (by omega), if_neg (by decide)]
    refine ⟨by omega, _, _, q188i (σ := w.2.2) H hp (by omega), by omega, _, _, Dc_of (q176 (σ := w.2.2) H ht (by omega)), ?_⟩
    rw [if_pos (hs.2 i (by omega))]
    refine bK251_62 ⟨by omega, ?_⟩
    exact ih (i + 1) _ (by omega) (by omega)
theorem m251 {w : WS} {c : Int} {p t : Nat} {b : Int} (H : Rel c w.2.2) (hp : (p : Int) < w.2.2 0 3) (ht : t < 4) (hs : pT w.2.2 p b t) : Lx 251 [vA 0, vI p, vI b, vI t] w (rO 1 w) := by
  obtain ⟨h0, h16, -⟩ := pl_ok (b := b) H hp
  obtain ⟨n, hn⟩ := Int.eq_ofNat_of_zero_le h0
  refine lb251 ⟨by decide, _, _, m250 H hp, by decide, _, _, Dc_of (q175 (σ := w.2.2) ht), ?_⟩
  rw [if_pos hs.1]
  exact bK251_19 (ll251 H hp ht hs hn n 0 _ (by omega) (by omega))
/-- two texts of patches are the same -/
def pS (σ : Sg) (p : Nat) (b : Int) (q : Nat) (e : Int) : Prop := pl σ p b = pl σ q e ∧ ∀ k : Nat, (k : Int) < pl σ p b → px σ p b k = px σ q e k
theorem ll252 {w : WS} {c : Int} {p q n : Nat} {b e : Int} (H : Rel c w.2.2) (hp : (p : Int) < w.2.2 0 3) (hq : (q : Int) < w.2.2 0 3) (hn : pl w.2.2 p b = (n : Nat)) (hm : pl w.2.2 q e = (n : Nat)) : ∀ (d i r : Nat), i + d = n → 6 * d + 2 ≤ r → ((∀ k, i ≤ k → k < n → px w.2.2 p b k = px w.2.2 q e k) → K252_26 p b q e 1 i w r (rO 1 w)) ∧ ((¬ ∀ k, i ≤ k → k < n → px w.2.2 p b k = px w.2.2 q e k) → K252_26 p b q e 1 i w r (rO 0 w)) := by
  have h16 := (pl_ok (b := b) H hp).2.1
  intro d
  induction d with
  | zero =>
    intro i r hi hr
    refine ⟨fun _ => ?_, fun h => absurd (fun k h1 h2 => by omega) h⟩
    refine bK252_26 ?_
    rw [if_neg (by decide)]
    refine ⟨by omega, _, _, q188o (σ := w.2.2) H hp (by omega), ?_⟩
    rw [if_pos rfl]
    exact bK252_76 ⟨Or.inr rfl, rfl⟩
  | succ d ih =>
    intro i r hi hr
    have hnn := isLn_nn ((pl_ok (b := b) H hp).2.2 i (by omega))
    have key : ∀ o : Ro, (px w.2.2 p b i = px w.2.2 q e i → ∀ r', 6 * d + 2 ≤ r' → K252_26 p b q e 1 (i + 1 : Nat) w r' o) → (¬ px w.2.2 p b i = px w.2.2 q e i → o = rO 0 w) → K252_26 p b q e 1 i w r o := by
      intro o h1 h2
      refine bK252_26 ?_
      rw [if_neg (by decide)]
      refine ⟨by omega, _, _, q188i (σ := w.2.2) H hp (by omega), ?_⟩
      rw [if_neg (by omega)]
      refine ⟨by omega, _, _, q188i (σ := w.2.2) H hp (by omega), by omega, _, _, q188i (σ := w.2.2) H hq (by omega), ?_⟩
      by_cases hc : px w.2.2 p b i = px w.2.2 q e i
      · rw [if_pos hc]
        exact bK252_68 ⟨by omega, h1 hc _ (by omega)⟩
      · rw [if_neg hc]
        refine bK252_68 ⟨by omega, bK252_26 ?_⟩
        rw [if_pos rfl]
        exact bK252_76 ⟨Or.inl rfl, h2 hc⟩
    constructor
    · intro h
      refine key _ (fun hc r' hr' => (ih (i + 1) r' (by omega) hr').1 (fun k h1 h2 => h k (by omega) h2)) (fun hc => absurd (h i (Nat.le_refl _) (by omega)) hc)
    · intro h
      refine key _ (fun hc r' hr' => (ih (i + 1) r' (by omega) hr').2 (fun h9 => h (fun k h1 h2 => ?_))) (fun _ => rfl)
      by_cases hk : k = i
      · rw [hk]; exact hc
      · exact h9 k (by omega) h2
theorem m252 {w : WS} {c : Int} {p q : Nat} {b e : Int} (H : Rel c w.2.2) (hp : (p : Int) < w.2.2 0 3) (hq : (q : Int) < w.2.2 0 3) : (pS w.2.2 p b q e → Lx 252 [vA 0, vI p, vI b, vI q, vI e] w (rO 1 w)) ∧ (¬ pS w.2.2 p b q e → Lx 252 [vA 0, vI p, vI b, vI q, vI e] w (rO 0 w)) := by
  obtain ⟨h0, h16, -⟩ := pl_ok (b := b) H hp
  obtain ⟨n, hn⟩ := Int.eq_ofNat_of_zero_le h0
  have key : ∀ o : Ro, (pl w.2.2 p b = pl w.2.2 q e → ∀ r, 6 * n + 2 ≤ r → K252_26 p b q e 1 0 w r o) → (¬ pl w.2.2 p b = pl w.2.2 q e → o = rO 0 w) → Lx 252 [vA 0, vI p, vI b, vI q, vI e] w o := by
    intro o h1 h2
    refine lb252 ⟨by decide, _, _, m250 H hp, by decide, _, _, m250 H hq, ?_⟩
    by_cases hc : pl w.2.2 p b = pl w.2.2 q e
    · rw [if_pos hc]
      exact bK252_21 (h1 hc _ (by omega))
    · rw [if_neg hc]
      refine bK252_21 (bK252_26 ?_)
      rw [if_pos rfl]
      exact bK252_76 ⟨Or.inl rfl, h2 hc⟩
  constructor
  · intro h
    exact key _ (fun hc r hr => (ll252 H hp hq hn (hc.symm.trans hn) n 0 r (by omega) hr).1 (fun k _ hk => h.2 k (by omega))) (fun hc => absurd h.1 hc)
  · intro h
    exact key _ (fun hc r hr => (ll252 H hp hq hn (hc.symm.trans hn) n 0 r (by omega) hr).2 (fun h9 => h ⟨hc, fun k hk => h9 k (by omega) (by omega)⟩)) (fun _ => rfl)
/-- isTop, of the text of the stack -/
theorem ll268 {w : WS} {c : Int} {t n : Nat} (H : Rel c w.2.2) (ht : t < 4) (hn : w.2.2 (2 + 2 * t) 1 = (n : Nat)) (hs : smP w.2.2 (2 + 2 * t) (tpR w.2.2)) : ∀ (d i r : Nat), i + d = n → 4 * d + 1 ≤ r → K268_21 t 1 i w r (rO 1 w) := by
  have h16 := (txl_ok H ht).2.1
  intro d
  have hs1 := hs.1
  induction d with
  | zero =>
    intro i r hi hr
    refine bK268_21 ⟨by omega, _, _, Dc_of (q175 (σ := w.2.2) ht), ?_⟩
    rw [if_neg (by omega)]
    exact ⟨Or.inr rfl, rfl⟩
  | succ d ih =>
    intro i r hi hr
    refine bK268_21 ⟨by omega, _, _, Dc_of (q175 (σ := w.2.2) ht), ?_⟩
    rw [if_pos (by omega), if_neg (by decide)]
    have d210 := q210 (k := i) H
    rw [atS_in (by omega)] at d210
    refine ⟨by omega, _, _, Dc_of d210, by omega, _, _, Dc_of (q176 (σ := w.2.2) H ht (by omega)), ?_⟩
    rw [if_pos (hs.2 i (by omega)).symm]
    refine bK268_53 ⟨by omega, ?_⟩
    exact ih (i + 1) _ (by omega) (by omega)
theorem m268 {w : WS} {c : Int} {t : Nat} (H : Rel c w.2.2) (ht : t < 4) (hs : smP w.2.2 (2 + 2 * t) (tpR w.2.2)) : Lx 268 [vA 0, vI t] w (rO 1 w) := by
  obtain ⟨n, hn⟩ := Int.eq_ofNat_of_zero_le (txl_ok H ht).1
  have h16 := (txl_ok H ht).2.1
  have hs1 := hs.1
  have d210 := q210 (k := n) H
  rw [atS_out (by omega)] at d210
  refine lb268 ⟨by decide, _, _, Dc_of (q175 (σ := w.2.2) ht), by decide, ?_⟩
  rw [hn]
  refine ⟨_, _, Dc_of d210, ?_⟩
  rw [if_pos rfl]
  exact bK268_18 (ll268 H ht hn hs n 0 _ (by omega) (by omega))
/-- sizeOfRow -/
theorem bl_ok {σ : Sg} {c : Int} {t : Nat} (H : Rel c σ) (ht : t < 4) : 0 ≤ σ (11 + 2 * t) 1 ∧ σ (11 + 2 * t) 1 ≤ 40 ∧ ∀ k : Nat, (k : Int) < σ (11 + 2 * t) 1 → 0 ≤ σ (11 + 2 * t + 1) k ∧ σ (11 + 2 * t + 1) k ≤ 255 := by
  have h := rel_b H (t := (t : Int)) (by omega)
  rw [Int.toNat_natCast] at h
  exact ⟨h.2.1, h.2.2, fun k hk => (H.2.2.2.1 t ht).2 k hk⟩
theorem ll274 {w : WS} {c : Int} {t n : Nat} (H : Rel c w.2.2) (ht : t < 4) (hn : w.2.2 (11 + 2 * t) 1 = (n : Nat)) : ∀ (d i r : Nat), i + d = n → 2 * d + 2 ≤ r → K274_2 t i w r (rO n w) := by
  intro d
  have h40 := (bl_ok H ht).2.1
  induction d with
  | zero =>
    intro i r hi hr
    have d221 := q221 (k := i) H ht
    rw [atS_out (by omega)] at d221
    refine bK274_2 ⟨by omega, _, _, Dc_of d221, ?_⟩
    rw [if_pos rfl, show n = i by omega]
    rfl
  | succ d ih =>
    intro i r hi hr
    have d221 := q221 (k := i) H ht
    rw [atS_in (by omega)] at d221
    refine bK274_2 ⟨by omega, _, _, Dc_of d221, ?_⟩
    have := ((bl_ok H ht).2.2 i (by omega)).1
    rw [if_neg (by omega)]
    exact ⟨by omega, ih (i + 1) _ (by omega) (by omega)⟩
theorem m274 {w : WS} {c : Int} {t : Nat} (H : Rel c w.2.2) (ht : t < 4) : Lx 274 [vA 0, vI t] w (rO (w.2.2 (11 + 2 * t) 1) w) := by
  obtain ⟨h0, h40, -⟩ := bl_ok H ht
  obtain ⟨n, hn⟩ := Int.eq_ofNat_of_zero_le h0
  rw [hn]
  exact lb274 (ll274 H ht hn n 0 90 (by omega) (by omega))
/-- hasMarks -/
def mkd (σ : Sg) (p : Nat) (b : Int) : Prop := ∃ k : Nat, (k : Int) < pl σ p b ∧ 50000 < px σ p b k
theorem ll265a {w : WS} {c : Int} {p n : Nat} (H : Rel c w.2.2) (hp : (p : Int) < w.2.2 0 3) (hn : pl w.2.2 p 1 = (n : Nat)) (h16 : n ≤ 16) : ∀ (d i r : Nat) (x : Int), i + d = n → 4 * d + 2 ≤ r → (x = 0 ∨ x = 1) → ∃ v : Int, (v = 0 ∨ v = 1) ∧ (v = 1 ↔ x = 1 ∨ ∃ k, i ≤ k ∧ k < n ∧ 50000 < px w.2.2 p 1 k) ∧ K265_45 p x i w r (rO v w) := by
  intro d
  induction d with
  | zero =>
    intro i r x hi hr hx
    refine ⟨x, hx, ⟨fun h => Or.inl h, fun h => h.elim id (fun ⟨k, h1, h2, _⟩ => by omega)⟩, ?_⟩
    refine bK265_45 ⟨by omega, _, _, q188o (σ := w.2.2) H hp (by omega), ?_⟩
    rw [if_pos rfl]
    exact ⟨hx, rfl⟩
  | succ d ih =>
    intro i r x hi hr hx
    have hnn := isLn_nn ((pl_ok (b := 1) H hp).2.2 i (by omega))
    rcases hx with hx | hx
    · by_cases hm : 50000 < px w.2.2 p 1 i
      · obtain ⟨v, v1, v2, v3⟩ := ih (i + 1) (r - 2 - 2) 1 (by omega) (by omega) (Or.inr rfl)
        refine ⟨v, v1, ⟨fun _ => Or.inr ⟨i, by omega, by omega, hm⟩, fun _ => v2.mpr (Or.inl rfl)⟩, ?_⟩
        refine bK265_45 ⟨by omega, _, _, q188i (σ := w.2.2) H hp (by omega), ?_⟩
        rw [if_neg (by omega), if_pos hx]
        refine ⟨by omega, _, _, q188i (σ := w.2.2) H hp (by omega), ?_⟩
        rw [if_pos hm]
        exact bK265_72 (bK265_77 ⟨by omega, v3⟩)
      · obtain ⟨v, v1, v2, v3⟩ := ih (i + 1) (r - 2 - 2) 0 (by omega) (by omega) (Or.inl rfl)
        refine ⟨v, v1, ⟨fun h => ?_, fun h => ?_⟩, ?_⟩
        · rcases v2.mp h with h | ⟨k, h1, h2, h3⟩
          · cases h
          · exact Or.inr ⟨k, by omega, h2, h3⟩
        · rcases h with h | ⟨k, h1, h2, h3⟩
          · rw [hx] at h; cases h
          · refine v2.mpr (Or.inr ⟨k, ?_, h2, h3⟩)
            have : ¬ k = i := fun e => hm (e ▸ h3)
            omega
        · refine bK265_45 ⟨by omega, _, _, q188i (σ := w.2.2) H hp (by omega), ?_⟩
          rw [if_neg (by omega), if_pos hx]
          refine ⟨by omega, _, _, q188i (σ := w.2.2) H hp (by omega), ?_⟩
          rw [if_neg hm]
          exact bK265_77 ⟨by omega, v3⟩
    · obtain ⟨v, v1, v2, v3⟩ := ih (i + 1) (r - 2) 1 (by omega) (by omega) (Or.inr rfl)
      refine ⟨v, v1, ⟨fun _ => Or.inl hx, fun _ => v2.mpr (Or.inl rfl)⟩, ?_⟩
      refine bK265_45 ⟨by omega, _, _, q188i (σ := w.2.2) H hp (by omega), ?_⟩
      rw [if_neg (by omega), if_neg (by omega)]
      exact bK265_72 (bK265_77 ⟨by omega, v3⟩)
theorem ll265b {w : WS} {c : Int} {p n m : Nat} (H : Rel c w.2.2) (hp : (p : Int) < w.2.2 0 3) (hn : pl w.2.2 p 0 = (n : Nat)) (hm : pl w.2.2 p 1 = (m : Nat)) (h16 : n ≤ 16) (h16' : m ≤ 16) : ∀ (d i r : Nat) (x : Int), i + d = n → 4 * d + 2 + (4 * m + 2) ≤ r → (x = 0 ∨ x = 1) → ∃ v : Int, (v = 0 ∨ v = 1) ∧ (v = 1 ↔ (x = 1 ∨ ∃ k, i ≤ k ∧ k < n ∧ 50000 < px w.2.2 p 0 k) ∨ ∃ k, k < m ∧ 50000 < px w.2.2 p 1 k) ∧ K265_4 p x i w r (rO v w) := by
  intro d
  induction d with
  | zero =>
    intro i r x hi hr hx
    obtain ⟨v, v1, v2, v3⟩ := ll265a H hp hm h16' m 0 (r - 2) x (by omega) (by omega) hx
    refine ⟨v, v1, ⟨fun h => ?_, fun h => ?_⟩, ?_⟩
    · rcases v2.mp h with h | ⟨k, h1, h2, h3⟩
      · exact Or.inl (Or.inl h)
      · exact Or.inr ⟨k, h2, h3⟩
    · rcases h with (h | ⟨k, h1, h2, h3⟩) | ⟨k, h2, h3⟩
      · exact v2.mpr (Or.inl h)
      · omega
      · exact v2.mpr (Or.inr ⟨k, Nat.zero_le _, h2, h3⟩)
    · refine bK265_4 ⟨by omega, _, _, q188o (σ := w.2.2) H hp (by omega), ?_⟩
      rw [if_pos rfl]
      exact v3
  | succ d ih =>
    intro i r x hi hr hx
    have hnn := isLn_nn ((pl_ok (b := 0) H hp).2.2 i (by omega))
    rcases hx with hx | hx
    · by_cases hm9 : 50000 < px w.2.2 p 0 i
      · obtain ⟨v, v1, v2, v3⟩ := ih (i + 1) (r - 2 - 2) 1 (by omega) (by omega) (Or.inr rfl)
        refine ⟨v, v1, ⟨fun _ => Or.inl (Or.inr ⟨i, by omega, by omega, hm9⟩), fun _ => v2.mpr (Or.inl (Or.inl rfl))⟩, ?_⟩
        refine bK265_4 ⟨by omega, _, _, q188i (σ := w.2.2) H hp (by omega), ?_⟩
        rw [if_neg (by omega), if_pos hx]
        refine ⟨by omega, _, _, q188i (σ := w.2.2) H hp (by omega), ?_⟩
        rw [if_pos hm9]
        exact bK265_31 (bK265_36 ⟨by omega, v3⟩)
      · obtain ⟨v, v1, v2, v3⟩ := ih (i + 1) (r - 2 - 2) 0 (by omega) (by omega) (Or.inl rfl)
        refine ⟨v, v1, ⟨fun h => ?_, fun h => ?_⟩, ?_⟩
        · rcases v2.mp h with (h | ⟨k, h1, h2, h3⟩) | h
          · cases h
          · exact Or.inl (Or.inr ⟨k, by omega, h2, h3⟩)
          · exact Or.inr h
        · rcases h with (h | ⟨k, h1, h2, h3⟩) | h
          · rw [hx] at h; cases h
          · refine v2.mpr (Or.inl (Or.inr ⟨k, ?_, h2, h3⟩))
            have : ¬ k = i := fun e => hm9 (e ▸ h3)
            omega
          · exact v2.mpr (Or.inr h)
        · refine bK265_4 ⟨by omega, _, _, q188i (σ := w.2.2) H hp (by omega), ?_⟩
          rw [if_neg (by omega), if_pos hx]
          refine ⟨by omega, _, _, q188i (σ := w.2.2) H hp (by omega), ?_⟩
          rw [if_neg hm9]
          exact bK265_36 ⟨by omega, v3⟩
    · obtain ⟨v, v1, v2, v3⟩ := ih (i + 1) (r - 2) 1 (by omega) (by omega) (Or.inr rfl)
      refine ⟨v, v1, ⟨fun _ => Or.inl (Or.inl hx), fun _ => v2.mpr (Or.inl (Or.inl rfl))⟩, ?_⟩
      refine bK265_4 ⟨by omega, _, _, q188i (σ := w.2.2) H hp (by omega), ?_⟩
      rw [if_neg (by omega), if_neg (by omega)]
      exact bK265_31 (bK265_36 ⟨by omega, v3⟩)
theorem m265 {w : WS} {c : Int} {p : Nat} (H : Rel c w.2.2) (hp : (p : Int) < w.2.2 0 3) : ∃ v : Int, (v = 0 ∨ v = 1) ∧ (v = 1 ↔ mkd w.2.2 p 0 ∨ mkd w.2.2 p 1) ∧ Lx 265 [vA 0, vI p] w (rO v w) := by
  obtain ⟨h0, h16, -⟩ := pl_ok (b := 0) H hp
  obtain ⟨h0', h16', -⟩ := pl_ok (b := 1) H hp
  obtain ⟨n, hn⟩ := Int.eq_ofNat_of_zero_le h0
  obtain ⟨m, hm⟩ := Int.eq_ofNat_of_zero_le h0'
  obtain ⟨v, v1, v2, v3⟩ := ll265b H hp hn hm (by omega) (by omega) n 0 150 0 (by omega) (by omega) (Or.inl rfl)
  refine ⟨v, v1, ⟨fun h => ?_, fun h => ?_⟩, lb265 v3⟩
  · rcases v2.mp h with (h | ⟨k, h1, h2, h3⟩) | ⟨k, h2, h3⟩
    · cases h
    · exact Or.inl ⟨k, by omega, h3⟩
    · exact Or.inr ⟨k, by omega, h3⟩
  · rcases h with ⟨k, h2, h3⟩ | ⟨k, h2, h3⟩
    · exact v2.mpr (Or.inl (Or.inr ⟨k, Nat.zero_le _, by omega, h3⟩))
    · exact v2.mpr (Or.inr ⟨k, by omega, h3⟩)
/-- haveSamePairs -/
theorem ll256 {w : WS} {c : Int} {p q n : Nat} (H : Rel c w.2.2) (hp : (p : Int) < w.2.2 0 3) (hq : (q : Int) < w.2.2 0 3) (hn : pl w.2.2 p 0 = (n : Nat)) (hm : pl w.2.2 q 0 = (n : Nat)) (h16 : n ≤ 16) : ∀ (d i r : Nat) (x : Int), i + d = n → 6 * d + 2 ≤ r → (x = 0 ∨ x = 1) → ∃ v : Int, (v = 0 ∨ v = 1) ∧ (v = 1 ↔ x = 1 ∧ ∀ k, i ≤ k → k < n → w.2.2 (20 + 13 * p + 6) k = w.2.2 (20 + 13 * q + 6) k) ∧ K256_5 p q x i w r (rO v w) := by
  intro d
  induction d with
  | zero =>
    intro i r x hi hr hx
    refine ⟨x, hx, ⟨fun h => ⟨h, fun k h1 h2 => by omega⟩, fun h => h.1⟩, ?_⟩
    refine bK256_5 ⟨by omega, _, _, q188o (σ := w.2.2) H hp (by omega), ?_⟩
    rw [if_pos rfl]
    exact ⟨hx, rfl⟩
  | succ d ih =>
    intro i r x hi hr hx
    have hnn := isLn_nn ((pl_ok (b := 0) H hp).2.2 i (by omega))
    rcases hx with hx | hx
    · obtain ⟨v, v1, v2, v3⟩ := ih (i + 1) (r - 2) 0 (by omega) (by omega) (Or.inl rfl)
      refine ⟨v, v1, ⟨fun h => absurd (v2.mp h).1 (by decide), fun h => by rw [hx] at h; exact absurd h.1 (by decide)⟩, ?_⟩
      refine bK256_5 ⟨by omega, _, _, q188i (σ := w.2.2) H hp (by omega), ?_⟩
      rw [if_neg (by omega), if_pos hx]
      exact bK256_42 (bK256_43 ⟨by omega, v3⟩)
    · by_cases he : w.2.2 (20 + 13 * p + 6) i = w.2.2 (20 + 13 * q + 6) i
      · obtain ⟨v, v1, v2, v3⟩ := ih (i + 1) (r - 2 - 2 - 2) 1 (by omega) (by omega) (Or.inr rfl)
        refine ⟨v, v1, ⟨fun h => ⟨hx, fun k h1 h2 => ?_⟩, fun h => v2.mpr ⟨rfl, fun k h1 h2 => h.2 k (by omega) h2⟩⟩, ?_⟩
        · by_cases hk : k = i
          · rw [hk]; exact he
          · exact (v2.mp h).2 k (by omega) h2
        · refine bK256_5 ⟨by omega, _, _, q188i (σ := w.2.2) H hp (by omega), ?_⟩
          rw [if_neg (by omega), if_neg (by omega)]
          refine ⟨by omega, _, _, Dc_of (q189 (σ := w.2.2) H hp (by unfold pl sd at hn; rw [if_pos rfl] at hn; omega)), by omega, _, _, Dc_of (q189 (σ := w.2.2) H hq (by unfold pl sd at hm; rw [if_pos rfl] at hm; omega)), ?_⟩
          rw [if_pos he]
          exact bK256_43 ⟨by omega, v3⟩
      · obtain ⟨v, v1, v2, v3⟩ := ih (i + 1) (r - 2 - 2 - 2) 0 (by omega) (by omega) (Or.inl rfl)
        refine ⟨v, v1, ⟨fun h => absurd (v2.mp h).1 (by decide), fun h => absurd (h.2 i (Nat.le_refl _) (by omega)) he⟩, ?_⟩
        refine bK256_5 ⟨by omega, _, _, q188i (σ := w.2.2) H hp (by omega), ?_⟩
        rw [if_neg (by omega), if_neg (by omega)]
        refine ⟨by omega, _, _, Dc_of (q189 (σ := w.2.2) H hp (by unfold pl sd at hn; rw [if_pos rfl] at hn; omega)), by omega, _, _, Dc_of (q189 (σ := w.2.2) H hq (by unfold pl sd at hm; rw [if_pos rfl] at hm; omega)), ?_⟩
        rw [if_neg he]
        exact bK256_42 (bK256_43 ⟨by omega, v3⟩)
theorem m256 {w : WS} {c : Int} {p q : Nat} (H : Rel c w.2.2) (hp : (p : Int) < w.2.2 0 3) (hq : (q : Int) < w.2.2 0 3) (he : pl w.2.2 p 0 = pl w.2.2 q 0) : ∃ v : Int, (v = 0 ∨ v = 1) ∧ (v = 1 ↔ ∀ k : Nat, (k : Int) < pl w.2.2 p 0 → w.2.2 (20 + 13 * p + 6) k = w.2.2 (20 + 13 * q + 6) k) ∧ Lx 256 [vA 0, vI p, vI q] w (rO v w) := by
  obtain ⟨h0, h16, -⟩ := pl_ok (b := 0) H hp
  obtain ⟨n, hn⟩ := Int.eq_ofNat_of_zero_le h0
  obtain ⟨v, v1, v2, v3⟩ := ll256 H hp hq hn (he.symm.trans hn) (by omega) n 0 120 1 (by omega) (by omega) (Or.inr rfl)
  exact ⟨v, v1, ⟨fun h k hk => (v2.mp h).2 k (Nat.zero_le _) (by omega), fun h => v2.mpr ⟨rfl, fun k _ hk => h k (by omega)⟩⟩, lb256 v3⟩
end
